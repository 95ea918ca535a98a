section
noncomputable def k3_X12_notes : pz_C := (4, 0, fun a M => (match a with | [.inr (.inr (12, th)), .inl x, .inl y, .inl z] => pz_im M | _ => False), fun a M r M' => (match a, r with | [.inr (.inr (12, th)), .inl x, .inl y, .inl z], none => (M' 60 = sd_note (sd_Tr M) (M 60) x y z) ∧ pz_rl pz_QD M M' | _, _ => False))
noncomputable abbrev ct3_X12_notes : List (Bool × Nat × pz_C) := []
set_option maxRecDepth 100000 in
set_option maxHeartbeats 4000000 in
theorem h3_X12_notes : pz_H yX12_notes cX12_notes 5 none k3_X12_notes 0 0 := by
  refine pz_mk (own := RX12) (tb := t_X12_notes) (fl := pz_flf fl_RX12) (ci := pz_cif ci_RX12) (ct := pz_ctf ct3_X12_notes) (rz := false) (pz_pfc_RX12 yX12_notes rfl) rfl t_X12_notes_ok (pz_flk fl_RX12_ok) (pz_cik ci_RX12_ok) ?_ ?_ (rfl) ?_ ?_
  · exact fun i k' h => pz_ctk (l := ct3_X12_notes) (P := fun b i k => b = true → pz_cV 0 0 RX12 i k) (fun _ h => absurd h List.not_mem_nil) true i k' h rfl
  · exact fun i k' h => pz_ctk (l := ct3_X12_notes) (P := fun b i k => b = false → (pz_cS 0 0 RX12 i k ∨ (k = pz_kac ∧ 1 ≤ 0 ∧ 60 ≤ 0 ∧ Cond.methodLink RX12 i arraycopyName ∈ pz_tbl))) (fun _ h => absurd h List.not_mem_nil) false i k' h rfl
  · intro a M hlen hpre
    obtain ⟨th, x, y, z, rfl, hpre⟩ : ∃ th x y z, a = [.inr (.inr (12, th)), .inl x, .inl y, .inl z] ∧ (pz_im M) := by
      have hpre : (match (generalizing := false) a with | [.inr (.inr (12, th)), .inl x, .inl y, .inl z] => pz_im M | _ => False) := hpre
      split at hpre
      · exact ⟨_, _, _, _, rfl, hpre⟩
      · exact hpre.elim
    exact Nat.le_of_ble_eq_true rfl
  · intro a M hlen hcan hM hpre Ok hgo
    obtain ⟨th, x, y, z, rfl, hpre⟩ : ∃ th x y z, a = [.inr (.inr (12, th)), .inl x, .inl y, .inl z] ∧ (pz_im M) := by
      have hpre : (match (generalizing := false) a with | [.inr (.inr (12, th)), .inl x, .inl y, .inl z] => pz_im M | _ => False) := hpre
      split at hpre
      · exact ⟨_, _, _, _, rfl, hpre⟩
      · exact hpre.elim
    obtain ⟨k_th, hc_th⟩ := pz_tlm hcan
    have k_th : pz_kd th = 12 ∧ th < 231 := k_th
    have R_th := pz_kd12 k_th.1
    subst R_th
    clear k_th
    obtain ⟨k_x, hc_x⟩ := pz_tlm hc_th
    have l_x : -2147483648 ≤ x := k_x.1
    have u_x : x ≤ 2147483647 := k_x.2
    obtain ⟨k_y, hc_y⟩ := pz_tlm hc_x
    have l_y : -2147483648 ≤ y := k_y.1
    have u_y : y ≤ 2147483647 := k_y.2
    obtain ⟨k_z, hc_z⟩ := pz_tlm hc_y
    have l_z : -2147483648 ≤ z := k_z.1
    have u_z : z ≤ 2147483647 := k_z.2
    have hI : pz_im M := hpre
    have hI0 := hI
    have hS : pz_rl pz_QD M M := pz_rl.rf
    refine hgo (fun _ => false) 59 0 _ [] M ?_
    intro v1 e1 a1 b1
    refine And.intro (fun h4 => ?_) (fun h4 => ?_)
    · skip
      refine And.intro rfl ?_
      refine ⟨?_, hS⟩
      unfold sd_Tr
      first
        | rw [sd_note_n (Or.inl (decide_eq_false (by first | decide | omega)))]
        | rw [sd_note_n (Or.inr (by first | decide | omega))]
    · skip
      refine pz_nrc (c := 60) rfl ?_
      refine And.intro (by first | decide | omega) (And.intro (show _ < (1725 : Int) from by omega) ?_)
      intro v12 e12 a12 b12
      replace e12 : v12 = M 60 3 := e12
      have I12 : 0 ≤ v12 ∧ v12 ≤ 150 := by
        rw [e12]
        exact hI.1.2.2.2.2
      clear a12 b12
      refine And.intro (fun h16 => ?_) (fun h16 => ?_)
      · skip
        replace h16 : v12 ≤ 149 := by omega
        refine pz_nrc (c := 60) rfl ?_
        refine And.intro (by first | decide | omega) (And.intro (show _ < (1725 : Int) from by omega) ?_)
        intro v29 e29 a29 b29
        replace e29 : v29 = M 60 3 := e29
        have I29 : 0 ≤ v29 ∧ v29 ≤ 150 := by
          rw [e29]
          exact hI.1.2.2.2.2
        clear a29 b29
        intro v30 e30 a30 b30
        rw [pz_wi (by first | decide | omega) (by first | decide | omega)] at e30
        clear a30 b30
        intro v31 e31 a31 b31
        rw [pz_wi (by first | decide | omega) (by first | decide | omega)] at e31
        clear a31 b31
        refine pz_nrc (c := 60) rfl ?_
        refine pz_nrc (c := 60) rfl ?_
        refine And.intro (by first | decide | omega) (And.intro (show _ < (1725 : Int) from by omega) ?_)
        intro v45 e45 a45 b45
        replace e45 : v45 = M 60 0 := e45
        have lo46 : (0 : Int) ≤ v31 := by omega
        have tn46 : (((v31).toNat : Nat) : Int) = v31 := Int.toNat_of_nonneg lo46
        refine And.intro (lo46) (And.intro (show _ < (1725 : Int) from by omega) ?_)
        intro M46 e46
        have hS : pz_rl pz_QD M M46 := by
          rw [e46]
          exact pz_rl_u hS (by unfold pz_QD; first | decide | omega) (pz_iom_w2 (by first | decide | omega) (by first | decide | omega))
        have hI : pz_im M46 := hS.1 hI0
        have T46_0 : M46 60 3 = M 60 3 := by
          rw [e46]
          exact (pz_une (by first | decide | omega))
        refine pz_nrc (c := 60) rfl ?_
        intro v54 e54 a54 b54
        rw [pz_wi (by first | decide | omega) (by first | decide | omega)] at e54
        clear a54 b54
        have lo56 : (0 : Int) ≤ v54 := by omega
        have tn56 : (((v54).toNat : Nat) : Int) = v54 := Int.toNat_of_nonneg lo56
        refine And.intro (lo56) (And.intro (show _ < (1725 : Int) from by omega) ?_)
        intro M56 e56
        have hS : pz_rl pz_QD M M56 := by
          rw [e56]
          exact pz_rl_u hS (by unfold pz_QD; first | decide | omega) (pz_iom_w2 (by first | decide | omega) (by first | decide | omega))
        have hI : pz_im M56 := hS.1 hI0
        have T56_0 : M56 60 3 = M 60 3 := by
          rw [e56]
          exact (pz_une (by first | decide | omega)).trans T46_0
        clear T46_0
        refine pz_nrc (c := 60) rfl ?_
        intro v64 e64 a64 b64
        rw [pz_wi (by first | decide | omega) (by first | decide | omega)] at e64
        clear a64 b64
        have lo66 : (0 : Int) ≤ v64 := by omega
        have tn66 : (((v64).toNat : Nat) : Int) = v64 := Int.toNat_of_nonneg lo66
        refine And.intro (lo66) (And.intro (show _ < (1725 : Int) from by omega) ?_)
        intro M66 e66
        have hS : pz_rl pz_QD M M66 := by
          rw [e66]
          exact pz_rl_u hS (by unfold pz_QD; first | decide | omega) (pz_iom_w2 (by first | decide | omega) (by first | decide | omega))
        have hI : pz_im M66 := hS.1 hI0
        have T66_0 : M66 60 3 = M 60 3 := by
          rw [e66]
          exact (pz_une (by first | decide | omega)).trans T56_0
        clear T56_0
        refine pz_nrc (c := 60) rfl ?_
        intro v74 e74 a74 b74
        rw [pz_wi (by first | decide | omega) (by first | decide | omega)] at e74
        clear a74 b74
        have lo76 : (0 : Int) ≤ v74 := by omega
        have tn76 : (((v74).toNat : Nat) : Int) = v74 := Int.toNat_of_nonneg lo76
        refine And.intro (lo76) (And.intro (show _ < (1725 : Int) from by omega) ?_)
        intro M76 e76
        have hS : pz_rl pz_QD M M76 := by
          rw [e76]
          exact pz_rl_u hS (by unfold pz_QD; first | decide | omega) (pz_iom_w2 (by first | decide | omega) (by first | decide | omega))
        have hI : pz_im M76 := hS.1 hI0
        have T76_0 : M76 60 3 = M 60 3 := by
          rw [e76]
          exact (pz_une (by first | decide | omega)).trans T66_0
        clear T66_0
        refine pz_nrc (c := 60) rfl ?_
        refine And.intro (by first | decide | omega) (And.intro (show _ < (1725 : Int) from by omega) ?_)
        intro v83 e83 a83 b83
        replace e83 : v83 = M76 60 3 := e83
        have I83 : 0 ≤ v83 ∧ v83 ≤ 150 := by
          rw [e83]
          exact hI.1.2.2.2.2
        clear a83 b83
        replace e83 := e83.trans T76_0
        intro v85 e85 a85 b85
        rw [pz_wi (by first | decide | omega) (by first | decide | omega)] at e85
        clear a85 b85
        refine And.intro (by first | decide | omega) (And.intro (show _ < (1725 : Int) from by omega) ?_)
        intro M86 e86
        have hS : pz_rl pz_QD M M86 := by
          rw [e86]
          exact pz_rl_u hS (by unfold pz_QD; first | decide | omega) (pz_iom_3 (by first | decide | omega))
        have hI : pz_im M86 := hS.1 hI0
        have T86_0 : M86 60 3 = v85 := by rw [e86]; exact pz_uu
        refine And.intro rfl ?_
        refine ⟨?_, hS⟩
        unfold sd_Tr
        rw [show decide (M 1 26 ≠ 0) = true from decide_eq_true (by first | decide | omega), e86, sd_um, e76, sd_um, e66, sd_um, e56, sd_um, e46, sd_um, show v31.toNat = 241 + 4 * (M 60 3).toNat by omega, show v54.toNat = 242 + 4 * (M 60 3).toNat by omega, show v64.toNat = 243 + 4 * (M 60 3).toNat by omega, show v74.toNat = 244 + 4 * (M 60 3).toNat by omega, show v85 = M 60 3 + 1 by omega, e45]
        exact (if_pos ⟨rfl, by omega⟩).symm
      · skip
        refine And.intro rfl ?_
        refine ⟨?_, hS⟩
        unfold sd_Tr
        first
          | rw [sd_note_n (Or.inl (decide_eq_false (by first | decide | omega)))]
          | rw [sd_note_n (Or.inr (by first | decide | omega))]
theorem v3_X12_notes {fr lo i : Nat} {own : String} (h1 : 0 + 1 ≤ fr) (h2 : 8 + (5 + 11) + 0 ≤ lo) (h3 : .methodLink own i yX12_notes ∈ lw_tbl) : pz_cV fr lo own i k3_X12_notes :=
  pz_cVk (maxL := 5) (fr' := 0) (lo' := 0) 3 12 h3_X12_notes rfl ⟨(pz_nhc_RX12 yX12_notes rfl).1, (pz_nhc_RX12 yX12_notes rfl).2, pz_ds16⟩ ⟨pz_wq1486, pz_wq1485, pz_ws52, pz_wq13⟩ (Or.inl ⟨TX12, 28, rfl⟩) (fun a M _ h => by
    have h : (match (generalizing := false) a with | [.inr (.inr (12, th)), .inl x, .inl y, .inl z] => pz_im M | _ => False) := h
    split at h
    · exact ⟨_, _, rfl⟩
    · exact h.elim) h1 h2 h3
noncomputable def k3_X12_draw : pz_C := (2, 1, fun a M => (match a with | [.inr (.inr (12, th)), .inl n] => pz_im M ∧ n ≠ 0 | _ => False), fun a M r M' => (match a, r with | [.inr (.inr (12, th)), .inl n], some (.inl v) => (M' 60 = sd_u (M 60) 2 (sd_st (M 60 2)) ∧ v = pz_w ((pz_shu (sd_st (M 60 2)) 8).tmod n)) ∧ pz_rl pz_QD M M' | _, _ => False))
noncomputable abbrev ct3_X12_draw : List (Bool × Nat × pz_C) := []
set_option maxRecDepth 100000 in
set_option maxHeartbeats 4000000 in
theorem h3_X12_draw : pz_H yX12_draw cX12_draw 2 (some .int) k3_X12_draw 0 0 := by
  refine pz_mk (own := RX12) (tb := t_X12_draw) (fl := pz_flf fl_RX12) (ci := pz_cif ci_RX12) (ct := pz_ctf ct3_X12_draw) (rz := false) (pz_pfc_RX12 yX12_draw rfl) rfl t_X12_draw_ok (pz_flk fl_RX12_ok) (pz_cik ci_RX12_ok) ?_ ?_ (Or.inl ⟨rfl, rfl⟩) ?_ ?_
  · exact fun i k' h => pz_ctk (l := ct3_X12_draw) (P := fun b i k => b = true → pz_cV 0 0 RX12 i k) (fun _ h => absurd h List.not_mem_nil) true i k' h rfl
  · exact fun i k' h => pz_ctk (l := ct3_X12_draw) (P := fun b i k => b = false → (pz_cS 0 0 RX12 i k ∨ (k = pz_kac ∧ 1 ≤ 0 ∧ 60 ≤ 0 ∧ Cond.methodLink RX12 i arraycopyName ∈ pz_tbl))) (fun _ h => absurd h List.not_mem_nil) false i k' h rfl
  · intro a M hlen hpre
    obtain ⟨th, n, rfl, hpre⟩ : ∃ th n, a = [.inr (.inr (12, th)), .inl n] ∧ (pz_im M ∧ n ≠ 0) := by
      have hpre : (match (generalizing := false) a with | [.inr (.inr (12, th)), .inl n] => pz_im M ∧ n ≠ 0 | _ => False) := hpre
      split at hpre
      · exact ⟨_, _, rfl, hpre⟩
      · exact hpre.elim
    exact Nat.le_of_ble_eq_true rfl
  · intro a M hlen hcan hM hpre Ok hgo
    obtain ⟨th, n, rfl, hpre⟩ : ∃ th n, a = [.inr (.inr (12, th)), .inl n] ∧ (pz_im M ∧ n ≠ 0) := by
      have hpre : (match (generalizing := false) a with | [.inr (.inr (12, th)), .inl n] => pz_im M ∧ n ≠ 0 | _ => False) := hpre
      split at hpre
      · exact ⟨_, _, rfl, hpre⟩
      · exact hpre.elim
    obtain ⟨k_th, hc_th⟩ := pz_tlm hcan
    have k_th : pz_kd th = 12 ∧ th < 231 := k_th
    have R_th := pz_kd12 k_th.1
    subst R_th
    clear k_th
    obtain ⟨k_n, hc_n⟩ := pz_tlm hc_th
    have l_n : -2147483648 ≤ n := k_n.1
    have u_n : n ≤ 2147483647 := k_n.2
    have hI : pz_im M := hpre.1
    have hI0 := hI
    have hS : pz_rl pz_QD M M := pz_rl.rf
    refine hgo (fun _ => false) 23 0 _ [] M ?_
    refine pz_nrc (c := 60) rfl ?_
    refine pz_nrc (c := 60) rfl ?_
    refine And.intro (by first | decide | omega) (And.intro (show _ < (1725 : Int) from by omega) ?_)
    intro v12 e12 a12 b12
    replace e12 : v12 = M 60 2 := e12
    intro v13 e13 a13 b13
    intro v16 e16 a16 b16
    refine And.intro (by first | decide | omega) (And.intro (show _ < (1725 : Int) from by omega) ?_)
    intro M17 e17
    have hS : pz_rl pz_QD M M17 := by
      rw [e17]
      exact pz_rl_u hS (by unfold pz_QD; first | decide | omega) (pz_iom_w0 (by first | decide | omega))
    have hI : pz_im M17 := hS.1 hI0
    refine pz_nrc (c := 60) rfl ?_
    refine And.intro (by first | decide | omega) (And.intro (show _ < (1725 : Int) from by omega) ?_)
    intro v23 e23 a23 b23
    replace e23 : v23 = M17 60 2 := e23
    intro v26 e26 a26 b26
    refine And.intro (by first | decide | omega) ?_
    intro v28 e28 a28 b28
    refine And.intro rfl ?_
    have E : v16 = sd_st (M 60 2) := by
      unfold sd_st
      rw [e16, e13, e12]
    have E23 : v23 = sd_st (M 60 2) := by
      rw [e23, e17]
      exact (pz_ue ⟨rfl, rfl⟩).trans E
    refine ⟨⟨?_, ?_⟩, hS⟩
    · rw [e17, sd_um, E]
      rfl
    · rw [e28, e26, E23]
      rfl
theorem v3_X12_draw {fr lo i : Nat} {own : String} (h1 : 0 + 1 ≤ fr) (h2 : 8 + (2 + 11) + 0 ≤ lo) (h3 : .methodLink own i yX12_draw ∈ lw_tbl) : pz_cV fr lo own i k3_X12_draw :=
  pz_cVk (maxL := 2) (fr' := 0) (lo' := 0) 1 12 h3_X12_draw rfl ⟨(pz_nhc_RX12 yX12_draw rfl).1, (pz_nhc_RX12 yX12_draw rfl).2, pz_ds5⟩ ⟨pz_wq1550, pz_wq1549, pz_ws63, pz_wq13⟩ (Or.inl ⟨TX12, 28, rfl⟩) (fun a M _ h => by
    have h : (match (generalizing := false) a with | [.inr (.inr (12, th)), .inl n] => pz_im M ∧ n ≠ 0 | _ => False) := h
    split at h
    · exact ⟨_, _, rfl⟩
    · exact h.elim) h1 h2 h3
noncomputable def k3_X12_falls : pz_C := (2, 1, fun a M => (match a with | [.inr (.inr (12, th)), .inl x] => pz_im M | _ => False), fun a M r M' => (match a, r with | [.inr (.inr (12, th)), .inl x], some (.inl v) => ((v = 0 ∨ v = 1) ∧ (v = 1 ↔ sd_fb (sd_Tr M) (M 60) x = true) ∧ M' 60 = sd_fF (sd_Tr M) (M 60)) ∧ pz_rl pz_QD M M' | _, _ => False))
noncomputable abbrev ct3_X12_falls : List (Bool × Nat × pz_C) := [(true, 355, k3_X12_draw)]
set_option maxRecDepth 100000 in
set_option maxHeartbeats 4000000 in
theorem h3_X12_falls : pz_H yX12_falls cX12_falls 2 (some .boolean) k3_X12_falls 1 21 := by
  refine pz_mk (own := RX12) (tb := t_X12_falls) (fl := pz_flf fl_RX12) (ci := pz_cif ci_RX12) (ct := pz_ctf ct3_X12_falls) (rz := true) (pz_pfc_RX12 yX12_falls rfl) rfl t_X12_falls_ok (pz_flk fl_RX12_ok) (pz_cik ci_RX12_ok) ?_ ?_ (Or.inr ⟨rfl, rfl⟩) ?_ ?_
  · exact fun i k' h => pz_ctk (l := ct3_X12_falls) (P := fun b i k => b = true → pz_cV 1 21 RX12 i k) (List.forall_mem_cons.mpr ⟨(fun _ => v3_X12_draw (by decide) (by decide) pz_wq1547), fun _ h => absurd h List.not_mem_nil⟩) true i k' h rfl
  · exact fun i k' h => pz_ctk (l := ct3_X12_falls) (P := fun b i k => b = false → (pz_cS 1 21 RX12 i k ∨ (k = pz_kac ∧ 1 ≤ 1 ∧ 60 ≤ 21 ∧ Cond.methodLink RX12 i arraycopyName ∈ pz_tbl))) (List.forall_mem_cons.mpr ⟨((fun z => by cases z)), fun _ h => absurd h List.not_mem_nil⟩) false i k' h rfl
  · intro a M hlen hpre
    obtain ⟨th, x, rfl, hpre⟩ : ∃ th x, a = [.inr (.inr (12, th)), .inl x] ∧ (pz_im M) := by
      have hpre : (match (generalizing := false) a with | [.inr (.inr (12, th)), .inl x] => pz_im M | _ => False) := hpre
      split at hpre
      · exact ⟨_, _, rfl, hpre⟩
      · exact hpre.elim
    exact Nat.le_of_ble_eq_true rfl
  · intro a M hlen hcan hM hpre Ok hgo
    obtain ⟨th, x, rfl, hpre⟩ : ∃ th x, a = [.inr (.inr (12, th)), .inl x] ∧ (pz_im M) := by
      have hpre : (match (generalizing := false) a with | [.inr (.inr (12, th)), .inl x] => pz_im M | _ => False) := hpre
      split at hpre
      · exact ⟨_, _, rfl, hpre⟩
      · exact hpre.elim
    obtain ⟨k_th, hc_th⟩ := pz_tlm hcan
    have k_th : pz_kd th = 12 ∧ th < 231 := k_th
    have R_th := pz_kd12 k_th.1
    subst R_th
    clear k_th
    obtain ⟨k_x, hc_x⟩ := pz_tlm hc_th
    have l_x : -2147483648 ≤ x := k_x.1
    have u_x : x ≤ 2147483647 := k_x.2
    have hI : pz_im M := hpre
    have hI0 := hI
    have hS : pz_rl pz_QD M M := pz_rl.rf
    refine hgo (fun _ => false) 21 0 _ [] M ?_
    intro v1 e1 a1 b1
    refine And.intro (fun h4 => ?_) (fun h4 => ?_)
    · skip
      refine And.intro (fun h30 => ?_) (fun h30 => ?_)
      · skip
        refine And.intro (by first | decide | omega) ?_
        refine And.intro rfl ?_
        refine ⟨?_, hS⟩
        unfold sd_Tr
        first
          | (rw [show decide (M 1 26 ≠ 0) = false from decide_eq_false (by first | decide | omega)]
             refine ⟨by omega, ?_, rfl⟩
             show _ ↔ decide ((500 : Int) ≤ x) = true
             rw [decide_eq_true_iff]
             omega)
          | (rw [show decide (M 1 26 ≠ 0) = true from decide_eq_true (by first | decide | omega)]
             refine ⟨by omega, ?_, q11.1⟩
             show _ ↔ decide (sd_ch (sd_st (M 60 2)) < x) = true
             rw [decide_eq_true_iff]
             unfold sd_ch
             rw [← q11.2]
             omega)
      · skip
        refine And.intro (by first | decide | omega) ?_
        refine And.intro rfl ?_
        refine ⟨?_, hS⟩
        unfold sd_Tr
        first
          | (rw [show decide (M 1 26 ≠ 0) = false from decide_eq_false (by first | decide | omega)]
             refine ⟨by omega, ?_, rfl⟩
             show _ ↔ decide ((500 : Int) ≤ x) = true
             rw [decide_eq_true_iff]
             omega)
          | (rw [show decide (M 1 26 ≠ 0) = true from decide_eq_true (by first | decide | omega)]
             refine ⟨by omega, ?_, q11.1⟩
             show _ ↔ decide (sd_ch (sd_st (M 60 2)) < x) = true
             rw [decide_eq_true_iff]
             unfold sd_ch
             rw [← q11.2]
             omega)
    · skip
      refine And.intro (And.intro hI (by first | decide | omega)) ?_
      intro v11 M11 a11 b11 q11
      obtain ⟨q11, z11⟩ := q11
      have hS : pz_rl pz_QD M M11 := hS.tr z11
      have hI : pz_im M11 := hS.1 hI0
      refine And.intro (fun h15 => ?_) (fun h15 => ?_)
      · skip
        refine And.intro (by first | decide | omega) ?_
        refine And.intro rfl ?_
        refine ⟨?_, hS⟩
        unfold sd_Tr
        first
          | (rw [show decide (M 1 26 ≠ 0) = false from decide_eq_false (by first | decide | omega)]
             refine ⟨by omega, ?_, rfl⟩
             show _ ↔ decide ((500 : Int) ≤ x) = true
             rw [decide_eq_true_iff]
             omega)
          | (rw [show decide (M 1 26 ≠ 0) = true from decide_eq_true (by first | decide | omega)]
             refine ⟨by omega, ?_, q11.1⟩
             show _ ↔ decide (sd_ch (sd_st (M 60 2)) < x) = true
             rw [decide_eq_true_iff]
             unfold sd_ch
             rw [← q11.2]
             omega)
      · skip
        refine And.intro (by first | decide | omega) ?_
        refine And.intro rfl ?_
        refine ⟨?_, hS⟩
        unfold sd_Tr
        first
          | (rw [show decide (M 1 26 ≠ 0) = false from decide_eq_false (by first | decide | omega)]
             refine ⟨by omega, ?_, rfl⟩
             show _ ↔ decide ((500 : Int) ≤ x) = true
             rw [decide_eq_true_iff]
             omega)
          | (rw [show decide (M 1 26 ≠ 0) = true from decide_eq_true (by first | decide | omega)]
             refine ⟨by omega, ?_, q11.1⟩
             show _ ↔ decide (sd_ch (sd_st (M 60 2)) < x) = true
             rw [decide_eq_true_iff]
             unfold sd_ch
             rw [← q11.2]
             omega)
theorem v3_X12_falls {fr lo i : Nat} {own : String} (h1 : 1 + 1 ≤ fr) (h2 : 8 + (2 + 11) + 21 ≤ lo) (h3 : .methodLink own i yX12_falls ∈ lw_tbl) : pz_cV fr lo own i k3_X12_falls :=
  pz_cVk (maxL := 2) (fr' := 1) (lo' := 21) 1 12 h3_X12_falls rfl ⟨(pz_nhc_RX12 yX12_falls rfl).1, (pz_nhc_RX12 yX12_falls rfl).2, pz_ds9⟩ ⟨pz_wq1546, pz_wq1545, pz_ws62, pz_wq13⟩ (Or.inl ⟨TX12, 28, rfl⟩) (fun a M _ h => by
    have h : (match (generalizing := false) a with | [.inr (.inr (12, th)), .inl x] => pz_im M | _ => False) := h
    split at h
    · exact ⟨_, _, rfl⟩
    · exact h.elim) h1 h2 h3
noncomputable def k3_X12_getsReady : pz_C := (2, 0, fun a M => (match a with | [.inr (.inr (12, th)), .inl i] => pz_im M ∧ 0 ≤ i ∧ i < 12 | _ => False), fun a M r M' => (match a, r with | [.inr (.inr (12, th)), .inl i], none => (M' 60 = sd_get (sd_Tr M) (M 60) i.toNat) ∧ pz_rl pz_QD M M' | _, _ => False))
noncomputable abbrev ct3_X12_getsReady : List (Bool × Nat × pz_C) := [(true, 323, k3_X12_notes)]
set_option maxRecDepth 100000 in
set_option maxHeartbeats 4000000 in
theorem h3_X12_getsReady : pz_H yX12_getsReady cX12_getsReady 2 none k3_X12_getsReady 1 24 := by
  refine pz_mk (own := RX12) (tb := t_X12_getsReady) (fl := pz_flf fl_RX12) (ci := pz_cif ci_RX12) (ct := pz_ctf ct3_X12_getsReady) (rz := false) (pz_pfc_RX12 yX12_getsReady rfl) rfl t_X12_getsReady_ok (pz_flk fl_RX12_ok) (pz_cik ci_RX12_ok) ?_ ?_ (rfl) ?_ ?_
  · exact fun i k' h => pz_ctk (l := ct3_X12_getsReady) (P := fun b i k => b = true → pz_cV 1 24 RX12 i k) (List.forall_mem_cons.mpr ⟨(fun _ => v3_X12_notes (by decide) (by decide) pz_wq1483), fun _ h => absurd h List.not_mem_nil⟩) true i k' h rfl
  · exact fun i k' h => pz_ctk (l := ct3_X12_getsReady) (P := fun b i k => b = false → (pz_cS 1 24 RX12 i k ∨ (k = pz_kac ∧ 1 ≤ 1 ∧ 60 ≤ 24 ∧ Cond.methodLink RX12 i arraycopyName ∈ pz_tbl))) (List.forall_mem_cons.mpr ⟨((fun z => by cases z)), fun _ h => absurd h List.not_mem_nil⟩) false i k' h rfl
  · intro a M hlen hpre
    obtain ⟨th, i, rfl, hpre⟩ : ∃ th i, a = [.inr (.inr (12, th)), .inl i] ∧ (pz_im M ∧ 0 ≤ i ∧ i < 12) := by
      have hpre : (match (generalizing := false) a with | [.inr (.inr (12, th)), .inl i] => pz_im M ∧ 0 ≤ i ∧ i < 12 | _ => False) := hpre
      split at hpre
      · exact ⟨_, _, rfl, hpre⟩
      · exact hpre.elim
    exact Nat.le_of_ble_eq_true rfl
  · intro a M hlen hcan hM hpre Ok hgo
    obtain ⟨th, i, rfl, hpre⟩ : ∃ th i, a = [.inr (.inr (12, th)), .inl i] ∧ (pz_im M ∧ 0 ≤ i ∧ i < 12) := by
      have hpre : (match (generalizing := false) a with | [.inr (.inr (12, th)), .inl i] => pz_im M ∧ 0 ≤ i ∧ i < 12 | _ => False) := hpre
      split at hpre
      · exact ⟨_, _, rfl, hpre⟩
      · exact hpre.elim
    obtain ⟨k_th, hc_th⟩ := pz_tlm hcan
    have k_th : pz_kd th = 12 ∧ th < 231 := k_th
    have R_th := pz_kd12 k_th.1
    subst R_th
    clear k_th
    obtain ⟨k_i, hc_i⟩ := pz_tlm hc_th
    have l_i : -2147483648 ≤ i := k_i.1
    have u_i : i ≤ 2147483647 := k_i.2
    have hI : pz_im M := hpre.1
    have hI0 := hI
    have hS : pz_rl pz_QD M M := pz_rl.rf
    refine hgo (fun _ => false) 15 0 _ [] M ?_
    refine pz_nrc (c := 60) rfl ?_
    intro v7 e7 a7 b7
    rw [pz_wi (by first | decide | omega) (by first | decide | omega)] at e7
    clear a7 b7
    have lo9 : (0 : Int) ≤ v7 := by omega
    have tn9 : (((v7).toNat : Nat) : Int) = v7 := Int.toNat_of_nonneg lo9
    refine And.intro (lo9) (And.intro (show _ < (1725 : Int) from by omega) ?_)
    intro M9 e9
    have hS : pz_rl pz_QD M M9 := by
      rw [e9]
      exact pz_rl_u hS (by unfold pz_QD; first | decide | omega) (pz_iom_w1 (by first | decide | omega) (by first | decide | omega))
    have hI : pz_im M9 := hS.1 hI0
    refine And.intro (hI) ?_
    intro M14 q14
    obtain ⟨q14, z14⟩ := q14
    have hS : pz_rl pz_QD M M14 := hS.tr z14
    have hI : pz_im M14 := hS.1 hI0
    refine And.intro rfl ?_
    refine ⟨?_, hS⟩
    have q := q14
    have T : sd_Tr M9 = sd_Tr M := by
      unfold sd_Tr
      rw [e9, pz_una (by decide)]
    rw [T, e9, sd_um, show v7.toNat = 40 + i.toNat by omega] at q
    rw [q]
    unfold sd_get
    rw [show ((i.toNat : Nat) : Int) = i by omega]
theorem v3_X12_getsReady {fr lo i : Nat} {own : String} (h1 : 1 + 1 ≤ fr) (h2 : 8 + (2 + 11) + 24 ≤ lo) (h3 : .methodLink own i yX12_getsReady ∈ lw_tbl) : pz_cV fr lo own i k3_X12_getsReady :=
  pz_cVk (maxL := 2) (fr' := 1) (lo' := 24) 1 12 h3_X12_getsReady rfl ⟨(pz_nhc_RX12 yX12_getsReady rfl).1, (pz_nhc_RX12 yX12_getsReady rfl).2, pz_ds8⟩ ⟨pz_wq1522, pz_wq1521, pz_ws58, pz_wq13⟩ (Or.inl ⟨TX12, 28, rfl⟩) (fun a M _ h => by
    have h : (match (generalizing := false) a with | [.inr (.inr (12, th)), .inl i] => pz_im M ∧ 0 ≤ i ∧ i < 12 | _ => False) := h
    split at h
    · exact ⟨_, _, rfl⟩
    · exact h.elim) h1 h2 h3
noncomputable def k3_X12_bridges0 : pz_C := (2, 0, fun a M => (match a with | [.inr (.inr (12, th)), .inl i] => pz_im M ∧ 0 ≤ i ∧ i < 12 | _ => False), fun a M r M' => (match a, r with | [.inr (.inr (12, th)), .inl i], none => (M' 60 = sd_bri (sd_Tr M) (M 60) i.toNat) ∧ pz_rl pz_QD M M' | _, _ => False))
noncomputable abbrev ct3_X12_bridges0 : List (Bool × Nat × pz_C) := [(true, 323, k3_X12_notes)]
set_option maxRecDepth 100000 in
set_option maxHeartbeats 4000000 in
theorem h3_X12_bridges0 : pz_H yX12_bridges0 cX12_bridges0 2 none k3_X12_bridges0 1 24 := by
  refine pz_mk (own := RX12) (tb := t_X12_bridges0) (fl := pz_flf fl_RX12) (ci := pz_cif ci_RX12) (ct := pz_ctf ct3_X12_bridges0) (rz := false) (pz_pfc_RX12 yX12_bridges0 rfl) rfl t_X12_bridges0_ok (pz_flk fl_RX12_ok) (pz_cik ci_RX12_ok) ?_ ?_ (rfl) ?_ ?_
  · exact fun i k' h => pz_ctk (l := ct3_X12_bridges0) (P := fun b i k => b = true → pz_cV 1 24 RX12 i k) (List.forall_mem_cons.mpr ⟨(fun _ => v3_X12_notes (by decide) (by decide) pz_wq1483), fun _ h => absurd h List.not_mem_nil⟩) true i k' h rfl
  · exact fun i k' h => pz_ctk (l := ct3_X12_bridges0) (P := fun b i k => b = false → (pz_cS 1 24 RX12 i k ∨ (k = pz_kac ∧ 1 ≤ 1 ∧ 60 ≤ 24 ∧ Cond.methodLink RX12 i arraycopyName ∈ pz_tbl))) (List.forall_mem_cons.mpr ⟨((fun z => by cases z)), fun _ h => absurd h List.not_mem_nil⟩) false i k' h rfl
  · intro a M hlen hpre
    obtain ⟨th, i, rfl, hpre⟩ : ∃ th i, a = [.inr (.inr (12, th)), .inl i] ∧ (pz_im M ∧ 0 ≤ i ∧ i < 12) := by
      have hpre : (match (generalizing := false) a with | [.inr (.inr (12, th)), .inl i] => pz_im M ∧ 0 ≤ i ∧ i < 12 | _ => False) := hpre
      split at hpre
      · exact ⟨_, _, rfl, hpre⟩
      · exact hpre.elim
    exact Nat.le_of_ble_eq_true rfl
  · intro a M hlen hcan hM hpre Ok hgo
    obtain ⟨th, i, rfl, hpre⟩ : ∃ th i, a = [.inr (.inr (12, th)), .inl i] ∧ (pz_im M ∧ 0 ≤ i ∧ i < 12) := by
      have hpre : (match (generalizing := false) a with | [.inr (.inr (12, th)), .inl i] => pz_im M ∧ 0 ≤ i ∧ i < 12 | _ => False) := hpre
      split at hpre
      · exact ⟨_, _, rfl, hpre⟩
      · exact hpre.elim
    obtain ⟨k_th, hc_th⟩ := pz_tlm hcan
    have k_th : pz_kd th = 12 ∧ th < 231 := k_th
    have R_th := pz_kd12 k_th.1
    subst R_th
    clear k_th
    obtain ⟨k_i, hc_i⟩ := pz_tlm hc_th
    have l_i : -2147483648 ≤ i := k_i.1
    have u_i : i ≤ 2147483647 := k_i.2
    have hI : pz_im M := hpre.1
    have hI0 := hI
    have hS : pz_rl pz_QD M M := pz_rl.rf
    refine hgo (fun _ => false) 15 0 _ [] M ?_
    refine pz_nrc (c := 60) rfl ?_
    intro v7 e7 a7 b7
    rw [pz_wi (by first | decide | omega) (by first | decide | omega)] at e7
    clear a7 b7
    have lo9 : (0 : Int) ≤ v7 := by omega
    have tn9 : (((v7).toNat : Nat) : Int) = v7 := Int.toNat_of_nonneg lo9
    refine And.intro (lo9) (And.intro (show _ < (1725 : Int) from by omega) ?_)
    intro M9 e9
    have hS : pz_rl pz_QD M M9 := by
      rw [e9]
      exact pz_rl_u hS (by unfold pz_QD; first | decide | omega) (pz_iom_w1 (by first | decide | omega) (by first | decide | omega))
    have hI : pz_im M9 := hS.1 hI0
    refine And.intro (hI) ?_
    intro M14 q14
    obtain ⟨q14, z14⟩ := q14
    have hS : pz_rl pz_QD M M14 := hS.tr z14
    have hI : pz_im M14 := hS.1 hI0
    refine And.intro rfl ?_
    refine ⟨?_, hS⟩
    have q := q14
    have T : sd_Tr M9 = sd_Tr M := by
      unfold sd_Tr
      rw [e9, pz_una (by decide)]
    rw [T, e9, sd_um, show v7.toNat = 64 + i.toNat by omega] at q
    rw [q]
    unfold sd_bri
    rw [show ((i.toNat : Nat) : Int) = i by omega]
theorem v3_X12_bridges0 {fr lo i : Nat} {own : String} (h1 : 1 + 1 ≤ fr) (h2 : 8 + (2 + 11) + 24 ≤ lo) (h3 : .methodLink own i yX12_bridges0 ∈ lw_tbl) : pz_cV fr lo own i k3_X12_bridges0 :=
  pz_cVk (maxL := 2) (fr' := 1) (lo' := 24) 1 12 h3_X12_bridges0 rfl ⟨(pz_nhc_RX12 yX12_bridges0 rfl).1, (pz_nhc_RX12 yX12_bridges0 rfl).2, pz_ds8⟩ ⟨pz_wq1498, pz_wq1497, pz_ws54, pz_wq13⟩ (Or.inl ⟨TX12, 28, rfl⟩) (fun a M _ h => by
    have h : (match (generalizing := false) a with | [.inr (.inr (12, th)), .inl i] => pz_im M ∧ 0 ≤ i ∧ i < 12 | _ => False) := h
    split at h
    · exact ⟨_, _, rfl⟩
    · exact h.elim) h1 h2 h3
noncomputable def k3_X12_isThere : pz_C := (2, 1, fun a M => (match a with | [.inr (.inr (12, th)), .inl i] => pz_im M | _ => False), fun a M r M' => (match a, r with | [.inr (.inr (12, th)), .inl i], some (.inl v) => ((v = 1 ∧ 0 ≤ i ∧ i < M 60 88 ∧ M 60 88 ≤ 12 ∧ ¬ M 60 (52 + i).toNat = 1 ∧ M 60 (76 + i).toNat = -1) ∨ (v = 0 ∧ ¬ (0 ≤ i ∧ i < M 60 88 ∧ M 60 88 ≤ 12 ∧ ¬ M 60 (52 + i).toNat = 1 ∧ M 60 (76 + i).toNat = -1))) ∧ M = M' | _, _ => False))
noncomputable abbrev ct3_X12_isThere : List (Bool × Nat × pz_C) := [(true, 58, k_X12_isLink), (true, 62, k3_X12_isOut), (true, 65, k3_X12_hasMoved)]
set_option maxRecDepth 100000 in
set_option maxHeartbeats 4000000 in
theorem h3_X12_isThere : pz_H yX12_isThere cX12_isThere 2 (some .boolean) k3_X12_isThere 2 43 := by
  refine pz_mk (own := RX12) (tb := t_X12_isThere) (fl := pz_flf fl_RX12) (ci := pz_cif ci_RX12) (ct := pz_ctf ct3_X12_isThere) (rz := true) (pz_pfc_RX12 yX12_isThere rfl) rfl t_X12_isThere_ok (pz_flk fl_RX12_ok) (pz_cik ci_RX12_ok) ?_ ?_ (Or.inr ⟨rfl, rfl⟩) ?_ ?_
  · exact fun i k' h => pz_ctk (l := ct3_X12_isThere) (P := fun b i k => b = true → pz_cV 2 43 RX12 i k) (List.forall_mem_cons.mpr ⟨(fun _ => v_X12_isLink (by decide) (by decide) pz_wq1224), List.forall_mem_cons.mpr ⟨(fun _ => v3_X12_isOut (by decide) (by decide) pz_wq1419), List.forall_mem_cons.mpr ⟨(fun _ => v3_X12_hasMoved (by decide) (by decide) pz_wq1423), fun _ h => absurd h List.not_mem_nil⟩⟩⟩) true i k' h rfl
  · exact fun i k' h => pz_ctk (l := ct3_X12_isThere) (P := fun b i k => b = false → (pz_cS 2 43 RX12 i k ∨ (k = pz_kac ∧ 1 ≤ 2 ∧ 60 ≤ 43 ∧ Cond.methodLink RX12 i arraycopyName ∈ pz_tbl))) (List.forall_mem_cons.mpr ⟨((fun z => by cases z)), List.forall_mem_cons.mpr ⟨((fun z => by cases z)), List.forall_mem_cons.mpr ⟨((fun z => by cases z)), fun _ h => absurd h List.not_mem_nil⟩⟩⟩) false i k' h rfl
  · intro a M hlen hpre
    obtain ⟨th, i, rfl, hpre⟩ : ∃ th i, a = [.inr (.inr (12, th)), .inl i] ∧ (pz_im M) := by
      have hpre : (match (generalizing := false) a with | [.inr (.inr (12, th)), .inl i] => pz_im M | _ => False) := hpre
      split at hpre
      · exact ⟨_, _, rfl, hpre⟩
      · exact hpre.elim
    exact Nat.le_of_ble_eq_true rfl
  · intro a M hlen hcan hM hpre Ok hgo
    obtain ⟨th, i, rfl, hpre⟩ : ∃ th i, a = [.inr (.inr (12, th)), .inl i] ∧ (pz_im M) := by
      have hpre : (match (generalizing := false) a with | [.inr (.inr (12, th)), .inl i] => pz_im M | _ => False) := hpre
      split at hpre
      · exact ⟨_, _, rfl, hpre⟩
      · exact hpre.elim
    obtain ⟨k_th, hc_th⟩ := pz_tlm hcan
    have k_th : pz_kd th = 12 ∧ th < 231 := k_th
    have R_th := pz_kd12 k_th.1
    subst R_th
    clear k_th
    obtain ⟨k_i, hc_i⟩ := pz_tlm hc_th
    have l_i : -2147483648 ≤ i := k_i.1
    have u_i : i ≤ 2147483647 := k_i.2
    have hI : pz_im M := hpre
    have I88 := hI.1.1
    refine hgo (fun _ => false) 18 0 _ [] M ?_
    refine And.intro (hI) ?_
    intro v2 M2 a2 b2 q2
    obtain ⟨q2, z2⟩ := q2
    subst z2
    clear a2 b2
    refine And.intro (fun h5 => ?_) (fun h5 => ?_)
    · skip
      replace q2 := q2.resolve_left (fun z => absurd (z.1.symm.trans h5) (by decide))
      clear h5
      refine And.intro (by first | decide | omega) ?_
      refine And.intro rfl ?_
      exact ⟨by omega, rfl⟩
    · skip
      replace q2 := q2.resolve_right (fun z => h5 z.1)
      clear h5
      refine And.intro (And.intro hI (And.intro (by first | decide | omega) (by first | decide | omega))) ?_
      intro v10 M10 a10 b10 q10
      obtain ⟨q10, z10⟩ := q10
      subst z10
      clear a10 b10
      refine And.intro (fun h13 => ?_) (fun h13 => ?_)
      · skip
        replace q10 := q10.resolve_right (fun z => h13 z.1)
        clear h13
        refine And.intro (by first | decide | omega) ?_
        refine And.intro rfl ?_
        exact ⟨by omega, rfl⟩
      · skip
        replace q10 := q10.resolve_left (fun z => absurd (z.1.symm.trans h13) (by decide))
        clear h13
        refine And.intro (And.intro hI (And.intro (by first | decide | omega) (by first | decide | omega))) ?_
        intro v18 M18 a18 b18 q18
        obtain ⟨q18, z18⟩ := q18
        subst z18
        clear a18 b18
        refine And.intro (fun h21 => ?_) (fun h21 => ?_)
        · skip
          replace q18 := q18.resolve_right (fun z => h21 z.1)
          clear h21
          refine And.intro (by first | decide | omega) ?_
          refine And.intro rfl ?_
          exact ⟨by omega, rfl⟩
        · skip
          replace q18 := q18.resolve_left (fun z => absurd (z.1.symm.trans h21) (by decide))
          clear h21
          refine And.intro (by first | decide | omega) ?_
          refine And.intro rfl ?_
          exact ⟨by omega, rfl⟩
theorem v3_X12_isThere {fr lo i : Nat} {own : String} (h1 : 2 + 1 ≤ fr) (h2 : 8 + (2 + 11) + 43 ≤ lo) (h3 : .methodLink own i yX12_isThere ∈ lw_tbl) : pz_cV fr lo own i k3_X12_isThere :=
  pz_cVk (maxL := 2) (fr' := 2) (lo' := 43) 1 12 h3_X12_isThere rfl ⟨(pz_nhc_RX12 yX12_isThere rfl).1, (pz_nhc_RX12 yX12_isThere rfl).2, pz_ds9⟩ ⟨pz_wq1418, pz_wq1417, pz_ws38, pz_wq13⟩ (Or.inl ⟨TX12, 28, rfl⟩) (fun a M _ h => by
    have h : (match (generalizing := false) a with | [.inr (.inr (12, th)), .inl i] => pz_im M | _ => False) := h
    split at h
    · exact ⟨_, _, rfl⟩
    · exact h.elim) h1 h2 h3
noncomputable def k3_X12_canPaper : pz_C := (2, 1, fun a M => (match a with | [.inr (.inr (12, th)), .inl i] => pz_im M | _ => False), fun a M r M' => (match a, r with | [.inr (.inr (12, th)), .inl i], some (.inl v) => ((v = 1 ∧ 0 ≤ i ∧ i < M 60 88 ∧ M 60 88 ≤ 12 ∧ ¬ M 60 (52 + i).toNat = 1 ∧ M 60 (76 + i).toNat = -1 ∧ ¬ M 60 (40 + i).toNat = 1) ∨ (v = 0 ∧ ¬ (0 ≤ i ∧ i < M 60 88 ∧ M 60 88 ≤ 12 ∧ ¬ M 60 (52 + i).toNat = 1 ∧ M 60 (76 + i).toNat = -1 ∧ ¬ M 60 (40 + i).toNat = 1))) ∧ M = M' | _, _ => False))
noncomputable abbrev ct3_X12_canPaper : List (Bool × Nat × pz_C) := [(true, 317, k3_X12_isThere), (true, 297, k3_X12_isReady)]
set_option maxRecDepth 100000 in
set_option maxHeartbeats 4000000 in
theorem h3_X12_canPaper : pz_H yX12_canPaper cX12_canPaper 2 (some .boolean) k3_X12_canPaper 3 64 := by
  refine pz_mk (own := RX12) (tb := t_X12_canPaper) (fl := pz_flf fl_RX12) (ci := pz_cif ci_RX12) (ct := pz_ctf ct3_X12_canPaper) (rz := true) (pz_pfc_RX12 yX12_canPaper rfl) rfl t_X12_canPaper_ok (pz_flk fl_RX12_ok) (pz_cik ci_RX12_ok) ?_ ?_ (Or.inr ⟨rfl, rfl⟩) ?_ ?_
  · exact fun i k' h => pz_ctk (l := ct3_X12_canPaper) (P := fun b i k => b = true → pz_cV 3 64 RX12 i k) (List.forall_mem_cons.mpr ⟨(fun _ => v3_X12_isThere (by decide) (by decide) pz_wq1415), List.forall_mem_cons.mpr ⟨(fun _ => v3_X12_isReady (by decide) (by decide) pz_wq1465), fun _ h => absurd h List.not_mem_nil⟩⟩) true i k' h rfl
  · exact fun i k' h => pz_ctk (l := ct3_X12_canPaper) (P := fun b i k => b = false → (pz_cS 3 64 RX12 i k ∨ (k = pz_kac ∧ 1 ≤ 3 ∧ 60 ≤ 64 ∧ Cond.methodLink RX12 i arraycopyName ∈ pz_tbl))) (List.forall_mem_cons.mpr ⟨((fun z => by cases z)), List.forall_mem_cons.mpr ⟨((fun z => by cases z)), fun _ h => absurd h List.not_mem_nil⟩⟩) false i k' h rfl
  · intro a M hlen hpre
    obtain ⟨th, i, rfl, hpre⟩ : ∃ th i, a = [.inr (.inr (12, th)), .inl i] ∧ (pz_im M) := by
      have hpre : (match (generalizing := false) a with | [.inr (.inr (12, th)), .inl i] => pz_im M | _ => False) := hpre
      split at hpre
      · exact ⟨_, _, rfl, hpre⟩
      · exact hpre.elim
    exact Nat.le_of_ble_eq_true rfl
  · intro a M hlen hcan hM hpre Ok hgo
    obtain ⟨th, i, rfl, hpre⟩ : ∃ th i, a = [.inr (.inr (12, th)), .inl i] ∧ (pz_im M) := by
      have hpre : (match (generalizing := false) a with | [.inr (.inr (12, th)), .inl i] => pz_im M | _ => False) := hpre
      split at hpre
      · exact ⟨_, _, rfl, hpre⟩
      · exact hpre.elim
    obtain ⟨k_th, hc_th⟩ := pz_tlm hcan
    have k_th : pz_kd th = 12 ∧ th < 231 := k_th
    have R_th := pz_kd12 k_th.1
    subst R_th
    clear k_th
    obtain ⟨k_i, hc_i⟩ := pz_tlm hc_th
    have l_i : -2147483648 ≤ i := k_i.1
    have u_i : i ≤ 2147483647 := k_i.2
    have hI : pz_im M := hpre
    refine hgo (fun _ => false) 14 0 _ [] M ?_
    refine And.intro (hI) ?_
    intro v2 M2 a2 b2 q2
    obtain ⟨q2, z2⟩ := q2
    subst z2
    clear a2 b2
    refine And.intro (fun h5 => ?_) (fun h5 => ?_)
    · skip
      replace q2 := q2.resolve_left (fun z => absurd (z.1.symm.trans h5) (by decide))
      clear h5
      refine And.intro (by first | decide | omega) ?_
      refine And.intro rfl ?_
      exact ⟨by omega, rfl⟩
    · skip
      replace q2 := q2.resolve_right (fun z => h5 z.1)
      clear h5
      refine And.intro (And.intro hI (And.intro (by first | decide | omega) (by first | decide | omega))) ?_
      intro v10 M10 a10 b10 q10
      obtain ⟨q10, z10⟩ := q10
      subst z10
      clear a10 b10
      refine And.intro (fun h13 => ?_) (fun h13 => ?_)
      · skip
        replace q10 := q10.resolve_right (fun z => h13 z.1)
        clear h13
        refine And.intro (by first | decide | omega) ?_
        refine And.intro rfl ?_
        exact ⟨by omega, rfl⟩
      · skip
        replace q10 := q10.resolve_left (fun z => absurd (z.1.symm.trans h13) (by decide))
        clear h13
        refine And.intro (by first | decide | omega) ?_
        refine And.intro rfl ?_
        exact ⟨by omega, rfl⟩
theorem v3_X12_canPaper {fr lo i : Nat} {own : String} (h1 : 3 + 1 ≤ fr) (h2 : 8 + (2 + 11) + 64 ≤ lo) (h3 : .methodLink own i yX12_canPaper ∈ lw_tbl) : pz_cV fr lo own i k3_X12_canPaper :=
  pz_cVk (maxL := 2) (fr' := 3) (lo' := 64) 1 12 h3_X12_canPaper rfl ⟨(pz_nhc_RX12 yX12_canPaper rfl).1, (pz_nhc_RX12 yX12_canPaper rfl).2, pz_ds9⟩ ⟨pz_wq1518, pz_wq1517, pz_ws57, pz_wq13⟩ (Or.inl ⟨TX12, 28, rfl⟩) (fun a M _ h => by
    have h : (match (generalizing := false) a with | [.inr (.inr (12, th)), .inl i] => pz_im M | _ => False) := h
    split at h
    · exact ⟨_, _, rfl⟩
    · exact h.elim) h1 h2 h3
noncomputable def k3_X12_canAsk : pz_C := (2, 1, fun a M => (match a with | [.inr (.inr (12, th)), .inl i] => pz_im M | _ => False), fun a M r M' => (match a, r with | [.inr (.inr (12, th)), .inl i], some (.inl v) => ((v = 1 ∧ 0 ≤ i ∧ i + 1 < M 60 88 ∧ M 60 88 ≤ 12 ∧ ¬ M 60 (52 + (i + 1)).toNat = 1 ∧ M 60 (76 + (i + 1)).toNat = -1) ∨ (v = 0 ∧ ¬ (0 ≤ i ∧ i + 1 < M 60 88 ∧ M 60 88 ≤ 12 ∧ ¬ M 60 (52 + (i + 1)).toNat = 1 ∧ M 60 (76 + (i + 1)).toNat = -1))) ∧ M = M' | _, _ => False))
noncomputable abbrev ct3_X12_canAsk : List (Bool × Nat × pz_C) := [(true, 58, k_X12_isLink), (true, 317, k3_X12_isThere)]
set_option maxRecDepth 100000 in
set_option maxHeartbeats 4000000 in
theorem h3_X12_canAsk : pz_H yX12_canAsk cX12_canAsk 2 (some .boolean) k3_X12_canAsk 3 64 := by
  refine pz_mk (own := RX12) (tb := t_X12_canAsk) (fl := pz_flf fl_RX12) (ci := pz_cif ci_RX12) (ct := pz_ctf ct3_X12_canAsk) (rz := true) (pz_pfc_RX12 yX12_canAsk rfl) rfl t_X12_canAsk_ok (pz_flk fl_RX12_ok) (pz_cik ci_RX12_ok) ?_ ?_ (Or.inr ⟨rfl, rfl⟩) ?_ ?_
  · exact fun i k' h => pz_ctk (l := ct3_X12_canAsk) (P := fun b i k => b = true → pz_cV 3 64 RX12 i k) (List.forall_mem_cons.mpr ⟨(fun _ => v_X12_isLink (by decide) (by decide) pz_wq1224), List.forall_mem_cons.mpr ⟨(fun _ => v3_X12_isThere (by decide) (by decide) pz_wq1415), fun _ h => absurd h List.not_mem_nil⟩⟩) true i k' h rfl
  · exact fun i k' h => pz_ctk (l := ct3_X12_canAsk) (P := fun b i k => b = false → (pz_cS 3 64 RX12 i k ∨ (k = pz_kac ∧ 1 ≤ 3 ∧ 60 ≤ 64 ∧ Cond.methodLink RX12 i arraycopyName ∈ pz_tbl))) (List.forall_mem_cons.mpr ⟨((fun z => by cases z)), List.forall_mem_cons.mpr ⟨((fun z => by cases z)), fun _ h => absurd h List.not_mem_nil⟩⟩) false i k' h rfl
  · intro a M hlen hpre
    obtain ⟨th, i, rfl, hpre⟩ : ∃ th i, a = [.inr (.inr (12, th)), .inl i] ∧ (pz_im M) := by
      have hpre : (match (generalizing := false) a with | [.inr (.inr (12, th)), .inl i] => pz_im M | _ => False) := hpre
      split at hpre
      · exact ⟨_, _, rfl, hpre⟩
      · exact hpre.elim
    exact Nat.le_of_ble_eq_true rfl
  · intro a M hlen hcan hM hpre Ok hgo
    obtain ⟨th, i, rfl, hpre⟩ : ∃ th i, a = [.inr (.inr (12, th)), .inl i] ∧ (pz_im M) := by
      have hpre : (match (generalizing := false) a with | [.inr (.inr (12, th)), .inl i] => pz_im M | _ => False) := hpre
      split at hpre
      · exact ⟨_, _, rfl, hpre⟩
      · exact hpre.elim
    obtain ⟨k_th, hc_th⟩ := pz_tlm hcan
    have k_th : pz_kd th = 12 ∧ th < 231 := k_th
    have R_th := pz_kd12 k_th.1
    subst R_th
    clear k_th
    obtain ⟨k_i, hc_i⟩ := pz_tlm hc_th
    have l_i : -2147483648 ≤ i := k_i.1
    have u_i : i ≤ 2147483647 := k_i.2
    have hI : pz_im M := hpre
    have I88 := hI.1.1
    refine hgo (fun _ => false) 16 0 _ [] M ?_
    refine And.intro (hI) ?_
    intro v2 M2 a2 b2 q2
    obtain ⟨q2, z2⟩ := q2
    subst z2
    clear a2 b2
    refine And.intro (fun h5 => ?_) (fun h5 => ?_)
    · skip
      replace q2 := q2.resolve_left (fun z => absurd (z.1.symm.trans h5) (by decide))
      clear h5
      refine And.intro (by first | decide | omega) ?_
      refine And.intro rfl ?_
      exact ⟨by omega, rfl⟩
    · skip
      replace q2 := q2.resolve_right (fun z => h5 z.1)
      clear h5
      intro v11 e11 a11 b11
      rw [pz_wi (by first | decide | omega) (by first | decide | omega)] at e11
      clear a11 b11
      refine And.intro (hI) ?_
      intro v12 M12 a12 b12 q12
      obtain ⟨q12, z12⟩ := q12
      subst z12
      clear a12 b12
      rw [show v11 = i + 1 by omega] at q12
      refine And.intro (fun h15 => ?_) (fun h15 => ?_)
      · skip
        replace q12 := q12.resolve_left (fun z => absurd (z.1.symm.trans h15) (by decide))
        refine And.intro (by first | decide | omega) ?_
        refine And.intro rfl ?_
        exact ⟨by omega, rfl⟩
      · skip
        replace q12 := q12.resolve_right (fun z => h15 z.1)
        refine And.intro (by first | decide | omega) ?_
        refine And.intro rfl ?_
        exact ⟨by omega, rfl⟩
theorem v3_X12_canAsk {fr lo i : Nat} {own : String} (h1 : 3 + 1 ≤ fr) (h2 : 8 + (2 + 11) + 64 ≤ lo) (h3 : .methodLink own i yX12_canAsk ∈ lw_tbl) : pz_cV fr lo own i k3_X12_canAsk :=
  pz_cVk (maxL := 2) (fr' := 3) (lo' := 64) 1 12 h3_X12_canAsk rfl ⟨(pz_nhc_RX12 yX12_canAsk rfl).1, (pz_nhc_RX12 yX12_canAsk rfl).2, pz_ds9⟩ ⟨pz_wq1414, pz_wq1413, pz_ws37, pz_wq13⟩ (Or.inl ⟨TX12, 28, rfl⟩) (fun a M _ h => by
    have h : (match (generalizing := false) a with | [.inr (.inr (12, th)), .inl i] => pz_im M | _ => False) := h
    split at h
    · exact ⟨_, _, rfl⟩
    · exact h.elim) h1 h2 h3
noncomputable def k3_X12_canBridge : pz_C := (2, 1, fun a M => (match a with | [.inr (.inr (12, th)), .inl i] => pz_im M | _ => False), fun a M r M' => (match a, r with | [.inr (.inr (12, th)), .inl i], some (.inl v) => ((v = 1 ∧ 0 ≤ i ∧ i < M 60 88 ∧ M 60 88 ≤ 12 ∧ ¬ M 60 (52 + i).toNat = 1 ∧ M 60 (76 + i).toNat = -1 ∧ 0 < i ∧ i + 1 < M 60 88 ∧ ¬ M 60 (64 + i).toNat = 1) ∨ (v = 0 ∧ ¬ (0 ≤ i ∧ i < M 60 88 ∧ M 60 88 ≤ 12 ∧ ¬ M 60 (52 + i).toNat = 1 ∧ M 60 (76 + i).toNat = -1 ∧ 0 < i ∧ i + 1 < M 60 88 ∧ ¬ M 60 (64 + i).toNat = 1))) ∧ M = M' | _, _ => False))
noncomputable abbrev ct3_X12_canBridge : List (Bool × Nat × pz_C) := [(true, 317, k3_X12_isThere), (true, 288, k3_X12_isBridged)]
set_option maxRecDepth 100000 in
set_option maxHeartbeats 4000000 in
theorem h3_X12_canBridge : pz_H yX12_canBridge cX12_canBridge 2 (some .boolean) k3_X12_canBridge 3 64 := by
  refine pz_mk (own := RX12) (tb := t_X12_canBridge) (fl := pz_flf fl_RX12) (ci := pz_cif ci_RX12) (ct := pz_ctf ct3_X12_canBridge) (rz := true) (pz_pfc_RX12 yX12_canBridge rfl) rfl t_X12_canBridge_ok (pz_flk fl_RX12_ok) (pz_cik ci_RX12_ok) ?_ ?_ (Or.inr ⟨rfl, rfl⟩) ?_ ?_
  · exact fun i k' h => pz_ctk (l := ct3_X12_canBridge) (P := fun b i k => b = true → pz_cV 3 64 RX12 i k) (List.forall_mem_cons.mpr ⟨(fun _ => v3_X12_isThere (by decide) (by decide) pz_wq1415), List.forall_mem_cons.mpr ⟨(fun _ => v3_X12_isBridged (by decide) (by decide) pz_wq1450), fun _ h => absurd h List.not_mem_nil⟩⟩) true i k' h rfl
  · exact fun i k' h => pz_ctk (l := ct3_X12_canBridge) (P := fun b i k => b = false → (pz_cS 3 64 RX12 i k ∨ (k = pz_kac ∧ 1 ≤ 3 ∧ 60 ≤ 64 ∧ Cond.methodLink RX12 i arraycopyName ∈ pz_tbl))) (List.forall_mem_cons.mpr ⟨((fun z => by cases z)), List.forall_mem_cons.mpr ⟨((fun z => by cases z)), fun _ h => absurd h List.not_mem_nil⟩⟩) false i k' h rfl
  · intro a M hlen hpre
    obtain ⟨th, i, rfl, hpre⟩ : ∃ th i, a = [.inr (.inr (12, th)), .inl i] ∧ (pz_im M) := by
      have hpre : (match (generalizing := false) a with | [.inr (.inr (12, th)), .inl i] => pz_im M | _ => False) := hpre
      split at hpre
      · exact ⟨_, _, rfl, hpre⟩
      · exact hpre.elim
    exact Nat.le_of_ble_eq_true rfl
  · intro a M hlen hcan hM hpre Ok hgo
    obtain ⟨th, i, rfl, hpre⟩ : ∃ th i, a = [.inr (.inr (12, th)), .inl i] ∧ (pz_im M) := by
      have hpre : (match (generalizing := false) a with | [.inr (.inr (12, th)), .inl i] => pz_im M | _ => False) := hpre
      split at hpre
      · exact ⟨_, _, rfl, hpre⟩
      · exact hpre.elim
    obtain ⟨k_th, hc_th⟩ := pz_tlm hcan
    have k_th : pz_kd th = 12 ∧ th < 231 := k_th
    have R_th := pz_kd12 k_th.1
    subst R_th
    clear k_th
    obtain ⟨k_i, hc_i⟩ := pz_tlm hc_th
    have l_i : -2147483648 ≤ i := k_i.1
    have u_i : i ≤ 2147483647 := k_i.2
    have hI : pz_im M := hpre
    have I88 := hI.1.1
    refine hgo (fun _ => false) 24 0 _ [] M ?_
    refine And.intro (hI) ?_
    intro v2 M2 a2 b2 q2
    obtain ⟨q2, z2⟩ := q2
    subst z2
    clear a2 b2
    refine And.intro (fun h5 => ?_) (fun h5 => ?_)
    · skip
      replace q2 := q2.resolve_left (fun z => absurd (z.1.symm.trans h5) (by decide))
      clear h5
      refine And.intro (by first | decide | omega) ?_
      refine And.intro rfl ?_
      exact ⟨by omega, rfl⟩
    · skip
      replace q2 := q2.resolve_right (fun z => h5 z.1)
      clear h5
      refine And.intro (fun h9 => ?_) (fun h9 => ?_)
      · skip
        refine And.intro (by first | decide | omega) ?_
        refine And.intro rfl ?_
        exact ⟨by omega, rfl⟩
      · skip
        refine pz_nrc (c := 60) rfl ?_
        refine And.intro (by first | decide | omega) (And.intro (show _ < (1725 : Int) from by omega) ?_)
        intro v19 e19 a19 b19
        replace e19 : v19 = M 60 88 := e19
        have I19 : 0 ≤ v19 ∧ v19 ≤ 12 := by
          rw [e19]
          exact hI.1.1
        clear a19 b19
        intro v21 e21 a21 b21
        rw [pz_wi (by first | decide | omega) (by first | decide | omega)] at e21
        clear a21 b21
        refine And.intro (fun h22 => ?_) (fun h22 => ?_)
        · skip
          refine And.intro (by first | decide | omega) ?_
          refine And.intro rfl ?_
          exact ⟨by omega, rfl⟩
        · skip
          refine And.intro (And.intro hI (And.intro (by first | decide | omega) (by first | decide | omega))) ?_
          intro v27 M27 a27 b27 q27
          obtain ⟨q27, z27⟩ := q27
          subst z27
          clear a27 b27
          refine And.intro (fun h30 => ?_) (fun h30 => ?_)
          · skip
            replace q27 := q27.resolve_right (fun z => h30 z.1)
            clear h30
            refine And.intro (by first | decide | omega) ?_
            refine And.intro rfl ?_
            exact ⟨by omega, rfl⟩
          · skip
            replace q27 := q27.resolve_left (fun z => absurd (z.1.symm.trans h30) (by decide))
            clear h30
            refine And.intro (by first | decide | omega) ?_
            refine And.intro rfl ?_
            exact ⟨by omega, rfl⟩
theorem v3_X12_canBridge {fr lo i : Nat} {own : String} (h1 : 3 + 1 ≤ fr) (h2 : 8 + (2 + 11) + 64 ≤ lo) (h3 : .methodLink own i yX12_canBridge ∈ lw_tbl) : pz_cV fr lo own i k3_X12_canBridge :=
  pz_cVk (maxL := 2) (fr' := 3) (lo' := 64) 1 12 h3_X12_canBridge rfl ⟨(pz_nhc_RX12 yX12_canBridge rfl).1, (pz_nhc_RX12 yX12_canBridge rfl).2, pz_ds9⟩ ⟨pz_wq1494, pz_wq1493, pz_ws53, pz_wq13⟩ (Or.inl ⟨TX12, 28, rfl⟩) (fun a M _ h => by
    have h : (match (generalizing := false) a with | [.inr (.inr (12, th)), .inl i] => pz_im M | _ => False) := h
    split at h
    · exact ⟨_, _, rfl⟩
    · exact h.elim) h1 h2 h3
noncomputable def k3_X12_canPay0 : pz_C := (4, 1, fun a M => (match a with | [.inr (.inr (12, th)), .inl i, .inl j, .inl n] => pz_im M | _ => False), fun a M r M' => (match a, r with | [.inr (.inr (12, th)), .inl i, .inl j, .inl n], some (.inl v) => ((v = 1 ∧ 0 ≤ i ∧ i < M 60 88 ∧ 0 ≤ j ∧ j < M 60 88 ∧ M 60 88 ≤ 12 ∧ ¬ i = j ∧ -9999 ≤ pz_w (M 60 (16 + i).toNat - n) ∧ pz_w (M 60 (16 + j).toNat + n) ≤ 9999) ∨ (v = 0 ∧ ¬ (0 ≤ i ∧ i < M 60 88 ∧ 0 ≤ j ∧ j < M 60 88 ∧ M 60 88 ≤ 12 ∧ ¬ i = j ∧ -9999 ≤ pz_w (M 60 (16 + i).toNat - n) ∧ pz_w (M 60 (16 + j).toNat + n) ≤ 9999))) ∧ M = M' | _, _ => False))
noncomputable abbrev ct3_X12_canPay0 : List (Bool × Nat × pz_C) := [(true, 58, k_X12_isLink)]
set_option maxRecDepth 100000 in
set_option maxHeartbeats 4000000 in
theorem h3_X12_canPay0 : pz_H yX12_canPay0 cX12_canPay0 4 (some .boolean) k3_X12_canPay0 2 43 := by
  refine pz_mk (own := RX12) (tb := t_X12_canPay0) (fl := pz_flf fl_RX12) (ci := pz_cif ci_RX12) (ct := pz_ctf ct3_X12_canPay0) (rz := true) (pz_pfc_RX12 yX12_canPay0 rfl) rfl t_X12_canPay0_ok (pz_flk fl_RX12_ok) (pz_cik ci_RX12_ok) ?_ ?_ (Or.inr ⟨rfl, rfl⟩) ?_ ?_
  · exact fun i k' h => pz_ctk (l := ct3_X12_canPay0) (P := fun b i k => b = true → pz_cV 2 43 RX12 i k) (List.forall_mem_cons.mpr ⟨(fun _ => v_X12_isLink (by decide) (by decide) pz_wq1224), fun _ h => absurd h List.not_mem_nil⟩) true i k' h rfl
  · exact fun i k' h => pz_ctk (l := ct3_X12_canPay0) (P := fun b i k => b = false → (pz_cS 2 43 RX12 i k ∨ (k = pz_kac ∧ 1 ≤ 2 ∧ 60 ≤ 43 ∧ Cond.methodLink RX12 i arraycopyName ∈ pz_tbl))) (List.forall_mem_cons.mpr ⟨((fun z => by cases z)), fun _ h => absurd h List.not_mem_nil⟩) false i k' h rfl
  · intro a M hlen hpre
    obtain ⟨th, i, j, n, rfl, hpre⟩ : ∃ th i j n, a = [.inr (.inr (12, th)), .inl i, .inl j, .inl n] ∧ (pz_im M) := by
      have hpre : (match (generalizing := false) a with | [.inr (.inr (12, th)), .inl i, .inl j, .inl n] => pz_im M | _ => False) := hpre
      split at hpre
      · exact ⟨_, _, _, _, rfl, hpre⟩
      · exact hpre.elim
    exact Nat.le_of_ble_eq_true rfl
  · intro a M hlen hcan hM hpre Ok hgo
    obtain ⟨th, i, j, n, rfl, hpre⟩ : ∃ th i j n, a = [.inr (.inr (12, th)), .inl i, .inl j, .inl n] ∧ (pz_im M) := by
      have hpre : (match (generalizing := false) a with | [.inr (.inr (12, th)), .inl i, .inl j, .inl n] => pz_im M | _ => False) := hpre
      split at hpre
      · exact ⟨_, _, _, _, rfl, hpre⟩
      · exact hpre.elim
    obtain ⟨k_th, hc_th⟩ := pz_tlm hcan
    have k_th : pz_kd th = 12 ∧ th < 231 := k_th
    have R_th := pz_kd12 k_th.1
    subst R_th
    clear k_th
    obtain ⟨k_i, hc_i⟩ := pz_tlm hc_th
    have l_i : -2147483648 ≤ i := k_i.1
    have u_i : i ≤ 2147483647 := k_i.2
    obtain ⟨k_j, hc_j⟩ := pz_tlm hc_i
    have l_j : -2147483648 ≤ j := k_j.1
    have u_j : j ≤ 2147483647 := k_j.2
    obtain ⟨k_n, hc_n⟩ := pz_tlm hc_j
    have l_n : -2147483648 ≤ n := k_n.1
    have u_n : n ≤ 2147483647 := k_n.2
    have hI : pz_im M := hpre
    have I88 := hI.1.1
    refine hgo (fun _ => false) 37 0 _ [] M ?_
    refine And.intro (hI) ?_
    intro v2 M2 a2 b2 q2
    obtain ⟨q2, z2⟩ := q2
    subst z2
    clear a2 b2
    refine And.intro (fun h5 => ?_) (fun h5 => ?_)
    · skip
      replace q2 := q2.resolve_left (fun z => absurd (z.1.symm.trans h5) (by decide))
      clear h5
      refine And.intro (by first | decide | omega) ?_
      refine And.intro rfl ?_
      refine ⟨?_, rfl⟩
      first
        | (rw [e29] at e31
           rw [e46] at e48
           rw [← e31, ← e48]
           omega)
        | (rw [e29] at e31
           rw [← e31]
           omega)
        | omega
    · skip
      replace q2 := q2.resolve_right (fun z => h5 z.1)
      clear h5
      refine And.intro (hI) ?_
      intro v10 M10 a10 b10 q10
      obtain ⟨q10, z10⟩ := q10
      subst z10
      clear a10 b10
      refine And.intro (fun h13 => ?_) (fun h13 => ?_)
      · skip
        replace q10 := q10.resolve_left (fun z => absurd (z.1.symm.trans h13) (by decide))
        clear h13
        refine And.intro (by first | decide | omega) ?_
        refine And.intro rfl ?_
        refine ⟨?_, rfl⟩
        first
          | (rw [e29] at e31
             rw [e46] at e48
             rw [← e31, ← e48]
             omega)
          | (rw [e29] at e31
             rw [← e31]
             omega)
          | omega
      · skip
        replace q10 := q10.resolve_right (fun z => h13 z.1)
        clear h13
        refine And.intro (fun h18 => ?_) (fun h18 => ?_)
        · skip
          refine And.intro (by first | decide | omega) ?_
          refine And.intro rfl ?_
          refine ⟨?_, rfl⟩
          first
            | (rw [e29] at e31
               rw [e46] at e48
               rw [← e31, ← e48]
               omega)
            | (rw [e29] at e31
               rw [← e31]
               omega)
            | omega
        · skip
          refine pz_nrc (c := 60) rfl ?_
          intro v28 e28 a28 b28
          rw [pz_wi (by first | decide | omega) (by first | decide | omega)] at e28
          clear a28 b28
          have lo29 : (0 : Int) ≤ v28 := by omega
          have tn29 : (((v28).toNat : Nat) : Int) = v28 := Int.toNat_of_nonneg lo29
          refine And.intro (lo29) (And.intro (show _ < (1725 : Int) from by omega) ?_)
          intro v29 e29 a29 b29
          rw [show v28 = 16 + i by omega] at e29
          intro v31 e31 a31 b31
          refine And.intro (fun h35 => ?_) (fun h35 => ?_)
          · skip
            refine And.intro (by first | decide | omega) ?_
            refine And.intro rfl ?_
            refine ⟨?_, rfl⟩
            first
              | (rw [e29] at e31
                 rw [e46] at e48
                 rw [← e31, ← e48]
                 omega)
              | (rw [e29] at e31
                 rw [← e31]
                 omega)
              | omega
          · skip
            refine pz_nrc (c := 60) rfl ?_
            intro v45 e45 a45 b45
            rw [pz_wi (by first | decide | omega) (by first | decide | omega)] at e45
            clear a45 b45
            have lo46 : (0 : Int) ≤ v45 := by omega
            have tn46 : (((v45).toNat : Nat) : Int) = v45 := Int.toNat_of_nonneg lo46
            refine And.intro (lo46) (And.intro (show _ < (1725 : Int) from by omega) ?_)
            intro v46 e46 a46 b46
            rw [show v45 = 16 + j by omega] at e46
            intro v48 e48 a48 b48
            refine And.intro (fun h52 => ?_) (fun h52 => ?_)
            · skip
              refine And.intro (by first | decide | omega) ?_
              refine And.intro rfl ?_
              refine ⟨?_, rfl⟩
              first
                | (rw [e29] at e31
                   rw [e46] at e48
                   rw [← e31, ← e48]
                   omega)
                | (rw [e29] at e31
                   rw [← e31]
                   omega)
                | omega
            · skip
              refine And.intro (by first | decide | omega) ?_
              refine And.intro rfl ?_
              refine ⟨?_, rfl⟩
              first
                | (rw [e29] at e31
                   rw [e46] at e48
                   rw [← e31, ← e48]
                   omega)
                | (rw [e29] at e31
                   rw [← e31]
                   omega)
                | omega
theorem v3_X12_canPay0 {fr lo i : Nat} {own : String} (h1 : 2 + 1 ≤ fr) (h2 : 8 + (4 + 11) + 43 ≤ lo) (h3 : .methodLink own i yX12_canPay0 ∈ lw_tbl) : pz_cV fr lo own i k3_X12_canPay0 :=
  pz_cVk (maxL := 4) (fr' := 2) (lo' := 43) 3 12 h3_X12_canPay0 rfl ⟨(pz_nhc_RX12 yX12_canPay0 rfl).1, (pz_nhc_RX12 yX12_canPay0 rfl).2, pz_ds17⟩ ⟨pz_wq1506, pz_wq1505, pz_ws55, pz_wq13⟩ (Or.inl ⟨TX12, 28, rfl⟩) (fun a M _ h => by
    have h : (match (generalizing := false) a with | [.inr (.inr (12, th)), .inl i, .inl j, .inl n] => pz_im M | _ => False) := h
    split at h
    · exact ⟨_, _, rfl⟩
    · exact h.elim) h1 h2 h3
noncomputable def k3_X12_canPay : pz_C := (2, 1, fun a M => (match a with | [.inr (.inr (12, th)), .inl i] => pz_im M ∧ 0 ≤ i ∧ i < 12 | _ => False), fun a M r M' => (match a, r with | [.inr (.inr (12, th)), .inl i], some (.inl v) => ((v = 0 ∨ v = 1) ∧ (v = 1 ↔ (i = M 60 88 - 1 ∨ M 60 (5 + i).toNat ≤ pz_w (M 60 (16 + i).toNat + if i = 0 then 0 else M 60 (4 + i).toNat)))) ∧ M = M' | _, _ => False))
noncomputable abbrev ct3_X12_canPay : List (Bool × Nat × pz_C) := []
set_option maxRecDepth 100000 in
set_option maxHeartbeats 4000000 in
theorem h3_X12_canPay : pz_H yX12_canPay cX12_canPay 2 (some .boolean) k3_X12_canPay 0 0 := by
  refine pz_mk (own := RX12) (tb := t_X12_canPay) (fl := pz_flf fl_RX12) (ci := pz_cif ci_RX12) (ct := pz_ctf ct3_X12_canPay) (rz := true) (pz_pfc_RX12 yX12_canPay rfl) rfl t_X12_canPay_ok (pz_flk fl_RX12_ok) (pz_cik ci_RX12_ok) ?_ ?_ (Or.inr ⟨rfl, rfl⟩) ?_ ?_
  · exact fun i k' h => pz_ctk (l := ct3_X12_canPay) (P := fun b i k => b = true → pz_cV 0 0 RX12 i k) (fun _ h => absurd h List.not_mem_nil) true i k' h rfl
  · exact fun i k' h => pz_ctk (l := ct3_X12_canPay) (P := fun b i k => b = false → (pz_cS 0 0 RX12 i k ∨ (k = pz_kac ∧ 1 ≤ 0 ∧ 60 ≤ 0 ∧ Cond.methodLink RX12 i arraycopyName ∈ pz_tbl))) (fun _ h => absurd h List.not_mem_nil) false i k' h rfl
  · intro a M hlen hpre
    obtain ⟨th, i, rfl, hpre⟩ : ∃ th i, a = [.inr (.inr (12, th)), .inl i] ∧ (pz_im M ∧ 0 ≤ i ∧ i < 12) := by
      have hpre : (match (generalizing := false) a with | [.inr (.inr (12, th)), .inl i] => pz_im M ∧ 0 ≤ i ∧ i < 12 | _ => False) := hpre
      split at hpre
      · exact ⟨_, _, rfl, hpre⟩
      · exact hpre.elim
    exact Nat.le_of_ble_eq_true rfl
  · intro a M hlen hcan hM hpre Ok hgo
    obtain ⟨th, i, rfl, hpre⟩ : ∃ th i, a = [.inr (.inr (12, th)), .inl i] ∧ (pz_im M ∧ 0 ≤ i ∧ i < 12) := by
      have hpre : (match (generalizing := false) a with | [.inr (.inr (12, th)), .inl i] => pz_im M ∧ 0 ≤ i ∧ i < 12 | _ => False) := hpre
      split at hpre
      · exact ⟨_, _, rfl, hpre⟩
      · exact hpre.elim
    obtain ⟨k_th, hc_th⟩ := pz_tlm hcan
    have k_th : pz_kd th = 12 ∧ th < 231 := k_th
    have R_th := pz_kd12 k_th.1
    subst R_th
    clear k_th
    obtain ⟨k_i, hc_i⟩ := pz_tlm hc_th
    have l_i : -2147483648 ≤ i := k_i.1
    have u_i : i ≤ 2147483647 := k_i.2
    have hI : pz_im M := hpre.1
    refine hgo (fun _ => false) 42 0 _ [] M ?_
    refine pz_nrc (c := 60) rfl ?_
    refine And.intro (by first | decide | omega) (And.intro (show _ < (1725 : Int) from by omega) ?_)
    intro v7 e7 a7 b7
    replace e7 : v7 = M 60 88 := e7
    have I7 : 0 ≤ v7 ∧ v7 ≤ 12 := by
      rw [e7]
      exact hI.1.1
    clear a7 b7
    intro v9 e9 a9 b9
    rw [pz_wi (by first | decide | omega) (by first | decide | omega)] at e9
    clear a9 b9
    refine And.intro (fun h10 => ?_) (fun h10 => ?_)
    · skip
      refine pz_nrc (c := 60) rfl ?_
      intro v21 e21 a21 b21
      rw [pz_wi (by first | decide | omega) (by first | decide | omega)] at e21
      clear a21 b21
      intro v23 e23 a23 b23
      rw [pz_wi (by first | decide | omega) (by first | decide | omega)] at e23
      clear a23 b23
      have lo24 : (0 : Int) ≤ v23 := by omega
      have tn24 : (((v23).toNat : Nat) : Int) = v23 := Int.toNat_of_nonneg lo24
      refine And.intro (lo24) (And.intro (show _ < (1725 : Int) from by omega) ?_)
      intro v24 e24 a24 b24
      rw [show v23 = 5 + i by omega] at e24
      refine pz_nrc (c := 60) rfl ?_
      intro v32 e32 a32 b32
      rw [pz_wi (by first | decide | omega) (by first | decide | omega)] at e32
      clear a32 b32
      have lo33 : (0 : Int) ≤ v32 := by omega
      have tn33 : (((v32).toNat : Nat) : Int) = v32 := Int.toNat_of_nonneg lo33
      refine And.intro (lo33) (And.intro (show _ < (1725 : Int) from by omega) ?_)
      intro v33 e33 a33 b33
      rw [show v32 = 16 + i by omega] at e33
      refine And.intro (fun h35 => ?_) (fun h35 => ?_)
      · skip
        replace h35 : 1 ≤ i := by omega
        refine pz_nrc (c := 60) rfl ?_
        intro v48 e48 a48 b48
        rw [pz_wi (by first | decide | omega) (by first | decide | omega)] at e48
        clear a48 b48
        have lo49 : (0 : Int) ≤ v48 := by omega
        have tn49 : (((v48).toNat : Nat) : Int) = v48 := Int.toNat_of_nonneg lo49
        refine And.intro (lo49) (And.intro (show _ < (1725 : Int) from by omega) ?_)
        intro v49 e49 a49 b49
        rw [show v48 = 4 + i by omega] at e49
        intro v50 e50 a50 b50
        refine And.intro (fun h51 => ?_) (fun h51 => ?_)
        · skip
          refine And.intro (by first | decide | omega) ?_
          refine And.intro rfl ?_
          refine ⟨?_, rfl⟩
          first
            | exact ⟨by omega, ⟨fun _ => Or.inl (by first | decide | omega), fun _ => rfl⟩⟩
            | (have E : v50 = pz_w (M 60 (16 + i).toNat + if i = 0 then 0 else M 60 (4 + i).toNat) := by
                 first
                   | rw [e50, e33, if_pos (by first | decide | omega)]
                   | rw [e50, e33, if_neg (by first | decide | omega), e49]
               rw [← E]
               omega)
        · skip
          refine And.intro (by first | decide | omega) ?_
          refine And.intro rfl ?_
          refine ⟨?_, rfl⟩
          first
            | exact ⟨by omega, ⟨fun _ => Or.inl (by first | decide | omega), fun _ => rfl⟩⟩
            | (have E : v50 = pz_w (M 60 (16 + i).toNat + if i = 0 then 0 else M 60 (4 + i).toNat) := by
                 first
                   | rw [e50, e33, if_pos (by first | decide | omega)]
                   | rw [e50, e33, if_neg (by first | decide | omega), e49]
               rw [← E]
               omega)
      · skip
        intro v50 e50 a50 b50
        refine And.intro (fun h51 => ?_) (fun h51 => ?_)
        · skip
          refine And.intro (by first | decide | omega) ?_
          refine And.intro rfl ?_
          refine ⟨?_, rfl⟩
          first
            | exact ⟨by omega, ⟨fun _ => Or.inl (by first | decide | omega), fun _ => rfl⟩⟩
            | (have E : v50 = pz_w (M 60 (16 + i).toNat + if i = 0 then 0 else M 60 (4 + i).toNat) := by
                 first
                   | rw [e50, e33, if_pos (by first | decide | omega)]
                   | rw [e50, e33, if_neg (by first | decide | omega), e49]
               rw [← E]
               omega)
        · skip
          refine And.intro (by first | decide | omega) ?_
          refine And.intro rfl ?_
          refine ⟨?_, rfl⟩
          first
            | exact ⟨by omega, ⟨fun _ => Or.inl (by first | decide | omega), fun _ => rfl⟩⟩
            | (have E : v50 = pz_w (M 60 (16 + i).toNat + if i = 0 then 0 else M 60 (4 + i).toNat) := by
                 first
                   | rw [e50, e33, if_pos (by first | decide | omega)]
                   | rw [e50, e33, if_neg (by first | decide | omega), e49]
               rw [← E]
               omega)
    · skip
      refine And.intro (by first | decide | omega) ?_
      refine And.intro rfl ?_
      refine ⟨?_, rfl⟩
      first
        | exact ⟨by omega, ⟨fun _ => Or.inl (by first | decide | omega), fun _ => rfl⟩⟩
        | (have E : v50 = pz_w (M 60 (16 + i).toNat + if i = 0 then 0 else M 60 (4 + i).toNat) := by
             first
               | rw [e50, e33, if_pos (by first | decide | omega)]
               | rw [e50, e33, if_neg (by first | decide | omega), e49]
           rw [← E]
           omega)
theorem v3_X12_canPay {fr lo i : Nat} {own : String} (h1 : 0 + 1 ≤ fr) (h2 : 8 + (2 + 11) + 0 ≤ lo) (h3 : .methodLink own i yX12_canPay ∈ lw_tbl) : pz_cV fr lo own i k3_X12_canPay :=
  pz_cVk (maxL := 2) (fr' := 0) (lo' := 0) 1 12 h3_X12_canPay rfl ⟨(pz_nhc_RX12 yX12_canPay rfl).1, (pz_nhc_RX12 yX12_canPay rfl).2, pz_ds9⟩ ⟨pz_wq1576, pz_wq1575, pz_ws69, pz_wq13⟩ (Or.inl ⟨TX12, 28, rfl⟩) (fun a M _ h => by
    have h : (match (generalizing := false) a with | [.inr (.inr (12, th)), .inl i] => pz_im M ∧ 0 ≤ i ∧ i < 12 | _ => False) := h
    split at h
    · exact ⟨_, _, rfl⟩
    · exact h.elim) h1 h2 h3
noncomputable def k3_X12_unreadies : pz_C := (2, 0, fun a M => (match a with | [.inr (.inr (12, th)), .inl i] => pz_im M | _ => False), fun a M r M' => (match a, r with | [.inr (.inr (12, th)), .inl i], none => (M' 60 = sd_lvk (M 60) i) ∧ pz_rl pz_QD M M' | _, _ => False))
noncomputable abbrev ct3_X12_unreadies : List (Bool × Nat × pz_C) := [(true, 58, k_X12_isLink), (true, 65, k3_X12_hasMoved)]
set_option maxRecDepth 100000 in
set_option maxHeartbeats 4000000 in
theorem h3_X12_unreadies : pz_H yX12_unreadies cX12_unreadies 2 none k3_X12_unreadies 2 43 := by
  refine pz_mk (own := RX12) (tb := t_X12_unreadies) (fl := pz_flf fl_RX12) (ci := pz_cif ci_RX12) (ct := pz_ctf ct3_X12_unreadies) (rz := false) (pz_pfc_RX12 yX12_unreadies rfl) rfl t_X12_unreadies_ok (pz_flk fl_RX12_ok) (pz_cik ci_RX12_ok) ?_ ?_ (rfl) ?_ ?_
  · exact fun i k' h => pz_ctk (l := ct3_X12_unreadies) (P := fun b i k => b = true → pz_cV 2 43 RX12 i k) (List.forall_mem_cons.mpr ⟨(fun _ => v_X12_isLink (by decide) (by decide) pz_wq1224), List.forall_mem_cons.mpr ⟨(fun _ => v3_X12_hasMoved (by decide) (by decide) pz_wq1423), fun _ h => absurd h List.not_mem_nil⟩⟩) true i k' h rfl
  · exact fun i k' h => pz_ctk (l := ct3_X12_unreadies) (P := fun b i k => b = false → (pz_cS 2 43 RX12 i k ∨ (k = pz_kac ∧ 1 ≤ 2 ∧ 60 ≤ 43 ∧ Cond.methodLink RX12 i arraycopyName ∈ pz_tbl))) (List.forall_mem_cons.mpr ⟨((fun z => by cases z)), List.forall_mem_cons.mpr ⟨((fun z => by cases z)), fun _ h => absurd h List.not_mem_nil⟩⟩) false i k' h rfl
  · intro a M hlen hpre
    obtain ⟨th, i, rfl, hpre⟩ : ∃ th i, a = [.inr (.inr (12, th)), .inl i] ∧ (pz_im M) := by
      have hpre : (match (generalizing := false) a with | [.inr (.inr (12, th)), .inl i] => pz_im M | _ => False) := hpre
      split at hpre
      · exact ⟨_, _, rfl, hpre⟩
      · exact hpre.elim
    exact Nat.le_of_ble_eq_true rfl
  · intro a M hlen hcan hM hpre Ok hgo
    obtain ⟨th, i, rfl, hpre⟩ : ∃ th i, a = [.inr (.inr (12, th)), .inl i] ∧ (pz_im M) := by
      have hpre : (match (generalizing := false) a with | [.inr (.inr (12, th)), .inl i] => pz_im M | _ => False) := hpre
      split at hpre
      · exact ⟨_, _, rfl, hpre⟩
      · exact hpre.elim
    obtain ⟨k_th, hc_th⟩ := pz_tlm hcan
    have k_th : pz_kd th = 12 ∧ th < 231 := k_th
    have R_th := pz_kd12 k_th.1
    subst R_th
    clear k_th
    obtain ⟨k_i, hc_i⟩ := pz_tlm hc_th
    have l_i : -2147483648 ≤ i := k_i.1
    have u_i : i ≤ 2147483647 := k_i.2
    have hI : pz_im M := hpre
    have hI0 := hI
    have hS : pz_rl pz_QD M M := pz_rl.rf
    have I88 := hI.1.1
    refine hgo (fun _ => false) 18 0 _ [] M ?_
    refine And.intro (hI) ?_
    intro v2 M2 a2 b2 q2
    obtain ⟨q2, z2⟩ := q2
    subst z2
    clear a2 b2
    refine And.intro (fun h5 => ?_) (fun h5 => ?_)
    · skip
      replace q2 := q2.resolve_left (fun z => absurd (z.1.symm.trans h5) (by decide))
      clear h5
      refine And.intro rfl ?_
      refine ⟨?_, hS⟩
      unfold sd_lvk
      first
        | (rw [e25, sd_um, show v23.toNat = 40 + i.toNat by omega]
           exact (if_pos ⟨by omega, by omega, by rw [← show (76 + i).toNat = 76 + i.toNat by omega]; omega⟩).symm)
        | exact (if_neg (fun z => by
            have z3 := z.2.2
            rw [← show (76 + i).toNat = 76 + i.toNat by omega] at z3
            omega)).symm
        | exact (if_neg (fun z => by omega)).symm
    · skip
      replace q2 := q2.resolve_right (fun z => h5 z.1)
      clear h5
      refine And.intro (And.intro hI (And.intro (by first | decide | omega) (by first | decide | omega))) ?_
      intro v10 M10 a10 b10 q10
      obtain ⟨q10, z10⟩ := q10
      subst z10
      clear a10 b10
      refine And.intro (fun h13 => ?_) (fun h13 => ?_)
      · skip
        replace q10 := q10.resolve_right (fun z => h13 z.1)
        clear h13
        refine And.intro rfl ?_
        refine ⟨?_, hS⟩
        unfold sd_lvk
        first
          | (rw [e25, sd_um, show v23.toNat = 40 + i.toNat by omega]
             exact (if_pos ⟨by omega, by omega, by rw [← show (76 + i).toNat = 76 + i.toNat by omega]; omega⟩).symm)
          | exact (if_neg (fun z => by
              have z3 := z.2.2
              rw [← show (76 + i).toNat = 76 + i.toNat by omega] at z3
              omega)).symm
          | exact (if_neg (fun z => by omega)).symm
      · skip
        replace q10 := q10.resolve_left (fun z => absurd (z.1.symm.trans h13) (by decide))
        clear h13
        refine pz_nrc (c := 60) rfl ?_
        intro v23 e23 a23 b23
        rw [pz_wi (by first | decide | omega) (by first | decide | omega)] at e23
        clear a23 b23
        have lo25 : (0 : Int) ≤ v23 := by omega
        have tn25 : (((v23).toNat : Nat) : Int) = v23 := Int.toNat_of_nonneg lo25
        refine And.intro (lo25) (And.intro (show _ < (1725 : Int) from by omega) ?_)
        intro M25 e25
        have hS : pz_rl pz_QD M M25 := by
          rw [e25]
          exact pz_rl_u hS (by unfold pz_QD; first | decide | omega) (pz_iom_w1 (by first | decide | omega) (by first | decide | omega))
        have hI : pz_im M25 := hS.1 hI0
        refine And.intro rfl ?_
        refine ⟨?_, hS⟩
        unfold sd_lvk
        first
          | (rw [e25, sd_um, show v23.toNat = 40 + i.toNat by omega]
             exact (if_pos ⟨by omega, by omega, by rw [← show (76 + i).toNat = 76 + i.toNat by omega]; omega⟩).symm)
          | exact (if_neg (fun z => by
              have z3 := z.2.2
              rw [← show (76 + i).toNat = 76 + i.toNat by omega] at z3
              omega)).symm
          | exact (if_neg (fun z => by omega)).symm
theorem v3_X12_unreadies {fr lo i : Nat} {own : String} (h1 : 2 + 1 ≤ fr) (h2 : 8 + (2 + 11) + 43 ≤ lo) (h3 : .methodLink own i yX12_unreadies ∈ lw_tbl) : pz_cV fr lo own i k3_X12_unreadies :=
  pz_cVk (maxL := 2) (fr' := 2) (lo' := 43) 1 12 h3_X12_unreadies rfl ⟨(pz_nhc_RX12 yX12_unreadies rfl).1, (pz_nhc_RX12 yX12_unreadies rfl).2, pz_ds8⟩ ⟨pz_wq1564, pz_wq1563, pz_ws66, pz_wq13⟩ (Or.inl ⟨TX12, 28, rfl⟩) (fun a M _ h => by
    have h : (match (generalizing := false) a with | [.inr (.inr (12, th)), .inl i] => pz_im M | _ => False) := h
    split at h
    · exact ⟨_, _, rfl⟩
    · exact h.elim) h1 h2 h3
noncomputable def k3_X12_leaves : pz_C := (2, 0, fun a M => (match a with | [.inr (.inr (12, th)), .inl i] => pz_im M ∧ 0 ≤ i ∧ i < 12 | _ => False), fun a M r M' => (match a, r with | [.inr (.inr (12, th)), .inl i], none => (M' 60 = sd_lev (sd_Tr M) (M 60) i.toNat) ∧ pz_rl pz_QD M M' | _, _ => False))
noncomputable abbrev ct3_X12_leaves : List (Bool × Nat × pz_C) := [(true, 358, k3_X12_unreadies), (true, 323, k3_X12_notes)]
set_option maxRecDepth 100000 in
set_option maxHeartbeats 4000000 in
theorem h3_X12_leaves : pz_H yX12_leaves cX12_leaves 2 none k3_X12_leaves 3 64 := by
  refine pz_mk (own := RX12) (tb := t_X12_leaves) (fl := pz_flf fl_RX12) (ci := pz_cif ci_RX12) (ct := pz_ctf ct3_X12_leaves) (rz := false) (pz_pfc_RX12 yX12_leaves rfl) rfl t_X12_leaves_ok (pz_flk fl_RX12_ok) (pz_cik ci_RX12_ok) ?_ ?_ (rfl) ?_ ?_
  · exact fun i k' h => pz_ctk (l := ct3_X12_leaves) (P := fun b i k => b = true → pz_cV 3 64 RX12 i k) (List.forall_mem_cons.mpr ⟨(fun _ => v3_X12_unreadies (by decide) (by decide) pz_wq1561), List.forall_mem_cons.mpr ⟨(fun _ => v3_X12_notes (by decide) (by decide) pz_wq1483), fun _ h => absurd h List.not_mem_nil⟩⟩) true i k' h rfl
  · exact fun i k' h => pz_ctk (l := ct3_X12_leaves) (P := fun b i k => b = false → (pz_cS 3 64 RX12 i k ∨ (k = pz_kac ∧ 1 ≤ 3 ∧ 60 ≤ 64 ∧ Cond.methodLink RX12 i arraycopyName ∈ pz_tbl))) (List.forall_mem_cons.mpr ⟨((fun z => by cases z)), List.forall_mem_cons.mpr ⟨((fun z => by cases z)), fun _ h => absurd h List.not_mem_nil⟩⟩) false i k' h rfl
  · intro a M hlen hpre
    obtain ⟨th, i, rfl, hpre⟩ : ∃ th i, a = [.inr (.inr (12, th)), .inl i] ∧ (pz_im M ∧ 0 ≤ i ∧ i < 12) := by
      have hpre : (match (generalizing := false) a with | [.inr (.inr (12, th)), .inl i] => pz_im M ∧ 0 ≤ i ∧ i < 12 | _ => False) := hpre
      split at hpre
      · exact ⟨_, _, rfl, hpre⟩
      · exact hpre.elim
    exact Nat.le_of_ble_eq_true rfl
  · intro a M hlen hcan hM hpre Ok hgo
    obtain ⟨th, i, rfl, hpre⟩ : ∃ th i, a = [.inr (.inr (12, th)), .inl i] ∧ (pz_im M ∧ 0 ≤ i ∧ i < 12) := by
      have hpre : (match (generalizing := false) a with | [.inr (.inr (12, th)), .inl i] => pz_im M ∧ 0 ≤ i ∧ i < 12 | _ => False) := hpre
      split at hpre
      · exact ⟨_, _, rfl, hpre⟩
      · exact hpre.elim
    obtain ⟨k_th, hc_th⟩ := pz_tlm hcan
    have k_th : pz_kd th = 12 ∧ th < 231 := k_th
    have R_th := pz_kd12 k_th.1
    subst R_th
    clear k_th
    obtain ⟨k_i, hc_i⟩ := pz_tlm hc_th
    have l_i : -2147483648 ≤ i := k_i.1
    have u_i : i ≤ 2147483647 := k_i.2
    have hI : pz_im M := hpre.1
    have hI0 := hI
    have hS : pz_rl pz_QD M M := pz_rl.rf
    have I88 := hI.1.1
    refine hgo (fun _ => false) 40 0 _ [] M ?_
    refine pz_nrc (c := 60) rfl ?_
    intro v7 e7 a7 b7
    rw [pz_wi (by first | decide | omega) (by first | decide | omega)] at e7
    clear a7 b7
    have lo9 : (0 : Int) ≤ v7 := by omega
    have tn9 : (((v7).toNat : Nat) : Int) = v7 := Int.toNat_of_nonneg lo9
    refine And.intro (lo9) (And.intro (show _ < (1725 : Int) from by omega) ?_)
    intro M9 e9
    have hS : pz_rl pz_QD M M9 := by
      rw [e9]
      exact pz_rl_u hS (by unfold pz_QD; first | decide | omega) (pz_iom_w1 (by first | decide | omega) (by first | decide | omega))
    have hI : pz_im M9 := hS.1 hI0
    refine pz_nrc (c := 60) rfl ?_
    refine And.intro (by first | decide | omega) (And.intro (show _ < (1725 : Int) from by omega) ?_)
    intro v16 e16 a16 b16
    replace e16 : v16 = M9 60 1 := e16
    intro v18 e18 a18 b18
    refine And.intro (by first | decide | omega) (And.intro (show _ < (1725 : Int) from by omega) ?_)
    intro M19 e19
    have hS : pz_rl pz_QD M M19 := by
      rw [e19]
      exact pz_rl_u hS (by unfold pz_QD; first | decide | omega) (pz_iom_w0 (by first | decide | omega))
    have hI : pz_im M19 := hS.1 hI0
    refine pz_nrc (c := 60) rfl ?_
    intro v27 e27 a27 b27
    rw [pz_wi (by first | decide | omega) (by first | decide | omega)] at e27
    clear a27 b27
    have lo29 : (0 : Int) ≤ v27 := by omega
    have tn29 : (((v27).toNat : Nat) : Int) = v27 := Int.toNat_of_nonneg lo29
    refine And.intro (lo29) (And.intro (show _ < (1725 : Int) from by omega) ?_)
    intro M29 e29
    have hS : pz_rl pz_QD M M29 := by
      rw [e29]
      exact pz_rl_u hS (by unfold pz_QD; first | decide | omega) (pz_iom_w1 (by first | decide | omega) (by first | decide | omega))
    have hI : pz_im M29 := hS.1 hI0
    intro v33 e33 a33 b33
    rw [pz_wi (by first | decide | omega) (by first | decide | omega)] at e33
    clear a33 b33
    refine And.intro (hI) ?_
    intro M34 q34
    obtain ⟨q34, z34⟩ := q34
    have hS : pz_rl pz_QD M M34 := hS.tr z34
    have hI : pz_im M34 := hS.1 hI0
    intro v40 e40 a40 b40
    rw [pz_wi (by first | decide | omega) (by first | decide | omega)] at e40
    clear a40 b40
    refine And.intro (hI) ?_
    intro M41 q41
    obtain ⟨q41, z41⟩ := q41
    have hS : pz_rl pz_QD M M41 := hS.tr z41
    have hI : pz_im M41 := hS.1 hI0
    have hS41 := hS
    refine And.intro (hI) ?_
    intro M48 q48
    obtain ⟨q48, z48⟩ := q48
    have hS : pz_rl pz_QD M M48 := hS.tr z48
    have hI : pz_im M48 := hS.1 hI0
    refine And.intro rfl ?_
    refine ⟨?_, hS⟩
    have T : sd_Tr M41 = sd_Tr M := by
      unfold sd_Tr
      rw [hS41.2 1 26 (by unfold pz_QD; first | decide | omega)]
    have V16 : v16 = M 60 1 := by
      rw [e16, e9]
      exact pz_unk (by first | decide | omega)
    rw [q48, T, q41, q34, e29, sd_um, e19, sd_um, e9, sd_um, sd_lev_k, e18, V16, show v7.toNat = 52 + i.toNat by omega, show v27.toNat = 40 + i.toNat by omega, show v33 = ((i.toNat : Nat) : Int) - 1 by omega, show v40 = ((i.toNat : Nat) : Int) + 1 by omega, show ((i.toNat : Nat) : Int) = i by omega]
    rfl
theorem v3_X12_leaves {fr lo i : Nat} {own : String} (h1 : 3 + 1 ≤ fr) (h2 : 8 + (2 + 11) + 64 ≤ lo) (h3 : .methodLink own i yX12_leaves ∈ lw_tbl) : pz_cV fr lo own i k3_X12_leaves :=
  pz_cVk (maxL := 2) (fr' := 3) (lo' := 64) 1 12 h3_X12_leaves rfl ⟨(pz_nhc_RX12 yX12_leaves rfl).1, (pz_nhc_RX12 yX12_leaves rfl).2, pz_ds8⟩ ⟨pz_wq1560, pz_wq1559, pz_ws65, pz_wq13⟩ (Or.inl ⟨TX12, 28, rfl⟩) (fun a M _ h => by
    have h : (match (generalizing := false) a with | [.inr (.inr (12, th)), .inl i] => pz_im M ∧ 0 ≤ i ∧ i < 12 | _ => False) := h
    split at h
    · exact ⟨_, _, rfl⟩
    · exact h.elim) h1 h2 h3
end
section
noncomputable def k3_X12_asks : pz_C := (3, 1, fun a M => (match a with | [.inr (.inr (12, th)), .inl i, .inl n] => pz_im M ∧ 0 ≤ i ∧ i < 11 | _ => False), fun a M r M' => (match a, r with | [.inr (.inr (12, th)), .inl i, .inl n], some (.inl v) => (∀ ls : List pz_lne, pq_wlw ls (M 60) → (∀ q ∈ ls, pv_ln q) → sd_wf (M 60) → i + 1 < M 60 88 → 1 ≤ n ∧ n ≤ 99 → v = sd_gi ls (M 60) (i.toNat + 1) n ∧ M' 60 = sd_ask (sd_Tr M) ls (M 60) i.toNat n) ∧ pz_rl pz_QD M M' | _, _ => False))
noncomputable abbrev ct3_X12_asks : List (Bool × Nat × pz_C) := [(true, 320, k3_X12_giveOf), (false, 47, k_X12_lesser), (false, 51, k_X12_greater), (true, 323, k3_X12_notes)]
theorem pz_wk_QS_QD : ∀ b j, pz_QS b j → pz_QD b j := by
  intro b j q
  unfold pz_QS at q
  unfold pz_QD
  omega
set_option maxRecDepth 100000 in
set_option maxHeartbeats 4000000 in
theorem h3_X12_asks : pz_H yX12_asks cX12_asks 5 (some .int) k3_X12_asks 5 116 := by
  refine pz_mk (own := RX12) (tb := t_X12_asks) (fl := pz_flf fl_RX12) (ci := pz_cif ci_RX12) (ct := pz_ctf ct3_X12_asks) (rz := false) (pz_pfc_RX12 yX12_asks rfl) rfl t_X12_asks_ok (pz_flk fl_RX12_ok) (pz_cik ci_RX12_ok) ?_ ?_ (Or.inl ⟨rfl, rfl⟩) ?_ ?_
  · exact fun i k' h => pz_ctk (l := ct3_X12_asks) (P := fun b i k => b = true → pz_cV 5 116 RX12 i k) (List.forall_mem_cons.mpr ⟨(fun _ => v3_X12_giveOf (by decide) (by decide) pz_wq1435), List.forall_mem_cons.mpr ⟨((fun z => by cases z)), List.forall_mem_cons.mpr ⟨((fun z => by cases z)), List.forall_mem_cons.mpr ⟨(fun _ => v3_X12_notes (by decide) (by decide) pz_wq1483), fun _ h => absurd h List.not_mem_nil⟩⟩⟩⟩) true i k' h rfl
  · exact fun i k' h => pz_ctk (l := ct3_X12_asks) (P := fun b i k => b = false → (pz_cS 5 116 RX12 i k ∨ (k = pz_kac ∧ 1 ≤ 5 ∧ 60 ≤ 116 ∧ Cond.methodLink RX12 i arraycopyName ∈ pz_tbl))) (List.forall_mem_cons.mpr ⟨((fun z => by cases z)), List.forall_mem_cons.mpr ⟨(fun _ => Or.inl (s_X12_lesser (by decide) (by decide) (Or.inl pz_wq1462))), List.forall_mem_cons.mpr ⟨(fun _ => Or.inl (s_X12_greater (by decide) (by decide) (Or.inl pz_wq1447))), List.forall_mem_cons.mpr ⟨((fun z => by cases z)), fun _ h => absurd h List.not_mem_nil⟩⟩⟩⟩) false i k' h rfl
  · intro a M hlen hpre
    obtain ⟨th, i, n, rfl, hpre⟩ : ∃ th i n, a = [.inr (.inr (12, th)), .inl i, .inl n] ∧ (pz_im M ∧ 0 ≤ i ∧ i < 11) := by
      have hpre : (match (generalizing := false) a with | [.inr (.inr (12, th)), .inl i, .inl n] => pz_im M ∧ 0 ≤ i ∧ i < 11 | _ => False) := hpre
      split at hpre
      · exact ⟨_, _, _, rfl, hpre⟩
      · exact hpre.elim
    exact Nat.le_of_ble_eq_true rfl
  · intro a M hlen hcan hM hpre Ok hgo
    obtain ⟨th, i, n, rfl, hpre⟩ : ∃ th i n, a = [.inr (.inr (12, th)), .inl i, .inl n] ∧ (pz_im M ∧ 0 ≤ i ∧ i < 11) := by
      have hpre : (match (generalizing := false) a with | [.inr (.inr (12, th)), .inl i, .inl n] => pz_im M ∧ 0 ≤ i ∧ i < 11 | _ => False) := hpre
      split at hpre
      · exact ⟨_, _, _, rfl, hpre⟩
      · exact hpre.elim
    obtain ⟨k_th, hc_th⟩ := pz_tlm hcan
    have k_th : pz_kd th = 12 ∧ th < 231 := k_th
    have R_th := pz_kd12 k_th.1
    subst R_th
    clear k_th
    obtain ⟨k_i, hc_i⟩ := pz_tlm hc_th
    have l_i : -2147483648 ≤ i := k_i.1
    have u_i : i ≤ 2147483647 := k_i.2
    obtain ⟨k_n, hc_n⟩ := pz_tlm hc_i
    have l_n : -2147483648 ≤ n := k_n.1
    have u_n : n ≤ 2147483647 := k_n.2
    have hI : pz_im M := hpre.1
    have hI0 := hI
    have hS : pz_rl pz_QD M M := pz_rl.rf
    have I88 := hI.1.1
    refine hgo (fun _ => false) 54 0 _ [] M ?_
    intro v2 e2 a2 b2
    rw [pz_wi (by first | decide | omega) (by first | decide | omega)] at e2
    clear a2 b2
    refine And.intro (And.intro hI (And.intro (by first | decide | omega) (by first | decide | omega))) ?_
    intro v6 M6 a6 b6 q6
    obtain ⟨q6, z6⟩ := q6
    have hS : pz_rl pz_QD M M6 := hS.tr (pz_rl.wk pz_wk_QS_QD z6)
    have hI : pz_im M6 := hS.1 hI0
    clear a6 b6
    have W6 : M6 60 = M 60 := funext fun j => z6.2 60 j (by unfold pz_QS; first | decide | omega)
    have U6 : M6 1 26 = M 1 26 := z6.2 1 26 (by unfold pz_QS; first | decide | omega)
    refine And.intro (True.intro) ?_
    intro v10 M10 a10 b10 q10
    obtain ⟨q10, z10⟩ := q10
    subst z10
    refine pz_nrc (c := 60) rfl ?_
    intro v19 e19 a19 b19
    rw [pz_wi (by first | decide | omega) (by first | decide | omega)] at e19
    clear a19 b19
    have lo20 : (0 : Int) ≤ v19 := by omega
    have tn20 : (((v19).toNat : Nat) : Int) = v19 := Int.toNat_of_nonneg lo20
    refine And.intro (lo20) (And.intro (show _ < (1725 : Int) from by omega) ?_)
    intro v20 e20 a20 b20
    rw [show v19.toNat = 5 + i.toNat by omega, W6] at e20
    intro v22 e22 a22 b22
    refine And.intro (True.intro) ?_
    intro v23 M23 a23 b23 q23
    obtain ⟨q23, z23⟩ := q23
    subst z23
    refine pz_nrc (c := 60) rfl ?_
    intro v34 e34 a34 b34
    rw [pz_wi (by first | decide | omega) (by first | decide | omega)] at e34
    clear a34 b34
    have lo36 : (0 : Int) ≤ v34 := by omega
    have tn36 : (((v34).toNat : Nat) : Int) = v34 := Int.toNat_of_nonneg lo36
    refine And.intro (lo36) (And.intro (show _ < (1725 : Int) from by omega) ?_)
    intro v36 e36 a36 b36
    rw [show v34.toNat = 5 + i.toNat by omega, W6] at e36
    intro v39 e39 a39 b39
    refine And.intro (lo36) (And.intro (show _ < (1725 : Int) from by omega) ?_)
    intro M40 e40
    have hS : pz_rl pz_QD M M40 := by
      rw [e40]
      exact pz_rl_u hS (by unfold pz_QD; first | decide | omega) (pz_iom_w1 (by first | decide | omega) (by first | decide | omega))
    have hI : pz_im M40 := hS.1 hI0
    refine pz_nrc (c := 60) rfl ?_
    intro v48 e48 a48 b48
    rw [pz_wi (by first | decide | omega) (by first | decide | omega)] at e48
    clear a48 b48
    refine pz_nrc (c := 60) rfl ?_
    intro v59 e59 a59 b59
    rw [pz_wi (by first | decide | omega) (by first | decide | omega)] at e59
    clear a59 b59
    have lo60 : (0 : Int) ≤ v59 := by omega
    have tn60 : (((v59).toNat : Nat) : Int) = v59 := Int.toNat_of_nonneg lo60
    refine And.intro (lo60) (And.intro (show _ < (1725 : Int) from by omega) ?_)
    intro v60 e60 a60 b60
    intro v63 e63 a63 b63
    refine And.intro (True.intro) ?_
    intro v64 M64 a64 b64 q64
    obtain ⟨q64, z64⟩ := q64
    subst z64
    have lo67 : (0 : Int) ≤ v48 := by omega
    have tn67 : (((v48).toNat : Nat) : Int) = v48 := Int.toNat_of_nonneg lo67
    refine And.intro (lo67) (And.intro (show _ < (1725 : Int) from by omega) ?_)
    intro M67 e67
    have hS : pz_rl pz_QD M M67 := by
      rw [e67]
      exact pz_rl_u hS (by unfold pz_QD; first | decide | omega) (pz_iom_w1 (by first | decide | omega) (by first | decide | omega))
    have hI : pz_im M67 := hS.1 hI0
    refine And.intro (hI) ?_
    intro M73 q73
    obtain ⟨q73, z73⟩ := q73
    have hS : pz_rl pz_QD M M73 := hS.tr z73
    have hI : pz_im M73 := hS.1 hI0
    refine And.intro rfl ?_
    refine ⟨fun ls hl hq hW h1 hn => ?_, hS⟩
    have G := q6.1 (by first | decide | omega) ls hl hq
    have Gb := sd_gv_b (ls := ls) (F := M 60) (i := i.toNat + 1)
    obtain ⟨o0, -, o2, -⟩ := hW.2.2 (i.toNat + 1) (by first | decide | omega)
    rw [show 4 + (i.toNat + 1) = 5 + i.toNat by omega] at o0
    rw [show 28 + (i.toNat + 1) = 29 + i.toNat by omega] at o2
    rw [show v2.toNat = i.toNat + 1 by omega] at G
    rw [pz_wi (by first | decide | omega) (by first | decide | omega)] at e22
    have V23 : v23 = sd_gi ls (M 60) (i.toNat + 1) n := by
      unfold sd_gi
      rw [show 4 + (i.toNat + 1) = 5 + i.toNat by omega, ← G]
      omega
    have gb : 0 ≤ v23 ∧ v23 ≤ M 60 (5 + i.toNat) - 1 := by omega
    rw [pz_wi (by first | decide | omega) (by first | decide | omega)] at e39
    have V60 : v60 = M 60 (29 + i.toNat) := by
      rw [e60, e40, pz_unk (by first | decide | omega), W6]
      congr 1
      omega
    rw [pz_wi (by first | decide | omega) (by first | decide | omega)] at e63
    have T : sd_Tr M67 = sd_Tr M := by
      unfold sd_Tr
      rw [e67, pz_una (by decide), e40, pz_una (by decide), U6]
    refine ⟨V23, ?_⟩
    rw [q73, T, e67, sd_um, e40, sd_um, W6, show v34.toNat = 5 + i.toNat by omega, show v48.toNat = 29 + i.toNat by omega, show v64 = max (-999) (M 60 (29 + i.toNat) - v23) by omega, show v39 = M 60 (5 + i.toNat) - v23 by omega, V23, show v2 = ((i.toNat : Nat) : Int) + 1 by omega]
    rfl
theorem v3_X12_asks {fr lo i : Nat} {own : String} (h1 : 5 + 1 ≤ fr) (h2 : 8 + (5 + 11) + 116 ≤ lo) (h3 : .methodLink own i yX12_asks ∈ lw_tbl) : pz_cV fr lo own i k3_X12_asks :=
  pz_cVk (maxL := 5) (fr' := 5) (lo' := 116) 2 12 h3_X12_asks rfl ⟨(pz_nhc_RX12 yX12_asks rfl).1, (pz_nhc_RX12 yX12_asks rfl).2, pz_ds10⟩ ⟨pz_wq1434, pz_wq1433, pz_ws42, pz_wq13⟩ (Or.inl ⟨TX12, 28, rfl⟩) (fun a M _ h => by
    have h : (match (generalizing := false) a with | [.inr (.inr (12, th)), .inl i, .inl n] => pz_im M ∧ 0 ≤ i ∧ i < 11 | _ => False) := h
    split at h
    · exact ⟨_, _, rfl⟩
    · exact h.elim) h1 h2 h3
noncomputable def k3_X12_pays : pz_C := (4, 0, fun a M => (match a with | [.inr (.inr (12, th)), .inl i, .inl j, .inl n] => pz_im M ∧ 0 ≤ i ∧ i < 12 ∧ 0 ≤ j ∧ j < 12 | _ => False), fun a M r M' => (match a, r with | [.inr (.inr (12, th)), .inl i, .inl j, .inl n], none => (sd_wf (M 60) → sd_c0 (M 60) i.toNat j.toNat n → 1 ≤ n ∧ n ≤ 99 → M' 60 = sd_pys (sd_Tr M) (M 60) i.toNat j.toNat n) ∧ pz_rl pz_QD M M' | _, _ => False))
noncomputable abbrev ct3_X12_pays : List (Bool × Nat × pz_C) := [(true, 323, k3_X12_notes)]
set_option maxRecDepth 100000 in
set_option maxHeartbeats 4000000 in
theorem h3_X12_pays : pz_H yX12_pays cX12_pays 4 none k3_X12_pays 1 24 := by
  refine pz_mk (own := RX12) (tb := t_X12_pays) (fl := pz_flf fl_RX12) (ci := pz_cif ci_RX12) (ct := pz_ctf ct3_X12_pays) (rz := false) (pz_pfc_RX12 yX12_pays rfl) rfl t_X12_pays_ok (pz_flk fl_RX12_ok) (pz_cik ci_RX12_ok) ?_ ?_ (rfl) ?_ ?_
  · exact fun i k' h => pz_ctk (l := ct3_X12_pays) (P := fun b i k => b = true → pz_cV 1 24 RX12 i k) (List.forall_mem_cons.mpr ⟨(fun _ => v3_X12_notes (by decide) (by decide) pz_wq1483), fun _ h => absurd h List.not_mem_nil⟩) true i k' h rfl
  · exact fun i k' h => pz_ctk (l := ct3_X12_pays) (P := fun b i k => b = false → (pz_cS 1 24 RX12 i k ∨ (k = pz_kac ∧ 1 ≤ 1 ∧ 60 ≤ 24 ∧ Cond.methodLink RX12 i arraycopyName ∈ pz_tbl))) (List.forall_mem_cons.mpr ⟨((fun z => by cases z)), fun _ h => absurd h List.not_mem_nil⟩) false i k' h rfl
  · intro a M hlen hpre
    obtain ⟨th, i, j, n, rfl, hpre⟩ : ∃ th i j n, a = [.inr (.inr (12, th)), .inl i, .inl j, .inl n] ∧ (pz_im M ∧ 0 ≤ i ∧ i < 12 ∧ 0 ≤ j ∧ j < 12) := by
      have hpre : (match (generalizing := false) a with | [.inr (.inr (12, th)), .inl i, .inl j, .inl n] => pz_im M ∧ 0 ≤ i ∧ i < 12 ∧ 0 ≤ j ∧ j < 12 | _ => False) := hpre
      split at hpre
      · exact ⟨_, _, _, _, rfl, hpre⟩
      · exact hpre.elim
    exact Nat.le_of_ble_eq_true rfl
  · intro a M hlen hcan hM hpre Ok hgo
    obtain ⟨th, i, j, n, rfl, hpre⟩ : ∃ th i j n, a = [.inr (.inr (12, th)), .inl i, .inl j, .inl n] ∧ (pz_im M ∧ 0 ≤ i ∧ i < 12 ∧ 0 ≤ j ∧ j < 12) := by
      have hpre : (match (generalizing := false) a with | [.inr (.inr (12, th)), .inl i, .inl j, .inl n] => pz_im M ∧ 0 ≤ i ∧ i < 12 ∧ 0 ≤ j ∧ j < 12 | _ => False) := hpre
      split at hpre
      · exact ⟨_, _, _, _, rfl, hpre⟩
      · exact hpre.elim
    obtain ⟨k_th, hc_th⟩ := pz_tlm hcan
    have k_th : pz_kd th = 12 ∧ th < 231 := k_th
    have R_th := pz_kd12 k_th.1
    subst R_th
    clear k_th
    obtain ⟨k_i, hc_i⟩ := pz_tlm hc_th
    have l_i : -2147483648 ≤ i := k_i.1
    have u_i : i ≤ 2147483647 := k_i.2
    obtain ⟨k_j, hc_j⟩ := pz_tlm hc_i
    have l_j : -2147483648 ≤ j := k_j.1
    have u_j : j ≤ 2147483647 := k_j.2
    obtain ⟨k_n, hc_n⟩ := pz_tlm hc_j
    have l_n : -2147483648 ≤ n := k_n.1
    have u_n : n ≤ 2147483647 := k_n.2
    have hI : pz_im M := hpre.1
    have hI0 := hI
    have hS : pz_rl pz_QD M M := pz_rl.rf
    refine hgo (fun _ => false) 28 0 _ [] M ?_
    refine pz_nrc (c := 60) rfl ?_
    intro v7 e7 a7 b7
    rw [pz_wi (by first | decide | omega) (by first | decide | omega)] at e7
    clear a7 b7
    have lo9 : (0 : Int) ≤ v7 := by omega
    have tn9 : (((v7).toNat : Nat) : Int) = v7 := Int.toNat_of_nonneg lo9
    refine And.intro (lo9) (And.intro (show _ < (1725 : Int) from by omega) ?_)
    intro v9 e9 a9 b9
    rw [show v7.toNat = 16 + i.toNat by omega] at e9
    intro v11 e11 a11 b11
    refine And.intro (lo9) (And.intro (show _ < (1725 : Int) from by omega) ?_)
    intro M12 e12
    have hS : pz_rl pz_QD M M12 := by
      rw [e12]
      exact pz_rl_u hS (by unfold pz_QD; first | decide | omega) (pz_iom_w1 (by first | decide | omega) (by first | decide | omega))
    have hI : pz_im M12 := hS.1 hI0
    refine pz_nrc (c := 60) rfl ?_
    intro v20 e20 a20 b20
    rw [pz_wi (by first | decide | omega) (by first | decide | omega)] at e20
    clear a20 b20
    have lo22 : (0 : Int) ≤ v20 := by omega
    have tn22 : (((v20).toNat : Nat) : Int) = v20 := Int.toNat_of_nonneg lo22
    refine And.intro (lo22) (And.intro (show _ < (1725 : Int) from by omega) ?_)
    intro v22 e22 a22 b22
    intro v24 e24 a24 b24
    refine And.intro (lo22) (And.intro (show _ < (1725 : Int) from by omega) ?_)
    intro M25 e25
    have hS : pz_rl pz_QD M M25 := by
      rw [e25]
      exact pz_rl_u hS (by unfold pz_QD; first | decide | omega) (pz_iom_w1 (by first | decide | omega) (by first | decide | omega))
    have hI : pz_im M25 := hS.1 hI0
    refine And.intro (hI) ?_
    intro M30 q30
    obtain ⟨q30, z30⟩ := q30
    have hS : pz_rl pz_QD M M30 := hS.tr z30
    have hI : pz_im M30 := hS.1 hI0
    refine And.intro rfl ?_
    refine ⟨fun hW hc hn => ?_, hS⟩
    have pc := sd_pys_c hW hc hn
    have hij := hc.2.2.1
    rw [e9, pz_wi (by first | decide | omega) (by first | decide | omega)] at e11
    have V22 : v22 = M 60 (16 + j.toNat) := by
      rw [e22, e12, pz_unk (by first | decide | omega)]
      congr 1
      omega
    rw [V22, pz_wi (by first | decide | omega) (by first | decide | omega)] at e24
    have T : sd_Tr M25 = sd_Tr M := by
      unfold sd_Tr
      rw [e25, pz_una (by decide), e12, pz_una (by decide)]
    rw [q30, T, e25, sd_um, e12, sd_um, e11, e24, show v7.toNat = 16 + i.toNat by omega, show v20.toNat = 16 + j.toNat by omega]
    unfold sd_pys
    rw [show ((i.toNat : Nat) : Int) = i by omega]
theorem v3_X12_pays {fr lo i : Nat} {own : String} (h1 : 1 + 1 ≤ fr) (h2 : 8 + (4 + 11) + 24 ≤ lo) (h3 : .methodLink own i yX12_pays ∈ lw_tbl) : pz_cV fr lo own i k3_X12_pays :=
  pz_cVk (maxL := 4) (fr' := 1) (lo' := 24) 3 12 h3_X12_pays rfl ⟨(pz_nhc_RX12 yX12_pays rfl).1, (pz_nhc_RX12 yX12_pays rfl).2, pz_ds16⟩ ⟨pz_wq1510, pz_wq1509, pz_ws56, pz_wq13⟩ (Or.inl ⟨TX12, 28, rfl⟩) (fun a M _ h => by
    have h : (match (generalizing := false) a with | [.inr (.inr (12, th)), .inl i, .inl j, .inl n] => pz_im M ∧ 0 ≤ i ∧ i < 12 ∧ 0 ≤ j ∧ j < 12 | _ => False) := h
    split at h
    · exact ⟨_, _, rfl⟩
    · exact h.elim) h1 h2 h3
noncomputable def k3_X12_canMove : pz_C := (3, 1, fun a M => (match a with | [.inr (.inr (12, th)), .inl i, .inl j] => pz_im M ∧ 0 ≤ i ∧ j < 12 | _ => False), fun a M r M' => (match a, r with | [.inr (.inr (12, th)), .inl i, .inl j], some (.inl v) => ((v = 0 ∨ v = 1) ∧ (i ≤ j → j < M 60 88 → v = if sd_cm (M 60) j.toNat (j + 1 - i).toNat i.toNat = true then 1 else 0)) ∧ M = M' | _, _ => False))
noncomputable abbrev ct3_X12_canMove : List (Bool × Nat × pz_C) := [(true, 297, k3_X12_isReady), (true, 62, k3_X12_isOut), (true, 361, k3_X12_canPay)]
set_option maxRecDepth 100000 in
set_option maxHeartbeats 4000000 in
theorem h3_X12_canMove : pz_H yX12_canMove cX12_canMove 4 (some .boolean) k3_X12_canMove 1 21 := by
  refine pz_mk (own := RX12) (tb := t_X12_canMove) (fl := pz_flf fl_RX12) (ci := pz_cif ci_RX12) (ct := pz_ctf ct3_X12_canMove) (rz := true) (pz_pfc_RX12 yX12_canMove rfl) rfl t_X12_canMove_ok (pz_flk fl_RX12_ok) (pz_cik ci_RX12_ok) ?_ ?_ (Or.inr ⟨rfl, rfl⟩) ?_ ?_
  · exact fun i k' h => pz_ctk (l := ct3_X12_canMove) (P := fun b i k => b = true → pz_cV 1 21 RX12 i k) (List.forall_mem_cons.mpr ⟨(fun _ => v3_X12_isReady (by decide) (by decide) pz_wq1465), List.forall_mem_cons.mpr ⟨(fun _ => v3_X12_isOut (by decide) (by decide) pz_wq1419), List.forall_mem_cons.mpr ⟨(fun _ => v3_X12_canPay (by decide) (by decide) pz_wq1573), fun _ h => absurd h List.not_mem_nil⟩⟩⟩) true i k' h rfl
  · exact fun i k' h => pz_ctk (l := ct3_X12_canMove) (P := fun b i k => b = false → (pz_cS 1 21 RX12 i k ∨ (k = pz_kac ∧ 1 ≤ 1 ∧ 60 ≤ 21 ∧ Cond.methodLink RX12 i arraycopyName ∈ pz_tbl))) (List.forall_mem_cons.mpr ⟨((fun z => by cases z)), List.forall_mem_cons.mpr ⟨((fun z => by cases z)), List.forall_mem_cons.mpr ⟨((fun z => by cases z)), fun _ h => absurd h List.not_mem_nil⟩⟩⟩) false i k' h rfl
  · intro a M hlen hpre
    obtain ⟨th, i, j, rfl, hpre⟩ : ∃ th i j, a = [.inr (.inr (12, th)), .inl i, .inl j] ∧ (pz_im M ∧ 0 ≤ i ∧ j < 12) := by
      have hpre : (match (generalizing := false) a with | [.inr (.inr (12, th)), .inl i, .inl j] => pz_im M ∧ 0 ≤ i ∧ j < 12 | _ => False) := hpre
      split at hpre
      · exact ⟨_, _, _, rfl, hpre⟩
      · exact hpre.elim
    exact Nat.le_of_ble_eq_true rfl
  · intro a M hlen hcan hM hpre Ok hgo
    obtain ⟨th, i, j, rfl, hpre⟩ : ∃ th i j, a = [.inr (.inr (12, th)), .inl i, .inl j] ∧ (pz_im M ∧ 0 ≤ i ∧ j < 12) := by
      have hpre : (match (generalizing := false) a with | [.inr (.inr (12, th)), .inl i, .inl j] => pz_im M ∧ 0 ≤ i ∧ j < 12 | _ => False) := hpre
      split at hpre
      · exact ⟨_, _, _, rfl, hpre⟩
      · exact hpre.elim
    obtain ⟨k_th, hc_th⟩ := pz_tlm hcan
    have k_th : pz_kd th = 12 ∧ th < 231 := k_th
    have R_th := pz_kd12 k_th.1
    subst R_th
    clear k_th
    obtain ⟨k_i, hc_i⟩ := pz_tlm hc_th
    have l_i : -2147483648 ≤ i := k_i.1
    have u_i : i ≤ 2147483647 := k_i.2
    obtain ⟨k_j, hc_j⟩ := pz_tlm hc_i
    have l_j : -2147483648 ≤ j := k_j.1
    have u_j : j ≤ 2147483647 := k_j.2
    have hI : pz_im M := hpre.1
    have I88 := hI.1.1
    have hi0 := hpre.2.1
    have hj0 := hpre.2.2
    have L2 : ∀ (fu : Nat) (x3 : Int), (12 - x3).toNat < fu → (0 ≤ x3) → (i ≤ j → j < M 60 88 → (i ≤ x3 ∧ x3 ≤ j + 1 ∧ sd_cm (M 60) j.toNat (j + 1 - i).toNat i.toNat = sd_cm (M 60) j.toNat (j + 1 - x3).toNat (x3).toNat)) → Ok 2 [some (.inr (.inr (12, 1))), some (.inl i), some (.inl j), some (.inl x3)] [] M := by
      intro fu
      induction fu with
      | zero => exact fun _ hn => absurd hn (Nat.not_lt_zero _)
      | succ fu ih2 =>
        intro x3 hn2 g2_0 g2_1
        have L38 : ∀ (x3 : Int), (0 ≤ x3) → (x3 < 12) → ((12 - x3).toNat < fu + 1) → (i ≤ j → j < M 60 88 → (i ≤ (x3 + 1) ∧ (x3 + 1) ≤ j + 1 ∧ sd_cm (M 60) j.toNat (j + 1 - i).toNat i.toNat = sd_cm (M 60) j.toNat (j + 1 - (x3 + 1)).toNat ((x3 + 1)).toNat)) → Ok 38 [some (.inr (.inr (12, 1))), some (.inl i), some (.inl j), some (.inl x3)] [] M := by
          intro x3 g38_0 g38_1 g38_2 g38_3
          refine hgo (fun p => Nat.beq p 2 || Nat.beq p 38) 28 38 _ _ _ ?_
          intro v38 e38 a38 b38
          rw [pz_wi (by first | decide | omega) (by first | decide | omega)] at e38
          have G38 : i ≤ j → j < M 60 88 → (i ≤ v38 ∧ v38 ≤ j + 1 ∧ sd_cm (M 60) j.toNat (j + 1 - i).toNat i.toNat = sd_cm (M 60) j.toNat (j + 1 - v38).toNat (v38).toNat) := by
            rw [e38]
            exact g38_3
          exact ih2 _ (by first | decide | omega) (by first | omega | assumption | exact fun h1 h2 => ⟨by omega, by omega, rfl⟩) (by first | omega | assumption | exact fun h1 h2 => ⟨by omega, by omega, rfl⟩)
        refine hgo (fun p => Nat.beq p 2 || Nat.beq p 38) 28 2 _ _ _ ?_
        refine And.intro (fun h4 => ?_) (fun h4 => ?_)
        · skip
          refine And.intro (by first | decide | omega) ?_
          refine And.intro rfl ?_
          refine ⟨⟨Or.inr rfl, fun h1 h2 => ?_⟩, rfl⟩
          obtain ⟨g1, g2, g3⟩ := g2_1 h1 h2
          rw [g3, show (j + 1 - x3).toNat = 0 by omega]
          exact (if_pos rfl).symm
        · skip
          refine And.intro (And.intro hI (And.intro (by first | decide | omega) (by first | decide | omega))) ?_
          intro v9 M9 a9 b9 q9
          obtain ⟨q9, z9⟩ := q9
          subst z9
          clear a9 b9
          refine And.intro (fun h12 => ?_) (fun h12 => ?_)
          · skip
            replace q9 := q9.resolve_left (fun z => absurd (z.1.symm.trans h12) (by decide))
            clear h12
            refine And.intro (by first | decide | omega) ?_
            refine And.intro rfl ?_
            refine ⟨⟨Or.inl rfl, fun h1 h2 => ?_⟩, rfl⟩
            obtain ⟨g1, g2, g3⟩ := g2_1 h1 h2
            rw [g3, show (j + 1 - x3).toNat = (j + 1 - x3).toNat - 1 + 1 by omega]
            refine (if_neg ?_).symm
            show ¬ ((decide (M 60 (40 + x3.toNat) = 1 ∧ M 60 (52 + x3.toNat) ≠ 1 ∧ (x3.toNat < j.toNat → sd_py (M 60) x3.toNat)) && _) = true)
            rw [decide_eq_false (fun z => (by
              obtain ⟨z1, z2, z3⟩ := z
              rw [← show (40 + x3).toNat = 40 + x3.toNat by omega] at z1
              rw [← show (52 + x3).toNat = 52 + x3.toNat by omega] at z2
              first
                | omega
                | (have y := q30.2.mpr ((sd_py_i (by first | decide | omega)).mpr (z3 (by first | decide | omega)))
                   omega)))]
            exact Bool.false_ne_true
          · skip
            replace q9 := q9.resolve_right (fun z => h12 z.1)
            clear h12
            refine And.intro (And.intro hI (And.intro (by first | decide | omega) (by first | decide | omega))) ?_
            intro v17 M17 a17 b17 q17
            obtain ⟨q17, z17⟩ := q17
            subst z17
            clear a17 b17
            refine And.intro (fun h20 => ?_) (fun h20 => ?_)
            · skip
              replace q17 := q17.resolve_right (fun z => h20 z.1)
              clear h20
              refine And.intro (by first | decide | omega) ?_
              refine And.intro rfl ?_
              refine ⟨⟨Or.inl rfl, fun h1 h2 => ?_⟩, rfl⟩
              obtain ⟨g1, g2, g3⟩ := g2_1 h1 h2
              rw [g3, show (j + 1 - x3).toNat = (j + 1 - x3).toNat - 1 + 1 by omega]
              refine (if_neg ?_).symm
              show ¬ ((decide (M 60 (40 + x3.toNat) = 1 ∧ M 60 (52 + x3.toNat) ≠ 1 ∧ (x3.toNat < j.toNat → sd_py (M 60) x3.toNat)) && _) = true)
              rw [decide_eq_false (fun z => (by
                obtain ⟨z1, z2, z3⟩ := z
                rw [← show (40 + x3).toNat = 40 + x3.toNat by omega] at z1
                rw [← show (52 + x3).toNat = 52 + x3.toNat by omega] at z2
                first
                  | omega
                  | (have y := q30.2.mpr ((sd_py_i (by first | decide | omega)).mpr (z3 (by first | decide | omega)))
                     omega)))]
              exact Bool.false_ne_true
            · skip
              replace q17 := q17.resolve_left (fun z => absurd (z.1.symm.trans h20) (by decide))
              clear h20
              refine And.intro (fun h25 => ?_) (fun h25 => ?_)
              · skip
                exact L38 _ (by
                  first
                    | omega
                    | assumption
                    | exact fun h1 h2 => by
                        obtain ⟨g1, g2, g3⟩ := g2_1 h1 h2
                        refine ⟨by omega, by omega, g3.trans ?_⟩
                        rw [show (j + 1 - x3).toNat = (j + 1 - (x3 + 1)).toNat + 1 by omega, show (x3 + 1).toNat = x3.toNat + 1 by omega]
                        show (decide (M 60 (40 + x3.toNat) = 1 ∧ M 60 (52 + x3.toNat) ≠ 1 ∧ (x3.toNat < j.toNat → sd_py (M 60) x3.toNat)) && _) = _
                        rw [decide_eq_true ⟨by rw [← show (40 + x3).toNat = 40 + x3.toNat by omega]; omega, by rw [← show (52 + x3).toNat = 52 + x3.toNat by omega]; omega, fun z => (by
                          first
                            | exact absurd z (by first | decide | omega)
                            | exact (sd_py_i (by first | decide | omega)).mp (q30.2.mp (by first | decide | omega)))⟩]
                        rfl) (by
                  first
                    | omega
                    | assumption
                    | exact fun h1 h2 => by
                        obtain ⟨g1, g2, g3⟩ := g2_1 h1 h2
                        refine ⟨by omega, by omega, g3.trans ?_⟩
                        rw [show (j + 1 - x3).toNat = (j + 1 - (x3 + 1)).toNat + 1 by omega, show (x3 + 1).toNat = x3.toNat + 1 by omega]
                        show (decide (M 60 (40 + x3.toNat) = 1 ∧ M 60 (52 + x3.toNat) ≠ 1 ∧ (x3.toNat < j.toNat → sd_py (M 60) x3.toNat)) && _) = _
                        rw [decide_eq_true ⟨by rw [← show (40 + x3).toNat = 40 + x3.toNat by omega]; omega, by rw [← show (52 + x3).toNat = 52 + x3.toNat by omega]; omega, fun z => (by
                          first
                            | exact absurd z (by first | decide | omega)
                            | exact (sd_py_i (by first | decide | omega)).mp (q30.2.mp (by first | decide | omega)))⟩]
                        rfl) (by
                  first
                    | omega
                    | assumption
                    | exact fun h1 h2 => by
                        obtain ⟨g1, g2, g3⟩ := g2_1 h1 h2
                        refine ⟨by omega, by omega, g3.trans ?_⟩
                        rw [show (j + 1 - x3).toNat = (j + 1 - (x3 + 1)).toNat + 1 by omega, show (x3 + 1).toNat = x3.toNat + 1 by omega]
                        show (decide (M 60 (40 + x3.toNat) = 1 ∧ M 60 (52 + x3.toNat) ≠ 1 ∧ (x3.toNat < j.toNat → sd_py (M 60) x3.toNat)) && _) = _
                        rw [decide_eq_true ⟨by rw [← show (40 + x3).toNat = 40 + x3.toNat by omega]; omega, by rw [← show (52 + x3).toNat = 52 + x3.toNat by omega]; omega, fun z => (by
                          first
                            | exact absurd z (by first | decide | omega)
                            | exact (sd_py_i (by first | decide | omega)).mp (q30.2.mp (by first | decide | omega)))⟩]
                        rfl) (by
                  first
                    | omega
                    | assumption
                    | exact fun h1 h2 => by
                        obtain ⟨g1, g2, g3⟩ := g2_1 h1 h2
                        refine ⟨by omega, by omega, g3.trans ?_⟩
                        rw [show (j + 1 - x3).toNat = (j + 1 - (x3 + 1)).toNat + 1 by omega, show (x3 + 1).toNat = x3.toNat + 1 by omega]
                        show (decide (M 60 (40 + x3.toNat) = 1 ∧ M 60 (52 + x3.toNat) ≠ 1 ∧ (x3.toNat < j.toNat → sd_py (M 60) x3.toNat)) && _) = _
                        rw [decide_eq_true ⟨by rw [← show (40 + x3).toNat = 40 + x3.toNat by omega]; omega, by rw [← show (52 + x3).toNat = 52 + x3.toNat by omega]; omega, fun z => (by
                          first
                            | exact absurd z (by first | decide | omega)
                            | exact (sd_py_i (by first | decide | omega)).mp (q30.2.mp (by first | decide | omega)))⟩]
                        rfl)
              · skip
                refine And.intro (And.intro hI (And.intro (by first | decide | omega) (by first | decide | omega))) ?_
                intro v30 M30 a30 b30 q30
                obtain ⟨q30, z30⟩ := q30
                subst z30
                refine And.intro (fun h33 => ?_) (fun h33 => ?_)
                · skip
                  exact L38 _ (by
                    first
                      | omega
                      | assumption
                      | exact fun h1 h2 => by
                          obtain ⟨g1, g2, g3⟩ := g2_1 h1 h2
                          refine ⟨by omega, by omega, g3.trans ?_⟩
                          rw [show (j + 1 - x3).toNat = (j + 1 - (x3 + 1)).toNat + 1 by omega, show (x3 + 1).toNat = x3.toNat + 1 by omega]
                          show (decide (M 60 (40 + x3.toNat) = 1 ∧ M 60 (52 + x3.toNat) ≠ 1 ∧ (x3.toNat < j.toNat → sd_py (M 60) x3.toNat)) && _) = _
                          rw [decide_eq_true ⟨by rw [← show (40 + x3).toNat = 40 + x3.toNat by omega]; omega, by rw [← show (52 + x3).toNat = 52 + x3.toNat by omega]; omega, fun z => (by
                            first
                              | exact absurd z (by first | decide | omega)
                              | exact (sd_py_i (by first | decide | omega)).mp (q30.2.mp (by first | decide | omega)))⟩]
                          rfl) (by
                    first
                      | omega
                      | assumption
                      | exact fun h1 h2 => by
                          obtain ⟨g1, g2, g3⟩ := g2_1 h1 h2
                          refine ⟨by omega, by omega, g3.trans ?_⟩
                          rw [show (j + 1 - x3).toNat = (j + 1 - (x3 + 1)).toNat + 1 by omega, show (x3 + 1).toNat = x3.toNat + 1 by omega]
                          show (decide (M 60 (40 + x3.toNat) = 1 ∧ M 60 (52 + x3.toNat) ≠ 1 ∧ (x3.toNat < j.toNat → sd_py (M 60) x3.toNat)) && _) = _
                          rw [decide_eq_true ⟨by rw [← show (40 + x3).toNat = 40 + x3.toNat by omega]; omega, by rw [← show (52 + x3).toNat = 52 + x3.toNat by omega]; omega, fun z => (by
                            first
                              | exact absurd z (by first | decide | omega)
                              | exact (sd_py_i (by first | decide | omega)).mp (q30.2.mp (by first | decide | omega)))⟩]
                          rfl) (by
                    first
                      | omega
                      | assumption
                      | exact fun h1 h2 => by
                          obtain ⟨g1, g2, g3⟩ := g2_1 h1 h2
                          refine ⟨by omega, by omega, g3.trans ?_⟩
                          rw [show (j + 1 - x3).toNat = (j + 1 - (x3 + 1)).toNat + 1 by omega, show (x3 + 1).toNat = x3.toNat + 1 by omega]
                          show (decide (M 60 (40 + x3.toNat) = 1 ∧ M 60 (52 + x3.toNat) ≠ 1 ∧ (x3.toNat < j.toNat → sd_py (M 60) x3.toNat)) && _) = _
                          rw [decide_eq_true ⟨by rw [← show (40 + x3).toNat = 40 + x3.toNat by omega]; omega, by rw [← show (52 + x3).toNat = 52 + x3.toNat by omega]; omega, fun z => (by
                            first
                              | exact absurd z (by first | decide | omega)
                              | exact (sd_py_i (by first | decide | omega)).mp (q30.2.mp (by first | decide | omega)))⟩]
                          rfl) (by
                    first
                      | omega
                      | assumption
                      | exact fun h1 h2 => by
                          obtain ⟨g1, g2, g3⟩ := g2_1 h1 h2
                          refine ⟨by omega, by omega, g3.trans ?_⟩
                          rw [show (j + 1 - x3).toNat = (j + 1 - (x3 + 1)).toNat + 1 by omega, show (x3 + 1).toNat = x3.toNat + 1 by omega]
                          show (decide (M 60 (40 + x3.toNat) = 1 ∧ M 60 (52 + x3.toNat) ≠ 1 ∧ (x3.toNat < j.toNat → sd_py (M 60) x3.toNat)) && _) = _
                          rw [decide_eq_true ⟨by rw [← show (40 + x3).toNat = 40 + x3.toNat by omega]; omega, by rw [← show (52 + x3).toNat = 52 + x3.toNat by omega]; omega, fun z => (by
                            first
                              | exact absurd z (by first | decide | omega)
                              | exact (sd_py_i (by first | decide | omega)).mp (q30.2.mp (by first | decide | omega)))⟩]
                          rfl)
                · skip
                  refine And.intro (by first | decide | omega) ?_
                  refine And.intro rfl ?_
                  refine ⟨⟨Or.inl rfl, fun h1 h2 => ?_⟩, rfl⟩
                  obtain ⟨g1, g2, g3⟩ := g2_1 h1 h2
                  rw [g3, show (j + 1 - x3).toNat = (j + 1 - x3).toNat - 1 + 1 by omega]
                  refine (if_neg ?_).symm
                  show ¬ ((decide (M 60 (40 + x3.toNat) = 1 ∧ M 60 (52 + x3.toNat) ≠ 1 ∧ (x3.toNat < j.toNat → sd_py (M 60) x3.toNat)) && _) = true)
                  rw [decide_eq_false (fun z => (by
                    obtain ⟨z1, z2, z3⟩ := z
                    rw [← show (40 + x3).toNat = 40 + x3.toNat by omega] at z1
                    rw [← show (52 + x3).toNat = 52 + x3.toNat by omega] at z2
                    first
                      | omega
                      | (have y := q30.2.mpr ((sd_py_i (by first | decide | omega)).mpr (z3 (by first | decide | omega)))
                         omega)))]
                  exact Bool.false_ne_true
    refine hgo (fun p => Nat.beq p 2 || Nat.beq p 38) 28 0 _ [] M ?_
    exact L2 _ _ (Nat.lt_succ_self _) (by first | omega | assumption | exact fun h1 h2 => ⟨by omega, by omega, rfl⟩) (by first | omega | assumption | exact fun h1 h2 => ⟨by omega, by omega, rfl⟩)
theorem v3_X12_canMove {fr lo i : Nat} {own : String} (h1 : 1 + 1 ≤ fr) (h2 : 8 + (4 + 11) + 21 ≤ lo) (h3 : .methodLink own i yX12_canMove ∈ lw_tbl) : pz_cV fr lo own i k3_X12_canMove :=
  pz_cVk (maxL := 4) (fr' := 1) (lo' := 21) 2 12 h3_X12_canMove rfl ⟨(pz_nhc_RX12 yX12_canMove rfl).1, (pz_nhc_RX12 yX12_canMove rfl).2, pz_ds13⟩ ⟨pz_wq1572, pz_wq1571, pz_ws68, pz_wq13⟩ (Or.inl ⟨TX12, 28, rfl⟩) (fun a M _ h => by
    have h : (match (generalizing := false) a with | [.inr (.inr (12, th)), .inl i, .inl j] => pz_im M ∧ 0 ≤ i ∧ j < 12 | _ => False) := h
    split at h
    · exact ⟨_, _, rfl⟩
    · exact h.elim) h1 h2 h3
noncomputable def k3_X12_moves : pz_C := (1, 1, fun a M => (match a with | [.inr (.inr (12, th))] => pz_im M | _ => False), fun a M r M' => (match a, r with | [.inr (.inr (12, th))], some (.inl v) => (v = (sd_mv (sd_Tr M) (sd_bb (M 60)) (sd_n (M 60)) 12 0 (M 60) 0).2 ∧ M' 60 = (sd_mv (sd_Tr M) (sd_bb (M 60)) (sd_n (M 60)) 12 0 (M 60) 0).1) ∧ pz_rl pz_QD M M' | _, _ => False))
noncomputable abbrev ct3_X12_moves : List (Bool × Nat × pz_C) := [(true, 291, k3_X12_bridgedOnes), (true, 294, k3_X12_endOf), (true, 364, k3_X12_canMove), (true, 65, k3_X12_hasMoved), (true, 323, k3_X12_notes)]
set_option maxRecDepth 100000 in
set_option maxHeartbeats 4000000 in
theorem h3_X12_moves : pz_H yX12_moves cX12_moves 8 (some .int) k3_X12_moves 2 44 := by
  refine pz_mk (own := RX12) (tb := t_X12_moves) (fl := pz_flf fl_RX12) (ci := pz_cif ci_RX12) (ct := pz_ctf ct3_X12_moves) (rz := false) (pz_pfc_RX12 yX12_moves rfl) rfl t_X12_moves_ok (pz_flk fl_RX12_ok) (pz_cik ci_RX12_ok) ?_ ?_ (Or.inl ⟨rfl, rfl⟩) ?_ ?_
  · exact fun i k' h => pz_ctk (l := ct3_X12_moves) (P := fun b i k => b = true → pz_cV 2 44 RX12 i k) (List.forall_mem_cons.mpr ⟨(fun _ => v3_X12_bridgedOnes (by decide) (by decide) pz_wq1454), List.forall_mem_cons.mpr ⟨(fun _ => v3_X12_endOf (by decide) (by decide) pz_wq1458), List.forall_mem_cons.mpr ⟨(fun _ => v3_X12_canMove (by decide) (by decide) pz_wq1569), List.forall_mem_cons.mpr ⟨(fun _ => v3_X12_hasMoved (by decide) (by decide) pz_wq1423), List.forall_mem_cons.mpr ⟨(fun _ => v3_X12_notes (by decide) (by decide) pz_wq1483), fun _ h => absurd h List.not_mem_nil⟩⟩⟩⟩⟩) true i k' h rfl
  · exact fun i k' h => pz_ctk (l := ct3_X12_moves) (P := fun b i k => b = false → (pz_cS 2 44 RX12 i k ∨ (k = pz_kac ∧ 1 ≤ 2 ∧ 60 ≤ 44 ∧ Cond.methodLink RX12 i arraycopyName ∈ pz_tbl))) (List.forall_mem_cons.mpr ⟨((fun z => by cases z)), List.forall_mem_cons.mpr ⟨((fun z => by cases z)), List.forall_mem_cons.mpr ⟨((fun z => by cases z)), List.forall_mem_cons.mpr ⟨((fun z => by cases z)), List.forall_mem_cons.mpr ⟨((fun z => by cases z)), fun _ h => absurd h List.not_mem_nil⟩⟩⟩⟩⟩) false i k' h rfl
  · intro a M hlen hpre
    obtain ⟨th, rfl, hpre⟩ : ∃ th, a = [.inr (.inr (12, th))] ∧ (pz_im M) := by
      have hpre : (match (generalizing := false) a with | [.inr (.inr (12, th))] => pz_im M | _ => False) := hpre
      split at hpre
      · exact ⟨_, rfl, hpre⟩
      · exact hpre.elim
    exact Nat.le_of_ble_eq_true rfl
  · intro a M hlen hcan hM hpre Ok hgo
    obtain ⟨th, rfl, hpre⟩ : ∃ th, a = [.inr (.inr (12, th))] ∧ (pz_im M) := by
      have hpre : (match (generalizing := false) a with | [.inr (.inr (12, th))] => pz_im M | _ => False) := hpre
      split at hpre
      · exact ⟨_, rfl, hpre⟩
      · exact hpre.elim
    obtain ⟨k_th, hc_th⟩ := pz_tlm hcan
    have k_th : pz_kd th = 12 ∧ th < 231 := k_th
    have R_th := pz_kd12 k_th.1
    subst R_th
    clear k_th
    have hI : pz_im M := hpre
    have hI0 := hI
    have hS : pz_rl pz_QD M M := pz_rl.rf
    have I88 := hI.1.1
    have L9 : ∀ (fo : Nat) (x1 : Int) (x2 : Int) (x3 : Int) (d4 : Option pz_V) (d5 : Option pz_V) (d6 : Option pz_V) (d7 : Option pz_V) (N9 : pz_M), (12 - x3).toNat < fo → (pz_rl pz_QD M N9) → (0 ≤ x3) → (sd_mI (sd_Tr M) (M 60) (N9 60) x2 x3) → (pz_zs x1 (sd_bn (M 60))) → Ok 9 [some (.inr (.inr (12, 1))), some (.inl x1), some (.inl x2), some (.inl x3), d4, d5, d6, d7] [] N9 := by
      intro fo
      induction fo with
      | zero => exact fun _ _ _ _ _ _ _ _ hn => absurd hn (Nat.not_lt_zero _)
      | succ fo ih9 =>
        intro x1 x2 x3 d4 d5 d6 d7 N9 hn9 hS g9_1 g9_2 g9_3
        have hI : pz_im N9 := hS.1 hI0
        have F88 : N9 60 88 = M 60 88 := hS.2 60 88 (by unfold pz_QD; first | decide | omega)
        have I88 := hI0.1.1
        have L61 : ∀ (fu : Nat) (x1 : Int) (x2 : Int) (x3 : Int) (x4 : Int) (x5 : Int) (x6 : Int) (x7 : Int) (N61 : pz_M), (12 - x7).toNat < fu → (pz_rl pz_QD M N61) → (0 ≤ x7) → (0 ≤ x3) → (x3 < M 60 88) → (M 60 88 ≤ 12) → (x4 < 12) → ((x5 = 1 ∧ x4 = M 60 88 - 1) ∨ (x5 = 0 ∧ x3 < x4)) → ((12 - x3).toNat < fo + 1) → (x3 ≤ x7) → (x3 ≤ x4) → (sd_mJ (sd_Tr M) (M 60) (N61 60) x2 x3 x4 x7 x6 (decide (x5 = 1))) → (pz_zs x1 (sd_bn (M 60))) → Ok 61 [some (.inr (.inr (12, 1))), some (.inl x1), some (.inl x2), some (.inl x3), some (.inl x4), some (.inl x5), some (.inl x6), some (.inl x7)] [] N61 := by
          intro fu
          induction fu with
          | zero => exact fun _ _ _ _ _ _ _ _ hn => absurd hn (Nat.not_lt_zero _)
          | succ fu ih61 =>
            intro x1 x2 x3 x4 x5 x6 x7 N61 hn61 hS g61_1 g61_2 g61_3 g61_4 g61_5 g61_6 g61_7 g61_8 g61_9 g61_10 g61_11
            have hI : pz_im N61 := hS.1 hI0
            have F88 : N61 60 88 = M 60 88 := hS.2 60 88 (by unfold pz_QD; first | decide | omega)
            have I88 := hI0.1.1
            have hS61 := hS
            have L124 : ∀ (x1 : Int) (x2 : Int) (x3 : Int) (x4 : Int) (x5 : Int) (x6 : Int) (x7 : Int) (N124 : pz_M), (pz_rl pz_QD M N124) → (0 ≤ x7) → (x7 < 12) → (0 ≤ x3) → (x3 < M 60 88) → (M 60 88 ≤ 12) → (x4 < 12) → ((x5 = 1 ∧ x4 = M 60 88 - 1) ∨ (x5 = 0 ∧ x3 < x4)) → ((12 - x3).toNat < fo + 1) → ((12 - x7).toNat < fu + 1) → (x3 ≤ x7) → (x3 ≤ x4) → (x7 ≤ x4) → (sd_mJ (sd_Tr M) (M 60) (N124 60) x2 x3 x4 (x7 + 1) x6 (decide (x5 = 1))) → (pz_zs x1 (sd_bn (M 60))) → Ok 124 [some (.inr (.inr (12, 1))), some (.inl x1), some (.inl x2), some (.inl x3), some (.inl x4), some (.inl x5), some (.inl x6), some (.inl x7)] [] N124 := by
              intro x1 x2 x3 x4 x5 x6 x7 N124 hS g124_1 g124_2 g124_3 g124_4 g124_5 g124_6 g124_7 g124_8 g124_9 g124_10 g124_11 g124_12 g124_13 g124_14
              have hI : pz_im N124 := hS.1 hI0
              have F88 : N124 60 88 = M 60 88 := hS.2 60 88 (by unfold pz_QD; first | decide | omega)
              have I88 := hI0.1.1
              refine hgo (fun p => Nat.beq p 9 || Nat.beq p 61 || Nat.beq p 124) 84 124 _ _ _ ?_
              intro v124 e124 a124 b124
              rw [pz_wi (by first | decide | omega) (by first | decide | omega)] at e124
              have G124 : sd_mJ (sd_Tr M) (M 60) (N124 60) x2 x3 x4 v124 x6 (decide (x5 = 1)) := by
                rw [e124]
                exact g124_13
              exact ih61 _ _ _ _ _ _ _ _ (by first | decide | omega) hS (by first | omega | assumption) (by first | omega | assumption) (by first | omega | assumption) (by first | omega | assumption) (by first | omega | assumption) (by first | omega | assumption) (by first | omega | assumption) (by first | omega | assumption) (by first | omega | assumption) (by first | omega | assumption) (by first | omega | assumption)
            refine hgo (fun p => Nat.beq p 9 || Nat.beq p 61 || Nat.beq p 124) 84 61 _ _ _ ?_
            refine And.intro (fun h65 => ?_) (fun h65 => ?_)
            · skip
              refine And.intro (fun h132 => ?_) (fun h132 => ?_)
              · skip
                have n9 : (sd_n (M 60) : Int) = M 60 88 := by
                  unfold sd_n
                  omega
                have G132 : sd_mI (sd_Tr M) (M 60) (N61 60) x2 x4 := sd_mJ_e g61_10 ⟨by omega, by omega⟩ (by first | decide | omega) (Or.inl (by first | decide | omega)) (Or.inr ⟨decide_eq_false (by first | decide | omega), rfl⟩) n9
                exact ih9 _ _ _ _ _ _ _ _ (by first | decide | omega) hS (by first | omega | assumption | exact sd_mI_0 (by first | decide | omega)) (by first | omega | assumption | exact sd_mI_0 (by first | decide | omega)) (by first | omega | assumption | exact sd_mI_0 (by first | decide | omega))
              · skip
                skip
                refine pz_nrc (c := 60) rfl ?_
                refine And.intro (by first | decide | omega) (And.intro (show _ < (1725 : Int) from by omega) ?_)
                intro v141 e141 a141 b141
                replace e141 : v141 = N61 60 88 := e141
                have I141 : 0 ≤ v141 ∧ v141 ≤ 12 := by
                  rw [e141]
                  exact hI.1.1
                clear a141 b141
                have n9 : (sd_n (M 60) : Int) = M 60 88 := by
                  unfold sd_n
                  omega
                have G141 : sd_mI (sd_Tr M) (M 60) (N61 60) x2 v141 := sd_mJ_e g61_10 ⟨by omega, by omega⟩ (by first | decide | omega) (Or.inr (decide_eq_true (by first | decide | omega))) (Or.inl ⟨decide_eq_true (by first | decide | omega), by omega⟩) n9
                exact ih9 _ _ _ _ _ _ _ _ (by first | decide | omega) hS (by first | omega | assumption | exact sd_mI_0 (by first | decide | omega)) (by first | omega | assumption | exact sd_mI_0 (by first | decide | omega)) (by first | omega | assumption | exact sd_mI_0 (by first | decide | omega))
            · skip
              refine And.intro (fun h70 => ?_) (fun h70 => ?_)
              · skip
                refine And.intro (fun h132 => ?_) (fun h132 => ?_)
                · skip
                  have n9 : (sd_n (M 60) : Int) = M 60 88 := by
                    unfold sd_n
                    omega
                  have G132 : sd_mI (sd_Tr M) (M 60) (N61 60) x2 x4 := sd_mJ_e g61_10 ⟨by omega, by omega⟩ (by first | decide | omega) (Or.inl (by first | decide | omega)) (Or.inr ⟨decide_eq_false (by first | decide | omega), rfl⟩) n9
                  exact ih9 _ _ _ _ _ _ _ _ (by first | decide | omega) hS (by first | omega | assumption | exact sd_mI_0 (by first | decide | omega)) (by first | omega | assumption | exact sd_mI_0 (by first | decide | omega)) (by first | omega | assumption | exact sd_mI_0 (by first | decide | omega))
                · skip
                  skip
                  refine pz_nrc (c := 60) rfl ?_
                  refine And.intro (by first | decide | omega) (And.intro (show _ < (1725 : Int) from by omega) ?_)
                  intro v141 e141 a141 b141
                  replace e141 : v141 = N61 60 88 := e141
                  have I141 : 0 ≤ v141 ∧ v141 ≤ 12 := by
                    rw [e141]
                    exact hI.1.1
                  clear a141 b141
                  have n9 : (sd_n (M 60) : Int) = M 60 88 := by
                    unfold sd_n
                    omega
                  have G141 : sd_mI (sd_Tr M) (M 60) (N61 60) x2 v141 := sd_mJ_e g61_10 ⟨by omega, by omega⟩ (by first | decide | omega) (Or.inr (decide_eq_true (by first | decide | omega))) (Or.inl ⟨decide_eq_true (by first | decide | omega), by omega⟩) n9
                  exact ih9 _ _ _ _ _ _ _ _ (by first | decide | omega) hS (by first | omega | assumption | exact sd_mI_0 (by first | decide | omega)) (by first | omega | assumption | exact sd_mI_0 (by first | decide | omega)) (by first | omega | assumption | exact sd_mI_0 (by first | decide | omega))
              · skip
                refine And.intro (And.intro hI (And.intro (by first | decide | omega) (by first | decide | omega))) ?_
                intro v76 M76 a76 b76 q76
                obtain ⟨q76, z76⟩ := q76
                subst z76
                clear a76 b76
                refine And.intro (fun h79 => ?_) (fun h79 => ?_)
                · skip
                  have G79 : sd_mJ (sd_Tr M) (M 60) (N61 60) x2 x3 x4 (x7 + 1) x6 (decide (x5 = 1)) := sd_mJ_n g61_10 ⟨by omega, by omega⟩ rfl (fun z => by
                    have z1 := z.1
                    rw [← show (76 + x7).toNat = 76 + x7.toNat by omega] at z1
                    omega)
                  replace q76 := q76.resolve_right (fun z => h79 z.1)
                  clear h79
                  exact L124 _ _ _ _ _ _ _ _ hS (by first | omega | assumption) (by first | omega | assumption) (by first | omega | assumption) (by first | omega | assumption) (by first | omega | assumption) (by first | omega | assumption) (by first | omega | assumption) (by first | omega | assumption) (by first | omega | assumption) (by first | omega | assumption) (by first | omega | assumption) (by first | omega | assumption) (by first | omega | assumption) (by first | omega | assumption)
                · skip
                  skip
                  replace q76 := q76.resolve_left (fun z => absurd (z.1.symm.trans h79) (by decide))
                  clear h79
                  refine And.intro (fun h86 => ?_) (fun h86 => ?_)
                  · skip
                    refine pz_nrc (c := 60) rfl ?_
                    intro v105 e105 a105 b105
                    rw [pz_wi (by first | decide | omega) (by first | decide | omega)] at e105
                    clear a105 b105
                    refine pz_nrc (c := 60) rfl ?_
                    refine And.intro (by first | decide | omega) (And.intro (show _ < (1725 : Int) from by omega) ?_)
                    intro v111 e111 a111 b111
                    replace e111 : v111 = N61 60 0 := e111
                    have lo112 : (0 : Int) ≤ v105 := by omega
                    have tn112 : (((v105).toNat : Nat) : Int) = v105 := Int.toNat_of_nonneg lo112
                    refine And.intro (lo112) (And.intro (show _ < (1725 : Int) from by omega) ?_)
                    intro M112 e112
                    have hS : pz_rl pz_QD M M112 := by
                      rw [e112]
                      exact pz_rl_u hS (by unfold pz_QD; first | decide | omega) (pz_iom_w1 (by first | decide | omega) (by first | decide | omega))
                    have hI : pz_im M112 := hS.1 hI0
                    refine And.intro (hI) ?_
                    intro M118 q118
                    obtain ⟨q118, z118⟩ := q118
                    have hS : pz_rl pz_QD M M118 := hS.tr z118
                    have hI : pz_im M118 := hS.1 hI0
                    intro v121 e121 a121 b121
                    have T112 : sd_Tr M112 = sd_Tr M := by
                      unfold sd_Tr
                      rw [e112, pz_una (by decide), hS61.2 1 26 (by unfold pz_QD; first | decide | omega)]
                    have W118 : M118 60 = sd_note (sd_Tr M) (sd_u (N61 60) (76 + x7.toNat) (N61 60 0)) 5 ((x7.toNat : Nat) : Int) 0 := by
                      rw [q118, T112, e112, sd_um, e111, show v105.toNat = 76 + x7.toNat by omega, show ((x7.toNat : Nat) : Int) = x7 by omega]
                    have G121 : sd_mJ (sd_Tr M) (M 60) (M118 60) v121 x3 x4 (x7 + 1) x6 (decide (x5 = 1)) := by
                      rw [W118]
                      exact sd_mJ_y g61_10 ⟨by omega, by omega⟩ (by first | decide | omega) (by first | decide | omega) rfl e121 ⟨by rw [← show (76 + x7).toNat = 76 + x7.toNat by omega]; omega, fun z => decide_eq_true (by first | decide | omega)⟩
                    exact L124 _ _ _ _ _ _ _ _ hS (by first | omega | assumption) (by first | omega | assumption) (by first | omega | assumption) (by first | omega | assumption) (by first | omega | assumption) (by first | omega | assumption) (by first | omega | assumption) (by first | omega | assumption) (by first | omega | assumption) (by first | omega | assumption) (by first | omega | assumption) (by first | omega | assumption) (by first | omega | assumption) (by first | omega | assumption)
                  · skip
                    refine And.intro (fun h91 => ?_) (fun h91 => ?_)
                    · skip
                      skip
                      refine pz_nrc (c := 60) rfl ?_
                      intro v105 e105 a105 b105
                      rw [pz_wi (by first | decide | omega) (by first | decide | omega)] at e105
                      clear a105 b105
                      refine pz_nrc (c := 60) rfl ?_
                      refine And.intro (by first | decide | omega) (And.intro (show _ < (1725 : Int) from by omega) ?_)
                      intro v111 e111 a111 b111
                      replace e111 : v111 = N61 60 0 := e111
                      have lo112 : (0 : Int) ≤ v105 := by omega
                      have tn112 : (((v105).toNat : Nat) : Int) = v105 := Int.toNat_of_nonneg lo112
                      refine And.intro (lo112) (And.intro (show _ < (1725 : Int) from by omega) ?_)
                      intro M112 e112
                      have hS : pz_rl pz_QD M M112 := by
                        rw [e112]
                        exact pz_rl_u hS (by unfold pz_QD; first | decide | omega) (pz_iom_w1 (by first | decide | omega) (by first | decide | omega))
                      have hI : pz_im M112 := hS.1 hI0
                      refine And.intro (hI) ?_
                      intro M118 q118
                      obtain ⟨q118, z118⟩ := q118
                      have hS : pz_rl pz_QD M M118 := hS.tr z118
                      have hI : pz_im M118 := hS.1 hI0
                      intro v121 e121 a121 b121
                      have T112 : sd_Tr M112 = sd_Tr M := by
                        unfold sd_Tr
                        rw [e112, pz_una (by decide), hS61.2 1 26 (by unfold pz_QD; first | decide | omega)]
                      have W118 : M118 60 = sd_note (sd_Tr M) (sd_u (N61 60) (76 + x7.toNat) (N61 60 0)) 5 ((x7.toNat : Nat) : Int) 0 := by
                        rw [q118, T112, e112, sd_um, e111, show v105.toNat = 76 + x7.toNat by omega, show ((x7.toNat : Nat) : Int) = x7 by omega]
                      have G121 : sd_mJ (sd_Tr M) (M 60) (M118 60) v121 x3 x4 (x7 + 1) x6 (decide (x5 = 1)) := by
                        rw [W118]
                        exact sd_mJ_y g61_10 ⟨by omega, by omega⟩ (by first | decide | omega) (by first | decide | omega) rfl e121 ⟨by rw [← show (76 + x7).toNat = 76 + x7.toNat by omega]; omega, fun z => decide_eq_true (by first | decide | omega)⟩
                      exact L124 _ _ _ _ _ _ _ _ hS (by first | omega | assumption) (by first | omega | assumption) (by first | omega | assumption) (by first | omega | assumption) (by first | omega | assumption) (by first | omega | assumption) (by first | omega | assumption) (by first | omega | assumption) (by first | omega | assumption) (by first | omega | assumption) (by first | omega | assumption) (by first | omega | assumption) (by first | omega | assumption) (by first | omega | assumption)
                    · skip
                      have G91 : sd_mJ (sd_Tr M) (M 60) (N61 60) x2 x3 x4 (x7 + 1) x6 (decide (x5 = 1)) := sd_mJ_n g61_10 ⟨by omega, by omega⟩ rfl (fun z => absurd (z.2 (by first | decide | omega)) (by rw [decide_eq_false (by first | decide | omega)]; decide))
                      exact L124 _ _ _ _ _ _ _ _ hS (by first | omega | assumption) (by first | omega | assumption) (by first | omega | assumption) (by first | omega | assumption) (by first | omega | assumption) (by first | omega | assumption) (by first | omega | assumption) (by first | omega | assumption) (by first | omega | assumption) (by first | omega | assumption) (by first | omega | assumption) (by first | omega | assumption) (by first | omega | assumption) (by first | omega | assumption)
        refine hgo (fun p => Nat.beq p 9 || Nat.beq p 61 || Nat.beq p 124) 84 9 _ _ _ ?_
        refine pz_nrc (c := 60) rfl ?_
        refine And.intro (by first | decide | omega) (And.intro (show _ < (1725 : Int) from by omega) ?_)
        intro v16 e16 a16 b16
        replace e16 : v16 = N9 60 88 := e16
        have I16 : 0 ≤ v16 ∧ v16 ≤ 12 := by
          rw [e16]
          exact hI.1.1
        clear a16 b16
        refine And.intro (fun h17 => ?_) (fun h17 => ?_)
        · skip
          refine And.intro rfl ?_
          have n9 : (sd_n (M 60) : Int) = M 60 88 := by
            unfold sd_n
            omega
          have z := sd_mI_z g9_2 (by first | decide | omega)
          refine ⟨?_, hS⟩
          rw [← z]
          exact ⟨rfl, rfl⟩
        · skip
          refine And.intro (And.intro hI (And.intro (by first | decide | omega) (by first | decide | omega))) ?_
          intro v23 M23 a23 b23 q23
          obtain ⟨q23, z23⟩ := q23
          subst z23
          have E23 : v23 = (sd_end (sd_bb (M 60)) (sd_n (M 60)) x3.toNat : Int) := by
            rw [q23.2 _ g9_3 (by first | decide | omega) (by first | decide | omega), F88, sd_end_bn]
            rfl
          refine pz_nrc (c := 60) rfl ?_
          refine And.intro (by first | decide | omega) (And.intro (show _ < (1725 : Int) from by omega) ?_)
          intro v36 e36 a36 b36
          replace e36 : v36 = N9 60 88 := e36
          have I36 : 0 ≤ v36 ∧ v36 ≤ 12 := by
            rw [e36]
            exact hI.1.1
          clear a36 b36
          intro v38 e38 a38 b38
          rw [pz_wi (by first | decide | omega) (by first | decide | omega)] at e38
          clear a38 b38
          refine And.intro (fun h39 => ?_) (fun h39 => ?_)
          · skip
            refine And.intro (And.intro hI (And.intro (by first | decide | omega) (by first | decide | omega))) ?_
            intro v53 M53 a53 b53 q53
            obtain ⟨q53, z53⟩ := q53
            subst z53
            have E53 := q53.2 (by first | decide | omega) (by first | decide | omega)
            have n9 : (sd_n (M 60) : Int) = M 60 88 := by
              unfold sd_n
              omega
            first
              | (have G53 : sd_mJ (sd_Tr M) (M 60) (N9 60) x2 x3 v23 x3 v53 (decide ((1 : Int) = 1)) := sd_mJ_0 g9_2 (by first | decide | omega) (by first | decide | omega) E23 (by rw [decide_eq_true (rfl : (1 : Int) = 1)]; exact (decide_eq_true (by first | decide | omega)).symm) E53)
              | (have G53 : sd_mJ (sd_Tr M) (M 60) (N9 60) x2 x3 v23 x3 v53 (decide ((0 : Int) = 1)) := sd_mJ_0 g9_2 (by first | decide | omega) (by first | decide | omega) E23 (by rw [decide_eq_false (show ¬ (0 : Int) = 1 by decide)]; exact (decide_eq_false (by first | decide | omega)).symm) E53)
            exact L61 _ _ _ _ _ _ _ _ _ (Nat.lt_succ_self _) hS (by first | omega | assumption) (by first | omega | assumption) (by first | omega | assumption) (by first | omega | assumption) (by first | omega | assumption) (by first | omega | assumption) (by first | omega | assumption) (by first | omega | assumption) (by first | omega | assumption) (by first | omega | assumption) (by first | omega | assumption)
          · skip
            refine And.intro (And.intro hI (And.intro (by first | decide | omega) (by first | decide | omega))) ?_
            intro v53 M53 a53 b53 q53
            obtain ⟨q53, z53⟩ := q53
            subst z53
            have E53 := q53.2 (by first | decide | omega) (by first | decide | omega)
            have n9 : (sd_n (M 60) : Int) = M 60 88 := by
              unfold sd_n
              omega
            first
              | (have G53 : sd_mJ (sd_Tr M) (M 60) (N9 60) x2 x3 v23 x3 v53 (decide ((1 : Int) = 1)) := sd_mJ_0 g9_2 (by first | decide | omega) (by first | decide | omega) E23 (by rw [decide_eq_true (rfl : (1 : Int) = 1)]; exact (decide_eq_true (by first | decide | omega)).symm) E53)
              | (have G53 : sd_mJ (sd_Tr M) (M 60) (N9 60) x2 x3 v23 x3 v53 (decide ((0 : Int) = 1)) := sd_mJ_0 g9_2 (by first | decide | omega) (by first | decide | omega) E23 (by rw [decide_eq_false (show ¬ (0 : Int) = 1 by decide)]; exact (decide_eq_false (by first | decide | omega)).symm) E53)
            exact L61 _ _ _ _ _ _ _ _ _ (Nat.lt_succ_self _) hS (by first | omega | assumption) (by first | omega | assumption) (by first | omega | assumption) (by first | omega | assumption) (by first | omega | assumption) (by first | omega | assumption) (by first | omega | assumption) (by first | omega | assumption) (by first | omega | assumption) (by first | omega | assumption) (by first | omega | assumption)
    refine hgo (fun p => Nat.beq p 9 || Nat.beq p 61 || Nat.beq p 124) 84 0 _ [] M ?_
    refine And.intro (hI) ?_
    intro v1 M1 a1 b1 q1
    obtain ⟨q1, z1⟩ := q1
    subst z1
    skip
    exact L9 _ _ _ _ _ _ _ _ _ (Nat.lt_succ_self _) hS (by first | omega | assumption | exact sd_mI_0 (by first | decide | omega)) (by first | omega | assumption | exact sd_mI_0 (by first | decide | omega)) (by first | omega | assumption | exact sd_mI_0 (by first | decide | omega))
theorem v3_X12_moves {fr lo i : Nat} {own : String} (h1 : 2 + 1 ≤ fr) (h2 : 8 + (8 + 11) + 44 ≤ lo) (h3 : .methodLink own i yX12_moves ∈ lw_tbl) : pz_cV fr lo own i k3_X12_moves :=
  pz_cVk (maxL := 8) (fr' := 2) (lo' := 44) 0 12 h3_X12_moves rfl ⟨(pz_nhc_RX12 yX12_moves rfl).1, (pz_nhc_RX12 yX12_moves rfl).2, pz_ds1⟩ ⟨pz_wq1568, pz_wq1567, pz_ws67, pz_wq13⟩ (Or.inl ⟨TX12, 28, rfl⟩) (fun a M _ h => by
    have h : (match (generalizing := false) a with | [.inr (.inr (12, th))] => pz_im M | _ => False) := h
    split at h
    · exact ⟨_, _, rfl⟩
    · exact h.elim) h1 h2 h3
end
