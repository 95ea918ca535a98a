noncomputable def k_X12_told : pz_C := (5, 1, fun a M => (match a with | [.inr (.inr (12, th)), .inl x, .inl t, .inl y, .inl z] => pz_im M ∧ 0 ≤ x ∧ x < 80 | _ => False), fun a M r M' => (match a, r with | [.inr (.inr (12, th)), .inl x, .inl t, .inl y, .inl z], some (.inl v) => (((∀ j : Nat, j ≠ x.toNat → M' 66 j = M 66 j) ∧ (v = 0 ∨ (v = 1 ∧ y ≤ M' 66 x.toNat ∧ M' 66 x.toNat ≤ z))) ∧ pq_wb x.toNat t y z M M' v) ∧ pz_rl pz_Q8 M M' | _, _ => False))
noncomputable abbrev ct_X12_told : List (Bool × Nat × pz_C) := [(true, 223, k_X12_need), (true, 235, k_X12_number)]
set_option maxRecDepth 100000 in
set_option maxHeartbeats 4000000 in
theorem h_X12_told : pz_H yX12_told cX12_told 5 (some .boolean) k_X12_told 10 213 := by
  refine pz_mk (own := RX12) (tb := t_X12_told) (fl := pz_flf fl_RX12) (ci := pz_cif ci_RX12) (ct := pz_ctf ct_X12_told) (rz := true) (pz_pfc_RX12 yX12_told rfl) rfl t_X12_told_ok (pz_flk fl_RX12_ok) (pz_cik ci_RX12_ok) ?_ ?_ (Or.inr ⟨rfl, rfl⟩) ?_ ?_
  · exact fun i k' h => pz_ctk (l := ct_X12_told) (P := fun b i k => b = true → pz_cV 10 213 RX12 i k) (List.forall_mem_cons.mpr ⟨(fun _ => v_X12_need (by decide) (by decide) pz_wq1347), List.forall_mem_cons.mpr ⟨(fun _ => v_X12_number (by decide) (by decide) pz_wq1367), fun _ h => absurd h List.not_mem_nil⟩⟩) true i k' h rfl
  · exact fun i k' h => pz_ctk (l := ct_X12_told) (P := fun b i k => b = false → (pz_cS 10 213 RX12 i k ∨ (k = pz_kac ∧ 1 ≤ 10 ∧ 60 ≤ 213 ∧ Cond.methodLink RX12 i arraycopyName ∈ pz_tbl))) (List.forall_mem_cons.mpr ⟨((fun z => by cases z)), List.forall_mem_cons.mpr ⟨((fun z => by cases z)), fun _ h => absurd h List.not_mem_nil⟩⟩) false i k' h rfl
  · intro a M hlen hpre
    obtain ⟨th, x, t, y, z, rfl, hpre⟩ : ∃ th x t y z, a = [.inr (.inr (12, th)), .inl x, .inl t, .inl y, .inl z] ∧ (pz_im M ∧ 0 ≤ x ∧ x < 80) := by
      have hpre : (match (generalizing := false) a with | [.inr (.inr (12, th)), .inl x, .inl t, .inl y, .inl z] => pz_im M ∧ 0 ≤ x ∧ x < 80 | _ => False) := hpre
      split at hpre
      · exact ⟨_, _, _, _, _, rfl, hpre⟩
      · exact hpre.elim
    exact Nat.le_of_ble_eq_true rfl
  · intro a M hlen hcan hM hpre Ok hgo
    obtain ⟨th, x, t, y, z, rfl, hpre⟩ : ∃ th x t y z, a = [.inr (.inr (12, th)), .inl x, .inl t, .inl y, .inl z] ∧ (pz_im M ∧ 0 ≤ x ∧ x < 80) := by
      have hpre : (match (generalizing := false) a with | [.inr (.inr (12, th)), .inl x, .inl t, .inl y, .inl z] => pz_im M ∧ 0 ≤ x ∧ x < 80 | _ => False) := hpre
      split at hpre
      · exact ⟨_, _, _, _, _, rfl, hpre⟩
      · exact hpre.elim
    obtain ⟨k_th, hc_th⟩ := pz_tlm hcan
    have k_th : pz_kd th = 12 ∧ th < 231 := k_th
    have R_th := pz_kd12 k_th.1
    subst R_th
    clear k_th
    obtain ⟨k_x, hc_x⟩ := pz_tlm hc_th
    have l_x : -2147483648 ≤ x := k_x.1
    have u_x : x ≤ 2147483647 := k_x.2
    obtain ⟨k_t, hc_t⟩ := pz_tlm hc_x
    have l_t : -2147483648 ≤ t := k_t.1
    have u_t : t ≤ 2147483647 := k_t.2
    obtain ⟨k_y, hc_y⟩ := pz_tlm hc_t
    have l_y : -2147483648 ≤ y := k_y.1
    have u_y : y ≤ 2147483647 := k_y.2
    obtain ⟨k_z, hc_z⟩ := pz_tlm hc_y
    have l_z : -2147483648 ≤ z := k_z.1
    have u_z : z ≤ 2147483647 := k_z.2
    have hI : pz_im M := hpre.1
    have hI0 := hI
    have hS : pz_rl pz_Q8 M M := pz_rl.rf
    refine hgo (fun _ => false) 16 0 _ [] M ?_
    refine And.intro (hI) ?_
    intro v2 M2 a2 b2 q2
    obtain ⟨q2, z2⟩ := q2
    have hS : pz_rl pz_Q8 M M2 := hS.tr (pz_rl.wk pz_wk_Q0_Q8 z2)
    have hI : pz_im M2 := hS.1 hI0
    obtain ⟨q2, s2⟩ := q2
    have f2 := pz_q0f z2
    obtain ⟨f2a, f2b, f2c⟩ := f2
    refine And.intro (fun h5 => ?_) (fun h5 => ?_)
    · skip
      refine And.intro (by omega) ?_
      refine And.intro rfl ?_
      first
        | (have k9 : v13 = 1 := (q13.2.resolve_left h16).1
           exact ⟨⟨⟨fun j hj => (q13.1 j hj).trans (z2.2 66 j (by unfold pz_Q0; omega)), Or.inr ⟨rfl, (q13.2.resolve_left h16).2⟩⟩, by rw [← k9]; exact pq_wb_y (q2.resolve_left h5).2.1 z2 (s2.resolve_right (fun y => h5 y.1)).2 s13⟩, hS⟩)
        | (have k9 : v13 = 0 := h16
           exact ⟨⟨⟨fun j hj => (q13.1 j hj).trans (z2.2 66 j (by unfold pz_Q0; omega)), Or.inl rfl⟩, by rw [← k9]; exact pq_wb_y (q2.resolve_left h5).2.1 z2 (s2.resolve_right (fun y => h5 y.1)).2 s13⟩, hS⟩)
        | (have n9 := (s2.resolve_left (fun y => absurd (y.1.symm.trans h5) (by decide))).2
           exact ⟨⟨⟨fun j _ => z2.2 66 j (by unfold pz_Q0; omega), Or.inl rfl⟩, pq_wb_n rfl n9.1 n9.2.1 n9.2.2⟩, hS⟩)
    · skip
      refine And.intro (And.intro hI (And.intro (by omega) (by omega))) ?_
      intro v13 M13 a13 b13 q13
      obtain ⟨q13, z13⟩ := q13
      have hS : pz_rl pz_Q8 M M13 := hS.tr z13
      have hI : pz_im M13 := hS.1 hI0
      obtain ⟨q13, s13⟩ := q13
      refine And.intro (fun h16 => ?_) (fun h16 => ?_)
      · skip
        refine And.intro (by omega) ?_
        refine And.intro rfl ?_
        first
          | (have k9 : v13 = 1 := (q13.2.resolve_left h16).1
             exact ⟨⟨⟨fun j hj => (q13.1 j hj).trans (z2.2 66 j (by unfold pz_Q0; omega)), Or.inr ⟨rfl, (q13.2.resolve_left h16).2⟩⟩, by rw [← k9]; exact pq_wb_y (q2.resolve_left h5).2.1 z2 (s2.resolve_right (fun y => h5 y.1)).2 s13⟩, hS⟩)
          | (have k9 : v13 = 0 := h16
             exact ⟨⟨⟨fun j hj => (q13.1 j hj).trans (z2.2 66 j (by unfold pz_Q0; omega)), Or.inl rfl⟩, by rw [← k9]; exact pq_wb_y (q2.resolve_left h5).2.1 z2 (s2.resolve_right (fun y => h5 y.1)).2 s13⟩, hS⟩)
          | (have n9 := (s2.resolve_left (fun y => absurd (y.1.symm.trans h5) (by decide))).2
             exact ⟨⟨⟨fun j _ => z2.2 66 j (by unfold pz_Q0; omega), Or.inl rfl⟩, pq_wb_n rfl n9.1 n9.2.1 n9.2.2⟩, hS⟩)
      · skip
        refine And.intro (by omega) ?_
        refine And.intro rfl ?_
        first
          | (have k9 : v13 = 1 := (q13.2.resolve_left h16).1
             exact ⟨⟨⟨fun j hj => (q13.1 j hj).trans (z2.2 66 j (by unfold pz_Q0; omega)), Or.inr ⟨rfl, (q13.2.resolve_left h16).2⟩⟩, by rw [← k9]; exact pq_wb_y (q2.resolve_left h5).2.1 z2 (s2.resolve_right (fun y => h5 y.1)).2 s13⟩, hS⟩)
          | (have k9 : v13 = 0 := h16
             exact ⟨⟨⟨fun j hj => (q13.1 j hj).trans (z2.2 66 j (by unfold pz_Q0; omega)), Or.inl rfl⟩, by rw [← k9]; exact pq_wb_y (q2.resolve_left h5).2.1 z2 (s2.resolve_right (fun y => h5 y.1)).2 s13⟩, hS⟩)
          | (have n9 := (s2.resolve_left (fun y => absurd (y.1.symm.trans h5) (by decide))).2
             exact ⟨⟨⟨fun j _ => z2.2 66 j (by unfold pz_Q0; omega), Or.inl rfl⟩, pq_wb_n rfl n9.1 n9.2.1 n9.2.2⟩, hS⟩)
theorem v_X12_told {fr lo i : Nat} {own : String} (h1 : 10 + 1 ≤ fr) (h2 : 8 + (5 + 11) + 213 ≤ lo) (h3 : .methodLink own i yX12_told ∈ lw_tbl) : pz_cV fr lo own i k_X12_told :=
  pz_cVk (maxL := 5) (fr' := 10) (lo' := 213) 4 12 h_X12_told rfl ⟨(pz_nhc_RX12 yX12_told rfl).1, (pz_nhc_RX12 yX12_told rfl).2, pz_ds20⟩ ⟨pz_wq1366, pz_wq1365, pz_ws28, pz_wq13⟩ (Or.inl ⟨TX12, 28, rfl⟩) (fun a M _ h => by
    have h : (match (generalizing := false) a with | [.inr (.inr (12, th)), .inl x, .inl t, .inl y, .inl z] => pz_im M ∧ 0 ≤ x ∧ x < 80 | _ => False) := h
    split at h
    · exact ⟨_, _, rfl⟩
    · exact h.elim) h1 h2 h3
noncomputable def k_X12_aLink : pz_C := (2, 1, fun a M => (match a with | [.inr (.inr (12, th)), .inl x] => pz_im M ∧ 0 ≤ x ∧ x < 80 | _ => False), fun a M r M' => (match a, r with | [.inr (.inr (12, th)), .inl x], some (.inl v) => (((∀ j : Nat, j ≠ x.toNat → M' 66 j = M 66 j) ∧ (v = 0 ∨ (v = 1 ∧ 0 ≤ M' 66 x.toNat ∧ M' 66 x.toNat ≤ 11))) ∧ pq_nb x.toNat 0 (M 60 88 - 1) M M' v) ∧ pz_rl pz_Q8 M M' | _, _ => False))
noncomputable abbrev ct_X12_aLink : List (Bool × Nat × pz_C) := [(true, 235, k_X12_number)]
set_option maxRecDepth 100000 in
set_option maxHeartbeats 4000000 in
theorem h_X12_aLink : pz_H yX12_aLink cX12_aLink 2 (some .boolean) k_X12_aLink 10 213 := by
  refine pz_mk (own := RX12) (tb := t_X12_aLink) (fl := pz_flf fl_RX12) (ci := pz_cif ci_RX12) (ct := pz_ctf ct_X12_aLink) (rz := true) (pz_pfc_RX12 yX12_aLink rfl) rfl t_X12_aLink_ok (pz_flk fl_RX12_ok) (pz_cik ci_RX12_ok) ?_ ?_ (Or.inr ⟨rfl, rfl⟩) ?_ ?_
  · exact fun i k' h => pz_ctk (l := ct_X12_aLink) (P := fun b i k => b = true → pz_cV 10 213 RX12 i k) (List.forall_mem_cons.mpr ⟨(fun _ => v_X12_number (by decide) (by decide) pz_wq1367), fun _ h => absurd h List.not_mem_nil⟩) true i k' h rfl
  · exact fun i k' h => pz_ctk (l := ct_X12_aLink) (P := fun b i k => b = false → (pz_cS 10 213 RX12 i k ∨ (k = pz_kac ∧ 1 ≤ 10 ∧ 60 ≤ 213 ∧ Cond.methodLink RX12 i arraycopyName ∈ pz_tbl))) (List.forall_mem_cons.mpr ⟨((fun z => by cases z)), fun _ h => absurd h List.not_mem_nil⟩) false i k' h rfl
  · intro a M hlen hpre
    obtain ⟨th, x, rfl, hpre⟩ : ∃ th x, a = [.inr (.inr (12, th)), .inl x] ∧ (pz_im M ∧ 0 ≤ x ∧ x < 80) := by
      have hpre : (match (generalizing := false) a with | [.inr (.inr (12, th)), .inl x] => pz_im M ∧ 0 ≤ x ∧ x < 80 | _ => False) := hpre
      split at hpre
      · exact ⟨_, _, rfl, hpre⟩
      · exact hpre.elim
    exact Nat.le_of_ble_eq_true rfl
  · intro a M hlen hcan hM hpre Ok hgo
    obtain ⟨th, x, rfl, hpre⟩ : ∃ th x, a = [.inr (.inr (12, th)), .inl x] ∧ (pz_im M ∧ 0 ≤ x ∧ x < 80) := by
      have hpre : (match (generalizing := false) a with | [.inr (.inr (12, th)), .inl x] => pz_im M ∧ 0 ≤ x ∧ x < 80 | _ => False) := hpre
      split at hpre
      · exact ⟨_, _, rfl, hpre⟩
      · exact hpre.elim
    obtain ⟨k_th, hc_th⟩ := pz_tlm hcan
    have k_th : pz_kd th = 12 ∧ th < 231 := k_th
    have R_th := pz_kd12 k_th.1
    subst R_th
    clear k_th
    obtain ⟨k_x, hc_x⟩ := pz_tlm hc_th
    have l_x : -2147483648 ≤ x := k_x.1
    have u_x : x ≤ 2147483647 := k_x.2
    have hI : pz_im M := hpre.1
    have hI0 := hI
    have hS : pz_rl pz_Q8 M M := pz_rl.rf
    refine hgo (fun _ => false) 13 0 _ [] M ?_
    refine pz_nrc (c := 60) rfl ?_
    refine And.intro (by omega) (And.intro (show _ < (1725 : Int) from by omega) ?_)
    intro v9 e9 a9 b9
    replace e9 : v9 = M 60 88 := e9
    have I9 : 0 ≤ v9 ∧ v9 ≤ 12 := by
      rw [e9]
      exact hI.1.1
    clear a9 b9
    intro v11 e11 a11 b11
    rw [pz_wi (by omega) (by omega)] at e11
    clear a11 b11
    refine And.intro (And.intro hI (And.intro (by omega) (by omega))) ?_
    intro v12 M12 a12 b12 q12
    obtain ⟨q12, z12⟩ := q12
    have hS : pz_rl pz_Q8 M M12 := hS.tr z12
    have hI : pz_im M12 := hS.1 hI0
    obtain ⟨q12, s12⟩ := q12
    refine And.intro (by omega) ?_
    refine And.intro rfl ?_
    refine ⟨⟨⟨q12.1, ?_⟩, by rw [show M 60 88 - 1 = v11 by omega]; exact s12⟩, hS⟩
    rcases q12.2 with h | h
    · exact Or.inl h
    · exact Or.inr ⟨h.1, by omega, by omega⟩
theorem v_X12_aLink {fr lo i : Nat} {own : String} (h1 : 10 + 1 ≤ fr) (h2 : 8 + (2 + 11) + 213 ≤ lo) (h3 : .methodLink own i yX12_aLink ∈ lw_tbl) : pz_cV fr lo own i k_X12_aLink :=
  pz_cVk (maxL := 2) (fr' := 10) (lo' := 213) 1 12 h_X12_aLink rfl ⟨(pz_nhc_RX12 yX12_aLink rfl).1, (pz_nhc_RX12 yX12_aLink rfl).2, pz_ds9⟩ ⟨pz_wq1374, pz_wq1373, pz_ws30, pz_wq13⟩ (Or.inl ⟨TX12, 28, rfl⟩) (fun a M _ h => by
    have h : (match (generalizing := false) a with | [.inr (.inr (12, th)), .inl x] => pz_im M ∧ 0 ≤ x ∧ x < 80 | _ => False) := h
    split at h
    · exact ⟨_, _, rfl⟩
    · exact h.elim) h1 h2 h3
noncomputable def k_X12_aPlan : pz_C := (1, 1, fun a M => (match a with | [.inr (.inr (12, th))] => pz_im M ∧ M 1 15 < 16 ∧ M 1 12 = 1 | _ => False), fun a M r M' => (match a, r with | [.inr (.inr (12, th))], some (.inl v) => ((v = 0 ∨ v = 1) ∧ pq_mr (pq_GP M) 1 M M' v) ∧ pz_rl pz_Q8 M M' | _, _ => False))
noncomputable abbrev ct_X12_aPlan : List (Bool × Nat × pz_C) := [(true, 241, k_X12_told), (false, 54, k_X12_isIn), (true, 188, k_X12_bad), (true, 191, k_X12_next0), (true, 245, k_X12_aLink), (true, 235, k_X12_number)]
set_option maxRecDepth 100000 in
set_option maxHeartbeats 4000000 in
theorem h_X12_aPlan : pz_H yX12_aPlan cX12_aPlan 3 (some .boolean) k_X12_aPlan 11 237 := by
  refine pz_mk (own := RX12) (tb := t_X12_aPlan) (fl := pz_flf fl_RX12) (ci := pz_cif ci_RX12) (ct := pz_ctf ct_X12_aPlan) (rz := true) (pz_pfc_RX12 yX12_aPlan rfl) rfl t_X12_aPlan_ok (pz_flk fl_RX12_ok) (pz_cik ci_RX12_ok) ?_ ?_ (Or.inr ⟨rfl, rfl⟩) ?_ ?_
  · exact fun i k' h => pz_ctk (l := ct_X12_aPlan) (P := fun b i k => b = true → pz_cV 11 237 RX12 i k) (List.forall_mem_cons.mpr ⟨(fun _ => v_X12_told (by decide) (by decide) pz_wq1363), List.forall_mem_cons.mpr ⟨((fun z => by cases z)), List.forall_mem_cons.mpr ⟨(fun _ => v_X12_bad (by decide) (by decide) pz_wq1311), List.forall_mem_cons.mpr ⟨(fun _ => v_X12_next0 (by decide) (by decide) pz_wq1243), List.forall_mem_cons.mpr ⟨(fun _ => v_X12_aLink (by decide) (by decide) pz_wq1371), List.forall_mem_cons.mpr ⟨(fun _ => v_X12_number (by decide) (by decide) pz_wq1367), fun _ h => absurd h List.not_mem_nil⟩⟩⟩⟩⟩⟩) true i k' h rfl
  · exact fun i k' h => pz_ctk (l := ct_X12_aPlan) (P := fun b i k => b = false → (pz_cS 11 237 RX12 i k ∨ (k = pz_kac ∧ 1 ≤ 11 ∧ 60 ≤ 237 ∧ Cond.methodLink RX12 i arraycopyName ∈ pz_tbl))) (List.forall_mem_cons.mpr ⟨((fun z => by cases z)), List.forall_mem_cons.mpr ⟨(fun _ => Or.inl (s_X12_isIn (by decide) (by decide) (Or.inl pz_wq1217))), List.forall_mem_cons.mpr ⟨((fun z => by cases z)), List.forall_mem_cons.mpr ⟨((fun z => by cases z)), List.forall_mem_cons.mpr ⟨((fun z => by cases z)), List.forall_mem_cons.mpr ⟨((fun z => by cases z)), fun _ h => absurd h List.not_mem_nil⟩⟩⟩⟩⟩⟩) false i k' h rfl
  · intro a M hlen hpre
    obtain ⟨th, rfl, hpre⟩ : ∃ th, a = [.inr (.inr (12, th))] ∧ (pz_im M ∧ M 1 15 < 16 ∧ M 1 12 = 1) := by
      have hpre : (match (generalizing := false) a with | [.inr (.inr (12, th))] => pz_im M ∧ M 1 15 < 16 ∧ M 1 12 = 1 | _ => False) := hpre
      split at hpre
      · exact ⟨_, rfl, hpre⟩
      · exact hpre.elim
    exact Nat.le_of_ble_eq_true rfl
  · intro a M hlen hcan hM hpre Ok hgo
    obtain ⟨th, rfl, hpre⟩ : ∃ th, a = [.inr (.inr (12, th))] ∧ (pz_im M ∧ M 1 15 < 16 ∧ M 1 12 = 1) := by
      have hpre : (match (generalizing := false) a with | [.inr (.inr (12, th))] => pz_im M ∧ M 1 15 < 16 ∧ M 1 12 = 1 | _ => False) := hpre
      split at hpre
      · exact ⟨_, rfl, hpre⟩
      · exact hpre.elim
    obtain ⟨k_th, hc_th⟩ := pz_tlm hcan
    have k_th : pz_kd th = 12 ∧ th < 231 := k_th
    have R_th := pz_kd12 k_th.1
    subst R_th
    clear k_th
    have hI : pz_im M := hpre.1
    have hI0 := hI
    have hS : pz_rl pz_Q8 M M := pz_rl.rf
    have I15 := hI.2.1.2.2.2.2.2.2.2.1
    obtain ⟨-, pr1, pr2⟩ := hpre
    refine hgo (fun _ => false) 109 0 _ [] M ?_
    intro v2 e2 a2 b2
    have I2 : 0 ≤ v2 ∧ v2 ≤ 16 := by
      rw [e2]
      exact hI.2.1.2.2.2.2.2.2.2.1
    clear a2 b2
    have N2 := hI.2.1.2.2.2.2.2.2.2.1
    intro v5 e5 a5 b5
    rw [pz_wi (by omega) (by omega)] at e5
    clear a5 b5
    refine And.intro (And.intro hI (And.intro (by omega) (by omega))) ?_
    intro v15 M15 a15 b15 q15
    obtain ⟨q15, z15⟩ := q15
    have hS : pz_rl pz_Q8 M M15 := hS.tr z15
    have hI : pz_im M15 := hS.1 hI0
    obtain ⟨q15, s15⟩ := q15
    have P15 := pq_mP_a pr2 s15 (pq_Q8 z15)
    refine And.intro (fun h18 => ?_) (fun h18 => ?_)
    · skip
      have S15 := P15.1 h18
      intro v24 e24 a24 b24
      refine And.intro (True.intro) ?_
      intro v31 M31 a31 b31 q31
      obtain ⟨q31, z31⟩ := q31
      subst z31
      clear a31 b31
      refine And.intro (fun h34 => ?_) (fun h34 => ?_)
      · skip
        replace q31 := q31.resolve_right (fun z => h34 z.1)
        clear h34
        intro v44 e44 a44 b44
        obtain ⟨S44, W44⟩ := pq_mP_c (w := v44) S15 pr2 ⟨by omega, by omega⟩ e44
        refine pz_nrc (c := 66) rfl ?_
        intro v54 e54 a54 b54
        rw [pz_wi (by omega) (by omega)] at e54
        clear a54 b54
        have lo56 : (0 : Int) ≤ v54 := by omega
        have tn56 : (((v54).toNat : Nat) : Int) = v54 := Int.toNat_of_nonneg lo56
        refine And.intro (lo56) (And.intro (show _ < (80 : Int) from by omega) ?_)
        intro M56 e56
        have hS : pz_rl pz_Q8 M M56 := by
          rw [e56]
          exact pz_rl_u hS (by unfold pz_Q8; omega) (pz_iom_a (by decide))
        have hI : pz_im M56 := hS.1 hI0
        have S56 := pq_mS_u S44 e56
        refine pz_nrc (c := 66) rfl ?_
        intro v63 e63 a63 b63
        rw [pz_wi (by omega) (by omega)] at e63
        clear a63 b63
        have lo65 : (0 : Int) ≤ v63 := by omega
        have tn65 : (((v63).toNat : Nat) : Int) = v63 := Int.toNat_of_nonneg lo65
        refine And.intro (lo65) (And.intro (show _ < (80 : Int) from by omega) ?_)
        intro M65 e65
        have hS : pz_rl pz_Q8 M M65 := by
          rw [e65]
          exact pz_rl_u hS (by unfold pz_Q8; omega) (pz_iom_a (by decide))
        have hI : pz_im M65 := hS.1 hI0
        have S65 := pq_mS_u S56 e65
        refine pz_nrc (c := 66) rfl ?_
        intro v72 e72 a72 b72
        rw [pz_wi (by omega) (by omega)] at e72
        clear a72 b72
        have lo74 : (0 : Int) ≤ v72 := by omega
        have tn74 : (((v72).toNat : Nat) : Int) = v72 := Int.toNat_of_nonneg lo74
        refine And.intro (lo74) (And.intro (show _ < (80 : Int) from by omega) ?_)
        intro M74 e74
        have hS : pz_rl pz_Q8 M M74 := by
          rw [e74]
          exact pz_rl_u hS (by unfold pz_Q8; omega) (pz_iom_a (by decide))
        have hI : pz_im M74 := hS.1 hI0
        have S74 := pq_mS_u S65 e74
        refine And.intro (hI) ?_
        intro M76 q76
        obtain ⟨q76, z76⟩ := q76
        have hS : pz_rl pz_Q8 M M76 := hS.tr (pz_rl.wk pz_wk_Q0_Q8 z76)
        have hI : pz_im M76 := hS.1 hI0
        obtain ⟨q76, s76⟩ := q76
        have S76 := pq_mS_x S74 z76 s76
        have K76 : M76 60 88 = M 60 88 := hS.2 60 88 (by unfold pz_Q8; omega)
        have A76 : ∀ j : Nat, M76 66 j = if j = v72.toNat then 0 else if j = v63.toNat then 0 else if j = v54.toNat then v44 else M15 66 j := fun j => by rw [z76.2 66 j (by unfold pz_Q0; omega), pz_u64 e74 j, pz_u64 e65 j, pz_u64 e56 j]
        intro v82 e82 a82 b82
        rw [pz_wi (by omega) (by omega)] at e82
        clear a82 b82
        refine And.intro (And.intro hI (And.intro (by omega) (by omega))) ?_
        intro v83 M83 a83 b83 q83
        obtain ⟨q83, z83⟩ := q83
        have hS : pz_rl pz_Q8 M M83 := hS.tr z83
        have hI : pz_im M83 := hS.1 hI0
        obtain ⟨q83, s83⟩ := q83
        rw [K76] at s83
        have P83 := pq_mP_l S76 s83 (pq_Q8 z83)
        have K83 : M83 60 88 = M 60 88 := hS.2 60 88 (by unfold pz_Q8; omega)
        obtain ⟨L83, O83⟩ := pq_lay1_a (k := (M 1 15).toNat) (n0 := v5.toNat) (n2 := v82.toNat) (by omega) (by omega) (by omega) (by omega) A76 (by omega) q83.1
        refine And.intro (fun h86 => ?_) (fun h86 => ?_)
        · skip
          have S83 := P83.1 h86
          refine And.intro (fun h94 => ?_) (fun h94 => ?_)
          · skip
            refine And.intro (fun h129 => ?_) (fun h129 => ?_)
            · skip
              have S144 := pq_mP_o S83 W44 (by omega)
              have L144 := L83
              have O144 := O83
              refine And.intro (fun h147 => ?_) (fun h147 => ?_)
              · skip
                refine And.intro (by omega) ?_
                refine And.intro rfl ?_
                first
                  | exact ⟨⟨Or.inr rfl, Or.inl ⟨rfl, _, _, P163.1 h166, L163, pq_fr1 O163 q15.1 (by omega) (by omega)⟩⟩, hS⟩
                  | exact ⟨⟨Or.inl rfl, Or.inr ⟨rfl, P163.2 (by omega)⟩⟩, hS⟩
                  | exact ⟨⟨Or.inr rfl, Or.inl ⟨rfl, _, _, pq_mP_z S144 (by omega), L144, pq_fr1 O144 q15.1 (by omega) (by omega)⟩⟩, hS⟩
                  | (exfalso; omega)
              · skip
                refine And.intro (fun h153 => ?_) (fun h153 => ?_)
                · skip
                  refine And.intro (by omega) ?_
                  refine And.intro rfl ?_
                  first
                    | exact ⟨⟨Or.inr rfl, Or.inl ⟨rfl, _, _, P163.1 h166, L163, pq_fr1 O163 q15.1 (by omega) (by omega)⟩⟩, hS⟩
                    | exact ⟨⟨Or.inl rfl, Or.inr ⟨rfl, P163.2 (by omega)⟩⟩, hS⟩
                    | exact ⟨⟨Or.inr rfl, Or.inl ⟨rfl, _, _, pq_mP_z S144 (by omega), L144, pq_fr1 O144 q15.1 (by omega) (by omega)⟩⟩, hS⟩
                    | (exfalso; omega)
                · skip
                  intro v159 e159 a159 b159
                  rw [pz_wi (by omega) (by omega)] at e159
                  clear a159 b159
                  refine And.intro (And.intro hI (And.intro (by omega) (by omega))) ?_
                  intro v163 M163 a163 b163 q163
                  obtain ⟨q163, z163⟩ := q163
                  have hS : pz_rl pz_Q8 M M163 := hS.tr z163
                  have hI : pz_im M163 := hS.1 hI0
                  obtain ⟨q163, s163⟩ := q163
                  have P163 := pq_mP_e S144 (by omega) s163 (pq_Q8 z163)
                  have L163 := pq_lay1_q L144 (n4 := v159.toNat) q163.1 (by omega)
                  have O163 : ∀ j : Nat, j < 5 * (M 1 15).toNat → M163 66 j = M15 66 j := fun j hj => (q163.1 j (by omega)).trans (O144 j hj)
                  refine And.intro (fun h166 => ?_) (fun h166 => ?_)
                  · skip
                    refine And.intro (by omega) ?_
                    refine And.intro rfl ?_
                    first
                      | exact ⟨⟨Or.inr rfl, Or.inl ⟨rfl, _, _, P163.1 h166, L163, pq_fr1 O163 q15.1 (by omega) (by omega)⟩⟩, hS⟩
                      | exact ⟨⟨Or.inl rfl, Or.inr ⟨rfl, P163.2 (by omega)⟩⟩, hS⟩
                      | exact ⟨⟨Or.inr rfl, Or.inl ⟨rfl, _, _, pq_mP_z S144 (by omega), L144, pq_fr1 O144 q15.1 (by omega) (by omega)⟩⟩, hS⟩
                      | (exfalso; omega)
                  · skip
                    refine And.intro (by omega) ?_
                    refine And.intro rfl ?_
                    first
                      | exact ⟨⟨Or.inr rfl, Or.inl ⟨rfl, _, _, P163.1 h166, L163, pq_fr1 O163 q15.1 (by omega) (by omega)⟩⟩, hS⟩
                      | exact ⟨⟨Or.inl rfl, Or.inr ⟨rfl, P163.2 (by omega)⟩⟩, hS⟩
                      | exact ⟨⟨Or.inr rfl, Or.inl ⟨rfl, _, _, pq_mP_z S144 (by omega), L144, pq_fr1 O144 q15.1 (by omega) (by omega)⟩⟩, hS⟩
                      | (exfalso; omega)
            · skip
              have S129 := pq_mP_m S83 W44 (by omega) (fun y => by omega)
              intro v135 e135 a135 b135
              rw [pz_wi (by omega) (by omega)] at e135
              clear a135 b135
              refine And.intro (And.intro hI (And.intro (by omega) (by omega))) ?_
              intro v136 M136 a136 b136 q136
              obtain ⟨q136, z136⟩ := q136
              have hS : pz_rl pz_Q8 M M136 := hS.tr z136
              have hI : pz_im M136 := hS.1 hI0
              obtain ⟨q136, s136⟩ := q136
              rw [K83] at s136
              have P136 := pq_mP_k S129 s136 (pq_Q8 z136)
              have L136 := pq_lay1_m L83 (n3 := v135.toNat) q136.1 (by omega)
              have O136 : ∀ j : Nat, j < 5 * (M 1 15).toNat → M136 66 j = M15 66 j := fun j hj => (q136.1 j (by omega)).trans (O83 j hj)
              refine And.intro (fun h139 => ?_) (fun h139 => ?_)
              · skip
                have S144 := P136.1 h139
                have L144 := L136
                have O144 := O136
                refine And.intro (fun h147 => ?_) (fun h147 => ?_)
                · skip
                  refine And.intro (by omega) ?_
                  refine And.intro rfl ?_
                  first
                    | exact ⟨⟨Or.inr rfl, Or.inl ⟨rfl, _, _, P163.1 h166, L163, pq_fr1 O163 q15.1 (by omega) (by omega)⟩⟩, hS⟩
                    | exact ⟨⟨Or.inl rfl, Or.inr ⟨rfl, P163.2 (by omega)⟩⟩, hS⟩
                    | exact ⟨⟨Or.inr rfl, Or.inl ⟨rfl, _, _, pq_mP_z S144 (by omega), L144, pq_fr1 O144 q15.1 (by omega) (by omega)⟩⟩, hS⟩
                    | (exfalso; omega)
                · skip
                  refine And.intro (fun h153 => ?_) (fun h153 => ?_)
                  · skip
                    refine And.intro (by omega) ?_
                    refine And.intro rfl ?_
                    first
                      | exact ⟨⟨Or.inr rfl, Or.inl ⟨rfl, _, _, P163.1 h166, L163, pq_fr1 O163 q15.1 (by omega) (by omega)⟩⟩, hS⟩
                      | exact ⟨⟨Or.inl rfl, Or.inr ⟨rfl, P163.2 (by omega)⟩⟩, hS⟩
                      | exact ⟨⟨Or.inr rfl, Or.inl ⟨rfl, _, _, pq_mP_z S144 (by omega), L144, pq_fr1 O144 q15.1 (by omega) (by omega)⟩⟩, hS⟩
                      | (exfalso; omega)
                  · skip
                    intro v159 e159 a159 b159
                    rw [pz_wi (by omega) (by omega)] at e159
                    clear a159 b159
                    refine And.intro (And.intro hI (And.intro (by omega) (by omega))) ?_
                    intro v163 M163 a163 b163 q163
                    obtain ⟨q163, z163⟩ := q163
                    have hS : pz_rl pz_Q8 M M163 := hS.tr z163
                    have hI : pz_im M163 := hS.1 hI0
                    obtain ⟨q163, s163⟩ := q163
                    have P163 := pq_mP_e S144 (by omega) s163 (pq_Q8 z163)
                    have L163 := pq_lay1_q L144 (n4 := v159.toNat) q163.1 (by omega)
                    have O163 : ∀ j : Nat, j < 5 * (M 1 15).toNat → M163 66 j = M15 66 j := fun j hj => (q163.1 j (by omega)).trans (O144 j hj)
                    refine And.intro (fun h166 => ?_) (fun h166 => ?_)
                    · skip
                      refine And.intro (by omega) ?_
                      refine And.intro rfl ?_
                      first
                        | exact ⟨⟨Or.inr rfl, Or.inl ⟨rfl, _, _, P163.1 h166, L163, pq_fr1 O163 q15.1 (by omega) (by omega)⟩⟩, hS⟩
                        | exact ⟨⟨Or.inl rfl, Or.inr ⟨rfl, P163.2 (by omega)⟩⟩, hS⟩
                        | exact ⟨⟨Or.inr rfl, Or.inl ⟨rfl, _, _, pq_mP_z S144 (by omega), L144, pq_fr1 O144 q15.1 (by omega) (by omega)⟩⟩, hS⟩
                        | (exfalso; omega)
                    · skip
                      refine And.intro (by omega) ?_
                      refine And.intro rfl ?_
                      first
                        | exact ⟨⟨Or.inr rfl, Or.inl ⟨rfl, _, _, P163.1 h166, L163, pq_fr1 O163 q15.1 (by omega) (by omega)⟩⟩, hS⟩
                        | exact ⟨⟨Or.inl rfl, Or.inr ⟨rfl, P163.2 (by omega)⟩⟩, hS⟩
                        | exact ⟨⟨Or.inr rfl, Or.inl ⟨rfl, _, _, pq_mP_z S144 (by omega), L144, pq_fr1 O144 q15.1 (by omega) (by omega)⟩⟩, hS⟩
                        | (exfalso; omega)
              · skip
                skip
                refine And.intro (by omega) ?_
                refine And.intro rfl ?_
                exact ⟨⟨Or.inl rfl, Or.inr ⟨rfl, P136.2 (by omega)⟩⟩, hS⟩
          · skip
            intro v98 e98 a98 b98
            refine And.intro (fun h102 => ?_) (fun h102 => ?_)
            · skip
              refine And.intro (fun h129 => ?_) (fun h129 => ?_)
              · skip
                have S144 := pq_mP_o S83 W44 (by omega)
                have L144 := L83
                have O144 := O83
                replace h129 : 11 ≤ v44 := by omega
                refine And.intro (fun h147 => ?_) (fun h147 => ?_)
                · skip
                  refine And.intro (by omega) ?_
                  refine And.intro rfl ?_
                  first
                    | exact ⟨⟨Or.inr rfl, Or.inl ⟨rfl, _, _, P163.1 h166, L163, pq_fr1 O163 q15.1 (by omega) (by omega)⟩⟩, hS⟩
                    | exact ⟨⟨Or.inl rfl, Or.inr ⟨rfl, P163.2 (by omega)⟩⟩, hS⟩
                    | exact ⟨⟨Or.inr rfl, Or.inl ⟨rfl, _, _, pq_mP_z S144 (by omega), L144, pq_fr1 O144 q15.1 (by omega) (by omega)⟩⟩, hS⟩
                    | (exfalso; omega)
                · skip
                  replace h147 : v44 ≤ 8 := by omega
                  refine And.intro (fun h153 => ?_) (fun h153 => ?_)
                  · skip
                    refine And.intro (by omega) ?_
                    refine And.intro rfl ?_
                    first
                      | exact ⟨⟨Or.inr rfl, Or.inl ⟨rfl, _, _, P163.1 h166, L163, pq_fr1 O163 q15.1 (by omega) (by omega)⟩⟩, hS⟩
                      | exact ⟨⟨Or.inl rfl, Or.inr ⟨rfl, P163.2 (by omega)⟩⟩, hS⟩
                      | exact ⟨⟨Or.inr rfl, Or.inl ⟨rfl, _, _, pq_mP_z S144 (by omega), L144, pq_fr1 O144 q15.1 (by omega) (by omega)⟩⟩, hS⟩
                      | (exfalso; omega)
                  · skip
                    replace h153 : 12 ≤ v44 := by omega
                    intro v159 e159 a159 b159
                    rw [pz_wi (by omega) (by omega)] at e159
                    clear a159 b159
                    refine And.intro (And.intro hI (And.intro (by omega) (by omega))) ?_
                    intro v163 M163 a163 b163 q163
                    obtain ⟨q163, z163⟩ := q163
                    have hS : pz_rl pz_Q8 M M163 := hS.tr z163
                    have hI : pz_im M163 := hS.1 hI0
                    obtain ⟨q163, s163⟩ := q163
                    have P163 := pq_mP_e S144 (by omega) s163 (pq_Q8 z163)
                    have L163 := pq_lay1_q L144 (n4 := v159.toNat) q163.1 (by omega)
                    have O163 : ∀ j : Nat, j < 5 * (M 1 15).toNat → M163 66 j = M15 66 j := fun j hj => (q163.1 j (by omega)).trans (O144 j hj)
                    refine And.intro (fun h166 => ?_) (fun h166 => ?_)
                    · skip
                      refine And.intro (by omega) ?_
                      refine And.intro rfl ?_
                      first
                        | exact ⟨⟨Or.inr rfl, Or.inl ⟨rfl, _, _, P163.1 h166, L163, pq_fr1 O163 q15.1 (by omega) (by omega)⟩⟩, hS⟩
                        | exact ⟨⟨Or.inl rfl, Or.inr ⟨rfl, P163.2 (by omega)⟩⟩, hS⟩
                        | exact ⟨⟨Or.inr rfl, Or.inl ⟨rfl, _, _, pq_mP_z S144 (by omega), L144, pq_fr1 O144 q15.1 (by omega) (by omega)⟩⟩, hS⟩
                        | (exfalso; omega)
                    · skip
                      refine And.intro (by omega) ?_
                      refine And.intro rfl ?_
                      first
                        | exact ⟨⟨Or.inr rfl, Or.inl ⟨rfl, _, _, P163.1 h166, L163, pq_fr1 O163 q15.1 (by omega) (by omega)⟩⟩, hS⟩
                        | exact ⟨⟨Or.inl rfl, Or.inr ⟨rfl, P163.2 (by omega)⟩⟩, hS⟩
                        | exact ⟨⟨Or.inr rfl, Or.inl ⟨rfl, _, _, pq_mP_z S144 (by omega), L144, pq_fr1 O144 q15.1 (by omega) (by omega)⟩⟩, hS⟩
                        | (exfalso; omega)
              · skip
                have S129 := pq_mP_m S83 W44 (by omega) (fun y => by omega)
                intro v135 e135 a135 b135
                rw [pz_wi (by omega) (by omega)] at e135
                clear a135 b135
                refine And.intro (And.intro hI (And.intro (by omega) (by omega))) ?_
                intro v136 M136 a136 b136 q136
                obtain ⟨q136, z136⟩ := q136
                have hS : pz_rl pz_Q8 M M136 := hS.tr z136
                have hI : pz_im M136 := hS.1 hI0
                obtain ⟨q136, s136⟩ := q136
                rw [K83] at s136
                have P136 := pq_mP_k S129 s136 (pq_Q8 z136)
                have L136 := pq_lay1_m L83 (n3 := v135.toNat) q136.1 (by omega)
                have O136 : ∀ j : Nat, j < 5 * (M 1 15).toNat → M136 66 j = M15 66 j := fun j hj => (q136.1 j (by omega)).trans (O83 j hj)
                refine And.intro (fun h139 => ?_) (fun h139 => ?_)
                · skip
                  have S144 := P136.1 h139
                  have L144 := L136
                  have O144 := O136
                  refine And.intro (fun h147 => ?_) (fun h147 => ?_)
                  · skip
                    refine And.intro (by omega) ?_
                    refine And.intro rfl ?_
                    first
                      | exact ⟨⟨Or.inr rfl, Or.inl ⟨rfl, _, _, P163.1 h166, L163, pq_fr1 O163 q15.1 (by omega) (by omega)⟩⟩, hS⟩
                      | exact ⟨⟨Or.inl rfl, Or.inr ⟨rfl, P163.2 (by omega)⟩⟩, hS⟩
                      | exact ⟨⟨Or.inr rfl, Or.inl ⟨rfl, _, _, pq_mP_z S144 (by omega), L144, pq_fr1 O144 q15.1 (by omega) (by omega)⟩⟩, hS⟩
                      | (exfalso; omega)
                  · skip
                    refine And.intro (fun h153 => ?_) (fun h153 => ?_)
                    · skip
                      refine And.intro (by omega) ?_
                      refine And.intro rfl ?_
                      first
                        | exact ⟨⟨Or.inr rfl, Or.inl ⟨rfl, _, _, P163.1 h166, L163, pq_fr1 O163 q15.1 (by omega) (by omega)⟩⟩, hS⟩
                        | exact ⟨⟨Or.inl rfl, Or.inr ⟨rfl, P163.2 (by omega)⟩⟩, hS⟩
                        | exact ⟨⟨Or.inr rfl, Or.inl ⟨rfl, _, _, pq_mP_z S144 (by omega), L144, pq_fr1 O144 q15.1 (by omega) (by omega)⟩⟩, hS⟩
                        | (exfalso; omega)
                    · skip
                      intro v159 e159 a159 b159
                      rw [pz_wi (by omega) (by omega)] at e159
                      clear a159 b159
                      refine And.intro (And.intro hI (And.intro (by omega) (by omega))) ?_
                      intro v163 M163 a163 b163 q163
                      obtain ⟨q163, z163⟩ := q163
                      have hS : pz_rl pz_Q8 M M163 := hS.tr z163
                      have hI : pz_im M163 := hS.1 hI0
                      obtain ⟨q163, s163⟩ := q163
                      have P163 := pq_mP_e S144 (by omega) s163 (pq_Q8 z163)
                      have L163 := pq_lay1_q L144 (n4 := v159.toNat) q163.1 (by omega)
                      have O163 : ∀ j : Nat, j < 5 * (M 1 15).toNat → M163 66 j = M15 66 j := fun j hj => (q163.1 j (by omega)).trans (O144 j hj)
                      refine And.intro (fun h166 => ?_) (fun h166 => ?_)
                      · skip
                        refine And.intro (by omega) ?_
                        refine And.intro rfl ?_
                        first
                          | exact ⟨⟨Or.inr rfl, Or.inl ⟨rfl, _, _, P163.1 h166, L163, pq_fr1 O163 q15.1 (by omega) (by omega)⟩⟩, hS⟩
                          | exact ⟨⟨Or.inl rfl, Or.inr ⟨rfl, P163.2 (by omega)⟩⟩, hS⟩
                          | exact ⟨⟨Or.inr rfl, Or.inl ⟨rfl, _, _, pq_mP_z S144 (by omega), L144, pq_fr1 O144 q15.1 (by omega) (by omega)⟩⟩, hS⟩
                          | (exfalso; omega)
                      · skip
                        refine And.intro (by omega) ?_
                        refine And.intro rfl ?_
                        first
                          | exact ⟨⟨Or.inr rfl, Or.inl ⟨rfl, _, _, P163.1 h166, L163, pq_fr1 O163 q15.1 (by omega) (by omega)⟩⟩, hS⟩
                          | exact ⟨⟨Or.inl rfl, Or.inr ⟨rfl, P163.2 (by omega)⟩⟩, hS⟩
                          | exact ⟨⟨Or.inr rfl, Or.inl ⟨rfl, _, _, pq_mP_z S144 (by omega), L144, pq_fr1 O144 q15.1 (by omega) (by omega)⟩⟩, hS⟩
                          | (exfalso; omega)
                · skip
                  skip
                  refine And.intro (by omega) ?_
                  refine And.intro rfl ?_
                  exact ⟨⟨Or.inl rfl, Or.inr ⟨rfl, P136.2 (by omega)⟩⟩, hS⟩
            · skip
              intro v106 e106 a106 b106
              refine pz_nrc (c := 66) rfl ?_
              intro v115 e115 a115 b115
              rw [pz_wi (by omega) (by omega)] at e115
              clear a115 b115
              have lo116 : (0 : Int) ≤ v115 := by omega
              have tn116 : (((v115).toNat : Nat) : Int) = v115 := Int.toNat_of_nonneg lo116
              refine And.intro (lo116) (And.intro (show _ < (80 : Int) from by omega) ?_)
              intro v116 e116 a116 b116
              rw [show v115.toNat = v82.toNat by omega] at e116
              refine And.intro (fun h117 => ?_) (fun h117 => ?_)
              · skip
                refine And.intro (fun h129 => ?_) (fun h129 => ?_)
                · skip
                  have S144 := pq_mP_o S83 W44 (by omega)
                  have L144 := L83
                  have O144 := O83
                  replace h129 : 11 ≤ v44 := by omega
                  refine And.intro (fun h147 => ?_) (fun h147 => ?_)
                  · skip
                    refine And.intro (by omega) ?_
                    refine And.intro rfl ?_
                    first
                      | exact ⟨⟨Or.inr rfl, Or.inl ⟨rfl, _, _, P163.1 h166, L163, pq_fr1 O163 q15.1 (by omega) (by omega)⟩⟩, hS⟩
                      | exact ⟨⟨Or.inl rfl, Or.inr ⟨rfl, P163.2 (by omega)⟩⟩, hS⟩
                      | exact ⟨⟨Or.inr rfl, Or.inl ⟨rfl, _, _, pq_mP_z S144 (by omega), L144, pq_fr1 O144 q15.1 (by omega) (by omega)⟩⟩, hS⟩
                      | (exfalso; omega)
                  · skip
                    replace h147 : v44 ≤ 8 := by omega
                    refine And.intro (fun h153 => ?_) (fun h153 => ?_)
                    · skip
                      refine And.intro (by omega) ?_
                      refine And.intro rfl ?_
                      first
                        | exact ⟨⟨Or.inr rfl, Or.inl ⟨rfl, _, _, P163.1 h166, L163, pq_fr1 O163 q15.1 (by omega) (by omega)⟩⟩, hS⟩
                        | exact ⟨⟨Or.inl rfl, Or.inr ⟨rfl, P163.2 (by omega)⟩⟩, hS⟩
                        | exact ⟨⟨Or.inr rfl, Or.inl ⟨rfl, _, _, pq_mP_z S144 (by omega), L144, pq_fr1 O144 q15.1 (by omega) (by omega)⟩⟩, hS⟩
                        | (exfalso; omega)
                    · skip
                      replace h153 : 12 ≤ v44 := by omega
                      intro v159 e159 a159 b159
                      rw [pz_wi (by omega) (by omega)] at e159
                      clear a159 b159
                      refine And.intro (And.intro hI (And.intro (by omega) (by omega))) ?_
                      intro v163 M163 a163 b163 q163
                      obtain ⟨q163, z163⟩ := q163
                      have hS : pz_rl pz_Q8 M M163 := hS.tr z163
                      have hI : pz_im M163 := hS.1 hI0
                      obtain ⟨q163, s163⟩ := q163
                      have P163 := pq_mP_e S144 (by omega) s163 (pq_Q8 z163)
                      have L163 := pq_lay1_q L144 (n4 := v159.toNat) q163.1 (by omega)
                      have O163 : ∀ j : Nat, j < 5 * (M 1 15).toNat → M163 66 j = M15 66 j := fun j hj => (q163.1 j (by omega)).trans (O144 j hj)
                      refine And.intro (fun h166 => ?_) (fun h166 => ?_)
                      · skip
                        refine And.intro (by omega) ?_
                        refine And.intro rfl ?_
                        first
                          | exact ⟨⟨Or.inr rfl, Or.inl ⟨rfl, _, _, P163.1 h166, L163, pq_fr1 O163 q15.1 (by omega) (by omega)⟩⟩, hS⟩
                          | exact ⟨⟨Or.inl rfl, Or.inr ⟨rfl, P163.2 (by omega)⟩⟩, hS⟩
                          | exact ⟨⟨Or.inr rfl, Or.inl ⟨rfl, _, _, pq_mP_z S144 (by omega), L144, pq_fr1 O144 q15.1 (by omega) (by omega)⟩⟩, hS⟩
                          | (exfalso; omega)
                      · skip
                        refine And.intro (by omega) ?_
                        refine And.intro rfl ?_
                        first
                          | exact ⟨⟨Or.inr rfl, Or.inl ⟨rfl, _, _, P163.1 h166, L163, pq_fr1 O163 q15.1 (by omega) (by omega)⟩⟩, hS⟩
                          | exact ⟨⟨Or.inl rfl, Or.inr ⟨rfl, P163.2 (by omega)⟩⟩, hS⟩
                          | exact ⟨⟨Or.inr rfl, Or.inl ⟨rfl, _, _, pq_mP_z S144 (by omega), L144, pq_fr1 O144 q15.1 (by omega) (by omega)⟩⟩, hS⟩
                          | (exfalso; omega)
                · skip
                  have S129 := pq_mP_m S83 W44 (by omega) (fun y => by omega)
                  intro v135 e135 a135 b135
                  rw [pz_wi (by omega) (by omega)] at e135
                  clear a135 b135
                  refine And.intro (And.intro hI (And.intro (by omega) (by omega))) ?_
                  intro v136 M136 a136 b136 q136
                  obtain ⟨q136, z136⟩ := q136
                  have hS : pz_rl pz_Q8 M M136 := hS.tr z136
                  have hI : pz_im M136 := hS.1 hI0
                  obtain ⟨q136, s136⟩ := q136
                  rw [K83] at s136
                  have P136 := pq_mP_k S129 s136 (pq_Q8 z136)
                  have L136 := pq_lay1_m L83 (n3 := v135.toNat) q136.1 (by omega)
                  have O136 : ∀ j : Nat, j < 5 * (M 1 15).toNat → M136 66 j = M15 66 j := fun j hj => (q136.1 j (by omega)).trans (O83 j hj)
                  refine And.intro (fun h139 => ?_) (fun h139 => ?_)
                  · skip
                    have S144 := P136.1 h139
                    have L144 := L136
                    have O144 := O136
                    refine And.intro (fun h147 => ?_) (fun h147 => ?_)
                    · skip
                      refine And.intro (by omega) ?_
                      refine And.intro rfl ?_
                      first
                        | exact ⟨⟨Or.inr rfl, Or.inl ⟨rfl, _, _, P163.1 h166, L163, pq_fr1 O163 q15.1 (by omega) (by omega)⟩⟩, hS⟩
                        | exact ⟨⟨Or.inl rfl, Or.inr ⟨rfl, P163.2 (by omega)⟩⟩, hS⟩
                        | exact ⟨⟨Or.inr rfl, Or.inl ⟨rfl, _, _, pq_mP_z S144 (by omega), L144, pq_fr1 O144 q15.1 (by omega) (by omega)⟩⟩, hS⟩
                        | (exfalso; omega)
                    · skip
                      refine And.intro (fun h153 => ?_) (fun h153 => ?_)
                      · skip
                        refine And.intro (by omega) ?_
                        refine And.intro rfl ?_
                        first
                          | exact ⟨⟨Or.inr rfl, Or.inl ⟨rfl, _, _, P163.1 h166, L163, pq_fr1 O163 q15.1 (by omega) (by omega)⟩⟩, hS⟩
                          | exact ⟨⟨Or.inl rfl, Or.inr ⟨rfl, P163.2 (by omega)⟩⟩, hS⟩
                          | exact ⟨⟨Or.inr rfl, Or.inl ⟨rfl, _, _, pq_mP_z S144 (by omega), L144, pq_fr1 O144 q15.1 (by omega) (by omega)⟩⟩, hS⟩
                          | (exfalso; omega)
                      · skip
                        intro v159 e159 a159 b159
                        rw [pz_wi (by omega) (by omega)] at e159
                        clear a159 b159
                        refine And.intro (And.intro hI (And.intro (by omega) (by omega))) ?_
                        intro v163 M163 a163 b163 q163
                        obtain ⟨q163, z163⟩ := q163
                        have hS : pz_rl pz_Q8 M M163 := hS.tr z163
                        have hI : pz_im M163 := hS.1 hI0
                        obtain ⟨q163, s163⟩ := q163
                        have P163 := pq_mP_e S144 (by omega) s163 (pq_Q8 z163)
                        have L163 := pq_lay1_q L144 (n4 := v159.toNat) q163.1 (by omega)
                        have O163 : ∀ j : Nat, j < 5 * (M 1 15).toNat → M163 66 j = M15 66 j := fun j hj => (q163.1 j (by omega)).trans (O144 j hj)
                        refine And.intro (fun h166 => ?_) (fun h166 => ?_)
                        · skip
                          refine And.intro (by omega) ?_
                          refine And.intro rfl ?_
                          first
                            | exact ⟨⟨Or.inr rfl, Or.inl ⟨rfl, _, _, P163.1 h166, L163, pq_fr1 O163 q15.1 (by omega) (by omega)⟩⟩, hS⟩
                            | exact ⟨⟨Or.inl rfl, Or.inr ⟨rfl, P163.2 (by omega)⟩⟩, hS⟩
                            | exact ⟨⟨Or.inr rfl, Or.inl ⟨rfl, _, _, pq_mP_z S144 (by omega), L144, pq_fr1 O144 q15.1 (by omega) (by omega)⟩⟩, hS⟩
                            | (exfalso; omega)
                        · skip
                          refine And.intro (by omega) ?_
                          refine And.intro rfl ?_
                          first
                            | exact ⟨⟨Or.inr rfl, Or.inl ⟨rfl, _, _, P163.1 h166, L163, pq_fr1 O163 q15.1 (by omega) (by omega)⟩⟩, hS⟩
                            | exact ⟨⟨Or.inl rfl, Or.inr ⟨rfl, P163.2 (by omega)⟩⟩, hS⟩
                            | exact ⟨⟨Or.inr rfl, Or.inl ⟨rfl, _, _, pq_mP_z S144 (by omega), L144, pq_fr1 O144 q15.1 (by omega) (by omega)⟩⟩, hS⟩
                            | (exfalso; omega)
                  · skip
                    skip
                    refine And.intro (by omega) ?_
                    refine And.intro rfl ?_
                    exact ⟨⟨Or.inl rfl, Or.inr ⟨rfl, P136.2 (by omega)⟩⟩, hS⟩
              · skip
                refine And.intro (hI) ?_
                intro v122 M122 a122 b122 q122
                obtain ⟨q122, z122⟩ := q122
                have hS : pz_rl pz_Q8 M M122 := hS.tr (pz_rl.wk pz_wk_Q0_Q8 z122)
                have hI : pz_im M122 := hS.1 hI0
                clear a122 b122
                refine And.intro (by omega) ?_
                refine And.intro rfl ?_
                exact ⟨⟨Or.inl (by omega), Or.inr ⟨by omega, pq_mP_2 S83 W44 (by omega) (by omega) (by omega) q122.2.1 q122.2.2⟩⟩, hS⟩
        · skip
          skip
          refine And.intro (by omega) ?_
          refine And.intro rfl ?_
          exact ⟨⟨Or.inl rfl, Or.inr ⟨rfl, P83.2 (by omega)⟩⟩, hS⟩
      · skip
        replace q31 := q31.resolve_left (fun z => absurd (z.1.symm.trans h34) (by decide))
        clear h34
        refine And.intro (hI) ?_
        intro v39 M39 a39 b39 q39
        obtain ⟨q39, z39⟩ := q39
        have hS : pz_rl pz_Q8 M M39 := hS.tr (pz_rl.wk pz_wk_Q0_Q8 z39)
        have hI : pz_im M39 := hS.1 hI0
        clear a39 b39
        refine And.intro (by omega) ?_
        refine And.intro rfl ?_
        exact ⟨⟨Or.inl (by omega), Or.inr ⟨by omega, pq_mP_d S15 pr2 (by omega) q39.2.1 q39.2.2⟩⟩, hS⟩
    · skip
      skip
      refine And.intro (by omega) ?_
      refine And.intro rfl ?_
      exact ⟨⟨Or.inl rfl, Or.inr ⟨rfl, P15.2 (by omega)⟩⟩, hS⟩
theorem v_X12_aPlan {fr lo i : Nat} {own : String} (h1 : 11 + 1 ≤ fr) (h2 : 8 + (3 + 11) + 237 ≤ lo) (h3 : .methodLink own i yX12_aPlan ∈ lw_tbl) : pz_cV fr lo own i k_X12_aPlan :=
  pz_cVk (maxL := 3) (fr' := 11) (lo' := 237) 0 12 h_X12_aPlan rfl ⟨(pz_nhc_RX12 yX12_aPlan rfl).1, (pz_nhc_RX12 yX12_aPlan rfl).2, pz_ds3⟩ ⟨pz_wq1362, pz_wq1361, pz_ws27, pz_wq13⟩ (Or.inl ⟨TX12, 28, rfl⟩) (fun a M _ h => by
    have h : (match (generalizing := false) a with | [.inr (.inr (12, th))] => pz_im M ∧ M 1 15 < 16 ∧ M 1 12 = 1 | _ => False) := h
    split at h
    · exact ⟨_, _, rfl⟩
    · exact h.elim) h1 h2 h3
