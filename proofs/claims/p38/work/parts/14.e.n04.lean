noncomputable def k_X12_bad : pz_C := (2, 1, fun a M => (match a with | [.inr (.inr (12, th)), .inl x] => pz_im M | _ => False), fun a M r M' => (match a, r with | [.inr (.inr (12, th)), .inl x], some (.inl v) => (v = 0 ∧ M' 1 21 = x ∧ M' 1 22 = M 1 19) ∧ pz_rl pz_Q0 M M' | _, _ => False))
noncomputable abbrev ct_X12_bad : List (Bool × Nat × pz_C) := []
set_option maxRecDepth 100000 in
set_option maxHeartbeats 4000000 in
theorem h_X12_bad : pz_H yX12_bad cX12_bad 2 (some .boolean) k_X12_bad 0 0 := by
  refine pz_mk (own := RX12) (tb := t_X12_bad) (fl := pz_flf fl_RX12) (ci := pz_cif ci_RX12) (ct := pz_ctf ct_X12_bad) (rz := true) (pz_pfc_RX12 yX12_bad rfl) rfl t_X12_bad_ok (pz_flk fl_RX12_ok) (pz_cik ci_RX12_ok) ?_ ?_ (Or.inr ⟨rfl, rfl⟩) ?_ ?_
  · exact fun i k' h => pz_ctk (l := ct_X12_bad) (P := fun b i k => b = true → pz_cV 0 0 RX12 i k) (fun _ h => absurd h List.not_mem_nil) true i k' h rfl
  · exact fun i k' h => pz_ctk (l := ct_X12_bad) (P := fun b i k => b = false → (pz_cS 0 0 RX12 i k ∨ (k = pz_kac ∧ 1 ≤ 0 ∧ 60 ≤ 0 ∧ Cond.methodLink RX12 i arraycopyName ∈ pz_tbl))) (fun _ h => absurd h List.not_mem_nil) false i k' h rfl
  · intro a M hlen hpre
    obtain ⟨th, x, rfl, hpre⟩ : ∃ th x, a = [.inr (.inr (12, th)), .inl x] ∧ (pz_im M) := by
      have hpre : (match (generalizing := false) a with | [.inr (.inr (12, th)), .inl x] => pz_im M | _ => False) := hpre
      split at hpre
      · exact ⟨_, _, rfl, hpre⟩
      · exact hpre.elim
    exact Nat.le_of_ble_eq_true rfl
  · intro a M hlen hcan hM hpre Ok hgo
    obtain ⟨th, x, rfl, hpre⟩ : ∃ th x, a = [.inr (.inr (12, th)), .inl x] ∧ (pz_im M) := by
      have hpre : (match (generalizing := false) a with | [.inr (.inr (12, th)), .inl x] => pz_im M | _ => False) := hpre
      split at hpre
      · exact ⟨_, _, rfl, hpre⟩
      · exact hpre.elim
    obtain ⟨k_th, hc_th⟩ := pz_tlm hcan
    have k_th : pz_kd th = 12 ∧ th < 231 := k_th
    have R_th := pz_kd12 k_th.1
    subst R_th
    clear k_th
    obtain ⟨k_x, hc_x⟩ := pz_tlm hc_th
    have l_x : -2147483648 ≤ x := k_x.1
    have u_x : x ≤ 2147483647 := k_x.2
    have hI : pz_im M := hpre
    have hI0 := hI
    have hS : pz_rl pz_Q0 M M := pz_rl.rf
    refine hgo (fun _ => false) 11 0 _ [] M ?_
    intro M2 e2
    have hS : pz_rl pz_Q0 M M2 := by
      rw [e2]
      exact pz_rl_u hS (by unfold pz_Q0; decide) (pz_iom_f (by decide))
    have hI : pz_im M2 := hS.1 hI0
    have T2_0 : M2 1 21 = x := by rw [e2]; exact pz_uu
    have T2_1 : M2 1 22 = M 1 22 := by
      rw [e2]
      exact (pz_une (by decide))
    have T2_2 : M2 1 19 = M 1 19 := by
      rw [e2]
      exact (pz_une (by decide))
    intro v7 e7 a7 b7
    have I7 : 0 ≤ v7 ∧ v7 ≤ 400 := by
      rw [e7]
      exact hI.2.1.2.2.2.2.1
    clear a7 b7
    have N7 := hI.2.1.2.2.2.2.1
    replace e7 := e7.trans T2_2
    intro M10 e10
    have hS : pz_rl pz_Q0 M M10 := by
      rw [e10]
      exact pz_rl_u hS (by unfold pz_Q0; decide) (pz_iom_f (by decide))
    have hI : pz_im M10 := hS.1 hI0
    have T10_0 : M10 1 21 = x := by
      rw [e10]
      exact (pz_une (by decide)).trans T2_0
    clear T2_0
    have T10_1 : M10 1 22 = v7 := by rw [e10]; exact pz_uu
    have T10_2 : M10 1 19 = M 1 19 := by
      rw [e10]
      exact (pz_une (by decide)).trans T2_2
    clear T2_2
    refine And.intro (by omega) ?_
    refine And.intro rfl ?_
    exact ⟨by omega, hS⟩
theorem v_X12_bad {fr lo i : Nat} {own : String} (h1 : 0 + 1 ≤ fr) (h2 : 8 + (2 + 11) + 0 ≤ lo) (h3 : .methodLink own i yX12_bad ∈ lw_tbl) : pz_cV fr lo own i k_X12_bad :=
  pz_cVk (maxL := 2) (fr' := 0) (lo' := 0) 1 12 h_X12_bad rfl ⟨(pz_nhc_RX12 yX12_bad rfl).1, (pz_nhc_RX12 yX12_bad rfl).2, pz_ds9⟩ ⟨pz_wq1314, pz_wq1313, pz_ws15, pz_wq13⟩ (Or.inl ⟨TX12, 28, rfl⟩) (fun a M _ h => by
    have h : (match (generalizing := false) a with | [.inr (.inr (12, th)), .inl x] => pz_im M | _ => False) := h
    split at h
    · exact ⟨_, _, rfl⟩
    · exact h.elim) h1 h2 h3
noncomputable def k_X12_need : pz_C := (2, 1, fun a M => (match a with | [.inr (.inr (12, th)), .inl x] => pz_im M | _ => False), fun a M r M' => (match a, r with | [.inr (.inr (12, th)), .inl x], some (.inl v) => ((v = 0 ∨ (v = 1 ∧ M 1 18 = x ∧ M 1 17 ≤ M' 1 19 ∧ M' 1 19 ≤ M' 1 17 ∧ (M' 1 18 ≠ 0 → M' 1 19 + 1 ≤ M' 1 17))) ∧ ((v = 1 ∧ (pz_tb M → pz_nxt M M')) ∨ (v = 0 ∧ M 1 18 ≠ x ∧ M' 1 21 = 1 ∧ M' 1 22 = M 1 19))) ∧ pz_rl pz_Q0 M M' | _, _ => False))
noncomputable abbrev ct_X12_need : List (Bool × Nat × pz_C) := [(true, 188, k_X12_bad), (true, 191, k_X12_next0)]
set_option maxRecDepth 100000 in
set_option maxHeartbeats 4000000 in
theorem h_X12_need : pz_H yX12_need cX12_need 2 (some .boolean) k_X12_need 9 190 := by
  refine pz_mk (own := RX12) (tb := t_X12_need) (fl := pz_flf fl_RX12) (ci := pz_cif ci_RX12) (ct := pz_ctf ct_X12_need) (rz := true) (pz_pfc_RX12 yX12_need rfl) rfl t_X12_need_ok (pz_flk fl_RX12_ok) (pz_cik ci_RX12_ok) ?_ ?_ (Or.inr ⟨rfl, rfl⟩) ?_ ?_
  · exact fun i k' h => pz_ctk (l := ct_X12_need) (P := fun b i k => b = true → pz_cV 9 190 RX12 i k) (List.forall_mem_cons.mpr ⟨(fun _ => v_X12_bad (by decide) (by decide) pz_wq1311), List.forall_mem_cons.mpr ⟨(fun _ => v_X12_next0 (by decide) (by decide) pz_wq1243), fun _ h => absurd h List.not_mem_nil⟩⟩) true i k' h rfl
  · exact fun i k' h => pz_ctk (l := ct_X12_need) (P := fun b i k => b = false → (pz_cS 9 190 RX12 i k ∨ (k = pz_kac ∧ 1 ≤ 9 ∧ 60 ≤ 190 ∧ Cond.methodLink RX12 i arraycopyName ∈ pz_tbl))) (List.forall_mem_cons.mpr ⟨((fun z => by cases z)), List.forall_mem_cons.mpr ⟨((fun z => by cases z)), fun _ h => absurd h List.not_mem_nil⟩⟩) false i k' h rfl
  · intro a M hlen hpre
    obtain ⟨th, x, rfl, hpre⟩ : ∃ th x, a = [.inr (.inr (12, th)), .inl x] ∧ (pz_im M) := by
      have hpre : (match (generalizing := false) a with | [.inr (.inr (12, th)), .inl x] => pz_im M | _ => False) := hpre
      split at hpre
      · exact ⟨_, _, rfl, hpre⟩
      · exact hpre.elim
    exact Nat.le_of_ble_eq_true rfl
  · intro a M hlen hcan hM hpre Ok hgo
    obtain ⟨th, x, rfl, hpre⟩ : ∃ th x, a = [.inr (.inr (12, th)), .inl x] ∧ (pz_im M) := by
      have hpre : (match (generalizing := false) a with | [.inr (.inr (12, th)), .inl x] => pz_im M | _ => False) := hpre
      split at hpre
      · exact ⟨_, _, rfl, hpre⟩
      · exact hpre.elim
    obtain ⟨k_th, hc_th⟩ := pz_tlm hcan
    have k_th : pz_kd th = 12 ∧ th < 231 := k_th
    have R_th := pz_kd12 k_th.1
    subst R_th
    clear k_th
    obtain ⟨k_x, hc_x⟩ := pz_tlm hc_th
    have l_x : -2147483648 ≤ x := k_x.1
    have u_x : x ≤ 2147483647 := k_x.2
    have hI : pz_im M := hpre
    have hI0 := hI
    have hS : pz_rl pz_Q0 M M := pz_rl.rf
    refine hgo (fun _ => false) 14 0 _ [] M ?_
    intro v1 e1 a1 b1
    refine And.intro (fun h5 => ?_) (fun h5 => ?_)
    · skip
      refine And.intro (hI) ?_
      intro M15 q15
      obtain ⟨q15, z15⟩ := q15
      have hS : pz_rl pz_Q0 M M15 := hS.tr z15
      have hI : pz_im M15 := hS.1 hI0
      obtain ⟨q15, s15⟩ := q15
      have f15 := pz_q0f z15
      obtain ⟨f15a, f15b, f15c⟩ := f15
      refine And.intro (by omega) ?_
      refine And.intro rfl ?_
      exact ⟨⟨Or.inr ⟨rfl, by omega, q15⟩, Or.inl ⟨rfl, s15⟩⟩, hS⟩
    · skip
      refine And.intro (hI) ?_
      intro v10 M10 a10 b10 q10
      obtain ⟨q10, z10⟩ := q10
      have hS : pz_rl pz_Q0 M M10 := hS.tr z10
      have hI : pz_im M10 := hS.1 hI0
      clear a10 b10
      refine And.intro (by omega) ?_
      refine And.intro rfl ?_
      exact ⟨⟨Or.inl (by omega), Or.inr ⟨q10.1, by omega, q10.2⟩⟩, hS⟩
theorem v_X12_need {fr lo i : Nat} {own : String} (h1 : 9 + 1 ≤ fr) (h2 : 8 + (2 + 11) + 190 ≤ lo) (h3 : .methodLink own i yX12_need ∈ lw_tbl) : pz_cV fr lo own i k_X12_need :=
  pz_cVk (maxL := 2) (fr' := 9) (lo' := 190) 1 12 h_X12_need rfl ⟨(pz_nhc_RX12 yX12_need rfl).1, (pz_nhc_RX12 yX12_need rfl).2, pz_ds9⟩ ⟨pz_wq1350, pz_wq1349, pz_ws24, pz_wq13⟩ (Or.inl ⟨TX12, 28, rfl⟩) (fun a M _ h => by
    have h : (match (generalizing := false) a with | [.inr (.inr (12, th)), .inl x] => pz_im M | _ => False) := h
    split at h
    · exact ⟨_, _, rfl⟩
    · exact h.elim) h1 h2 h3
noncomputable def k_X12_lay : pz_C := (3, 0, fun a M => (match a with | [.inr (.inr (12, th)), .inl x, .inl y] => pz_im M ∧ M 1 14 ≤ 409 | _ => False), fun a M r M' => (match a, r with | [.inr (.inr (12, th)), .inl x, .inl y], none => (pz_ly M M' x y ∧ M' 1 20 = M 1 20) ∧ pz_rl pz_Q1 M M' | _, _ => False))
noncomputable abbrev ct_X12_lay : List (Bool × Nat × pz_C) := []
set_option maxRecDepth 100000 in
set_option maxHeartbeats 4000000 in
theorem h_X12_lay : pz_H yX12_lay cX12_lay 3 none k_X12_lay 0 0 := by
  refine pz_mk (own := RX12) (tb := t_X12_lay) (fl := pz_flf fl_RX12) (ci := pz_cif ci_RX12) (ct := pz_ctf ct_X12_lay) (rz := false) (pz_pfc_RX12 yX12_lay rfl) rfl t_X12_lay_ok (pz_flk fl_RX12_ok) (pz_cik ci_RX12_ok) ?_ ?_ (rfl) ?_ ?_
  · exact fun i k' h => pz_ctk (l := ct_X12_lay) (P := fun b i k => b = true → pz_cV 0 0 RX12 i k) (fun _ h => absurd h List.not_mem_nil) true i k' h rfl
  · exact fun i k' h => pz_ctk (l := ct_X12_lay) (P := fun b i k => b = false → (pz_cS 0 0 RX12 i k ∨ (k = pz_kac ∧ 1 ≤ 0 ∧ 60 ≤ 0 ∧ Cond.methodLink RX12 i arraycopyName ∈ pz_tbl))) (fun _ h => absurd h List.not_mem_nil) false i k' h rfl
  · intro a M hlen hpre
    obtain ⟨th, x, y, rfl, hpre⟩ : ∃ th x y, a = [.inr (.inr (12, th)), .inl x, .inl y] ∧ (pz_im M ∧ M 1 14 ≤ 409) := by
      have hpre : (match (generalizing := false) a with | [.inr (.inr (12, th)), .inl x, .inl y] => pz_im M ∧ M 1 14 ≤ 409 | _ => False) := hpre
      split at hpre
      · exact ⟨_, _, _, rfl, hpre⟩
      · exact hpre.elim
    exact Nat.le_of_ble_eq_true rfl
  · intro a M hlen hcan hM hpre Ok hgo
    obtain ⟨th, x, y, rfl, hpre⟩ : ∃ th x y, a = [.inr (.inr (12, th)), .inl x, .inl y] ∧ (pz_im M ∧ M 1 14 ≤ 409) := by
      have hpre : (match (generalizing := false) a with | [.inr (.inr (12, th)), .inl x, .inl y] => pz_im M ∧ M 1 14 ≤ 409 | _ => False) := hpre
      split at hpre
      · exact ⟨_, _, _, rfl, hpre⟩
      · exact hpre.elim
    obtain ⟨k_th, hc_th⟩ := pz_tlm hcan
    have k_th : pz_kd th = 12 ∧ th < 231 := k_th
    have R_th := pz_kd12 k_th.1
    subst R_th
    clear k_th
    obtain ⟨k_x, hc_x⟩ := pz_tlm hc_th
    have l_x : -2147483648 ≤ x := k_x.1
    have u_x : x ≤ 2147483647 := k_x.2
    obtain ⟨k_y, hc_y⟩ := pz_tlm hc_x
    have l_y : -2147483648 ≤ y := k_y.1
    have u_y : y ≤ 2147483647 := k_y.2
    have hI : pz_im M := hpre.1
    have hI0 := hI
    have hS : pz_rl pz_Q1 M M := pz_rl.rf
    have I0 := hI.2.1.2.2.2.2.2.2.1
    refine hgo (fun _ => false) 27 0 _ [] M ?_
    refine pz_nrc (c := 65) rfl ?_
    intro v6 e6 a6 b6
    have I6 : 0 ≤ v6 ∧ v6 ≤ 410 := by
      rw [e6]
      exact hI.2.1.2.2.2.2.2.2.1
    clear a6 b6
    have N6 := hI.2.1.2.2.2.2.2.2.1
    intro v9 e9 a9 b9
    rw [pz_wi (by omega) (by omega)] at e9
    clear a9 b9
    have lo11 : (0 : Int) ≤ v9 := by omega
    have tn11 : (((v9).toNat : Nat) : Int) = v9 := Int.toNat_of_nonneg lo11
    refine And.intro (lo11) (And.intro (show _ < (820 : Int) from by omega) ?_)
    intro M11 e11
    have hS : pz_rl pz_Q1 M M11 := by
      rw [e11]
      exact pz_rl_u hS (by unfold pz_Q1; omega) (pz_iom_a (by decide))
    have hI : pz_im M11 := hS.1 hI0
    have T11_0 : M11 1 14 = M 1 14 := by
      rw [e11]
      exact (pz_une (fun h => absurd h.1 (by decide)))
    have T11_1 : M11 1 17 = M 1 17 := by
      rw [e11]
      exact (pz_une (fun h => absurd h.1 (by decide)))
    have T11_2 : M11 1 18 = M 1 18 := by
      rw [e11]
      exact (pz_une (fun h => absurd h.1 (by decide)))
    have T11_3 : M11 1 19 = M 1 19 := by
      rw [e11]
      exact (pz_une (fun h => absurd h.1 (by decide)))
    have T11_4 : M11 1 24 = M 1 24 := by
      rw [e11]
      exact (pz_une (fun h => absurd h.1 (by decide)))
    have T11_5 : M11 1 20 = M 1 20 := by
      rw [e11]
      exact (pz_une (fun h => absurd h.1 (by decide)))
    refine pz_nrc (c := 65) rfl ?_
    intro v18 e18 a18 b18
    have I18 : 0 ≤ v18 ∧ v18 ≤ 410 := by
      rw [e18]
      exact hI.2.1.2.2.2.2.2.2.1
    clear a18 b18
    have N18 := hI.2.1.2.2.2.2.2.2.1
    replace e18 := e18.trans T11_0
    intro v21 e21 a21 b21
    rw [pz_wi (by omega) (by omega)] at e21
    clear a21 b21
    intro v23 e23 a23 b23
    rw [pz_wi (by omega) (by omega)] at e23
    clear a23 b23
    have lo25 : (0 : Int) ≤ v23 := by omega
    have tn25 : (((v23).toNat : Nat) : Int) = v23 := Int.toNat_of_nonneg lo25
    refine And.intro (lo25) (And.intro (show _ < (820 : Int) from by omega) ?_)
    intro M25 e25
    have hS : pz_rl pz_Q1 M M25 := by
      rw [e25]
      exact pz_rl_u hS (by unfold pz_Q1; omega) (pz_iom_a (by decide))
    have hI : pz_im M25 := hS.1 hI0
    have T25_0 : M25 1 14 = M 1 14 := by
      rw [e25]
      exact (pz_une (fun h => absurd h.1 (by decide))).trans T11_0
    clear T11_0
    have T25_1 : M25 1 17 = M 1 17 := by
      rw [e25]
      exact (pz_une (fun h => absurd h.1 (by decide))).trans T11_1
    clear T11_1
    have T25_2 : M25 1 18 = M 1 18 := by
      rw [e25]
      exact (pz_une (fun h => absurd h.1 (by decide))).trans T11_2
    clear T11_2
    have T25_3 : M25 1 19 = M 1 19 := by
      rw [e25]
      exact (pz_une (fun h => absurd h.1 (by decide))).trans T11_3
    clear T11_3
    have T25_4 : M25 1 24 = M 1 24 := by
      rw [e25]
      exact (pz_une (fun h => absurd h.1 (by decide))).trans T11_4
    clear T11_4
    have T25_5 : M25 1 20 = M 1 20 := by
      rw [e25]
      exact (pz_une (fun h => absurd h.1 (by decide))).trans T11_5
    clear T11_5
    intro v28 e28 a28 b28
    have I28 : 0 ≤ v28 ∧ v28 ≤ 410 := by
      rw [e28]
      exact hI.2.1.2.2.2.2.2.2.1
    clear a28 b28
    have N28 := hI.2.1.2.2.2.2.2.2.1
    replace e28 := e28.trans T25_0
    intro v32 e32 a32 b32
    rw [pz_wi (by omega) (by omega)] at e32
    clear a32 b32
    intro M33 e33
    have hS : pz_rl pz_Q1 M M33 := by
      rw [e33]
      exact pz_rl_u hS (by unfold pz_Q1; decide) (pz_iom_14 (by omega))
    have hI : pz_im M33 := hS.1 hI0
    have T33_0 : M33 1 14 = v32 := by rw [e33]; exact pz_uu
    have T33_1 : M33 1 17 = M 1 17 := by
      rw [e33]
      exact (pz_une (by decide)).trans T25_1
    clear T25_1
    have T33_2 : M33 1 18 = M 1 18 := by
      rw [e33]
      exact (pz_une (by decide)).trans T25_2
    clear T25_2
    have T33_3 : M33 1 19 = M 1 19 := by
      rw [e33]
      exact (pz_une (by decide)).trans T25_3
    clear T25_3
    have T33_4 : M33 1 24 = M 1 24 := by
      rw [e33]
      exact (pz_une (by decide)).trans T25_4
    clear T25_4
    have T33_5 : M33 1 20 = M 1 20 := by
      rw [e33]
      exact (pz_une (by decide)).trans T25_5
    clear T25_5
    refine And.intro rfl ?_
    have key : ∀ j : Nat, ((j : Int) = 2 * M 1 14 → M33 65 j = x) ∧ ((j : Int) = 2 * M 1 14 + 1 → M33 65 j = y) ∧ ((j : Int) < 2 * M 1 14 → M33 65 j = M 65 j) := by
      intro j
      have U1 := pz_uve e33 65 j
      have U2 := pz_uve e25 65 j
      have U3 := pz_uve e11 65 j
      refine ⟨fun q => ?_, fun q => ?_, fun q => ?_⟩ <;> omega
    exact ⟨⟨⟨(key _).1 (by omega), (key _).2.1 (by omega), by omega, by omega, by omega, by omega, by omega, fun j hj => (key j).2.2 hj⟩, by omega⟩, hS⟩
theorem v_X12_lay {fr lo i : Nat} {own : String} (h1 : 0 + 1 ≤ fr) (h2 : 8 + (3 + 11) + 0 ≤ lo) (h3 : .methodLink own i yX12_lay ∈ lw_tbl) : pz_cV fr lo own i k_X12_lay :=
  pz_cVk (maxL := 3) (fr' := 0) (lo' := 0) 2 12 h_X12_lay rfl ⟨(pz_nhc_RX12 yX12_lay rfl).1, (pz_nhc_RX12 yX12_lay rfl).2, pz_ds12⟩ ⟨pz_wq1330, pz_wq1329, pz_ws19, pz_wq13⟩ (Or.inl ⟨TX12, 28, rfl⟩) (fun a M _ h => by
    have h : (match (generalizing := false) a with | [.inr (.inr (12, th)), .inl x, .inl y] => pz_im M ∧ M 1 14 ≤ 409 | _ => False) := h
    split at h
    · exact ⟨_, _, rfl⟩
    · exact h.elim) h1 h2 h3
noncomputable def k_X12_opens : pz_C := (1, 1, fun a M => (match a with | [.inr (.inr (12, th))] => pz_im M ∧ 0 ≤ M 1 24 ∧ M 1 24 ≤ 8 | _ => False), fun a M r M' => (match a, r with | [.inr (.inr (12, th))], some (.inl v) => ((v = 0 ∨ (v = 1 ∧ M 1 24 ≠ 8 ∧ M' 1 24 = M 1 24 + 1 ∧ M 1 17 ≤ M' 1 19 ∧ M' 1 19 ≤ M' 1 17 ∧ (M' 1 18 ≠ 0 → M' 1 19 + 1 ≤ M' 1 17))) ∧ (pq_opn M M' v)) ∧ pz_rl pz_Q5 M M' | _, _ => False))
noncomputable abbrev ct_X12_opens : List (Bool × Nat × pz_C) := [(true, 188, k_X12_bad), (true, 191, k_X12_next0)]
theorem pz_wk_Q0_Q5 : ∀ b j, pz_Q0 b j → pz_Q5 b j := by
  intro b j q
  unfold pz_Q0 at q
  unfold pz_Q5
  omega
set_option maxRecDepth 100000 in
set_option maxHeartbeats 4000000 in
theorem h_X12_opens : pz_H yX12_opens cX12_opens 1 (some .boolean) k_X12_opens 9 190 := by
  refine pz_mk (own := RX12) (tb := t_X12_opens) (fl := pz_flf fl_RX12) (ci := pz_cif ci_RX12) (ct := pz_ctf ct_X12_opens) (rz := true) (pz_pfc_RX12 yX12_opens rfl) rfl t_X12_opens_ok (pz_flk fl_RX12_ok) (pz_cik ci_RX12_ok) ?_ ?_ (Or.inr ⟨rfl, rfl⟩) ?_ ?_
  · exact fun i k' h => pz_ctk (l := ct_X12_opens) (P := fun b i k => b = true → pz_cV 9 190 RX12 i k) (List.forall_mem_cons.mpr ⟨(fun _ => v_X12_bad (by decide) (by decide) pz_wq1311), List.forall_mem_cons.mpr ⟨(fun _ => v_X12_next0 (by decide) (by decide) pz_wq1243), fun _ h => absurd h List.not_mem_nil⟩⟩) true i k' h rfl
  · exact fun i k' h => pz_ctk (l := ct_X12_opens) (P := fun b i k => b = false → (pz_cS 9 190 RX12 i k ∨ (k = pz_kac ∧ 1 ≤ 9 ∧ 60 ≤ 190 ∧ Cond.methodLink RX12 i arraycopyName ∈ pz_tbl))) (List.forall_mem_cons.mpr ⟨((fun z => by cases z)), List.forall_mem_cons.mpr ⟨((fun z => by cases z)), fun _ h => absurd h List.not_mem_nil⟩⟩) false i k' h rfl
  · intro a M hlen hpre
    obtain ⟨th, rfl, hpre⟩ : ∃ th, a = [.inr (.inr (12, th))] ∧ (pz_im M ∧ 0 ≤ M 1 24 ∧ M 1 24 ≤ 8) := by
      have hpre : (match (generalizing := false) a with | [.inr (.inr (12, th))] => pz_im M ∧ 0 ≤ M 1 24 ∧ M 1 24 ≤ 8 | _ => False) := hpre
      split at hpre
      · exact ⟨_, rfl, hpre⟩
      · exact hpre.elim
    exact Nat.le_of_ble_eq_true rfl
  · intro a M hlen hcan hM hpre Ok hgo
    obtain ⟨th, rfl, hpre⟩ : ∃ th, a = [.inr (.inr (12, th))] ∧ (pz_im M ∧ 0 ≤ M 1 24 ∧ M 1 24 ≤ 8) := by
      have hpre : (match (generalizing := false) a with | [.inr (.inr (12, th))] => pz_im M ∧ 0 ≤ M 1 24 ∧ M 1 24 ≤ 8 | _ => False) := hpre
      split at hpre
      · exact ⟨_, rfl, hpre⟩
      · exact hpre.elim
    obtain ⟨k_th, hc_th⟩ := pz_tlm hcan
    have k_th : pz_kd th = 12 ∧ th < 231 := k_th
    have R_th := pz_kd12 k_th.1
    subst R_th
    clear k_th
    have hI : pz_im M := hpre.1
    have hI0 := hI
    have hS : pz_rl pz_Q5 M M := pz_rl.rf
    obtain ⟨-, pr4, pr5⟩ := hpre
    refine hgo (fun _ => false) 20 0 _ [] M ?_
    intro v1 e1 a1 b1
    refine And.intro (fun h6 => ?_) (fun h6 => ?_)
    · skip
      intro v17 e17 a17 b17
      intro v21 e21 a21 b21
      rw [pz_wi (by omega) (by omega)] at e21
      clear a21 b21
      intro M22 e22
      have hS : pz_rl pz_Q5 M M22 := by
        rw [e22]
        exact pz_rl_u hS (by unfold pz_Q5; decide) (pz_iom_f (by decide))
      have hI : pz_im M22 := hS.1 hI0
      have T22_0 : M22 1 17 = M 1 17 := by
        rw [e22]
        exact (pz_une (by decide))
      have T22_1 : M22 1 18 = M 1 18 := by
        rw [e22]
        exact (pz_une (by decide))
      have T22_2 : M22 1 19 = M 1 19 := by
        rw [e22]
        exact (pz_une (by decide))
      have T22_3 : M22 1 24 = v21 := by rw [e22]; exact pz_uu
      have T22_4 : M22 1 20 = M 1 20 := by
        rw [e22]
        exact (pz_une (by decide))
      have E22 := pq_Q5 hS
      refine And.intro (hI) ?_
      intro M26 q26
      obtain ⟨q26, z26⟩ := q26
      have hS : pz_rl pz_Q5 M M26 := hS.tr (pz_rl.wk pz_wk_Q0_Q5 z26)
      have hI : pz_im M26 := hS.1 hI0
      obtain ⟨q26, s26⟩ := q26
      have f26 := pz_q0f z26
      obtain ⟨f26a, f26b, f26c⟩ := f26
      refine And.intro (by omega) ?_
      refine And.intro rfl ?_
      exact ⟨⟨Or.inr ⟨rfl, by omega, by omega, by omega⟩, fun i c => Or.inl ⟨rfl, by omega, pq_mz_nx ⟨pq_mi_cg c.1 E22 (by omega) (by omega) (by omega) (by omega), by rw [E22.2.2]; exact c.2⟩ z26 s26⟩⟩, hS⟩
    · skip
      refine And.intro (hI) ?_
      intro v11 M11 a11 b11 q11
      obtain ⟨q11, z11⟩ := q11
      have hS : pz_rl pz_Q5 M M11 := hS.tr (pz_rl.wk pz_wk_Q0_Q5 z11)
      have hI : pz_im M11 := hS.1 hI0
      clear a11 b11
      refine And.intro (by omega) ?_
      refine And.intro rfl ?_
      exact ⟨⟨Or.inl (by omega), fun i c => Or.inr ⟨by omega, by omega, by omega, q11.2.2.trans c.1.2.1⟩⟩, hS⟩
theorem v_X12_opens {fr lo i : Nat} {own : String} (h1 : 9 + 1 ≤ fr) (h2 : 8 + (1 + 11) + 190 ≤ lo) (h3 : .methodLink own i yX12_opens ∈ lw_tbl) : pz_cV fr lo own i k_X12_opens :=
  pz_cVk (maxL := 1) (fr' := 9) (lo' := 190) 0 12 h_X12_opens rfl ⟨(pz_nhc_RX12 yX12_opens rfl).1, (pz_nhc_RX12 yX12_opens rfl).2, pz_ds3⟩ ⟨pz_wq1346, pz_wq1345, pz_ws23, pz_wq13⟩ (Or.inl ⟨TX12, 28, rfl⟩) (fun a M _ h => by
    have h : (match (generalizing := false) a with | [.inr (.inr (12, th))] => pz_im M ∧ 0 ≤ M 1 24 ∧ M 1 24 ≤ 8 | _ => False) := h
    split at h
    · exact ⟨_, _, rfl⟩
    · exact h.elim) h1 h2 h3
