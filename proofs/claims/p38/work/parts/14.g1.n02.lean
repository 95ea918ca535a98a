noncomputable def k_X12_aPhone : pz_C := (1, 1, fun a M => (match a with | [.inr (.inr (12, th))] => pz_im M ∧ M 1 15 < 16 ∧ M 1 12 = 2 | _ => False), fun a M r M' => (match a, r with | [.inr (.inr (12, th))], some (.inl v) => (((∀ j : Nat, (j : Int) < 3 * M 1 15 → M' 66 j = M 66 j) ∧ (v = 0 ∨ (v = 1 ∧ 0 ≤ M' 66 (3 * M 1 15).toNat ∧ M' 66 (3 * M 1 15).toNat ≤ 11))) ∧ pq_mr (pq_GH M) 2 M M' v) ∧ pz_rl pz_Q8 M M' | _, _ => False))
noncomputable abbrev ct_X12_aPhone : List (Bool × Nat × pz_C) := [(true, 223, k_X12_need), (true, 245, k_X12_aLink), (true, 241, k_X12_told)]
set_option maxRecDepth 100000 in
set_option maxHeartbeats 4000000 in
theorem h_X12_aPhone : pz_H yX12_aPhone cX12_aPhone 2 (some .boolean) k_X12_aPhone 11 237 := by
  refine pz_mk (own := RX12) (tb := t_X12_aPhone) (fl := pz_flf fl_RX12) (ci := pz_cif ci_RX12) (ct := pz_ctf ct_X12_aPhone) (rz := true) (pz_pfc_RX12 yX12_aPhone rfl) rfl t_X12_aPhone_ok (pz_flk fl_RX12_ok) (pz_cik ci_RX12_ok) ?_ ?_ (Or.inr ⟨rfl, rfl⟩) ?_ ?_
  · exact fun i k' h => pz_ctk (l := ct_X12_aPhone) (P := fun b i k => b = true → pz_cV 11 237 RX12 i k) (List.forall_mem_cons.mpr ⟨(fun _ => v_X12_need (by decide) (by decide) pz_wq1347), List.forall_mem_cons.mpr ⟨(fun _ => v_X12_aLink (by decide) (by decide) pz_wq1371), List.forall_mem_cons.mpr ⟨(fun _ => v_X12_told (by decide) (by decide) pz_wq1363), fun _ h => absurd h List.not_mem_nil⟩⟩⟩) true i k' h rfl
  · exact fun i k' h => pz_ctk (l := ct_X12_aPhone) (P := fun b i k => b = false → (pz_cS 11 237 RX12 i k ∨ (k = pz_kac ∧ 1 ≤ 11 ∧ 60 ≤ 237 ∧ Cond.methodLink RX12 i arraycopyName ∈ pz_tbl))) (List.forall_mem_cons.mpr ⟨((fun z => by cases z)), List.forall_mem_cons.mpr ⟨((fun z => by cases z)), List.forall_mem_cons.mpr ⟨((fun z => by cases z)), fun _ h => absurd h List.not_mem_nil⟩⟩⟩) false i k' h rfl
  · intro a M hlen hpre
    obtain ⟨th, rfl, hpre⟩ : ∃ th, a = [.inr (.inr (12, th))] ∧ (pz_im M ∧ M 1 15 < 16 ∧ M 1 12 = 2) := by
      have hpre : (match (generalizing := false) a with | [.inr (.inr (12, th))] => pz_im M ∧ M 1 15 < 16 ∧ M 1 12 = 2 | _ => False) := hpre
      split at hpre
      · exact ⟨_, rfl, hpre⟩
      · exact hpre.elim
    exact Nat.le_of_ble_eq_true rfl
  · intro a M hlen hcan hM hpre Ok hgo
    obtain ⟨th, rfl, hpre⟩ : ∃ th, a = [.inr (.inr (12, th))] ∧ (pz_im M ∧ M 1 15 < 16 ∧ M 1 12 = 2) := by
      have hpre : (match (generalizing := false) a with | [.inr (.inr (12, th))] => pz_im M ∧ M 1 15 < 16 ∧ M 1 12 = 2 | _ => False) := hpre
      split at hpre
      · exact ⟨_, rfl, hpre⟩
      · exact hpre.elim
    obtain ⟨k_th, hc_th⟩ := pz_tlm hcan
    have k_th : pz_kd th = 12 ∧ th < 231 := k_th
    have R_th := pz_kd12 k_th.1
    subst R_th
    clear k_th
    have hI : pz_im M := hpre.1
    have hI0 := hI
    have hS : pz_rl pz_Q8 M M := pz_rl.rf
    have I15 := hI.2.1.2.2.2.2.2.2.2.1
    obtain ⟨-, pr1, pr2⟩ := hpre
    refine hgo (fun _ => false) 44 0 _ [] M ?_
    intro v2 e2 a2 b2
    have I2 : 0 ≤ v2 ∧ v2 ≤ 16 := by
      rw [e2]
      exact hI.2.1.2.2.2.2.2.2.2.1
    clear a2 b2
    have N2 := hI.2.1.2.2.2.2.2.2.2.1
    intro v5 e5 a5 b5
    rw [pz_wi (by omega) (by omega)] at e5
    clear a5 b5
    refine And.intro (hI) ?_
    intro v10 M10 a10 b10 q10
    obtain ⟨q10, z10⟩ := q10
    have hS : pz_rl pz_Q8 M M10 := hS.tr (pz_rl.wk pz_wk_Q0_Q8 z10)
    have hI : pz_im M10 := hS.1 hI0
    obtain ⟨q10, s10⟩ := q10
    have W10 : ∀ j : Nat, (j : Int) < 3 * M 1 15 → M10 66 j = M 66 j := fun j _ => z10.2 66 j (by unfold pz_Q0; omega)
    have K10 : M10 60 88 = M 60 88 := z10.2 60 88 (by unfold pz_Q0; omega)
    refine And.intro (fun h13 => ?_) (fun h13 => ?_)
    · skip
      have n9 := (s10.resolve_left (fun y => absurd (y.1.symm.trans h13) (by decide))).2
      have F13 := pq_mH_0f pr2 n9.1 n9.2.1 n9.2.2
      refine And.intro (by omega) ?_
      refine And.intro rfl ?_
      have E9 : (3 * M 1 15).toNat = v5.toNat := by omega
      have E8 : ((pq_wid 2 : Nat) : Int) = 3 := rfl
      first
        | exact ⟨⟨⟨W59, Or.inr ⟨rfl, by rw [E9, V59, V34]; exact (q18.2.resolve_left h21).2⟩⟩, Or.inl ⟨rfl, _, _, P59.1 h62, pq_lay2 (n0 := v5.toNat) (n1 := v27.toNat) (n2 := v43.toNat) (by omega) (by omega) (by omega) (V59.trans V34) V59b rfl, fun j hj => W59 j (by rw [E8] at hj; exact hj)⟩⟩, hS⟩
        | exact ⟨⟨⟨W59, Or.inl rfl⟩, Or.inr ⟨rfl, P59.2 (by omega)⟩⟩, hS⟩
        | exact ⟨⟨⟨W34, Or.inl rfl⟩, Or.inr ⟨rfl, P34.2 (by omega)⟩⟩, hS⟩
        | exact ⟨⟨⟨W18, Or.inl rfl⟩, Or.inr ⟨rfl, F21⟩⟩, hS⟩
        | exact ⟨⟨⟨W10, Or.inl rfl⟩, Or.inr ⟨rfl, F13⟩⟩, hS⟩
    · skip
      have S13 := pq_mH_0 pr2 (q10.resolve_left h13).2.1 z10 (s10.resolve_right (fun y => h13 y.1)).2
      refine And.intro (And.intro hI (And.intro (by omega) (by omega))) ?_
      intro v18 M18 a18 b18 q18
      obtain ⟨q18, z18⟩ := q18
      have hS : pz_rl pz_Q8 M M18 := hS.tr z18
      have hI : pz_im M18 := hS.1 hI0
      obtain ⟨q18, s18⟩ := q18
      have W18 : ∀ j : Nat, (j : Int) < 3 * M 1 15 → M18 66 j = M 66 j := fun j hj => (q18.1 j (by omega)).trans (W10 j hj)
      rw [K10] at s18
      have R18 : M18 1 12 = 2 := by rw [hS.2 1 12 (by unfold pz_Q8; omega)]; exact pr2
      refine And.intro (fun h21 => ?_) (fun h21 => ?_)
      · skip
        have F21 := pq_mH_af S13 s18 h21
        refine And.intro (by omega) ?_
        refine And.intro rfl ?_
        have E9 : (3 * M 1 15).toNat = v5.toNat := by omega
        have E8 : ((pq_wid 2 : Nat) : Int) = 3 := rfl
        first
          | exact ⟨⟨⟨W59, Or.inr ⟨rfl, by rw [E9, V59, V34]; exact (q18.2.resolve_left h21).2⟩⟩, Or.inl ⟨rfl, _, _, P59.1 h62, pq_lay2 (n0 := v5.toNat) (n1 := v27.toNat) (n2 := v43.toNat) (by omega) (by omega) (by omega) (V59.trans V34) V59b rfl, fun j hj => W59 j (by rw [E8] at hj; exact hj)⟩⟩, hS⟩
          | exact ⟨⟨⟨W59, Or.inl rfl⟩, Or.inr ⟨rfl, P59.2 (by omega)⟩⟩, hS⟩
          | exact ⟨⟨⟨W34, Or.inl rfl⟩, Or.inr ⟨rfl, P34.2 (by omega)⟩⟩, hS⟩
          | exact ⟨⟨⟨W18, Or.inl rfl⟩, Or.inr ⟨rfl, F21⟩⟩, hS⟩
          | exact ⟨⟨⟨W10, Or.inl rfl⟩, Or.inr ⟨rfl, F13⟩⟩, hS⟩
      · skip
        have S21 := pq_mH_a S13 s18 h21 (pq_Q8 z18)
        intro v27 e27 a27 b27
        rw [pz_wi (by omega) (by omega)] at e27
        clear a27 b27
        refine And.intro (And.intro hI (And.intro (by omega) (by omega))) ?_
        intro v34 M34 a34 b34 q34
        obtain ⟨q34, z34⟩ := q34
        have hS : pz_rl pz_Q8 M M34 := hS.tr z34
        have hI : pz_im M34 := hS.1 hI0
        obtain ⟨q34, s34⟩ := q34
        have W34 : ∀ j : Nat, (j : Int) < 3 * M 1 15 → M34 66 j = M 66 j := fun j hj => (q34.1 j (by omega)).trans (W18 j hj)
        have V34 : M34 66 v5.toNat = M18 66 v5.toNat := q34.1 _ (by omega)
        have P34 := pq_mH_b S21 R18 s34 (pq_Q8 z34)
        have R34 : M34 1 12 = 2 := by rw [hS.2 1 12 (by unfold pz_Q8; omega)]; exact pr2
        refine And.intro (fun h37 => ?_) (fun h37 => ?_)
        · skip
          refine And.intro (by omega) ?_
          refine And.intro rfl ?_
          have E9 : (3 * M 1 15).toNat = v5.toNat := by omega
          have E8 : ((pq_wid 2 : Nat) : Int) = 3 := rfl
          first
            | exact ⟨⟨⟨W59, Or.inr ⟨rfl, by rw [E9, V59, V34]; exact (q18.2.resolve_left h21).2⟩⟩, Or.inl ⟨rfl, _, _, P59.1 h62, pq_lay2 (n0 := v5.toNat) (n1 := v27.toNat) (n2 := v43.toNat) (by omega) (by omega) (by omega) (V59.trans V34) V59b rfl, fun j hj => W59 j (by rw [E8] at hj; exact hj)⟩⟩, hS⟩
            | exact ⟨⟨⟨W59, Or.inl rfl⟩, Or.inr ⟨rfl, P59.2 (by omega)⟩⟩, hS⟩
            | exact ⟨⟨⟨W34, Or.inl rfl⟩, Or.inr ⟨rfl, P34.2 (by omega)⟩⟩, hS⟩
            | exact ⟨⟨⟨W18, Or.inl rfl⟩, Or.inr ⟨rfl, F21⟩⟩, hS⟩
            | exact ⟨⟨⟨W10, Or.inl rfl⟩, Or.inr ⟨rfl, F13⟩⟩, hS⟩
        · skip
          intro v43 e43 a43 b43
          rw [pz_wi (by omega) (by omega)] at e43
          clear a43 b43
          refine pz_nrc (c := 66) rfl ?_
          intro v52 e52 a52 b52
          rw [pz_wi (by omega) (by omega)] at e52
          clear a52 b52
          have lo53 : (0 : Int) ≤ v52 := by omega
          have tn53 : (((v52).toNat : Nat) : Int) = v52 := Int.toNat_of_nonneg lo53
          refine And.intro (lo53) (And.intro (show _ < (80 : Int) from by omega) ?_)
          intro v53 e53 a53 b53
          rw [show v52.toNat = v27.toNat by omega] at e53
          have B53 := (q34.2.resolve_left h37).2
          intro v55 e55 a55 b55
          rw [pz_wi (by omega) (by omega)] at e55
          clear a55 b55
          refine And.intro (And.intro hI (And.intro (by omega) (by omega))) ?_
          intro v59 M59 a59 b59 q59
          obtain ⟨q59, z59⟩ := q59
          have hS : pz_rl pz_Q8 M M59 := hS.tr z59
          have hI : pz_im M59 := hS.1 hI0
          obtain ⟨q59, s59⟩ := q59
          have W59 : ∀ j : Nat, (j : Int) < 3 * M 1 15 → M59 66 j = M 66 j := fun j hj => (q59.1 j (by omega)).trans (W34 j hj)
          have V59 : M59 66 v5.toNat = M34 66 v5.toNat := q59.1 _ (by omega)
          have V59b : M59 66 v27.toNat = M34 66 v27.toNat := q59.1 _ (by omega)
          rw [show v55 = M34 66 v27.toNat + 1 by omega] at s59
          have P59 := pq_mH_c (P34.1 h37) R34 s59 (pq_Q8 z59)
          refine And.intro (fun h62 => ?_) (fun h62 => ?_)
          · skip
            refine And.intro (by omega) ?_
            refine And.intro rfl ?_
            have E9 : (3 * M 1 15).toNat = v5.toNat := by omega
            have E8 : ((pq_wid 2 : Nat) : Int) = 3 := rfl
            first
              | exact ⟨⟨⟨W59, Or.inr ⟨rfl, by rw [E9, V59, V34]; exact (q18.2.resolve_left h21).2⟩⟩, Or.inl ⟨rfl, _, _, P59.1 h62, pq_lay2 (n0 := v5.toNat) (n1 := v27.toNat) (n2 := v43.toNat) (by omega) (by omega) (by omega) (V59.trans V34) V59b rfl, fun j hj => W59 j (by rw [E8] at hj; exact hj)⟩⟩, hS⟩
              | exact ⟨⟨⟨W59, Or.inl rfl⟩, Or.inr ⟨rfl, P59.2 (by omega)⟩⟩, hS⟩
              | exact ⟨⟨⟨W34, Or.inl rfl⟩, Or.inr ⟨rfl, P34.2 (by omega)⟩⟩, hS⟩
              | exact ⟨⟨⟨W18, Or.inl rfl⟩, Or.inr ⟨rfl, F21⟩⟩, hS⟩
              | exact ⟨⟨⟨W10, Or.inl rfl⟩, Or.inr ⟨rfl, F13⟩⟩, hS⟩
          · skip
            refine And.intro (by omega) ?_
            refine And.intro rfl ?_
            have E9 : (3 * M 1 15).toNat = v5.toNat := by omega
            have E8 : ((pq_wid 2 : Nat) : Int) = 3 := rfl
            first
              | exact ⟨⟨⟨W59, Or.inr ⟨rfl, by rw [E9, V59, V34]; exact (q18.2.resolve_left h21).2⟩⟩, Or.inl ⟨rfl, _, _, P59.1 h62, pq_lay2 (n0 := v5.toNat) (n1 := v27.toNat) (n2 := v43.toNat) (by omega) (by omega) (by omega) (V59.trans V34) V59b rfl, fun j hj => W59 j (by rw [E8] at hj; exact hj)⟩⟩, hS⟩
              | exact ⟨⟨⟨W59, Or.inl rfl⟩, Or.inr ⟨rfl, P59.2 (by omega)⟩⟩, hS⟩
              | exact ⟨⟨⟨W34, Or.inl rfl⟩, Or.inr ⟨rfl, P34.2 (by omega)⟩⟩, hS⟩
              | exact ⟨⟨⟨W18, Or.inl rfl⟩, Or.inr ⟨rfl, F21⟩⟩, hS⟩
              | exact ⟨⟨⟨W10, Or.inl rfl⟩, Or.inr ⟨rfl, F13⟩⟩, hS⟩
theorem v_X12_aPhone {fr lo i : Nat} {own : String} (h1 : 11 + 1 ≤ fr) (h2 : 8 + (2 + 11) + 237 ≤ lo) (h3 : .methodLink own i yX12_aPhone ∈ lw_tbl) : pz_cV fr lo own i k_X12_aPhone :=
  pz_cVk (maxL := 2) (fr' := 11) (lo' := 237) 0 12 h_X12_aPhone rfl ⟨(pz_nhc_RX12 yX12_aPhone rfl).1, (pz_nhc_RX12 yX12_aPhone rfl).2, pz_ds3⟩ ⟨pz_wq1378, pz_wq1377, pz_ws31, pz_wq13⟩ (Or.inl ⟨TX12, 28, rfl⟩) (fun a M _ h => by
    have h : (match (generalizing := false) a with | [.inr (.inr (12, th))] => pz_im M ∧ M 1 15 < 16 ∧ M 1 12 = 2 | _ => False) := h
    split at h
    · exact ⟨_, _, rfl⟩
    · exact h.elim) h1 h2 h3
noncomputable def k_X12_aRecord : pz_C := (1, 1, fun a M => (match a with | [.inr (.inr (12, th))] => pz_im M ∧ M 1 15 < 16 ∧ M 1 12 = 3 | _ => False), fun a M r M' => (match a, r with | [.inr (.inr (12, th))], some (.inl v) => ((v = 0 ∨ v = 1) ∧ pq_mr (pq_GD M) 3 M M' v) ∧ pz_rl pz_Q8 M M' | _, _ => False))
noncomputable abbrev ct_X12_aRecord : List (Bool × Nat × pz_C) := [(true, 241, k_X12_told), (true, 223, k_X12_need), (true, 245, k_X12_aLink)]
set_option maxRecDepth 100000 in
set_option maxHeartbeats 4000000 in
theorem h_X12_aRecord : pz_H yX12_aRecord cX12_aRecord 1 (some .boolean) k_X12_aRecord 11 237 := by
  refine pz_mk (own := RX12) (tb := t_X12_aRecord) (fl := pz_flf fl_RX12) (ci := pz_cif ci_RX12) (ct := pz_ctf ct_X12_aRecord) (rz := true) (pz_pfc_RX12 yX12_aRecord rfl) rfl t_X12_aRecord_ok (pz_flk fl_RX12_ok) (pz_cik ci_RX12_ok) ?_ ?_ (Or.inr ⟨rfl, rfl⟩) ?_ ?_
  · exact fun i k' h => pz_ctk (l := ct_X12_aRecord) (P := fun b i k => b = true → pz_cV 11 237 RX12 i k) (List.forall_mem_cons.mpr ⟨(fun _ => v_X12_told (by decide) (by decide) pz_wq1363), List.forall_mem_cons.mpr ⟨(fun _ => v_X12_need (by decide) (by decide) pz_wq1347), List.forall_mem_cons.mpr ⟨(fun _ => v_X12_aLink (by decide) (by decide) pz_wq1371), fun _ h => absurd h List.not_mem_nil⟩⟩⟩) true i k' h rfl
  · exact fun i k' h => pz_ctk (l := ct_X12_aRecord) (P := fun b i k => b = false → (pz_cS 11 237 RX12 i k ∨ (k = pz_kac ∧ 1 ≤ 11 ∧ 60 ≤ 237 ∧ Cond.methodLink RX12 i arraycopyName ∈ pz_tbl))) (List.forall_mem_cons.mpr ⟨((fun z => by cases z)), List.forall_mem_cons.mpr ⟨((fun z => by cases z)), List.forall_mem_cons.mpr ⟨((fun z => by cases z)), fun _ h => absurd h List.not_mem_nil⟩⟩⟩) false i k' h rfl
  · intro a M hlen hpre
    obtain ⟨th, rfl, hpre⟩ : ∃ th, a = [.inr (.inr (12, th))] ∧ (pz_im M ∧ M 1 15 < 16 ∧ M 1 12 = 3) := by
      have hpre : (match (generalizing := false) a with | [.inr (.inr (12, th))] => pz_im M ∧ M 1 15 < 16 ∧ M 1 12 = 3 | _ => False) := hpre
      split at hpre
      · exact ⟨_, rfl, hpre⟩
      · exact hpre.elim
    exact Nat.le_of_ble_eq_true rfl
  · intro a M hlen hcan hM hpre Ok hgo
    obtain ⟨th, rfl, hpre⟩ : ∃ th, a = [.inr (.inr (12, th))] ∧ (pz_im M ∧ M 1 15 < 16 ∧ M 1 12 = 3) := by
      have hpre : (match (generalizing := false) a with | [.inr (.inr (12, th))] => pz_im M ∧ M 1 15 < 16 ∧ M 1 12 = 3 | _ => False) := hpre
      split at hpre
      · exact ⟨_, rfl, hpre⟩
      · exact hpre.elim
    obtain ⟨k_th, hc_th⟩ := pz_tlm hcan
    have k_th : pz_kd th = 12 ∧ th < 231 := k_th
    have R_th := pz_kd12 k_th.1
    subst R_th
    clear k_th
    have hI : pz_im M := hpre.1
    have hI0 := hI
    have hS : pz_rl pz_Q8 M M := pz_rl.rf
    have I15 := hI.2.1.2.2.2.2.2.2.2.1
    obtain ⟨-, pr1, pr2⟩ := hpre
    refine hgo (fun _ => false) 29 0 _ [] M ?_
    intro v3 e3 a3 b3
    have I3 : 0 ≤ v3 ∧ v3 ≤ 16 := by
      rw [e3]
      exact hI.2.1.2.2.2.2.2.2.2.1
    clear a3 b3
    have N3 := hI.2.1.2.2.2.2.2.2.2.1
    intro v6 e6 a6 b6
    rw [pz_wi (by omega) (by omega)] at e6
    clear a6 b6
    refine And.intro (And.intro hI (And.intro (by omega) (by omega))) ?_
    intro v13 M13 a13 b13 q13
    obtain ⟨q13, z13⟩ := q13
    have hS : pz_rl pz_Q8 M M13 := hS.tr z13
    have hI : pz_im M13 := hS.1 hI0
    obtain ⟨q13, s13⟩ := q13
    have P13 := pq_mD_a pr2 s13 (pq_Q8 z13)
    have R13 : M13 1 12 = 3 := by rw [hS.2 1 12 (by unfold pz_Q8; omega)]; exact pr2
    refine And.intro (fun h16 => ?_) (fun h16 => ?_)
    · skip
      refine And.intro (by omega) ?_
      refine And.intro rfl ?_
      have E8 : ((pq_wid 3 : Nat) : Int) = 2 := rfl
      first
        | exact ⟨⟨Or.inr rfl, Or.inl ⟨rfl, _, _, P37.1 h40, pq_lay3 (n0 := v6.toNat) (n1 := v36.toNat) (by omega) (by omega) V37 rfl, fun j hj => (by rw [E8] at hj; exact (q37.1 j (by omega)).trans ((z22.2 66 j (by unfold pz_Q0; omega)).trans (q13.1 j (by omega))))⟩⟩, hS⟩
        | exact ⟨⟨Or.inl rfl, Or.inr ⟨rfl, P37.2 (by omega)⟩⟩, hS⟩
        | exact ⟨⟨Or.inl rfl, Or.inr ⟨rfl, F25⟩⟩, hS⟩
        | exact ⟨⟨Or.inl rfl, Or.inr ⟨rfl, P13.2 (by omega)⟩⟩, hS⟩
    · skip
      refine And.intro (hI) ?_
      intro v22 M22 a22 b22 q22
      obtain ⟨q22, z22⟩ := q22
      have hS : pz_rl pz_Q8 M M22 := hS.tr (pz_rl.wk pz_wk_Q0_Q8 z22)
      have hI : pz_im M22 := hS.1 hI0
      obtain ⟨q22, s22⟩ := q22
      have K22 : M22 60 88 = M 60 88 := hS.2 60 88 (by unfold pz_Q8; omega)
      refine And.intro (fun h25 => ?_) (fun h25 => ?_)
      · skip
        have n9 := (s22.resolve_left (fun y => absurd (y.1.symm.trans h25) (by decide))).2
        have F25 := pq_mD_bf (P13.1 h16) R13 n9.1 n9.2.1 n9.2.2
        refine And.intro (by omega) ?_
        refine And.intro rfl ?_
        have E8 : ((pq_wid 3 : Nat) : Int) = 2 := rfl
        first
          | exact ⟨⟨Or.inr rfl, Or.inl ⟨rfl, _, _, P37.1 h40, pq_lay3 (n0 := v6.toNat) (n1 := v36.toNat) (by omega) (by omega) V37 rfl, fun j hj => (by rw [E8] at hj; exact (q37.1 j (by omega)).trans ((z22.2 66 j (by unfold pz_Q0; omega)).trans (q13.1 j (by omega))))⟩⟩, hS⟩
          | exact ⟨⟨Or.inl rfl, Or.inr ⟨rfl, P37.2 (by omega)⟩⟩, hS⟩
          | exact ⟨⟨Or.inl rfl, Or.inr ⟨rfl, F25⟩⟩, hS⟩
          | exact ⟨⟨Or.inl rfl, Or.inr ⟨rfl, P13.2 (by omega)⟩⟩, hS⟩
      · skip
        have S25 := pq_mD_b (P13.1 h16) R13 (q22.resolve_left h25).2.1 z22 (s22.resolve_right (fun y => h25 y.1)).2
        intro v31 e31 a31 b31
        have I31 : 0 ≤ v31 ∧ v31 ≤ 16 := by
          rw [e31]
          exact hI.2.1.2.2.2.2.2.2.2.1
        clear a31 b31
        have N31 := hI.2.1.2.2.2.2.2.2.2.1
        rw [hS.2 1 15 (by unfold pz_Q8; omega)] at e31
        intro v34 e34 a34 b34
        rw [pz_wi (by omega) (by omega)] at e34
        clear a34 b34
        intro v36 e36 a36 b36
        rw [pz_wi (by omega) (by omega)] at e36
        clear a36 b36
        refine And.intro (And.intro hI (And.intro (by omega) (by omega))) ?_
        intro v37 M37 a37 b37 q37
        obtain ⟨q37, z37⟩ := q37
        have hS : pz_rl pz_Q8 M M37 := hS.tr z37
        have hI : pz_im M37 := hS.1 hI0
        obtain ⟨q37, s37⟩ := q37
        rw [K22] at s37
        have P37 := pq_mD_c S25 s37 (pq_Q8 z37)
        have V37 : M37 66 v6.toNat = M13 66 v6.toNat := (q37.1 _ (by omega)).trans (z22.2 66 _ (by unfold pz_Q0; omega))
        refine And.intro (fun h40 => ?_) (fun h40 => ?_)
        · skip
          refine And.intro (by omega) ?_
          refine And.intro rfl ?_
          have E8 : ((pq_wid 3 : Nat) : Int) = 2 := rfl
          first
            | exact ⟨⟨Or.inr rfl, Or.inl ⟨rfl, _, _, P37.1 h40, pq_lay3 (n0 := v6.toNat) (n1 := v36.toNat) (by omega) (by omega) V37 rfl, fun j hj => (by rw [E8] at hj; exact (q37.1 j (by omega)).trans ((z22.2 66 j (by unfold pz_Q0; omega)).trans (q13.1 j (by omega))))⟩⟩, hS⟩
            | exact ⟨⟨Or.inl rfl, Or.inr ⟨rfl, P37.2 (by omega)⟩⟩, hS⟩
            | exact ⟨⟨Or.inl rfl, Or.inr ⟨rfl, F25⟩⟩, hS⟩
            | exact ⟨⟨Or.inl rfl, Or.inr ⟨rfl, P13.2 (by omega)⟩⟩, hS⟩
        · skip
          refine And.intro (by omega) ?_
          refine And.intro rfl ?_
          have E8 : ((pq_wid 3 : Nat) : Int) = 2 := rfl
          first
            | exact ⟨⟨Or.inr rfl, Or.inl ⟨rfl, _, _, P37.1 h40, pq_lay3 (n0 := v6.toNat) (n1 := v36.toNat) (by omega) (by omega) V37 rfl, fun j hj => (by rw [E8] at hj; exact (q37.1 j (by omega)).trans ((z22.2 66 j (by unfold pz_Q0; omega)).trans (q13.1 j (by omega))))⟩⟩, hS⟩
            | exact ⟨⟨Or.inl rfl, Or.inr ⟨rfl, P37.2 (by omega)⟩⟩, hS⟩
            | exact ⟨⟨Or.inl rfl, Or.inr ⟨rfl, F25⟩⟩, hS⟩
            | exact ⟨⟨Or.inl rfl, Or.inr ⟨rfl, P13.2 (by omega)⟩⟩, hS⟩
theorem v_X12_aRecord {fr lo i : Nat} {own : String} (h1 : 11 + 1 ≤ fr) (h2 : 8 + (1 + 11) + 237 ≤ lo) (h3 : .methodLink own i yX12_aRecord ∈ lw_tbl) : pz_cV fr lo own i k_X12_aRecord :=
  pz_cVk (maxL := 1) (fr' := 11) (lo' := 237) 0 12 h_X12_aRecord rfl ⟨(pz_nhc_RX12 yX12_aRecord rfl).1, (pz_nhc_RX12 yX12_aRecord rfl).2, pz_ds3⟩ ⟨pz_wq1382, pz_wq1381, pz_ws32, pz_wq13⟩ (Or.inl ⟨TX12, 28, rfl⟩) (fun a M _ h => by
    have h : (match (generalizing := false) a with | [.inr (.inr (12, th))] => pz_im M ∧ M 1 15 < 16 ∧ M 1 12 = 3 | _ => False) := h
    split at h
    · exact ⟨_, _, rfl⟩
    · exact h.elim) h1 h2 h3
