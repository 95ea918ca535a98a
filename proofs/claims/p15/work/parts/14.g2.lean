section
noncomputable def k_X12_aLine : pz_C := (1, 1, fun a M => (match a with | [.inr (.inr (12, th))] => pz_im M ∧ M 1 19 ≤ M 1 17 ∧ (M 1 18 ≠ 0 → M 1 19 + 1 ≤ M 1 17) ∧ M 1 14 ≤ M 1 19 | _ => False), fun a M r M' => (match a, r with | [.inr (.inr (12, th))], some (.inl v) => ((v = 0 ∨ (v = 1 ∧ pz_alf M M')) ∧ pq_al (M 1 13).toNat M M' v) ∧ pz_rl pz_Q6 M M' | _, _ => False))
noncomputable abbrev ct_X12_aLine : List (Bool × Nat × pz_C) := [(false, 54, k_X12_isIn), (true, 188, k_X12_bad), (true, 191, k_X12_next0), (true, 226, k_X12_sumUp), (true, 220, (k_X12_any 8)), (true, 223, k_X12_need)]
theorem pz_wk_Q0_Q6 : ∀ b j, pz_Q0 b j → pz_Q6 b j := by
  intro b j q
  unfold pz_Q0 at q
  unfold pz_Q6
  omega
theorem pz_wk_Q1_Q6 : ∀ b j, pz_Q1 b j → pz_Q6 b j := by
  intro b j q
  unfold pz_Q1 at q
  unfold pz_Q6
  omega
set_option maxRecDepth 100000 in
set_option maxHeartbeats 4000000 in
theorem h_X12_aLine : pz_H yX12_aLine cX12_aLine 1 (some .boolean) k_X12_aLine 39 917 := by
  refine pz_mk (own := RX12) (tb := t_X12_aLine) (fl := pz_flf fl_RX12) (ci := pz_cif ci_RX12) (ct := pz_ctf ct_X12_aLine) (rz := true) (pz_pfc_RX12 yX12_aLine rfl) rfl t_X12_aLine_ok (pz_flk fl_RX12_ok) (pz_cik ci_RX12_ok) ?_ ?_ (Or.inr ⟨rfl, rfl⟩) ?_ ?_
  · exact fun i k' h => pz_ctk (l := ct_X12_aLine) (P := fun b i k => b = true → pz_cV 39 917 RX12 i k) (List.forall_mem_cons.mpr ⟨((fun z => by cases z)), List.forall_mem_cons.mpr ⟨(fun _ => v_X12_bad (by decide) (by decide) pz_wq1311), List.forall_mem_cons.mpr ⟨(fun _ => v_X12_next0 (by decide) (by decide) pz_wq1243), List.forall_mem_cons.mpr ⟨(fun _ => v_X12_sumUp (by decide) (by decide) pz_wq1315), List.forall_mem_cons.mpr ⟨(fun _ => v_X12_any8 (by decide) (by decide) pz_wq1331), List.forall_mem_cons.mpr ⟨(fun _ => v_X12_need (by decide) (by decide) pz_wq1347), fun _ h => absurd h List.not_mem_nil⟩⟩⟩⟩⟩⟩) true i k' h rfl
  · exact fun i k' h => pz_ctk (l := ct_X12_aLine) (P := fun b i k => b = false → (pz_cS 39 917 RX12 i k ∨ (k = pz_kac ∧ 1 ≤ 39 ∧ 60 ≤ 917 ∧ Cond.methodLink RX12 i arraycopyName ∈ pz_tbl))) (List.forall_mem_cons.mpr ⟨(fun _ => Or.inl (s_X12_isIn (by decide) (by decide) (Or.inl pz_wq1217))), List.forall_mem_cons.mpr ⟨((fun z => by cases z)), List.forall_mem_cons.mpr ⟨((fun z => by cases z)), List.forall_mem_cons.mpr ⟨((fun z => by cases z)), List.forall_mem_cons.mpr ⟨((fun z => by cases z)), List.forall_mem_cons.mpr ⟨((fun z => by cases z)), fun _ h => absurd h List.not_mem_nil⟩⟩⟩⟩⟩⟩) false i k' h rfl
  · intro a M hlen hpre
    obtain ⟨th, rfl, hpre⟩ : ∃ th, a = [.inr (.inr (12, th))] ∧ (pz_im M ∧ M 1 19 ≤ M 1 17 ∧ (M 1 18 ≠ 0 → M 1 19 + 1 ≤ M 1 17) ∧ M 1 14 ≤ M 1 19) := by
      have hpre : (match (generalizing := false) a with | [.inr (.inr (12, th))] => pz_im M ∧ M 1 19 ≤ M 1 17 ∧ (M 1 18 ≠ 0 → M 1 19 + 1 ≤ M 1 17) ∧ M 1 14 ≤ M 1 19 | _ => False) := hpre
      split at hpre
      · exact ⟨_, rfl, hpre⟩
      · exact hpre.elim
    exact Nat.le_of_ble_eq_true rfl
  · intro a M hlen hcan hM hpre Ok hgo
    obtain ⟨th, rfl, hpre⟩ : ∃ th, a = [.inr (.inr (12, th))] ∧ (pz_im M ∧ M 1 19 ≤ M 1 17 ∧ (M 1 18 ≠ 0 → M 1 19 + 1 ≤ M 1 17) ∧ M 1 14 ≤ M 1 19) := by
      have hpre : (match (generalizing := false) a with | [.inr (.inr (12, th))] => pz_im M ∧ M 1 19 ≤ M 1 17 ∧ (M 1 18 ≠ 0 → M 1 19 + 1 ≤ M 1 17) ∧ M 1 14 ≤ M 1 19 | _ => False) := hpre
      split at hpre
      · exact ⟨_, rfl, hpre⟩
      · exact hpre.elim
    obtain ⟨k_th, hc_th⟩ := pz_tlm hcan
    have k_th : pz_kd th = 12 ∧ th < 231 := k_th
    have R_th := pz_kd12 k_th.1
    subst R_th
    clear k_th
    have hI : pz_im M := hpre.1
    have hI0 := hI
    have hS : pz_rl pz_Q6 M M := pz_rl.rf
    have I0 := hI.2.1.2.2.2.2.2.2.1
    have I013 := hI.2.1.2.2.2.2.2.1
    have I13 := hI.2.1.2.2.2.2.2.1
    obtain ⟨-, pr1, -, pr3⟩ := hpre
    refine hgo (fun _ => false) 87 0 _ [] M ?_
    intro v1 e1 a1 b1
    refine And.intro (True.intro) ?_
    intro v8 M8 a8 b8 q8
    obtain ⟨q8, z8⟩ := q8
    subst z8
    clear a8 b8
    refine And.intro (fun h11 => ?_) (fun h11 => ?_)
    · skip
      replace q8 := q8.resolve_right (fun z => h11 z.1)
      clear h11
      intro v21 e21 a21 b21
      have I21 : 0 ≤ v21 ∧ v21 ≤ 16 := by
        rw [e21]
        exact hI.2.1.2.2.2.2.2.1
      clear a21 b21
      have N21 := hI.2.1.2.2.2.2.2.1
      refine And.intro (fun h26 => ?_) (fun h26 => ?_)
      · skip
        replace h26 : v21 ≤ 15 := by omega
        intro M37 e37
        have hS : pz_rl pz_Q6 M M37 := by
          rw [e37]
          exact pz_rl_u hS (by unfold pz_Q6; decide) (pz_iom_f (by decide))
        have hI : pz_im M37 := hS.1 hI0
        have T37_0 : M37 1 14 = M 1 14 := by
          rw [e37]
          exact (pz_une (by decide))
        have T37_1 : M37 1 17 = M 1 17 := by
          rw [e37]
          exact (pz_une (by decide))
        have T37_2 : M37 1 18 = M 1 18 := by
          rw [e37]
          exact (pz_une (by decide))
        have T37_3 : M37 1 19 = M 1 19 := by
          rw [e37]
          exact (pz_une (by decide))
        have T37_4 : M37 1 24 = (0) := by rw [e37]; exact pz_uu
        refine pz_nrc (c := 64) rfl ?_
        intro v46 e46 a46 b46
        have I46 : 0 ≤ v46 ∧ v46 ≤ 16 := by
          rw [e46]
          exact hI.2.1.2.2.2.2.2.1
        clear a46 b46
        have N46 := hI.2.1.2.2.2.2.2.1
        rw [hS.2 1 13 (by unfold pz_Q6; first | decide | omega)] at e46
        intro v49 e49 a49 b49
        rw [pz_wi (by first | decide | omega) (by first | decide | omega)] at e49
        clear a49 b49
        intro v51 e51 a51 b51
        rw [pz_wi (by first | decide | omega) (by first | decide | omega)] at e51
        clear a51 b51
        intro v53 e53 a53 b53
        replace e53 := e53.trans T37_2
        have lo56 : (0 : Int) ≤ v51 := by omega
        have tn56 : (((v51).toNat : Nat) : Int) = v51 := Int.toNat_of_nonneg lo56
        refine And.intro (lo56) (And.intro (show _ < (64 : Int) from by omega) ?_)
        intro M56 e56
        have hS : pz_rl pz_Q6 M M56 := by
          rw [e56]
          exact pz_rl_u hS (by unfold pz_Q6; first | decide | omega) (pz_iom_a (by decide))
        have hI : pz_im M56 := hS.1 hI0
        have T56_0 : M56 1 14 = M 1 14 := by
          rw [e56]
          exact (pz_une (fun h => absurd h.1 (by decide))).trans T37_0
        clear T37_0
        have T56_1 : M56 1 17 = M 1 17 := by
          rw [e56]
          exact (pz_une (fun h => absurd h.1 (by decide))).trans T37_1
        clear T37_1
        have T56_2 : M56 1 18 = M 1 18 := by
          rw [e56]
          exact (pz_une (fun h => absurd h.1 (by decide))).trans T37_2
        clear T37_2
        have T56_3 : M56 1 19 = M 1 19 := by
          rw [e56]
          exact (pz_une (fun h => absurd h.1 (by decide))).trans T37_3
        clear T37_3
        have T56_4 : M56 1 24 = (0) := by
          rw [e56]
          exact (pz_une (fun h => absurd h.1 (by decide))).trans T37_4
        clear T37_4
        refine And.intro (hI) ?_
        intro M58 q58
        obtain ⟨q58, z58⟩ := q58
        have hS : pz_rl pz_Q6 M M58 := hS.tr (pz_rl.wk pz_wk_Q0_Q6 z58)
        have hI : pz_im M58 := hS.1 hI0
        obtain ⟨q58, s58⟩ := q58
        have f58 := pz_q0f z58
        obtain ⟨f58a, f58b, f58c⟩ := f58
        have f58d : ∀ j, M58 64 j = M56 64 j := fun j => z58.2 64 j (by unfold pz_Q0; first | decide | omega)
        refine pz_nrc (c := 64) rfl ?_
        intro v67 e67 a67 b67
        have I67 : 0 ≤ v67 ∧ v67 ≤ 16 := by
          rw [e67]
          exact hI.2.1.2.2.2.2.2.1
        clear a67 b67
        have N67 := hI.2.1.2.2.2.2.2.1
        rw [hS.2 1 13 (by unfold pz_Q6; first | decide | omega)] at e67
        intro v70 e70 a70 b70
        rw [pz_wi (by first | decide | omega) (by first | decide | omega)] at e70
        clear a70 b70
        intro v72 e72 a72 b72
        have I72 : 0 ≤ v72 ∧ v72 ≤ 410 := by
          rw [e72]
          exact hI.2.1.2.2.2.2.2.2.1
        clear a72 b72
        have N72 := hI.2.1.2.2.2.2.2.2.1
        have lo75 : (0 : Int) ≤ v70 := by omega
        have tn75 : (((v70).toNat : Nat) : Int) = v70 := Int.toNat_of_nonneg lo75
        refine And.intro (lo75) (And.intro (show _ < (64 : Int) from by omega) ?_)
        intro M75 e75
        have hS : pz_rl pz_Q6 M M75 := by
          rw [e75]
          exact pz_rl_u hS (by unfold pz_Q6; first | decide | omega) (pz_iom_a (by decide))
        have hI : pz_im M75 := hS.1 hI0
        have T75_0 : M75 1 14 = M58 1 14 := by
          rw [e75]
          exact (pz_une (fun h => absurd h.1 (by decide)))
        have T75_1 : M75 1 17 = M58 1 17 := by
          rw [e75]
          exact (pz_une (fun h => absurd h.1 (by decide)))
        have T75_2 : M75 1 18 = M58 1 18 := by
          rw [e75]
          exact (pz_une (fun h => absurd h.1 (by decide)))
        have T75_3 : M75 1 19 = M58 1 19 := by
          rw [e75]
          exact (pz_une (fun h => absurd h.1 (by decide)))
        have T75_4 : M75 1 24 = M58 1 24 := by
          rw [e75]
          exact (pz_une (fun h => absurd h.1 (by decide)))
        have A75 : pq_aA M M75 := pq_aA_of e37 e56 z58 s58 e75
        have A65 : ∀ j, M75 65 j = M 65 j := fun j => (show M75 65 j = M58 65 j by rw [e75]; exact pz_una (by decide)).trans ((congrFun f58c j).trans ((show M56 65 j = M37 65 j by rw [e56]; exact pz_una (by decide)).trans (show M37 65 j = M 65 j by rw [e37]; exact pz_una (by decide))))
        refine And.intro (And.intro hI (And.intro (by first | decide | omega) (And.intro (by first | decide | omega) (by first | decide | omega)))) ?_
        intro v77 M77 a77 b77 q77
        obtain ⟨q77, z77⟩ := q77
        have hS : pz_rl pz_Q6 M M77 := hS.tr (pz_rl.wk pz_wk_Q1_Q6 z77)
        have hI : pz_im M77 := hS.1 hI0
        obtain ⟨q77, s77⟩ := q77
        refine And.intro (fun h80 => ?_) (fun h80 => ?_)
        · skip
          have T80 := (q77.resolve_left h80).2
          have KT := T80
          obtain ⟨⟨t1, -⟩, t3, t4, t5, K77p, K77s⟩ := KT
          have r58a := q58.1
          have r58b := q58.2.1
          clear q58
          have f77d : ∀ j, M77 64 j = M75 64 j := fun j => z77.2 64 j (by unfold pz_Q1; first | decide | omega)
          refine pz_nrc (c := 64) rfl ?_
          intro v91 e91 a91 b91
          have I91 : 0 ≤ v91 ∧ v91 ≤ 16 := by
            rw [e91]
            exact hI.2.1.2.2.2.2.2.1
          clear a91 b91
          have N91 := hI.2.1.2.2.2.2.2.1
          rw [hS.2 1 13 (by unfold pz_Q6; first | decide | omega)] at e91
          intro v94 e94 a94 b94
          rw [pz_wi (by first | decide | omega) (by first | decide | omega)] at e94
          clear a94 b94
          intro v96 e96 a96 b96
          rw [pz_wi (by first | decide | omega) (by first | decide | omega)] at e96
          clear a96 b96
          intro v98 e98 a98 b98
          have I98 : 0 ≤ v98 ∧ v98 ≤ 410 := by
            rw [e98]
            exact hI.2.1.2.2.2.2.2.2.1
          clear a98 b98
          have N98 := hI.2.1.2.2.2.2.2.2.1
          have lo101 : (0 : Int) ≤ v96 := by omega
          have tn101 : (((v96).toNat : Nat) : Int) = v96 := Int.toNat_of_nonneg lo101
          refine And.intro (lo101) (And.intro (show _ < (64 : Int) from by omega) ?_)
          intro M101 e101
          have hS : pz_rl pz_Q6 M M101 := by
            rw [e101]
            exact pz_rl_u hS (by unfold pz_Q6; first | decide | omega) (pz_iom_a (by decide))
          have hI : pz_im M101 := hS.1 hI0
          have T101_0 : M101 1 14 = M77 1 14 := by
            rw [e101]
            exact (pz_une (fun h => absurd h.1 (by decide)))
          have T101_1 : M101 1 17 = M77 1 17 := by
            rw [e101]
            exact (pz_une (fun h => absurd h.1 (by decide)))
          have T101_2 : M101 1 18 = M77 1 18 := by
            rw [e101]
            exact (pz_une (fun h => absurd h.1 (by decide)))
          have T101_3 : M101 1 19 = M77 1 19 := by
            rw [e101]
            exact (pz_une (fun h => absurd h.1 (by decide)))
          have T101_4 : M101 1 24 = M77 1 24 := by
            rw [e101]
            exact (pz_une (fun h => absurd h.1 (by decide)))
          intro v103 e103 a103 b103
          replace e103 := e103.trans T101_2
          refine And.intro (fun h107 => ?_) (fun h107 => ?_)
          · skip
            refine pz_nrc (c := 64) rfl ?_
            intro v129 e129 a129 b129
            have I129 : 0 ≤ v129 ∧ v129 ≤ 16 := by
              rw [e129]
              exact hI.2.1.2.2.2.2.2.1
            clear a129 b129
            have N129 := hI.2.1.2.2.2.2.2.1
            rw [hS.2 1 13 (by unfold pz_Q6; first | decide | omega)] at e129
            intro v132 e132 a132 b132
            rw [pz_wi (by first | decide | omega) (by first | decide | omega)] at e132
            clear a132 b132
            intro v134 e134 a134 b134
            rw [pz_wi (by first | decide | omega) (by first | decide | omega)] at e134
            clear a134 b134
            intro v136 e136 a136 b136
            have I136 : 0 ≤ v136 ∧ v136 ≤ 410 := by
              rw [e136]
              exact hI.2.1.2.2.2.2.2.2.1
            clear a136 b136
            have N136 := hI.2.1.2.2.2.2.2.2.1
            replace e136 := e136.trans T101_0
            have lo139 : (0 : Int) ≤ v134 := by omega
            have tn139 : (((v134).toNat : Nat) : Int) = v134 := Int.toNat_of_nonneg lo139
            refine And.intro (lo139) (And.intro (show _ < (64 : Int) from by omega) ?_)
            intro M139 e139
            have hS : pz_rl pz_Q6 M M139 := by
              rw [e139]
              exact pz_rl_u hS (by unfold pz_Q6; first | decide | omega) (pz_iom_a (by decide))
            have hI : pz_im M139 := hS.1 hI0
            have T139_0 : M139 1 14 = M77 1 14 := by
              rw [e139]
              exact (pz_une (fun h => absurd h.1 (by decide))).trans T101_0
            clear T101_0
            have T139_1 : M139 1 17 = M77 1 17 := by
              rw [e139]
              exact (pz_une (fun h => absurd h.1 (by decide))).trans T101_1
            clear T101_1
            have T139_2 : M139 1 18 = M77 1 18 := by
              rw [e139]
              exact (pz_une (fun h => absurd h.1 (by decide))).trans T101_2
            clear T101_2
            have T139_3 : M139 1 19 = M77 1 19 := by
              rw [e139]
              exact (pz_une (fun h => absurd h.1 (by decide))).trans T101_3
            clear T101_3
            have T139_4 : M139 1 24 = M77 1 24 := by
              rw [e139]
              exact (pz_une (fun h => absurd h.1 (by decide))).trans T101_4
            clear T101_4
            have B65 : ∀ j, M139 65 j = M101 65 j := fun j => by rw [e139]; exact pz_una (by decide)
            have S139 : pq_same M M139 := pq_Q6 hS.2
            refine And.intro (hI) ?_
            intro v144 M144 a144 b144 q144
            obtain ⟨q144, z144⟩ := q144
            have hS : pz_rl pz_Q6 M M144 := hS.tr (pz_rl.wk pz_wk_Q0_Q6 z144)
            have hI : pz_im M144 := hS.1 hI0
            obtain ⟨q144, s144⟩ := q144
            have f144 := pz_q0f z144
            obtain ⟨f144a, f144b, f144c⟩ := f144
            have Q144 := fun (_ : Unit) => q144
            have b144 : v144 = 0 ∨ v144 = 1 := q144.imp id (fun z => z.1)
            clear q144
            have F144c : M144 65 = M139 65 := f144c
            have F144d : ∀ j, M144 64 j = M139 64 j := fun j => z144.2 64 j (by unfold pz_Q0; first | decide | omega)
            have FIN0 := pz_fin (M 64) (M56 64) (M75 64) (M101 64) (M139 64) (n := M 1 13) (k3 := v51.toNat) (k0 := v70.toNat) (k1 := v96.toNat) (k2 := v134.toNat) (v3 := v53) (v0 := v72) (v1 := v98) (v2 := v136) (by first | decide | omega) (by first | decide | omega) (by first | decide | omega) (by first | decide | omega) (by first | decide | omega)
              (fun j => by rw [pz_u64 e56 j, show M37 64 j = M 64 j by rw [e37]; exact pz_una (by decide)]) (fun j => by rw [pz_u64 e75 j, f58d j]) (fun j => by rw [pz_u64 e101 j, f77d j]) (fun j => by first | rw [pz_u64 e139 j, f115d j, f111d j] | rw [pz_u64 e139 j])
            have FIN : ∀ j : Nat, ((j : Int) < 4 * M 1 13 → M144 64 j = M 64 j) ∧ ((j : Int) = 4 * M 1 13 → M144 64 j = M58 1 14) ∧ ((j : Int) = 4 * M 1 13 + 1 → M144 64 j = M77 1 14) ∧ ((j : Int) = 4 * M 1 13 + 2 → M144 64 j = M139 1 14) := by
              intro j
              have F := FIN0 j
              have E136 : v136 = M139 1 14 := by omega
              rw [F144d j]
              exact ⟨F.1, fun q => (F.2.1 q).trans e72, fun q => (F.2.2.1 q).trans e98, fun q => (F.2.2.2 q).trans E136⟩
            have C65 : ∀ j, M101 65 j = M77 65 j := fun j => by rw [e101]; exact pz_una (by decide)
            have GG65 : ∀ j : Nat, (j : Int) < 2 * M77 1 14 → M139 65 j = M77 65 j := by
              intro j hj
              first
                | exact ((B65 j).trans (w6 j (by first | decide | omega))).trans ((congrFun f111c j).trans (C65 j))
                | exact (B65 j).trans (C65 j)
            have GGsg : M77 1 14 = M144 1 14 ∨ pz_sg (M139 65) (M77 1 14) (M144 1 14) := by
              first
                | have w7b := w7
                  rw [show M111 1 14 = M77 1 14 by omega, show M115 1 14 = M144 1 14 by omega] at w7b
                  exact Or.inr (pz_sg_cg w7b (by first | decide | omega) (fun j _ _ => B65 j))
                | exact Or.inl (by first | decide | omega)
            have PAM : pq_aM (M 1 13).toNat M M139 v98 v136 := by
              first
                | exact pq_aM_2 (by first | decide | omega) (by first | decide | omega) I0.1 A75 s77 h80 (pq_Q1 z77) e101 (by first | decide | omega) (by first | decide | omega) z111 s111 s115 (by first | decide | omega) h118 e139 (by first | decide | omega)
                | exact pq_aM_1 (by first | decide | omega) (by first | decide | omega) I0.1 A75 s77 h80 (pq_Q1 z77) e101 (by first | decide | omega) (by first | decide | omega) e139 (by first | decide | omega)
            have R3 : M144 64 (4 * (M 1 13).toNat + 3) = M 1 18 := by
              rw [F144d, pz_u64 e139, if_neg (by first | decide | omega)]
              first
                | (rw [f115d, f111d, pz_u64 e101, if_neg (by first | decide | omega), f77d, pz_u64 e75, if_neg (by first | decide | omega), f58d, pz_u64 e56, if_pos (by first | decide | omega)]; omega)
                | (rw [pz_u64 e101, if_neg (by first | decide | omega), f77d, pz_u64 e75, if_neg (by first | decide | omega), f58d, pz_u64 e56, if_pos (by first | decide | omega)]; omega)
            have PAL : pq_al (M 1 13).toNat M M144 v144 := pq_al_e PAM (by first | decide | omega) (by first | decide | omega) S139 s144 (fun y => ((Q144 ()).resolve_left (by first | decide | omega)).2.1) z144 (fun _ => ⟨((FIN _).2.1 (by first | decide | omega)).trans (by first | decide | omega), ((FIN _).2.2.1 (by first | decide | omega)).trans (by first | decide | omega), ((FIN _).2.2.2 (by first | decide | omega)).trans (by first | decide | omega), R3⟩)
            refine And.intro (by first | decide | omega) ?_
            refine And.intro rfl ?_
            refine ⟨⟨?_, PAL⟩, hS⟩
            rcases Q144 () with q144 | ⟨q144, q144t, q144n⟩
            · exact Or.inl q144
            · have r144 := fun (_ : Unit) => q144n.2
              have r144a := q144n.1
              have r144b := q144n.2.1
              clear q144n
              refine Or.inr ⟨q144, by omega, r144 (), by omega, by omega, ?_, ?_, ?_⟩
              · intro j hj
                exact (FIN j).1 hj
              · intro j hj
                rw [F144c, GG65 j (by first | decide | omega)]
                exact (K77p j (by first | decide | omega)).trans (A65 j)
              · have s0 := (FIN (4 * M 1 13).toNat).2.1 (by first | decide | omega)
                have s1 := (FIN (4 * M 1 13 + 1).toNat).2.2.1 (by first | decide | omega)
                have s2 := (FIN (4 * M 1 13 + 2).toNat).2.2.2 (by first | decide | omega)
                unfold pz_ln
                rw [s0, s1, s2, show M58 1 14 = M 1 14 by omega, show M139 1 14 = M144 1 14 by omega]
                refine ⟨by omega, by omega, ?_, ?_⟩
                · have K9 := K77s
                  rw [show M75 1 14 = M 1 14 by omega] at K9
                  exact pz_sg_cg K9 (by first | decide | omega) (fun j _ q => by rw [F144c]; exact GG65 j q)
                · rw [F144c]
                  exact GGsg
          · skip
            refine And.intro (hI) ?_
            intro M111 q111
            obtain ⟨q111, z111⟩ := q111
            have hS : pz_rl pz_Q6 M M111 := hS.tr (pz_rl.wk pz_wk_Q0_Q6 z111)
            have hI : pz_im M111 := hS.1 hI0
            obtain ⟨q111, s111⟩ := q111
            have f111 := pz_q0f z111
            obtain ⟨f111a, f111b, f111c⟩ := f111
            have f111d : ∀ j, M111 64 j = M101 64 j := fun j => z111.2 64 j (by unfold pz_Q0; first | decide | omega)
            refine And.intro (And.intro hI (And.intro (by first | decide | omega) (And.intro (by first | decide | omega) (And.intro (by first | decide | omega) (And.intro (by first | decide | omega) (And.intro (by first | decide | omega) (by first | decide | omega))))))) ?_
            intro v115 M115 a115 b115 q115
            obtain ⟨q115, z115⟩ := q115
            have hS : pz_rl pz_Q6 M M115 := hS.tr (pz_rl.wk pz_wk_Q1_Q6 z115)
            have hI : pz_im M115 := hS.1 hI0
            obtain ⟨q115, s115⟩ := q115
            refine And.intro (fun h118 => ?_) (fun h118 => ?_)
            · skip
              have T118 := (q115.resolve_left h118).2
              obtain ⟨⟨w1, -⟩, w3, w4, w5, w6, w7⟩ := T118
              have r111a := q111.1
              have r111b := q111.2.1
              clear q111
              have f115d : ∀ j, M115 64 j = M111 64 j := fun j => z115.2 64 j (by unfold pz_Q1; first | decide | omega)
              refine pz_nrc (c := 64) rfl ?_
              intro v129 e129 a129 b129
              have I129 : 0 ≤ v129 ∧ v129 ≤ 16 := by
                rw [e129]
                exact hI.2.1.2.2.2.2.2.1
              clear a129 b129
              have N129 := hI.2.1.2.2.2.2.2.1
              rw [hS.2 1 13 (by unfold pz_Q6; first | decide | omega)] at e129
              intro v132 e132 a132 b132
              rw [pz_wi (by first | decide | omega) (by first | decide | omega)] at e132
              clear a132 b132
              intro v134 e134 a134 b134
              rw [pz_wi (by first | decide | omega) (by first | decide | omega)] at e134
              clear a134 b134
              intro v136 e136 a136 b136
              have I136 : 0 ≤ v136 ∧ v136 ≤ 410 := by
                rw [e136]
                exact hI.2.1.2.2.2.2.2.2.1
              clear a136 b136
              have N136 := hI.2.1.2.2.2.2.2.2.1
              have lo139 : (0 : Int) ≤ v134 := by omega
              have tn139 : (((v134).toNat : Nat) : Int) = v134 := Int.toNat_of_nonneg lo139
              refine And.intro (lo139) (And.intro (show _ < (64 : Int) from by omega) ?_)
              intro M139 e139
              have hS : pz_rl pz_Q6 M M139 := by
                rw [e139]
                exact pz_rl_u hS (by unfold pz_Q6; first | decide | omega) (pz_iom_a (by decide))
              have hI : pz_im M139 := hS.1 hI0
              have T139_0 : M139 1 14 = M115 1 14 := by
                rw [e139]
                exact (pz_une (fun h => absurd h.1 (by decide)))
              have T139_1 : M139 1 17 = M115 1 17 := by
                rw [e139]
                exact (pz_une (fun h => absurd h.1 (by decide)))
              have T139_2 : M139 1 18 = M115 1 18 := by
                rw [e139]
                exact (pz_une (fun h => absurd h.1 (by decide)))
              have T139_3 : M139 1 19 = M115 1 19 := by
                rw [e139]
                exact (pz_une (fun h => absurd h.1 (by decide)))
              have T139_4 : M139 1 24 = M115 1 24 := by
                rw [e139]
                exact (pz_une (fun h => absurd h.1 (by decide)))
              have B65 : ∀ j, M139 65 j = M115 65 j := fun j => by rw [e139]; exact pz_una (by decide)
              have S139 : pq_same M M139 := pq_Q6 hS.2
              refine And.intro (hI) ?_
              intro v144 M144 a144 b144 q144
              obtain ⟨q144, z144⟩ := q144
              have hS : pz_rl pz_Q6 M M144 := hS.tr (pz_rl.wk pz_wk_Q0_Q6 z144)
              have hI : pz_im M144 := hS.1 hI0
              obtain ⟨q144, s144⟩ := q144
              have f144 := pz_q0f z144
              obtain ⟨f144a, f144b, f144c⟩ := f144
              have Q144 := fun (_ : Unit) => q144
              have b144 : v144 = 0 ∨ v144 = 1 := q144.imp id (fun z => z.1)
              clear q144
              have F144c : M144 65 = M139 65 := f144c
              have F144d : ∀ j, M144 64 j = M139 64 j := fun j => z144.2 64 j (by unfold pz_Q0; first | decide | omega)
              have FIN0 := pz_fin (M 64) (M56 64) (M75 64) (M101 64) (M139 64) (n := M 1 13) (k3 := v51.toNat) (k0 := v70.toNat) (k1 := v96.toNat) (k2 := v134.toNat) (v3 := v53) (v0 := v72) (v1 := v98) (v2 := v136) (by first | decide | omega) (by first | decide | omega) (by first | decide | omega) (by first | decide | omega) (by first | decide | omega)
                (fun j => by rw [pz_u64 e56 j, show M37 64 j = M 64 j by rw [e37]; exact pz_una (by decide)]) (fun j => by rw [pz_u64 e75 j, f58d j]) (fun j => by rw [pz_u64 e101 j, f77d j]) (fun j => by first | rw [pz_u64 e139 j, f115d j, f111d j] | rw [pz_u64 e139 j])
              have FIN : ∀ j : Nat, ((j : Int) < 4 * M 1 13 → M144 64 j = M 64 j) ∧ ((j : Int) = 4 * M 1 13 → M144 64 j = M58 1 14) ∧ ((j : Int) = 4 * M 1 13 + 1 → M144 64 j = M77 1 14) ∧ ((j : Int) = 4 * M 1 13 + 2 → M144 64 j = M139 1 14) := by
                intro j
                have F := FIN0 j
                have E136 : v136 = M139 1 14 := by omega
                rw [F144d j]
                exact ⟨F.1, fun q => (F.2.1 q).trans e72, fun q => (F.2.2.1 q).trans e98, fun q => (F.2.2.2 q).trans E136⟩
              have C65 : ∀ j, M101 65 j = M77 65 j := fun j => by rw [e101]; exact pz_una (by decide)
              have GG65 : ∀ j : Nat, (j : Int) < 2 * M77 1 14 → M139 65 j = M77 65 j := by
                intro j hj
                first
                  | exact ((B65 j).trans (w6 j (by first | decide | omega))).trans ((congrFun f111c j).trans (C65 j))
                  | exact (B65 j).trans (C65 j)
              have GGsg : M77 1 14 = M144 1 14 ∨ pz_sg (M139 65) (M77 1 14) (M144 1 14) := by
                first
                  | have w7b := w7
                    rw [show M111 1 14 = M77 1 14 by omega, show M115 1 14 = M144 1 14 by omega] at w7b
                    exact Or.inr (pz_sg_cg w7b (by first | decide | omega) (fun j _ _ => B65 j))
                  | exact Or.inl (by first | decide | omega)
              have PAM : pq_aM (M 1 13).toNat M M139 v98 v136 := by
                first
                  | exact pq_aM_2 (by first | decide | omega) (by first | decide | omega) I0.1 A75 s77 h80 (pq_Q1 z77) e101 (by first | decide | omega) (by first | decide | omega) z111 s111 s115 (by first | decide | omega) h118 e139 (by first | decide | omega)
                  | exact pq_aM_1 (by first | decide | omega) (by first | decide | omega) I0.1 A75 s77 h80 (pq_Q1 z77) e101 (by first | decide | omega) (by first | decide | omega) e139 (by first | decide | omega)
              have R3 : M144 64 (4 * (M 1 13).toNat + 3) = M 1 18 := by
                rw [F144d, pz_u64 e139, if_neg (by first | decide | omega)]
                first
                  | (rw [f115d, f111d, pz_u64 e101, if_neg (by first | decide | omega), f77d, pz_u64 e75, if_neg (by first | decide | omega), f58d, pz_u64 e56, if_pos (by first | decide | omega)]; omega)
                  | (rw [pz_u64 e101, if_neg (by first | decide | omega), f77d, pz_u64 e75, if_neg (by first | decide | omega), f58d, pz_u64 e56, if_pos (by first | decide | omega)]; omega)
              have PAL : pq_al (M 1 13).toNat M M144 v144 := pq_al_e PAM (by first | decide | omega) (by first | decide | omega) S139 s144 (fun y => ((Q144 ()).resolve_left (by first | decide | omega)).2.1) z144 (fun _ => ⟨((FIN _).2.1 (by first | decide | omega)).trans (by first | decide | omega), ((FIN _).2.2.1 (by first | decide | omega)).trans (by first | decide | omega), ((FIN _).2.2.2 (by first | decide | omega)).trans (by first | decide | omega), R3⟩)
              refine And.intro (by first | decide | omega) ?_
              refine And.intro rfl ?_
              refine ⟨⟨?_, PAL⟩, hS⟩
              rcases Q144 () with q144 | ⟨q144, q144t, q144n⟩
              · exact Or.inl q144
              · have r144 := fun (_ : Unit) => q144n.2
                have r144a := q144n.1
                have r144b := q144n.2.1
                clear q144n
                refine Or.inr ⟨q144, by omega, r144 (), by omega, by omega, ?_, ?_, ?_⟩
                · intro j hj
                  exact (FIN j).1 hj
                · intro j hj
                  rw [F144c, GG65 j (by first | decide | omega)]
                  exact (K77p j (by first | decide | omega)).trans (A65 j)
                · have s0 := (FIN (4 * M 1 13).toNat).2.1 (by first | decide | omega)
                  have s1 := (FIN (4 * M 1 13 + 1).toNat).2.2.1 (by first | decide | omega)
                  have s2 := (FIN (4 * M 1 13 + 2).toNat).2.2.2 (by first | decide | omega)
                  unfold pz_ln
                  rw [s0, s1, s2, show M58 1 14 = M 1 14 by omega, show M139 1 14 = M144 1 14 by omega]
                  refine ⟨by omega, by omega, ?_, ?_⟩
                  · have K9 := K77s
                    rw [show M75 1 14 = M 1 14 by omega] at K9
                    exact pz_sg_cg K9 (by first | decide | omega) (fun j _ q => by rw [F144c]; exact GG65 j q)
                  · rw [F144c]
                    exact GGsg
            · skip
              skip
              refine And.intro (by first | decide | omega) ?_
              refine And.intro rfl ?_
              exact ⟨⟨Or.inl rfl, pq_al_wb (by first | decide | omega) (by first | decide | omega) A75 s77 h80 (pq_Q1 z77) e101 (by first | decide | omega) z111 s111 s115 (by first | decide | omega) h118⟩, hS⟩
        · skip
          skip
          refine And.intro (by first | decide | omega) ?_
          refine And.intro rfl ?_
          exact ⟨⟨Or.inl rfl, pq_al_sb (by first | decide | omega) (by first | decide | omega) A75 s77 h80⟩, hS⟩
      · skip
        refine And.intro (hI) ?_
        intro v31 M31 a31 b31 q31
        obtain ⟨q31, z31⟩ := q31
        have hS : pz_rl pz_Q6 M M31 := hS.tr (pz_rl.wk pz_wk_Q0_Q6 z31)
        have hI : pz_im M31 := hS.1 hI0
        clear a31 b31
        refine And.intro (by first | decide | omega) ?_
        refine And.intro rfl ?_
        exact ⟨⟨Or.inl (by first | decide | omega), by rw [show v31 = 0 from q31.1]; exact pq_al_m (by first | decide | omega) (by first | decide | omega) q31.2.1 q31.2.2⟩, hS⟩
    · skip
      replace q8 := q8.resolve_left (fun z => absurd (z.1.symm.trans h11) (by decide))
      clear h11
      refine And.intro (hI) ?_
      intro v16 M16 a16 b16 q16
      obtain ⟨q16, z16⟩ := q16
      have hS : pz_rl pz_Q6 M M16 := hS.tr (pz_rl.wk pz_wk_Q0_Q6 z16)
      have hI : pz_im M16 := hS.1 hI0
      clear a16 b16
      refine And.intro (by first | decide | omega) ?_
      refine And.intro rfl ?_
      exact ⟨⟨Or.inl (by first | decide | omega), by rw [show v16 = 0 from q16.1]; exact pq_al_w (by first | decide | omega) q16.2.1 q16.2.2⟩, hS⟩
end
