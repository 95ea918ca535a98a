section
noncomputable def k_X12_aLine : pz_C := (1, 1, fun a M => (match a with | [.inr (.inr (12, th))] => pz_im M ∧ M 1 19 ≤ M 1 17 ∧ (M 1 18 ≠ 0 → M 1 19 + 1 ≤ M 1 17) ∧ M 1 14 ≤ M 1 19 | _ => False), fun a M r M' => (match a, r with | [.inr (.inr (12, th))], some (.inl v) => ((v = 0 ∨ (v = 1 ∧ pz_alf M M')) ∧ pq_al (M 1 13).toNat M M' v) ∧ pz_rl pz_Q6 M M' | _, _ => False))
noncomputable abbrev ct_X12_aLine : List (Bool × Nat × pz_C) := [(false, 54, k_X12_isIn), (true, 188, k_X12_bad), (true, 191, k_X12_next0), (true, 226, k_X12_sumUp), (true, 220, (k_X12_any 8)), (true, 223, k_X12_need)]
theorem pz_wk_Q0_Q6 : ∀ b j, pz_Q0 b j → pz_Q6 b j := by
  intro b j q
  unfold pz_Q0 at q
  unfold pz_Q6
  omega
theorem pz_wk_Q1_Q6 : ∀ b j, pz_Q1 b j → pz_Q6 b j := by
  intro b j q
  unfold pz_Q1 at q
  unfold pz_Q6
  omega
set_option maxRecDepth 100000 in
set_option maxHeartbeats 4000000 in
theorem h_X12_aLine : pz_H yX12_aLine cX12_aLine 1 (some .boolean) k_X12_aLine 39 917 := by
  refine pz_mk (own := RX12) (tb := t_X12_aLine) (fl := pz_flf fl_RX12) (ci := pz_cif ci_RX12) (ct := pz_ctf ct_X12_aLine) (rz := true) (pz_pfc_RX12 yX12_aLine rfl) rfl t_X12_aLine_ok (pz_flk fl_RX12_ok) (pz_cik ci_RX12_ok) ?_ ?_ (Or.inr ⟨rfl, rfl⟩) ?_ ?_
  · exact fun i k' h => pz_ctk (l := ct_X12_aLine) (P := fun b i k => b = true → pz_cV 39 917 RX12 i k) (List.forall_mem_cons.mpr ⟨((fun z => by cases z)), List.forall_mem_cons.mpr ⟨(fun _ => v_X12_bad (by decide) (by decide) pz_wq1311), List.forall_mem_cons.mpr ⟨(fun _ => v_X12_next0 (by decide) (by decide) pz_wq1243), List.forall_mem_cons.mpr ⟨(fun _ => v_X12_sumUp (by decide) (by decide) pz_wq1315), List.forall_mem_cons.mpr ⟨(fun _ => v_X12_any8 (by decide) (by decide) pz_wq1331), List.forall_mem_cons.mpr ⟨(fun _ => v_X12_need (by decide) (by decide) pz_wq1347), fun _ h => absurd h List.not_mem_nil⟩⟩⟩⟩⟩⟩) true i k' h rfl
  · exact fun i k' h => pz_ctk (l := ct_X12_aLine) (P := fun b i k => b = false → (pz_cS 39 917 RX12 i k ∨ (k = pz_kac ∧ 1 ≤ 39 ∧ 60 ≤ 917 ∧ Cond.methodLink RX12 i arraycopyName ∈ pz_tbl))) (List.forall_mem_cons.mpr ⟨(fun _ => Or.inl (s_X12_isIn (by decide) (by decide) (Or.inl pz_wq1217))), List.forall_mem_cons.mpr ⟨((fun z => by cases z)), List.forall_mem_cons.mpr ⟨((fun z => by cases z)), List.forall_mem_cons.mpr ⟨((fun z => by cases z)), List.forall_mem_cons.mpr ⟨((fun z => by cases z)), List.forall_mem_cons.mpr ⟨((fun z => by cases z)), fun _ h => absurd h List.not_mem_nil⟩⟩⟩⟩⟩⟩) false i k' h rfl
  · intro a M hlen hpre
    obtain ⟨th, rfl, hpre⟩ : ∃ th, a = [.inr (.inr (12, th))] ∧ (pz_im M ∧ M 1 19 ≤ M 1 17 ∧ (M 1 18 ≠ 0 → M 1 19 + 1 ≤ M 1 17) ∧ M 1 14 ≤ M 1 19) := by
      have hpre : (match (generalizing := false) a with | [.inr (.inr (12, th))] => pz_im M ∧ M 1 19 ≤ M 1 17 ∧ (M 1 18 ≠ 0 → M 1 19 + 1 ≤ M 1 17) ∧ M 1 14 ≤ M 1 19 | _ => False) := hpre
      split at hpre
      · exact ⟨_, rfl, hpre⟩
      · exact hpre.elim
    exact Nat.le_of_ble_eq_true rfl
  · intro a M hlen hcan hM hpre Ok hgo
    obtain ⟨th, rfl, hpre⟩ : ∃ th, a = [.inr (.inr (12, th))] ∧ (pz_im M ∧ M 1 19 ≤ M 1 17 ∧ (M 1 18 ≠ 0 → M 1 19 + 1 ≤ M 1 17) ∧ M 1 14 ≤ M 1 19) := by
      have hpre : (match (generalizing := false) a with | [.inr (.inr (12, th))] => pz_im M ∧ M 1 19 ≤ M 1 17 ∧ (M 1 18 ≠ 0 → M 1 19 + 1 ≤ M 1 17) ∧ M 1 14 ≤ M 1 19 | _ => False) := hpre
      split at hpre
      · exact ⟨_, rfl, hpre⟩
      · exact hpre.elim
    obtain ⟨k_th, hc_th⟩ := pz_tlm hcan
    have k_th : pz_kd th = 12 ∧ th < 231 := k_th
    have R_th := pz_kd12 k_th.1
    subst R_th
    clear k_th
    have hI : pz_im M := hpre.1
    have hI0 := hI
    have hS : pz_rl pz_Q6 M M := pz_rl.rf
    have I0 := hI.2.1.2.2.2.2.2.2.1
    have I013 := hI.2.1.2.2.2.2.2.1
    have I13 := hI.2.1.2.2.2.2.2.1
    obtain ⟨-, pr1, -, pr3⟩ := hpre
    refine hgo (fun _ => false) 87 0 _ [] M ?_
    intro v1 e1 a1 b1
    refine And.intro (True.intro) ?_
    intro v8 M8 a8 b8 q8
    obtain ⟨q8, z8⟩ := q8
    subst z8
    clear a8 b8
    refine And.intro (fun h11 => ?_) (fun h11 => ?_)
    · skip
      replace q8 := q8.resolve_right (fun z => h11 z.1)
      clear h11
      intro v21 e21 a21 b21
      have I21 : 0 ≤ v21 ∧ v21 ≤ 16 := by
        rw [e21]
        exact hI.2.1.2.2.2.2.2.1
      clear a21 b21
      have N21 := hI.2.1.2.2.2.2.2.1
      refine And.intro (fun h26 => ?_) (fun h26 => ?_)
      · skip
        replace h26 : v21 ≤ 15 := by omega
        intro M37 e37
        have hS : pz_rl pz_Q6 M M37 := by
          rw [e37]
          exact pz_rl_u hS (by unfold pz_Q6; decide) (pz_iom_f (by decide))
        have hI : pz_im M37 := hS.1 hI0
        have T37_0 : M37 1 14 = M 1 14 := by
          rw [e37]
          exact (pz_une (by decide))
        have T37_1 : M37 1 17 = M 1 17 := by
          rw [e37]
          exact (pz_une (by decide))
        have T37_2 : M37 1 18 = M 1 18 := by
          rw [e37]
          exact (pz_une (by decide))
        have T37_3 : M37 1 19 = M 1 19 := by
          rw [e37]
          exact (pz_une (by decide))
        have T37_4 : M37 1 24 = (0) := by rw [e37]; exact pz_uu
        refine pz_nrc (c := 64) rfl ?_
        intro v46 e46 a46 b46
        have I46 : 0 ≤ v46 ∧ v46 ≤ 16 := by
          rw [e46]
          exact hI.2.1.2.2.2.2.2.1
        clear a46 b46
        have N46 := hI.2.1.2.2.2.2.2.1
        rw [hS.2 1 13 (by unfold pz_Q6; first | decide | omega)] at e46
        intro v49 e49 a49 b49
        rw [pz_wi (by first | decide | omega) (by first | decide | omega)] at e49
        clear a49 b49
        intro v51 e51 a51 b51
        rw [pz_wi (by first | decide | omega) (by first | decide | omega)] at e51
        clear a51 b51
        intro v53 e53 a53 b53
        replace e53 := e53.trans T37_2
        have lo56 : (0 : Int) ≤ v51 := by omega
        have tn56 : (((v51).toNat : Nat) : Int) = v51 := Int.toNat_of_nonneg lo56
        refine And.intro (lo56) (And.intro (show _ < (64 : Int) from by omega) ?_)
        intro M56 e56
        have hS : pz_rl pz_Q6 M M56 := by
          rw [e56]
          exact pz_rl_u hS (by unfold pz_Q6; first | decide | omega) (pz_iom_a (by decide))
        have hI : pz_im M56 := hS.1 hI0
        have T56_0 : M56 1 14 = M 1 14 := by
          rw [e56]
          exact (pz_une (fun h => absurd h.1 (by decide))).trans T37_0
        clear T37_0
        have T56_1 : M56 1 17 = M 1 17 := by
          rw [e56]
          exact (pz_une (fun h => absurd h.1 (by decide))).trans T37_1
        clear T37_1
        have T56_2 : M56 1 18 = M 1 18 := by
          rw [e56]
          exact (pz_une (fun h => absurd h.1 (by decide))).trans T37_2
        clear T37_2
        have T56_3 : M56 1 19 = M 1 19 := by
          rw [e56]
          exact (pz_une (fun h => absurd h.1 (by decide))).trans T37_3
        clear T37_3
        have T56_4 : M56 1 24 = (0) := by
          rw [e56]
          exact (pz_une (fun h => absurd h.1 (by decide))).trans T37_4
        clear T37_4
        refine And.intro (hI) ?_
        intro M58 q58
        obtain ⟨q58, z58⟩ := q58
        have hS : pz_rl pz_Q6 M M58 := hS.tr (pz_rl.wk pz_wk_Q0_Q6 z58)
        have hI : pz_im M58 := hS.1 hI0
        obtain ⟨q58, s58⟩ := q58
        have f58 := pz_q0f z58
        obtain ⟨f58a, f58b, f58c⟩ := f58
        have f58d : ∀ j, M58 64 j = M56 64 j := fun j => z58.2 64 j (by unfold pz_Q0; first | decide | omega)
        refine pz_nrc (c := 64) rfl ?_
        intro v67 e67 a67 b67
        have I67 : 0 ≤ v67 ∧ v67 ≤ 16 := by
          rw [e67]
          exact hI.2.1.2.2.2.2.2.1
        clear a67 b67
        have N67 := hI.2.1.2.2.2.2.2.1
        rw [hS.2 1 13 (by unfold pz_Q6; first | decide | omega)] at e67
        intro v70 e70 a70 b70
        rw [pz_wi (by first | decide | omega) (by first | decide | omega)] at e70
        clear a70 b70
        intro v72 e72 a72 b72
        have I72 : 0 ≤ v72 ∧ v72 ≤ 410 := by
          rw [e72]
          exact hI.2.1.2.2.2.2.2.2.1
        clear a72 b72
        have N72 := hI.2.1.2.2.2.2.2.2.1
        have lo75 : (0 : Int) ≤ v70 := by omega
        have tn75 : (((v70).toNat : Nat) : Int) = v70 := Int.toNat_of_nonneg lo75
        refine And.intro (lo75) (And.intro (show _ < (64 : Int) from by omega) ?_)
        intro M75 e75
        have hS : pz_rl pz_Q6 M M75 := by
          rw [e75]
          exact pz_rl_u hS (by unfold pz_Q6; first | decide | omega) (pz_iom_a (by decide))
        have hI : pz_im M75 := hS.1 hI0
        have T75_0 : M75 1 14 = M58 1 14 := by
          rw [e75]
          exact (pz_une (fun h => absurd h.1 (by decide)))
        have T75_1 : M75 1 17 = M58 1 17 := by
          rw [e75]
          exact (pz_une (fun h => absurd h.1 (by decide)))
        have T75_2 : M75 1 18 = M58 1 18 := by
          rw [e75]
          exact (pz_une (fun h => absurd h.1 (by decide)))
        have T75_3 : M75 1 19 = M58 1 19 := by
          rw [e75]
          exact (pz_une (fun h => absurd h.1 (by decide)))
        have T75_4 : M75 1 24 = M58 1 24 := by
          rw [e75]
          exact (pz_une (fun h => absurd h.1 (by decide)))
        have A75 : pq_aA M M75 := pq_aA_of e37 e56 z58 s58 e75
        have A65 : ∀ j, M75 65 j = M 65 j := fun j => (show M75 65 j = M58 65 j by rw [e75]; exact pz_una (by decide)).trans ((congrFun f58c j).trans ((show M56 65 j = M37 65 j by rw [e56]; exact pz_una (by decide)).trans (show M37 65 j = M 65 j by rw [e37]; exact pz_una (by decide))))
        refine And.intro (And.intro hI (And.intro (by first | decide | omega) (And.intro (by first | decide | omega) (by first | decide | omega)))) ?_
        intro v77 M77 a77 b77 q77
        obtain ⟨q77, z77⟩ := q77
        have hS : pz_rl pz_Q6 M M77 := hS.tr (pz_rl.wk pz_wk_Q1_Q6 z77)
        have hI : pz_im M77 := hS.1 hI0
        obtain ⟨q77, s77⟩ := q77
        refine And.intro (fun h80 => ?_) (fun h80 => ?_)
        · skip
          have T80 := (q77.resolve_left h80).2
          have KT := T80
          obtain ⟨⟨t1, -⟩, t3, t4, t5, K77p, K77s⟩ := KT
          have r58a := q58.1
          have r58b := q58.2.1
          clear q58
          have f77d : ∀ j, M77 64 j = M75 64 j := fun j => z77.2 64 j (by unfold pz_Q1; first | decide | omega)
          refine pz_nrc (c := 64) rfl ?_
          intro v91 e91 a91 b91
          have I91 : 0 ≤ v91 ∧ v91 ≤ 16 := by
            rw [e91]
            exact hI.2.1.2.2.2.2.2.1
          clear a91 b91
          have N91 := hI.2.1.2.2.2.2.2.1
          rw [hS.2 1 13 (by unfold pz_Q6; first | decide | omega)] at e91
          intro v94 e94 a94 b94
          rw [pz_wi (by first | decide | omega) (by first | decide | omega)] at e94
          clear a94 b94
          intro v96 e96 a96 b96
          rw [pz_wi (by first | decide | omega) (by first | decide | omega)] at e96
          clear a96 b96
          intro v98 e98 a98 b98
          have I98 : 0 ≤ v98 ∧ v98 ≤ 410 := by
            rw [e98]
            exact hI.2.1.2.2.2.2.2.2.1
          clear a98 b98
          have N98 := hI.2.1.2.2.2.2.2.2.1
          have lo101 : (0 : Int) ≤ v96 := by omega
          have tn101 : (((v96).toNat : Nat) : Int) = v96 := Int.toNat_of_nonneg lo101
          refine And.intro (lo101) (And.intro (show _ < (64 : Int) from by omega) ?_)
          intro M101 e101
          have hS : pz_rl pz_Q6 M M101 := by
            rw [e101]
            exact pz_rl_u hS (by unfold pz_Q6; first | decide | omega) (pz_iom_a (by decide))
          have hI : pz_im M101 := hS.1 hI0
          have T101_0 : M101 1 14 = M77 1 14 := by
            rw [e101]
            exact (pz_une (fun h => absurd h.1 (by decide)))
          have T101_1 : M101 1 17 = M77 1 17 := by
            rw [e101]
            exact (pz_une (fun h => absurd h.1 (by decide)))
          have T101_2 : M101 1 18 = M77 1 18 := by
            rw [e101]
            exact (pz_une (fun h => absurd h.1 (by decide)))
          have T101_3 : M101 1 19 = M77 1 19 := by
            rw [e101]
            exact (pz_une (fun h => absurd h.1 (by decide)))
          have T101_4 : M101 1 24 = M77 1 24 := by
            rw [e101]
            exact (pz_une (fun h => absurd h.1 (by decide)))
          intro v103 e103 a103 b103
          replace e103 := e103.trans T101_2
          refine And.intro (fun h107 => ?_) (fun h107 => ?_)
          · skip
            refine pz_nrc (c := 64) rfl ?_
            intro v129 e129 a129 b129
            have I129 : 0 ≤ v129 ∧ v129 ≤ 16 := by
              rw [e129]
              exact hI.2.1.2.2.2.2.2.1
            clear a129 b129
            have N129 := hI.2.1.2.2.2.2.2.1
            rw [hS.2 1 13 (by unfold pz_Q6; first | decide | omega)] at e129
            intro v132 e132 a132 b132
            rw [pz_wi (by first | decide | omega) (by first | decide | omega)] at e132
            clear a132 b132
            intro v134 e134 a134 b134
            rw [pz_wi (by first | decide | omega) (by first | decide | omega)] at e134
            clear a134 b134
            intro v136 e136 a136 b136
            have I136 : 0 ≤ v136 ∧ v136 ≤ 410 := by
              rw [e136]
              exact hI.2.1.2.2.2.2.2.2.1
            clear a136 b136
            have N136 := hI.2.1.2.2.2.2.2.2.1
            replace e136 := e136.trans T101_0
            have lo139 : (0 : Int) ≤ v134 := by omega
            have tn139 : (((v134).toNat : Nat) : Int) = v134 := Int.toNat_of_nonneg lo139
            refine And.intro (lo139) (And.intro (show _ < (64 : Int) from by omega) ?_)
            intro M139 e139
            have hS : pz_rl pz_Q6 M M139 := by
              rw [e139]
              exact pz_rl_u hS (by unfold pz_Q6; first | decide | omega) (pz_iom_a (by decide))
            have hI : pz_im M139 := hS.1 hI0
            have T139_0 : M139 1 14 = M77 1 14 := by
              rw [e139]
              exact (pz_une (fun h => absurd h.1 (by decide))).trans T101_0
            clear T101_0
            have T139_1 : M139 1 17 = M77 1 17 := by
              rw [e139]
              exact (pz_une (fun h => absurd h.1 (by decide))).trans T101_1
            clear T101_1
            have T139_2 : M139 1 18 = M77 1 18 := by
              rw [e139]
              exact (pz_une (fun h => absurd h.1 (by decide))).trans T101_2
            clear T101_2
            have T139_3 : M139 1 19 = M77 1 19 := by
              rw [e139]
              exact (pz_une (fun h => absurd h.1 (by decide))).trans T101_3
            clear T101_3
            have T139_4 : M139 1 24 = M77 1 24 := by
              rw [e139]
              exact (pz_une (fun h => absurd h.1 (by decide))).trans T101_4
            clear T101_4
            have B65 : ∀ j, M139 65 j = M101 65 j := fun j => by rw [e139]; exact pz_una (by decide)
            have S139 : pq_same M M139 := pq_Q6 hS.2
            refine And.intro (hI) ?_
            intro v144 M144 a144 b144 q144
            obtain ⟨q144, z144⟩ := q144
            have hS : pz_rl pz_Q6 M M144 := hS.tr (pz_rl.wk pz_wk_Q0_Q6 z144)
            have hI : pz_im M144 := hS.1 hI0
            obtain ⟨q144, s144⟩ := q144
            have f144 := pz_q0f z144
            obtain ⟨f144a, f144b, f144c⟩ := f144
            have Q144 := fun (_ : Unit) => q144
            have b144 : v144 = 0 ∨ v144 = 1 := q144.imp id (fun z => z.1)
            clear q144
            have F144c : M144 65 = M139 65 := f144c
            have F144d : ∀ j, M144 64 j = M139 64 j := fun j => z144.2 64 j (by unfold pz_Q0; first | decide | omega)
            have FIN0 := pz_fin (M 64) (M56 64) (M75 64) (M101 64) (M139 64) (n := M 1 13) (k3 := v51.toNat) (k0 := v70.toNat) (k1 := v96.toNat) (k2 := v134.toNat) (v3 := v53) (v0 := v72) (v1 := v98) (v2 := v136) (by first | decide | omega) (by first | decide | omega) (by first | decide | omega) (by first | decide | omega) (by first | decide | omega)
              (fun j => by rw [pz_u64 e56 j, show M37 64 j = M 64 j by rw [e37]; exact pz_una (by decide)]) (fun j => by rw [pz_u64 e75 j, f58d j]) (fun j => by rw [pz_u64 e101 j, f77d j]) (fun j => by first | rw [pz_u64 e139 j, f115d j, f111d j] | rw [pz_u64 e139 j])
            have FIN : ∀ j : Nat, ((j : Int) < 4 * M 1 13 → M144 64 j = M 64 j) ∧ ((j : Int) = 4 * M 1 13 → M144 64 j = M58 1 14) ∧ ((j : Int) = 4 * M 1 13 + 1 → M144 64 j = M77 1 14) ∧ ((j : Int) = 4 * M 1 13 + 2 → M144 64 j = M139 1 14) := by
              intro j
              have F := FIN0 j
              have E136 : v136 = M139 1 14 := by omega
              rw [F144d j]
              exact ⟨F.1, fun q => (F.2.1 q).trans e72, fun q => (F.2.2.1 q).trans e98, fun q => (F.2.2.2 q).trans E136⟩
            have C65 : ∀ j, M101 65 j = M77 65 j := fun j => by rw [e101]; exact pz_una (by decide)
            have GG65 : ∀ j : Nat, (j : Int) < 2 * M77 1 14 → M139 65 j = M77 65 j := by
              intro j hj
              first
                | exact ((B65 j).trans (w6 j (by first | decide | omega))).trans ((congrFun f111c j).trans (C65 j))
                | exact (B65 j).trans (C65 j)
            have GGsg : M77 1 14 = M144 1 14 ∨ pz_sg (M139 65) (M77 1 14) (M144 1 14) := by
              first
                | have w7b := w7
                  rw [show M111 1 14 = M77 1 14 by omega, show M115 1 14 = M144 1 14 by omega] at w7b
                  exact Or.inr (pz_sg_cg w7b (by first | decide | omega) (fun j _ _ => B65 j))
                | exact Or.inl (by first | decide | omega)
            have PAM : pq_aM (M 1 13).toNat M M139 v98 v136 := by
              first
                | exact pq_aM_2 (by first | decide | omega) (by first | decide | omega) I0.1 A75 s77 h80 (pq_Q1 z77) e101 (by first | decide | omega) (by first | decide | omega) z111 s111 s115 (by first | decide | omega) h118 e139 (by first | decide | omega)
                | exact pq_aM_1 (by first | decide | omega) (by first | decide | omega) I0.1 A75 s77 h80 (pq_Q1 z77) e101 (by first | decide | omega) (by first | decide | omega) e139 (by first | decide | omega)
            have R3 : M144 64 (4 * (M 1 13).toNat + 3) = M 1 18 := by
              rw [F144d, pz_u64 e139, if_neg (by first | decide | omega)]
              first
                | (rw [f115d, f111d, pz_u64 e101, if_neg (by first | decide | omega), f77d, pz_u64 e75, if_neg (by first | decide | omega), f58d, pz_u64 e56, if_pos (by first | decide | omega)]; omega)
                | (rw [pz_u64 e101, if_neg (by first | decide | omega), f77d, pz_u64 e75, if_neg (by first | decide | omega), f58d, pz_u64 e56, if_pos (by first | decide | omega)]; omega)
            have PAL : pq_al (M 1 13).toNat M M144 v144 := pq_al_e PAM (by first | decide | omega) (by first | decide | omega) S139 s144 (fun y => ((Q144 ()).resolve_left (by first | decide | omega)).2.1) z144 (fun _ => ⟨((FIN _).2.1 (by first | decide | omega)).trans (by first | decide | omega), ((FIN _).2.2.1 (by first | decide | omega)).trans (by first | decide | omega), ((FIN _).2.2.2 (by first | decide | omega)).trans (by first | decide | omega), R3⟩)
            refine And.intro (by first | decide | omega) ?_
            refine And.intro rfl ?_
            refine ⟨⟨?_, PAL⟩, hS⟩
            rcases Q144 () with q144 | ⟨q144, q144t, q144n⟩
            · exact Or.inl q144
            · have r144 := fun (_ : Unit) => q144n.2
              have r144a := q144n.1
              have r144b := q144n.2.1
              clear q144n
              refine Or.inr ⟨q144, by omega, r144 (), by omega, by omega, ?_, ?_, ?_⟩
              · intro j hj
                exact (FIN j).1 hj
              · intro j hj
                rw [F144c, GG65 j (by first | decide | omega)]
                exact (K77p j (by first | decide | omega)).trans (A65 j)
              · have s0 := (FIN (4 * M 1 13).toNat).2.1 (by first | decide | omega)
                have s1 := (FIN (4 * M 1 13 + 1).toNat).2.2.1 (by first | decide | omega)
                have s2 := (FIN (4 * M 1 13 + 2).toNat).2.2.2 (by first | decide | omega)
                unfold pz_ln
                rw [s0, s1, s2, show M58 1 14 = M 1 14 by omega, show M139 1 14 = M144 1 14 by omega]
                refine ⟨by omega, by omega, ?_, ?_⟩
                · have K9 := K77s
                  rw [show M75 1 14 = M 1 14 by omega] at K9
                  exact pz_sg_cg K9 (by first | decide | omega) (fun j _ q => by rw [F144c]; exact GG65 j q)
                · rw [F144c]
                  exact GGsg
          · skip
            refine And.intro (hI) ?_
            intro M111 q111
            obtain ⟨q111, z111⟩ := q111
            have hS : pz_rl pz_Q6 M M111 := hS.tr (pz_rl.wk pz_wk_Q0_Q6 z111)
            have hI : pz_im M111 := hS.1 hI0
            obtain ⟨q111, s111⟩ := q111
            have f111 := pz_q0f z111
            obtain ⟨f111a, f111b, f111c⟩ := f111
            have f111d : ∀ j, M111 64 j = M101 64 j := fun j => z111.2 64 j (by unfold pz_Q0; first | decide | omega)
            refine And.intro (And.intro hI (And.intro (by first | decide | omega) (And.intro (by first | decide | omega) (And.intro (by first | decide | omega) (And.intro (by first | decide | omega) (And.intro (by first | decide | omega) (by first | decide | omega))))))) ?_
            intro v115 M115 a115 b115 q115
            obtain ⟨q115, z115⟩ := q115
            have hS : pz_rl pz_Q6 M M115 := hS.tr (pz_rl.wk pz_wk_Q1_Q6 z115)
            have hI : pz_im M115 := hS.1 hI0
            obtain ⟨q115, s115⟩ := q115
            refine And.intro (fun h118 => ?_) (fun h118 => ?_)
            · skip
              have T118 := (q115.resolve_left h118).2
              obtain ⟨⟨w1, -⟩, w3, w4, w5, w6, w7⟩ := T118
              have r111a := q111.1
              have r111b := q111.2.1
              clear q111
              have f115d : ∀ j, M115 64 j = M111 64 j := fun j => z115.2 64 j (by unfold pz_Q1; first | decide | omega)
              refine pz_nrc (c := 64) rfl ?_
              intro v129 e129 a129 b129
              have I129 : 0 ≤ v129 ∧ v129 ≤ 16 := by
                rw [e129]
                exact hI.2.1.2.2.2.2.2.1
              clear a129 b129
              have N129 := hI.2.1.2.2.2.2.2.1
              rw [hS.2 1 13 (by unfold pz_Q6; first | decide | omega)] at e129
              intro v132 e132 a132 b132
              rw [pz_wi (by first | decide | omega) (by first | decide | omega)] at e132
              clear a132 b132
              intro v134 e134 a134 b134
              rw [pz_wi (by first | decide | omega) (by first | decide | omega)] at e134
              clear a134 b134
              intro v136 e136 a136 b136
              have I136 : 0 ≤ v136 ∧ v136 ≤ 410 := by
                rw [e136]
                exact hI.2.1.2.2.2.2.2.2.1
              clear a136 b136
              have N136 := hI.2.1.2.2.2.2.2.2.1
              have lo139 : (0 : Int) ≤ v134 := by omega
              have tn139 : (((v134).toNat : Nat) : Int) = v134 := Int.toNat_of_nonneg lo139
              refine And.intro (lo139) (And.intro (show _ < (64 : Int) from by omega) ?_)
              intro M139 e139
              have hS : pz_rl pz_Q6 M M139 := by
                rw [e139]
                exact pz_rl_u hS (by unfold pz_Q6; first | decide | omega) (pz_iom_a (by decide))
              have hI : pz_im M139 := hS.1 hI0
              have T139_0 : M139 1 14 = M115 1 14 := by
                rw [e139]
                exact (pz_une (fun h => absurd h.1 (by decide)))
              have T139_1 : M139 1 17 = M115 1 17 := by
                rw [e139]
                exact (pz_une (fun h => absurd h.1 (by decide)))
              have T139_2 : M139 1 18 = M115 1 18 := by
                rw [e139]
                exact (pz_une (fun h => absurd h.1 (by decide)))
              have T139_3 : M139 1 19 = M115 1 19 := by
                rw [e139]
                exact (pz_une (fun h => absurd h.1 (by decide)))
              have T139_4 : M139 1 24 = M115 1 24 := by
                rw [e139]
                exact (pz_une (fun h => absurd h.1 (by decide)))
              have B65 : ∀ j, M139 65 j = M115 65 j := fun j => by rw [e139]; exact pz_una (by decide)
              have S139 : pq_same M M139 := pq_Q6 hS.2
              refine And.intro (hI) ?_
              intro v144 M144 a144 b144 q144
              obtain ⟨q144, z144⟩ := q144
              have hS : pz_rl pz_Q6 M M144 := hS.tr (pz_rl.wk pz_wk_Q0_Q6 z144)
              have hI : pz_im M144 := hS.1 hI0
              obtain ⟨q144, s144⟩ := q144
              have f144 := pz_q0f z144
              obtain ⟨f144a, f144b, f144c⟩ := f144
              have Q144 := fun (_ : Unit) => q144
              have b144 : v144 = 0 ∨ v144 = 1 := q144.imp id (fun z => z.1)
              clear q144
              have F144c : M144 65 = M139 65 := f144c
              have F144d : ∀ j, M144 64 j = M139 64 j := fun j => z144.2 64 j (by unfold pz_Q0; first | decide | omega)
              have FIN0 := pz_fin (M 64) (M56 64) (M75 64) (M101 64) (M139 64) (n := M 1 13) (k3 := v51.toNat) (k0 := v70.toNat) (k1 := v96.toNat) (k2 := v134.toNat) (v3 := v53) (v0 := v72) (v1 := v98) (v2 := v136) (by first | decide | omega) (by first | decide | omega) (by first | decide | omega) (by first | decide | omega) (by first | decide | omega)
                (fun j => by rw [pz_u64 e56 j, show M37 64 j = M 64 j by rw [e37]; exact pz_una (by decide)]) (fun j => by rw [pz_u64 e75 j, f58d j]) (fun j => by rw [pz_u64 e101 j, f77d j]) (fun j => by first | rw [pz_u64 e139 j, f115d j, f111d j] | rw [pz_u64 e139 j])
              have FIN : ∀ j : Nat, ((j : Int) < 4 * M 1 13 → M144 64 j = M 64 j) ∧ ((j : Int) = 4 * M 1 13 → M144 64 j = M58 1 14) ∧ ((j : Int) = 4 * M 1 13 + 1 → M144 64 j = M77 1 14) ∧ ((j : Int) = 4 * M 1 13 + 2 → M144 64 j = M139 1 14) := by
                intro j
                have F := FIN0 j
                have E136 : v136 = M139 1 14 := by omega
                rw [F144d j]
                exact ⟨F.1, fun q => (F.2.1 q).trans e72, fun q => (F.2.2.1 q).trans e98, fun q => (F.2.2.2 q).trans E136⟩
              have C65 : ∀ j, M101 65 j = M77 65 j := fun j => by rw [e101]; exact pz_una (by decide)
              have GG65 : ∀ j : Nat, (j : Int) < 2 * M77 1 14 → M139 65 j = M77 65 j := by
                intro j hj
                first
                  | exact ((B65 j).trans (w6 j (by first | decide | omega))).trans ((congrFun f111c j).trans (C65 j))
                  | exact (B65 j).trans (C65 j)
              have GGsg : M77 1 14 = M144 1 14 ∨ pz_sg (M139 65) (M77 1 14) (M144 1 14) := by
                first
                  | have w7b := w7
                    rw [show M111 1 14 = M77 1 14 by omega, show M115 1 14 = M144 1 14 by omega] at w7b
                    exact Or.inr (pz_sg_cg w7b (by first | decide | omega) (fun j _ _ => B65 j))
                  | exact Or.inl (by first | decide | omega)
              have PAM : pq_aM (M 1 13).toNat M M139 v98 v136 := by
                first
                  | exact pq_aM_2 (by first | decide | omega) (by first | decide | omega) I0.1 A75 s77 h80 (pq_Q1 z77) e101 (by first | decide | omega) (by first | decide | omega) z111 s111 s115 (by first | decide | omega) h118 e139 (by first | decide | omega)
                  | exact pq_aM_1 (by first | decide | omega) (by first | decide | omega) I0.1 A75 s77 h80 (pq_Q1 z77) e101 (by first | decide | omega) (by first | decide | omega) e139 (by first | decide | omega)
              have R3 : M144 64 (4 * (M 1 13).toNat + 3) = M 1 18 := by
                rw [F144d, pz_u64 e139, if_neg (by first | decide | omega)]
                first
                  | (rw [f115d, f111d, pz_u64 e101, if_neg (by first | decide | omega), f77d, pz_u64 e75, if_neg (by first | decide | omega), f58d, pz_u64 e56, if_pos (by first | decide | omega)]; omega)
                  | (rw [pz_u64 e101, if_neg (by first | decide | omega), f77d, pz_u64 e75, if_neg (by first | decide | omega), f58d, pz_u64 e56, if_pos (by first | decide | omega)]; omega)
              have PAL : pq_al (M 1 13).toNat M M144 v144 := pq_al_e PAM (by first | decide | omega) (by first | decide | omega) S139 s144 (fun y => ((Q144 ()).resolve_left (by first | decide | omega)).2.1) z144 (fun _ => ⟨((FIN _).2.1 (by first | decide | omega)).trans (by first | decide | omega), ((FIN _).2.2.1 (by first | decide | omega)).trans (by first | decide | omega), ((FIN _).2.2.2 (by first | decide | omega)).trans (by first | decide | omega), R3⟩)
              refine And.intro (by first | decide | omega) ?_
              refine And.intro rfl ?_
              refine ⟨⟨?_, PAL⟩, hS⟩
              rcases Q144 () with q144 | ⟨q144, q144t, q144n⟩
              · exact Or.inl q144
              · have r144 := fun (_ : Unit) => q144n.2
                have r144a := q144n.1
                have r144b := q144n.2.1
                clear q144n
                refine Or.inr ⟨q144, by omega, r144 (), by omega, by omega, ?_, ?_, ?_⟩
                · intro j hj
                  exact (FIN j).1 hj
                · intro j hj
                  rw [F144c, GG65 j (by first | decide | omega)]
                  exact (K77p j (by first | decide | omega)).trans (A65 j)
                · have s0 := (FIN (4 * M 1 13).toNat).2.1 (by first | decide | omega)
                  have s1 := (FIN (4 * M 1 13 + 1).toNat).2.2.1 (by first | decide | omega)
                  have s2 := (FIN (4 * M 1 13 + 2).toNat).2.2.2 (by first | decide | omega)
                  unfold pz_ln
                  rw [s0, s1, s2, show M58 1 14 = M 1 14 by omega, show M139 1 14 = M144 1 14 by omega]
                  refine ⟨by omega, by omega, ?_, ?_⟩
                  · have K9 := K77s
                    rw [show M75 1 14 = M 1 14 by omega] at K9
                    exact pz_sg_cg K9 (by first | decide | omega) (fun j _ q => by rw [F144c]; exact GG65 j q)
                  · rw [F144c]
                    exact GGsg
            · skip
              skip
              refine And.intro (by first | decide | omega) ?_
              refine And.intro rfl ?_
              exact ⟨⟨Or.inl rfl, pq_al_wb (by first | decide | omega) (by first | decide | omega) A75 s77 h80 (pq_Q1 z77) e101 (by first | decide | omega) z111 s111 s115 (by first | decide | omega) h118⟩, hS⟩
        · skip
          skip
          refine And.intro (by first | decide | omega) ?_
          refine And.intro rfl ?_
          exact ⟨⟨Or.inl rfl, pq_al_sb (by first | decide | omega) (by first | decide | omega) A75 s77 h80⟩, hS⟩
      · skip
        refine And.intro (hI) ?_
        intro v31 M31 a31 b31 q31
        obtain ⟨q31, z31⟩ := q31
        have hS : pz_rl pz_Q6 M M31 := hS.tr (pz_rl.wk pz_wk_Q0_Q6 z31)
        have hI : pz_im M31 := hS.1 hI0
        clear a31 b31
        refine And.intro (by first | decide | omega) ?_
        refine And.intro rfl ?_
        exact ⟨⟨Or.inl (by first | decide | omega), by rw [show v31 = 0 from q31.1]; exact pq_al_m (by first | decide | omega) (by first | decide | omega) q31.2.1 q31.2.2⟩, hS⟩
    · skip
      replace q8 := q8.resolve_left (fun z => absurd (z.1.symm.trans h11) (by decide))
      clear h11
      refine And.intro (hI) ?_
      intro v16 M16 a16 b16 q16
      obtain ⟨q16, z16⟩ := q16
      have hS : pz_rl pz_Q6 M M16 := hS.tr (pz_rl.wk pz_wk_Q0_Q6 z16)
      have hI : pz_im M16 := hS.1 hI0
      clear a16 b16
      refine And.intro (by first | decide | omega) ?_
      refine And.intro rfl ?_
      exact ⟨⟨Or.inl (by first | decide | omega), by rw [show v16 = 0 from q16.1]; exact pq_al_w (by first | decide | omega) q16.2.1 q16.2.2⟩, hS⟩
theorem v_X12_aLine {fr lo i : Nat} {own : String} (h1 : 39 + 1 ≤ fr) (h2 : 8 + (1 + 11) + 917 ≤ lo) (h3 : .methodLink own i yX12_aLine ∈ lw_tbl) : pz_cV fr lo own i k_X12_aLine :=
  pz_cVk (maxL := 1) (fr' := 39) (lo' := 917) 0 12 h_X12_aLine rfl ⟨(pz_nhc_RX12 yX12_aLine rfl).1, (pz_nhc_RX12 yX12_aLine rfl).2, pz_ds3⟩ ⟨pz_wq1310, pz_wq1309, pz_ws14, pz_wq13⟩ (Or.inl ⟨TX12, 28, rfl⟩) (fun a M _ h => by
    have h : (match (generalizing := false) a with | [.inr (.inr (12, th))] => pz_im M ∧ M 1 19 ≤ M 1 17 ∧ (M 1 18 ≠ 0 → M 1 19 + 1 ≤ M 1 17) ∧ M 1 14 ≤ M 1 19 | _ => False) := h
    split at h
    · exact ⟨_, _, rfl⟩
    · exact h.elim) h1 h2 h3
end
section
noncomputable def k_X12_readsLaw : pz_C := (1, 1, fun a M => (match a with | [.inr (.inr (12, th))] => pz_im M ∧ M 1 19 ≤ M 1 17 ∧ (M 1 18 ≠ 0 → M 1 19 + 1 ≤ M 1 17) | _ => False), fun a M r M' => (match a, r with | [.inr (.inr (12, th))], some (.inl v) => ((v = 0 ∨ (v = 1 ∧ pz_wfl M')) ∧ ((v = 1 ∧ pq_RE M M') ∨ (v = 0 ∧ pq_RB M M'))) ∧ pz_rl pz_Q2 M M' | _, _ => False))
noncomputable abbrev ct_X12_readsLaw : List (Bool × Nat × pz_C) := [(true, 232, k_X12_aLine)]
theorem pz_wk_Q6_Q2 : ∀ b j, pz_Q6 b j → pz_Q2 b j := by
  intro b j q
  unfold pz_Q6 at q
  unfold pz_Q2
  omega
set_option maxRecDepth 100000 in
set_option maxHeartbeats 4000000 in
theorem h_X12_readsLaw : pz_H yX12_readsLaw cX12_readsLaw 2 (some .boolean) k_X12_readsLaw 40 937 := by
  refine pz_mk (own := RX12) (tb := t_X12_readsLaw) (fl := pz_flf fl_RX12) (ci := pz_cif ci_RX12) (ct := pz_ctf ct_X12_readsLaw) (rz := true) (pz_pfc_RX12 yX12_readsLaw rfl) rfl t_X12_readsLaw_ok (pz_flk fl_RX12_ok) (pz_cik ci_RX12_ok) ?_ ?_ (Or.inr ⟨rfl, rfl⟩) ?_ ?_
  · exact fun i k' h => pz_ctk (l := ct_X12_readsLaw) (P := fun b i k => b = true → pz_cV 40 937 RX12 i k) (List.forall_mem_cons.mpr ⟨(fun _ => v_X12_aLine (by decide) (by decide) pz_wq1307), fun _ h => absurd h List.not_mem_nil⟩) true i k' h rfl
  · exact fun i k' h => pz_ctk (l := ct_X12_readsLaw) (P := fun b i k => b = false → (pz_cS 40 937 RX12 i k ∨ (k = pz_kac ∧ 1 ≤ 40 ∧ 60 ≤ 937 ∧ Cond.methodLink RX12 i arraycopyName ∈ pz_tbl))) (List.forall_mem_cons.mpr ⟨((fun z => by cases z)), fun _ h => absurd h List.not_mem_nil⟩) false i k' h rfl
  · intro a M hlen hpre
    obtain ⟨th, rfl, hpre⟩ : ∃ th, a = [.inr (.inr (12, th))] ∧ (pz_im M ∧ M 1 19 ≤ M 1 17 ∧ (M 1 18 ≠ 0 → M 1 19 + 1 ≤ M 1 17)) := by
      have hpre : (match (generalizing := false) a with | [.inr (.inr (12, th))] => pz_im M ∧ M 1 19 ≤ M 1 17 ∧ (M 1 18 ≠ 0 → M 1 19 + 1 ≤ M 1 17) | _ => False) := hpre
      split at hpre
      · exact ⟨_, rfl, hpre⟩
      · exact hpre.elim
    exact Nat.le_of_ble_eq_true rfl
  · intro a M hlen hcan hM hpre Ok hgo
    obtain ⟨th, rfl, hpre⟩ : ∃ th, a = [.inr (.inr (12, th))] ∧ (pz_im M ∧ M 1 19 ≤ M 1 17 ∧ (M 1 18 ≠ 0 → M 1 19 + 1 ≤ M 1 17)) := by
      have hpre : (match (generalizing := false) a with | [.inr (.inr (12, th))] => pz_im M ∧ M 1 19 ≤ M 1 17 ∧ (M 1 18 ≠ 0 → M 1 19 + 1 ≤ M 1 17) | _ => False) := hpre
      split at hpre
      · exact ⟨_, rfl, hpre⟩
      · exact hpre.elim
    obtain ⟨k_th, hc_th⟩ := pz_tlm hcan
    have k_th : pz_kd th = 12 ∧ th < 231 := k_th
    have R_th := pz_kd12 k_th.1
    subst R_th
    clear k_th
    have hI : pz_im M := hpre.1
    have hI0 := hI
    have hS : pz_rl pz_Q2 M M := pz_rl.rf
    have I19 := hI.2.1.2.2.2.2.1
    obtain ⟨-, pr1, pr2⟩ := hpre
    have L12 : ∀ (fu : Nat) (x1 : Int) (N12 : pz_M), (17 - N12 1 13 + x1).toNat < fu → (pz_rl pz_Q2 M N12) → (x1 = 0 ∨ x1 = 1) → (x1 = 1 → pz_wfl N12 ∧ (N12 1 19 ≤ N12 1 17 ∧ (N12 1 18 ≠ 0 → N12 1 19 + 1 ≤ N12 1 17)) ∧ N12 1 14 ≤ N12 1 19) → (x1 = 1 → pq_RN M N12) → (x1 = 0 → pq_RB M N12) → Ok 12 [some (.inr (.inr (12, 1))), some (.inl x1)] [] N12 := by
      intro fu
      induction fu with
      | zero => exact fun _ _ hn => absurd hn (Nat.not_lt_zero _)
      | succ fu ih12 =>
        intro x1 N12 hn12 hS g12_1 g12_2 g12_3 g12_4
        have hI : pz_im N12 := hS.1 hI0
        have I13 := hI.2.1.2.2.2.2.2.1
        refine hgo (fun p => Nat.beq p 12) 31 12 _ _ _ ?_
        refine And.intro (fun h13 => ?_) (fun h13 => ?_)
        · skip
          skip
          refine And.intro (by first | decide | omega) ?_
          refine And.intro rfl ?_
          refine ⟨?_, hS⟩
          first
            | exact ⟨Or.inl (by first | decide | omega), Or.inr ⟨by omega, g12_4 (by first | decide | omega)⟩⟩
            | (have h : x1 = 1 := by omega
               exact ⟨Or.inr ⟨h, (g12_2 h).1⟩, Or.inl ⟨h, pq_RN_z (g12_3 h) (by first | decide | omega)⟩⟩)
        · skip
          have g9 := (g12_2 (by first | decide | omega)).2
          obtain ⟨⟨g9a, g9b⟩, g9c⟩ := g9
          intro v17 e17 a17 b17
          refine And.intro (fun h20 => ?_) (fun h20 => ?_)
          · skip
            refine And.intro (by first | decide | omega) ?_
            refine And.intro rfl ?_
            refine ⟨?_, hS⟩
            first
              | exact ⟨Or.inl (by first | decide | omega), Or.inr ⟨by omega, g12_4 (by first | decide | omega)⟩⟩
              | (have h : x1 = 1 := by omega
                 exact ⟨Or.inr ⟨h, (g12_2 h).1⟩, Or.inl ⟨h, pq_RN_z (g12_3 h) (by first | decide | omega)⟩⟩)
          · skip
            refine And.intro (And.intro hI (And.intro (by first | decide | omega) (And.intro (by first | decide | omega) (by first | decide | omega)))) ?_
            intro v24 M24 a24 b24 q24
            obtain ⟨q24, z24⟩ := q24
            have hS : pz_rl pz_Q2 M M24 := hS.tr (pz_rl.wk pz_wk_Q6_Q2 z24)
            have hI : pz_im M24 := hS.1 hI0
            obtain ⟨q24, s24⟩ := q24
            have F24 := z24.2 1 13 (by unfold pz_Q6; first | decide | omega)
            have I24 := hI.2.1.2.2.2.2.2.2.1
            intro v30 e30 a30 b30
            have I30 : 0 ≤ v30 ∧ v30 ≤ 16 := by
              rw [e30]
              exact hI.2.1.2.2.2.2.2.1
            clear a30 b30
            have N30 := hI.2.1.2.2.2.2.2.1
            refine And.intro (fun h34 => ?_) (fun h34 => ?_)
            · skip
              skip
              intro v42 e42 a42 b42
              rw [pz_wi (by first | decide | omega) (by first | decide | omega)] at e42
              clear a42 b42
              intro M43 e43
              have hS : pz_rl pz_Q2 M M43 := by
                rw [e43]
                exact pz_rl_u hS (by unfold pz_Q2; decide) (pz_iom_13 (by first | decide | omega))
              have hI : pz_im M43 := hS.1 hI0
              have T43_0 : M43 1 13 = v42 := by rw [e43]; exact pz_uu
              have T43_1 : M43 1 14 = M24 1 14 := by
                rw [e43]
                exact (pz_une (by decide))
              have T43_2 : M43 1 17 = M24 1 17 := by
                rw [e43]
                exact (pz_une (by decide))
              have T43_3 : M43 1 18 = M24 1 18 := by
                rw [e43]
                exact (pz_une (by decide))
              have T43_4 : M43 1 19 = M24 1 19 := by
                rw [e43]
                exact (pz_une (by decide))
              have G43 : v24 = 1 → pz_wfl M43 ∧ (M43 1 19 ≤ M43 1 17 ∧ (M43 1 18 ≠ 0 → M43 1 19 + 1 ≤ M43 1 17)) ∧ M43 1 14 ≤ M43 1 19 := by
                intro a
                obtain ⟨b1, ⟨b2, b3⟩, b4, b5, b6, b7, b8⟩ := (q24.resolve_left (by first | decide | omega)).2
                refine ⟨?_, ⟨by omega, by omega⟩, by omega⟩
                have E4 : M43 64 = M24 64 := funext fun j => by rw [e43]; exact pz_una (by decide)
                have E5 : M43 65 = M24 65 := funext fun j => by rw [e43]; exact pz_una (by decide)
                intro i i0 i1
                rw [E4, E5, show M43 1 14 = M24 1 14 by omega]
                rcases Int.lt_or_le i (N12 1 13) with h9 | h9
                · exact pz_ln_cg ((g12_2 (by first | decide | omega)).1 i i0 h9) i0 (fun j hj => b6 j (by first | decide | omega)) b7 b5
                · rw [show i = N12 1 13 by omega]
                  exact b8
              have Q43 : v24 = 1 → pq_RN M M43 := fun a => pq_RN_s (g12_3 (by first | decide | omega)) s24 a (by first | decide | omega) ((q24.resolve_left (by first | decide | omega)).2).2.2.2.2.1 (pq_Q6 z24.2) e43 (by first | decide | omega)
              have B43 : v24 = 0 → pq_RB M M43 := fun a => pq_RN_b (g12_3 (by first | decide | omega)) s24 a (by first | decide | omega) e43
              exact ih12 _ _ (by first | decide | omega) hS (by first | omega | assumption | exact (fun y => absurd y (by decide))) (by first | omega | assumption | exact (fun y => absurd y (by decide))) (by first | omega | assumption | exact (fun y => absurd y (by decide))) (by first | omega | assumption | exact (fun y => absurd y (by decide)))
            · skip
              have A34 : N12 1 13 < 16 := (q24.resolve_left h34).2.1
              intro v42 e42 a42 b42
              rw [pz_wi (by first | decide | omega) (by first | decide | omega)] at e42
              clear a42 b42
              intro M43 e43
              have hS : pz_rl pz_Q2 M M43 := by
                rw [e43]
                exact pz_rl_u hS (by unfold pz_Q2; decide) (pz_iom_13 (by first | decide | omega))
              have hI : pz_im M43 := hS.1 hI0
              have T43_0 : M43 1 13 = v42 := by rw [e43]; exact pz_uu
              have T43_1 : M43 1 14 = M24 1 14 := by
                rw [e43]
                exact (pz_une (by decide))
              have T43_2 : M43 1 17 = M24 1 17 := by
                rw [e43]
                exact (pz_une (by decide))
              have T43_3 : M43 1 18 = M24 1 18 := by
                rw [e43]
                exact (pz_une (by decide))
              have T43_4 : M43 1 19 = M24 1 19 := by
                rw [e43]
                exact (pz_une (by decide))
              have G43 : v24 = 1 → pz_wfl M43 ∧ (M43 1 19 ≤ M43 1 17 ∧ (M43 1 18 ≠ 0 → M43 1 19 + 1 ≤ M43 1 17)) ∧ M43 1 14 ≤ M43 1 19 := by
                intro a
                obtain ⟨b1, ⟨b2, b3⟩, b4, b5, b6, b7, b8⟩ := (q24.resolve_left (by first | decide | omega)).2
                refine ⟨?_, ⟨by omega, by omega⟩, by omega⟩
                have E4 : M43 64 = M24 64 := funext fun j => by rw [e43]; exact pz_una (by decide)
                have E5 : M43 65 = M24 65 := funext fun j => by rw [e43]; exact pz_una (by decide)
                intro i i0 i1
                rw [E4, E5, show M43 1 14 = M24 1 14 by omega]
                rcases Int.lt_or_le i (N12 1 13) with h9 | h9
                · exact pz_ln_cg ((g12_2 (by first | decide | omega)).1 i i0 h9) i0 (fun j hj => b6 j (by first | decide | omega)) b7 b5
                · rw [show i = N12 1 13 by omega]
                  exact b8
              have Q43 : v24 = 1 → pq_RN M M43 := fun a => pq_RN_s (g12_3 (by first | decide | omega)) s24 a (by first | decide | omega) ((q24.resolve_left (by first | decide | omega)).2).2.2.2.2.1 (pq_Q6 z24.2) e43 (by first | decide | omega)
              have B43 : v24 = 0 → pq_RB M M43 := fun a => pq_RN_b (g12_3 (by first | decide | omega)) s24 a (by first | decide | omega) e43
              exact ih12 _ _ (by first | decide | omega) hS (by first | omega | assumption | exact (fun y => absurd y (by decide))) (by first | omega | assumption | exact (fun y => absurd y (by decide))) (by first | omega | assumption | exact (fun y => absurd y (by decide))) (by first | omega | assumption | exact (fun y => absurd y (by decide)))
    refine hgo (fun p => Nat.beq p 12) 31 0 _ [] M ?_
    intro M2 e2
    have hS : pz_rl pz_Q2 M M2 := by
      rw [e2]
      exact pz_rl_u hS (by unfold pz_Q2; decide) (pz_iom_13 (by first | decide | omega))
    have hI : pz_im M2 := hS.1 hI0
    have T2_0 : M2 1 13 = (0) := by rw [e2]; exact pz_uu
    have T2_1 : M2 1 14 = M 1 14 := by
      rw [e2]
      exact (pz_une (by decide))
    have T2_2 : M2 1 17 = M 1 17 := by
      rw [e2]
      exact (pz_une (by decide))
    have T2_3 : M2 1 18 = M 1 18 := by
      rw [e2]
      exact (pz_une (by decide))
    have T2_4 : M2 1 19 = M 1 19 := by
      rw [e2]
      exact (pz_une (by decide))
    intro M7 e7
    have hS : pz_rl pz_Q2 M M7 := by
      rw [e7]
      exact pz_rl_u hS (by unfold pz_Q2; decide) (pz_iom_14 (by first | decide | omega))
    have hI : pz_im M7 := hS.1 hI0
    have T7_0 : M7 1 13 = (0) := by
      rw [e7]
      exact (pz_une (by decide)).trans T2_0
    clear T2_0
    have T7_1 : M7 1 14 = (0) := by rw [e7]; exact pz_uu
    have T7_2 : M7 1 17 = M 1 17 := by
      rw [e7]
      exact (pz_une (by decide)).trans T2_2
    clear T2_2
    have T7_3 : M7 1 18 = M 1 18 := by
      rw [e7]
      exact (pz_une (by decide)).trans T2_3
    clear T2_3
    have T7_4 : M7 1 19 = M 1 19 := by
      rw [e7]
      exact (pz_une (by decide)).trans T2_4
    clear T2_4
    have G7 : (1 : Int) = 1 → pz_wfl M7 ∧ (M7 1 19 ≤ M7 1 17 ∧ (M7 1 18 ≠ 0 → M7 1 19 + 1 ≤ M7 1 17)) ∧ M7 1 14 ≤ M7 1 19 := fun _ => ⟨fun i i0 i1 => absurd i1 (by first | decide | omega), ⟨by omega, by omega⟩, by omega⟩
    have Q7 : (1 : Int) = 1 → pq_RN M M7 := fun _ => pq_RN_0 e2 e7
    exact L12 _ _ _ (Nat.lt_succ_self _) hS (by first | omega | assumption | exact (fun y => absurd y (by decide))) (by first | omega | assumption | exact (fun y => absurd y (by decide))) (by first | omega | assumption | exact (fun y => absurd y (by decide))) (by first | omega | assumption | exact (fun y => absurd y (by decide)))
theorem v_X12_readsLaw {fr lo i : Nat} {own : String} (h1 : 40 + 1 ≤ fr) (h2 : 8 + (2 + 11) + 937 ≤ lo) (h3 : .methodLink own i yX12_readsLaw ∈ lw_tbl) : pz_cV fr lo own i k_X12_readsLaw :=
  pz_cVk (maxL := 2) (fr' := 40) (lo' := 937) 0 12 h_X12_readsLaw rfl ⟨(pz_nhc_RX12 yX12_readsLaw rfl).1, (pz_nhc_RX12 yX12_readsLaw rfl).2, pz_ds3⟩ ⟨pz_wq1306, pz_wq1305, pz_ws13, pz_wq13⟩ (Or.inl ⟨TX12, 28, rfl⟩) (fun a M _ h => by
    have h : (match (generalizing := false) a with | [.inr (.inr (12, th))] => pz_im M ∧ M 1 19 ≤ M 1 17 ∧ (M 1 18 ≠ 0 → M 1 19 + 1 ≤ M 1 17) | _ => False) := h
    split at h
    · exact ⟨_, _, rfl⟩
    · exact h.elim) h1 h2 h3
end
section
theorem pz_law1 {f g w : Nat → Int} {x : Int} {i1 i2 i3 i4 : Nat} {v1 v2 v3 v4 : Int} (hx : 0 ≤ x) (hx2 : x < 16) (h1 : (i1 : Int) = 841 + x) (h2 : (i2 : Int) = 857 + x) (h3 : (i3 : Int) = 873 + x) (h4 : (i4 : Int) = 889 + x)
    (U1 : ∀ j, w j = if j = i4 then v4 else if j = i3 then v3 else if j = i2 then v2 else if j = i1 then v1 else f j) (e1 : v1 = g (4 * x).toNat) (e2 : v2 = g (4 * x + 1).toNat) (e3 : v3 = g (4 * x + 2).toNat) (e4 : v4 = g (4 * x + 3).toNat)
    (IH : ∀ k : Nat, (k : Int) < x → f (841 + k) = g (4 * k) ∧ f (857 + k) = g (4 * k + 1) ∧ f (873 + k) = g (4 * k + 2) ∧ f (889 + k) = g (4 * k + 3)) :
    ∀ k : Nat, (k : Int) < x + 1 → w (841 + k) = g (4 * k) ∧ w (857 + k) = g (4 * k + 1) ∧ w (873 + k) = g (4 * k + 2) ∧ w (889 + k) = g (4 * k + 3) := by
  intro k hk
  rcases Int.lt_or_le (k : Int) x with h9 | h9
  · obtain ⟨a, b, c, d⟩ := IH k h9
    refine ⟨?_, ?_, ?_, ?_⟩
    · rw [U1, if_neg (by first | decide | omega), if_neg (by first | decide | omega), if_neg (by first | decide | omega), if_neg (by first | decide | omega)]; exact a
    · rw [U1, if_neg (by first | decide | omega), if_neg (by first | decide | omega), if_neg (by first | decide | omega), if_neg (by first | decide | omega)]; exact b
    · rw [U1, if_neg (by first | decide | omega), if_neg (by first | decide | omega), if_neg (by first | decide | omega), if_neg (by first | decide | omega)]; exact c
    · rw [U1, if_neg (by first | decide | omega), if_neg (by first | decide | omega), if_neg (by first | decide | omega), if_neg (by first | decide | omega)]; exact d
  · have hk9 : (k : Int) = x := by omega
    refine ⟨?_, ?_, ?_, ?_⟩
    · rw [U1, if_neg (by first | decide | omega), if_neg (by first | decide | omega), if_neg (by first | decide | omega), if_pos (by first | decide | omega), e1, show (4 * x).toNat = 4 * k by omega]
    · rw [U1, if_neg (by first | decide | omega), if_neg (by first | decide | omega), if_pos (by first | decide | omega), e2, show (4 * x + 1).toNat = 4 * k + 1 by omega]
    · rw [U1, if_neg (by first | decide | omega), if_pos (by first | decide | omega), e3, show (4 * x + 2).toNat = 4 * k + 2 by omega]
    · rw [U1, if_pos (by first | decide | omega), e4, show (4 * x + 3).toNat = 4 * k + 3 by omega]
theorem pz_law2 {f g h w : Nat → Int} {x n : Int} {i1 : Nat} {v1 : Int} (hx : 0 ≤ x) (h1 : (i1 : Int) = 905 + x) (hn : n ≤ 16) (U1 : ∀ j, w j = if j = i1 then v1 else f j) (e1 : v1 = h x.toNat)
    (IH : ∀ k : Nat, (k : Int) < n → f (841 + k) = g (4 * k) ∧ f (857 + k) = g (4 * k + 1) ∧ f (873 + k) = g (4 * k + 2) ∧ f (889 + k) = g (4 * k + 3)) (IH2 : ∀ k : Nat, (k : Int) < x → f (905 + k) = h k) :
    (∀ k : Nat, (k : Int) < n → w (841 + k) = g (4 * k) ∧ w (857 + k) = g (4 * k + 1) ∧ w (873 + k) = g (4 * k + 2) ∧ w (889 + k) = g (4 * k + 3)) ∧ (∀ k : Nat, (k : Int) < x + 1 → w (905 + k) = h k) := by
  refine ⟨fun k hk => ?_, fun k hk => ?_⟩
  · obtain ⟨a, b, c, d⟩ := IH k hk
    refine ⟨?_, ?_, ?_, ?_⟩
    · rw [U1, if_neg (by first | decide | omega)]; exact a
    · rw [U1, if_neg (by first | decide | omega)]; exact b
    · rw [U1, if_neg (by first | decide | omega)]; exact c
    · rw [U1, if_neg (by first | decide | omega)]; exact d
  · rcases Int.lt_or_le (k : Int) x with h9 | h9
    · rw [U1, if_neg (by first | decide | omega)]
      exact IH2 k h9
    · rw [U1, if_pos (by first | decide | omega), e1, show x.toNat = k by omega]
def pz_r0 (P : Nat → Nat → Prop) (M M' : pz_M) : Prop := ∀ b j : Nat, ¬ P b j → M' b j = M b j
theorem pz_r0.rf {P : Nat → Nat → Prop} {M : pz_M} : pz_r0 P M M := fun _ _ _ => rfl
theorem pz_r0_u {P : Nat → Nat → Prop} {M M' : pz_M} {a k : Nat} {v : Int} (hs : pz_r0 P M M') (hp : P a k) : pz_r0 P M (pz_u M' a k v) := by
  intro b j hb
  have q1 := pz_uv M' a k v b j
  rcases q1 with ⟨rfl, rfl, -⟩ | ⟨-, q1⟩
  · exact absurd hp hb
  · rw [q1]
    exact hs b j hb
def pz_W1 (b j : Nat) : Prop := b = 60 ∧ (j = 89 ∨ 841 ≤ j)
def pz_W2 (b j : Nat) : Prop := b = 60 ∨ b = 61
theorem pz_lw_of {M M' : pz_M} {a b : Nat} (h : pz_lw M b) (hw : M b 89 ≤ 16) (he : ∀ j, j < 1725 → M' a j = M b j) : pz_lw M' a := by
  intro i q1 q2
  rw [he 89 (by first | decide | omega)] at q2
  obtain ⟨h1, h2, h3, h4⟩ := h i q1 q2
  have l3 := h3.1
  rw [he (841 + i).toNat (by first | decide | omega), he (857 + i).toNat (by first | decide | omega), he (873 + i).toNat (by first | decide | omega)]
  have l4 : M b (857 + i).toNat ≤ M b (873 + i).toNat := by
    rcases h4 with h4 | h4
    · omega
    · have := h4.1
      omega
  refine ⟨h1, h2, pz_sg_cg h3 h1 (fun j _ q => he _ (by first | decide | omega)), ?_⟩
  rcases h4 with h4 | h4
  · exact Or.inl h4
  · exact Or.inr (pz_sg_cg h4 (by first | decide | omega) (fun j _ q => he _ (by first | decide | omega)))
theorem pz_iw_of {M M' : pz_M} {a b : Nat} (h : pz_iw M b) (he : ∀ j, j < 1725 → M' a j = M b j) : pz_iw M' a := by
  unfold pz_iw
  rw [he 88 (by first | decide | omega), he 89 (by first | decide | omega), he 90 (by first | decide | omega), he 92 (by first | decide | omega), he 3 (by first | decide | omega)]
  exact h
theorem pz_ix_of {M M' : pz_M} (h : pz_ix M) (h1 : ∀ j, j ≠ 4 → M' 1 j = M 1 j) (h4 : 0 ≤ M' 1 4 ∧ M' 1 4 ≤ 6) (h62 : ∀ j, M' 62 j = M 62 j) (h63 : M' 63 3 = M 63 3) : pz_ix M' := by
  obtain ⟨i1, i2, i3, i4, i5, i6, i7, i8, i9⟩ := h
  refine ⟨h4, ?_, ?_, ?_, ?_, ?_, ?_, ?_, fun j hj => ?_⟩
  · rw [h1 16 (by first | decide | omega)]; exact i2
  · rw [h63]; exact i3
  · rw [h1 17 (by first | decide | omega)]; exact i4
  · rw [h1 19 (by first | decide | omega)]; exact i5
  · rw [h1 13 (by first | decide | omega)]; exact i6
  · rw [h1 14 (by first | decide | omega)]; exact i7
  · rw [h1 15 (by first | decide | omega)]; exact i8
  · rw [h62]; exact i9 j hj
theorem pz_img {M N : pz_M} {x : Int} (hI : pz_im M) (hS : pz_r0 pz_W2 M N) (h4 : N 1 4 = M 1 4) (hg : (x = 0 → ∀ k : Nat, (k : Int) < (1725 : Int) → N 60 k = M 61 k) ∧ (x = 0 → ∀ k, N 61 k = M 61 k) ∧ (x ≠ 0 → ∀ k : Nat, (k : Int) < (1725 : Int) → N 61 k = M 60 k) ∧ (x ≠ 0 → ∀ k, N 60 k = M 60 k)) : pz_im N := by
  obtain ⟨i1, i2, i3, i4, i5⟩ := hI
  obtain ⟨g1, g2, g3, g4⟩ := hg
  have hx : pz_ix N := pz_ix_of i2 (fun j hj => hS 1 j (by unfold pz_W2; first | decide | omega)) (by rw [h4]; exact i2.1) (fun j => hS 62 j (by unfold pz_W2; first | decide | omega)) (hS 63 3 (by unfold pz_W2; first | decide | omega))
  by_cases hx0 : x = 0
  · have e60 : ∀ j, j < 1725 → N 60 j = M 61 j := fun j hj => g1 hx0 j (by first | decide | omega)
    have e61 : ∀ j, j < 1725 → N 61 j = M 61 j := fun j _ => g2 hx0 j
    exact ⟨pz_iw_of i4 e60, hx, pz_lw_of i5 i4.2.1.2 e60, pz_iw_of i4 e61, pz_lw_of i5 i4.2.1.2 e61⟩
  · have e60 : ∀ j, j < 1725 → N 60 j = M 60 j := fun j _ => g4 hx0 j
    have e61 : ∀ j, j < 1725 → N 61 j = M 60 j := fun j hj => g3 hx0 j (by first | decide | omega)
    exact ⟨pz_iw_of i1 e60, hx, pz_lw_of i3 i1.2.1.2 e60, pz_iw_of i1 e61, pz_lw_of i3 i1.2.1.2 e61⟩
theorem pz_img1 {M N N' : pz_M} {x y v : Int} {k : Nat} (hk : (k : Int) = y) (hx : x ≠ 0) (e : N' = pz_u N 61 k v) (ev : v = N 60 k) (o : (x = 0 → ∀ k : Nat, (k : Int) < y → N 60 k = M 61 k) ∧ (x = 0 → ∀ k, N 61 k = M 61 k) ∧ (x ≠ 0 → ∀ k : Nat, (k : Int) < y → N 61 k = M 60 k) ∧ (x ≠ 0 → ∀ k, N 60 k = M 60 k)) : (x = 0 → ∀ k : Nat, (k : Int) < y + 1 → N' 60 k = M 61 k) ∧ (x = 0 → ∀ k, N' 61 k = M 61 k) ∧ (x ≠ 0 → ∀ k : Nat, (k : Int) < y + 1 → N' 61 k = M 60 k) ∧ (x ≠ 0 → ∀ k, N' 60 k = M 60 k) := by
  obtain ⟨o1, o2, o3, o4⟩ := o
  refine ⟨fun q => absurd q hx, fun q => absurd q hx, fun q j hj => ?_, fun q j => ?_⟩
  · rw [pz_u64 e j]
    by_cases h : j = k
    · rw [if_pos h, ev, h]
      exact o4 q k
    · rw [if_neg h]
      exact o3 q j (by first | decide | omega)
  · rw [e, pz_una (by decide)]
    exact o4 q j
theorem pz_img2 {M N N' : pz_M} {x y v : Int} {k : Nat} (hk : (k : Int) = y) (hx : x = 0) (e : N' = pz_u N 60 k v) (ev : v = N 61 k) (o : (x = 0 → ∀ k : Nat, (k : Int) < y → N 60 k = M 61 k) ∧ (x = 0 → ∀ k, N 61 k = M 61 k) ∧ (x ≠ 0 → ∀ k : Nat, (k : Int) < y → N 61 k = M 60 k) ∧ (x ≠ 0 → ∀ k, N 60 k = M 60 k)) : (x = 0 → ∀ k : Nat, (k : Int) < y + 1 → N' 60 k = M 61 k) ∧ (x = 0 → ∀ k, N' 61 k = M 61 k) ∧ (x ≠ 0 → ∀ k : Nat, (k : Int) < y + 1 → N' 61 k = M 60 k) ∧ (x ≠ 0 → ∀ k, N' 60 k = M 60 k) := by
  obtain ⟨o1, o2, o3, o4⟩ := o
  refine ⟨fun q j hj => ?_, fun q j => ?_, fun q => absurd hx q, fun q => absurd hx q⟩
  · rw [pz_u64 e j]
    by_cases h : j = k
    · rw [if_pos h, ev, h]
      exact o2 q k
    · rw [if_neg h]
      exact o1 q j (by first | decide | omega)
  · rw [e, pz_una (by decide)]
    exact o2 q j
end
section
/-! a TEXT is told, and put into w -/
theorem pq_mi_0 {M N : pz_M} (h : M 1 17 = 0) (b : pz_tb M) (q : pz_rl pz_Q0 M N) (s : pz_tb M → pz_nxt M N) : pq_mi N 0 := by
  obtain ⟨s1, s2, s3, s4⟩ := s b
  have e := pq_Q0 q
  have p : pz_nxp M = pz_tp (M 67) (M 1 16).toNat 0 := by
    unfold pz_nxp
    rw [h]
    rfl
  rw [p] at s1 s2 s3 s4
  refine ⟨fun k hk => by rw [e.1]; exact b k (by rw [← e.2.1]; exact hk), ?_, ?_, ?_, fun y => ?_⟩
  · rw [s1, e.T.2.2]
    rfl
  · rw [s2, e.1, e.2.1]
  · rw [s3, e.T.1, e.2.2]
    rfl
  · rw [e.T.1] at y
    rw [s4 y, e.T.2.1]
    rfl
theorem pq_T_cg {M N : pz_M} (e : N 67 = M 67) (e2 : N 1 16 = M 1 16) : pq_TM N = pq_TM M ∧ pq_XM N = pq_XM M ∧ pq_PM N = pq_PM M := by
  unfold pq_TM pq_XM
  refine ⟨by rw [e, e2], by rw [e, e2], funext fun i => ?_⟩
  unfold pq_PM
  rw [e, e2]
theorem pq_tb_cg {M N : pz_M} (e : N 67 = M 67) (e2 : N 1 16 = M 1 16) (h : pz_tb M) : pz_tb N := fun k hk => by rw [e]; exact h k (by rw [← e2]; exact hk)
def pq_gl (ls : List (List Int)) (r c : Nat) : Int := (ls.getD r []).getD c 0
def pq_wlw (ls : List pz_lne) (f : Nat → Int) : Prop := f 89 = (ls.length : Int) ∧ (∀ k : Nat, k < ls.length → pq_l2 ls k (f (841 + k)) (f (857 + k)) (f (873 + k)) (f (889 + k))) ∧ pq_st (pz_catl ls) (fun j => f (905 + j))
def pq_wp (ls : List (List Int)) (f : Nat → Int) : Prop := f 90 = (ls.length : Int) ∧ ∀ r c : Nat, r < ls.length → c < 5 → f (129 + (5 * r + c)) = pq_gl ls r c - (if c = 1 then 10 else 0)
def pq_wh (ls : List (List Int)) (n : Int) (f : Nat → Int) : Prop := f 91 = (ls.length : Int) ∧ ∀ i : Nat, i < 12 → (i : Int) < n → f (105 + 2 * i) = pz_ph (pq_gl ls) i 0 1 ls.length ∧ f (106 + 2 * i) = pz_ph (pq_gl ls) i 240 2 ls.length
def pq_wd (ls : List (List Int)) (f : Nat → Int) : Prop := f 92 = (ls.length : Int) ∧ ∀ r c : Nat, r < ls.length → c < 2 → f (209 + (2 * r + c)) = pq_gl ls r c
def pq_w3 (k : Int) (ls : List (List Int)) (f : Nat → Int) : Prop := (k = 1 → pq_wp ls f) ∧ (k = 2 → ∀ n : Int, pq_wh ls n f) ∧ (k = 3 → pq_wd ls f)
/-- the cells of a TEXT -/
def pq_wf (k : Int) (j : Nat) : Prop := (k = 0 ∧ (j = 89 ∨ 841 ≤ j)) ∨ (k = 1 ∧ (j = 90 ∨ (129 ≤ j ∧ j < 209))) ∨ (k = 2 ∧ (j = 91 ∨ (105 ≤ j ∧ j < 129))) ∨ (k = 3 ∧ (j = 92 ∨ (209 ≤ j ∧ j ≤ 240)))
def pz_lwc (M N : pz_M) : Prop := N 60 89 = M 1 13 ∧ (∀ k : Nat, (k : Int) < M 1 13 → N 60 (841 + k) = M 64 (4 * k) ∧ N 60 (857 + k) = M 64 (4 * k + 1) ∧ N 60 (873 + k) = M 64 (4 * k + 2) ∧ N 60 (889 + k) = M 64 (4 * k + 3)) ∧ ∀ k : Nat, (k : Int) < 2 * M 1 14 → N 60 (905 + k) = M 65 k
def pz_pcc (i j k : Int) (M N : pz_M) : Prop := N 60 i.toNat = M 1 15 ∧ ∀ n : Nat, (n : Int) < k * M 1 15 → N 60 (j.toNat + n) = M 66 n
def pz_mph (M : pz_M) (r c : Nat) : Int := M 66 (3 * r + c)
def pz_phc (M N : pz_M) : Prop := N 60 91 = M 1 15 ∧ ∀ i : Nat, i < 12 → N 60 (105 + 2 * i) = pz_ph (pz_mph M) i 0 1 (M 1 15).toNat ∧ N 60 (106 + 2 * i) = pz_ph (pz_mph M) i 240 2 (M 1 15).toNat
def pq_pt (k : Int) (M N : pz_M) (v : Int) : Prop := (k = 0 → v = M 1 13 ∧ pz_lwc M N) ∧ (k = 1 → v = M 1 15 ∧ pz_pcc 90 129 5 M N) ∧ (k = 2 → v = M 1 15 ∧ pz_phc M N) ∧ (k = 3 → v = M 1 15 ∧ pz_pcc 92 209 2 M N) ∧ ∀ j : Nat, ¬ pq_wf k j → N 60 j = M 60 j
theorem pz_pcc_cg {i j k : Int} {M M' N : pz_M} (h : pz_pcc i j k M' N) (e : M' 1 15 = M 1 15) (e2 : ∀ n, M' 66 n = M 66 n) : pz_pcc i j k M N := by
  obtain ⟨a, b⟩ := h
  rw [e] at a b
  exact ⟨a, fun n hn => (b n hn).trans (e2 n)⟩
theorem pq_wl_of {ls : List pz_lne} {M N : pz_M} (l : pq_ls ls (M 1 13) (M 1 14) (M 64) (M 65)) (w : pz_lwc M N) : pq_wlw ls (N 60) := by
  obtain ⟨l1, l2, l3, l4⟩ := l
  obtain ⟨w1, w2, w3⟩ := w
  refine ⟨w1.trans l1, fun k hk => ?_, fun k hk => ?_⟩
  · obtain ⟨a, b, c, d⟩ := w2 k (by first | decide | omega)
    rw [a, b, c, d]
    exact l4 k hk
  · show N 60 (905 + 2 * k) = _ ∧ (_ → N 60 (905 + (2 * k + 1)) = _)
    rw [w3 _ (by first | decide | omega), w3 _ (by first | decide | omega)]
    exact l3 k hk
theorem pq_wp_of {ls : List (List Int)} {M N : pz_M} (h1 : M 1 15 = (ls.length : Int)) (hl : pq_lys 1 (M 66) ls) (w : pz_pcc 90 129 5 M N) : pq_wp ls (N 60) := by
  refine ⟨w.1.trans h1, fun r c hr hc => ?_⟩
  obtain ⟨x0, x1, x2, x3, x4⟩ := (hl r hr).1 rfl
  have e : N 60 (129 + (5 * r + c)) = M 66 (5 * r + c) := w.2 (5 * r + c) (by first | decide | omega)
  rw [e]
  have hc9 : c = 0 ∨ c = 1 ∨ c = 2 ∨ c = 3 ∨ c = 4 := by omega
  rcases hc9 with rfl | rfl | rfl | rfl | rfl
  · rw [if_neg (by decide), Int.sub_zero]; exact x0
  · rw [if_pos rfl]; exact x1
  · rw [if_neg (by decide), Int.sub_zero]; exact x2
  · rw [if_neg (by decide), Int.sub_zero]; exact x3
  · rw [if_neg (by decide), Int.sub_zero]; exact x4
theorem pq_wh_of {ls : List (List Int)} {n : Int} {M N : pz_M} (h1 : M 1 15 = (ls.length : Int)) (hl : pq_lys 2 (M 66) ls) (w : pz_phc M N) : pq_wh ls n (N 60) := by
  refine ⟨w.1.trans h1, fun i hi _ => ?_⟩
  obtain ⟨a, b⟩ := w.2 i hi
  have en : (M 1 15).toNat = ls.length := by omega
  have g : ∀ r, r < ls.length → pz_mph M r 0 = pq_gl ls r 0 ∧ pz_mph M r 1 = pq_gl ls r 1 ∧ pz_mph M r 2 = pq_gl ls r 2 := fun r hr => (hl r hr).2.1 rfl
  rw [a, b, en]
  exact ⟨pz_ph_cg (fun r hr => ⟨(g r hr).1, (g r hr).2.1⟩), pz_ph_cg (fun r hr => ⟨(g r hr).1, (g r hr).2.2⟩)⟩
theorem pq_wd_of {ls : List (List Int)} {M N : pz_M} (h1 : M 1 15 = (ls.length : Int)) (hl : pq_lys 3 (M 66) ls) (w : pz_pcc 92 209 2 M N) : pq_wd ls (N 60) := by
  refine ⟨w.1.trans h1, fun r c hr hc => ?_⟩
  obtain ⟨x0, x1⟩ := (hl r hr).2.2 rfl
  have e : N 60 (209 + (2 * r + c)) = M 66 (2 * r + c) := w.2 (2 * r + c) (by first | decide | omega)
  rw [e]
  have hc9 : c = 0 ∨ c = 1 := by omega
  rcases hc9 with rfl | rfl
  · exact x0
  · exact x1
def pq_tx (k : Int) (M N : pz_M) (v : Int) : Prop := pz_tb M → (k = 0 → (∃ ls : List pz_lne, pz_gl (pq_TM M) (pq_XM M) 0 0 (.ok ls) ∧ v = (ls.length : Int) ∧ N 1 23 = 0 ∧ N 1 25 = -1 ∧ pq_wlw ls (N 60) ∧ ∀ j : Nat, ¬ pq_wf k j → N 60 j = M 60 j) ∨ (∃ (f : Int) (j : Nat), pz_gl (pq_TM M) (pq_XM M) 0 0 (.bad f j) ∧ v = -1 ∧ N 1 23 = f ∧ N 1 25 = pq_PM M j ∧ ∀ j : Nat, N 60 j = M 60 j)) ∧
  (1 ≤ k ∧ k ≤ 3 → (∃ ls : List (List Int), pz_gw (pz_fw k) (pz_row k (M 60 88) (pq_TM M) (pq_XM M)) (pq_TM M) 16 0 = .inl ls ∧ v = (ls.length : Int) ∧ N 1 23 = 0 ∧ N 1 25 = -1 ∧ pq_w3 k ls (N 60) ∧ ∀ j : Nat, ¬ pq_wf k j → N 60 j = M 60 j) ∨ (∃ (f : Int) (j : Nat), pz_gw (pz_fw k) (pz_row k (M 60 88) (pq_TM M) (pq_XM M)) (pq_TM M) 16 0 = .inr (f, j) ∧ v = -1 ∧ N 1 23 = f ∧ N 1 25 = pq_PM M j ∧ ∀ j : Nat, N 60 j = M 60 j)) ∧
  (¬ (0 ≤ k ∧ k ≤ 3) → v = -1 ∧ N 1 23 = 0 ∧ N 1 25 = -1 ∧ ∀ j : Nat, N 60 j = M 60 j)
theorem pq_tx_out {k v : Int} {M N : pz_M} (h : ¬ (0 ≤ k ∧ k ≤ 3)) (hv : v = -1) (a : N 1 23 = 0) (b : N 1 25 = -1) (fr : ∀ j : Nat, N 60 j = M 60 j) : pq_tx k M N v := fun _ => ⟨fun y => absurd ⟨by omega, by omega⟩ h, fun y => absurd ⟨by omega, y.2⟩ h, fun _ => ⟨hv, a, b, fr⟩⟩
theorem pq_tx_0 {k v : Int} {M M1 M2 M3 M4 N : pz_M} (hk : k = 0) (e : M1 67 = M 67) (e2 : M1 1 16 = M 1 16) (h17 : M1 1 17 = 0) (h12 : M1 1 12 = k) (q : pz_rl pz_Q0 M1 M2) (s : pz_tb M1 → pz_nxt M1 M2) (r : pq_RE M2 M3) (c13 : M4 1 13 = M3 1 13) (c14 : M4 1 14 = M3 1 14) (c64 : M4 64 = M3 64) (c65 : M4 65 = M3 65) (w : pq_pt k M4 N v) (fr : ∀ j : Nat, M4 60 j = M 60 j) (a : N 1 23 = 0) (b : N 1 25 = -1) : pq_tx k M N v := by
  intro tb
  have T := pq_T_cg e e2
  have t2 := pq_Q0 q
  have m0 := pq_mi_0 h17 (pq_tb_cg e e2 tb) q s
  have z0 : pq_mz M2 0 := ⟨m0, by rw [t2.2.2, h12]; exact hk⟩
  obtain ⟨ls, g, l⟩ := r 0 z0
  rw [t2.T.1, t2.T.2.1, T.1, T.2.1] at g
  rw [← c13, ← c14, ← c64, ← c65] at l
  obtain ⟨w1, w2⟩ := w.1 hk
  exact ⟨fun _ => Or.inl ⟨ls, g, w1.trans l.1, a, b, pq_wl_of l w2, fun j y => (w.2.2.2.2 j y).trans (fr j)⟩, fun y => absurd y.1 (by first | decide | omega), fun y => absurd ⟨by omega, by omega⟩ y⟩
theorem pq_tx_0b {k v : Int} {M M1 M2 M3 N : pz_M} (hk : k = 0) (e : M1 67 = M 67) (e2 : M1 1 16 = M 1 16) (h17 : M1 1 17 = 0) (h12 : M1 1 12 = k) (q : pz_rl pz_Q0 M1 M2) (s : pz_tb M1 → pz_nxt M1 M2) (r : pq_RB M2 M3) (hv : v = -1) (fr : ∀ j : Nat, N 60 j = M 60 j) (a : N 1 23 = M3 1 21) (b : N 1 25 = M3 1 22) : pq_tx k M N v := by
  intro tb
  have T := pq_T_cg e e2
  have t2 := pq_Q0 q
  have m0 := pq_mi_0 h17 (pq_tb_cg e e2 tb) q s
  have z0 : pq_mz M2 0 := ⟨m0, by rw [t2.2.2, h12]; exact hk⟩
  obtain ⟨f, j, g, l⟩ := r 0 z0
  rw [t2.T.1, t2.T.2.1, T.1, T.2.1] at g
  have l2 := l.2
  rw [t2.T.2.2, T.2.2] at l2
  exact ⟨fun _ => Or.inr ⟨f, j, g, hv, a.trans l.1, b.trans l2, fr⟩, fun y => absurd y.1 (by first | decide | omega), fun y => absurd ⟨by omega, by omega⟩ y⟩
theorem pq_GW_cg {M N : pz_M} {k : Int} (h12 : N 1 12 = k) (e88 : N 60 88 = M 60 88) (t : pq_TM N = pq_TM M) (x : pq_XM N = pq_XM M) : pq_GW N 16 0 = pz_gw (pz_fw k) (pz_row k (M 60 88) (pq_TM M) (pq_XM M)) (pq_TM M) 16 0 := by
  unfold pq_GW
  rw [h12, e88, t, x]
theorem pq_tx_r {k v : Int} {M M1 M2 M3 M4 N : pz_M} (hk : 1 ≤ k ∧ k ≤ 3) (e : M1 67 = M 67) (e2 : M1 1 16 = M 1 16) (e3 : M1 60 88 = M 60 88) (h17 : M1 1 17 = 0) (h12 : M1 1 12 = k) (q : pz_rl pz_Q0 M1 M2) (s : pz_tb M1 → pz_nxt M1 M2) (r : pq_QE M2 M3) (c15 : M4 1 15 = M3 1 15) (c66 : M4 66 = M3 66) (w : pq_pt k M4 N v) (fr : ∀ j : Nat, M4 60 j = M 60 j) (a : N 1 23 = 0) (b : N 1 25 = -1) : pq_tx k M N v := by
  intro tb
  have T := pq_T_cg e e2
  have t2 := pq_Q0 q
  have m0 := pq_mi_0 h17 (pq_tb_cg e e2 tb) q s
  obtain ⟨ls, g, l, -, lay⟩ := r 0 m0
  have k2 : M2 1 12 = k := t2.2.2.trans h12
  rw [pq_GW_cg (M := M) k2 ((q.2 60 88 (by unfold pz_Q0; first | decide | omega)).trans e3) (t2.T.1.trans T.1) (t2.T.2.1.trans T.2.1)] at g
  rw [← c15] at l
  rw [k2, ← c66] at lay
  obtain ⟨-, w1, w2, w3, w4⟩ := w
  have x1 : ∀ h : k = 1, v = M4 1 15 ∧ pq_wp ls (N 60) := fun h => ⟨(w1 h).1, pq_wp_of l (by rw [← h]; exact lay) (w1 h).2⟩
  have x2 : ∀ h : k = 2, v = M4 1 15 ∧ ∀ n : Int, pq_wh ls n (N 60) := fun h => ⟨(w2 h).1, fun n => pq_wh_of l (by rw [← h]; exact lay) (w2 h).2⟩
  have x3 : ∀ h : k = 3, v = M4 1 15 ∧ pq_wd ls (N 60) := fun h => ⟨(w3 h).1, pq_wd_of l (by rw [← h]; exact lay) (w3 h).2⟩
  have hv : v = M4 1 15 := by
    have h : k = 1 ∨ k = 2 ∨ k = 3 := by omega
    rcases h with h | h | h
    · exact (x1 h).1
    · exact (x2 h).1
    · exact (x3 h).1
  exact ⟨fun y => absurd y (by first | decide | omega), fun _ => Or.inl ⟨ls, g, hv.trans l, a, b, ⟨fun h => (x1 h).2, fun h => (x2 h).2, fun h => (x3 h).2⟩, fun j y => (w4 j y).trans (fr j)⟩, fun y => absurd ⟨by omega, by omega⟩ y⟩
theorem pq_tx_rb {k v : Int} {M M1 M2 M3 N : pz_M} (hk : 1 ≤ k ∧ k ≤ 3) (e : M1 67 = M 67) (e2 : M1 1 16 = M 1 16) (e3 : M1 60 88 = M 60 88) (h17 : M1 1 17 = 0) (h12 : M1 1 12 = k) (q : pz_rl pz_Q0 M1 M2) (s : pz_tb M1 → pz_nxt M1 M2) (r : pq_QB M2 M3) (hv : v = -1) (fr : ∀ j : Nat, N 60 j = M 60 j) (a : N 1 23 = M3 1 21) (b : N 1 25 = M3 1 22) : pq_tx k M N v := by
  intro tb
  have T := pq_T_cg e e2
  have t2 := pq_Q0 q
  have m0 := pq_mi_0 h17 (pq_tb_cg e e2 tb) q s
  obtain ⟨f, j, g, l⟩ := r 0 m0
  rw [pq_GW_cg (M := M) (t2.2.2.trans h12) ((q.2 60 88 (by unfold pz_Q0; first | decide | omega)).trans e3) (t2.T.1.trans T.1) (t2.T.2.1.trans T.2.1)] at g
  have l2 := l.2
  rw [t2.T.2.2, T.2.2] at l2
  exact ⟨fun y => absurd y (by first | decide | omega), fun _ => Or.inr ⟨f, j, g, hv, a.trans l.1, b.trans l2, fr⟩, fun y => absurd ⟨by omega, by omega⟩ y⟩
/-! how it is put -/
theorem pz_pc_s {M N N' : pz_M} {j x y v : Int} {p : Nat} (hj : 0 ≤ j) (hx : 0 ≤ x) (hp : (p : Int) = j + x) (e : N' = pz_u N 60 p v) (ev : v = M 66 x.toNat) (hy : y = x + 1) (h : ∀ n : Nat, (n : Int) < x → N 60 (j.toNat + n) = M 66 n) : ∀ n : Nat, (n : Int) < y → N' 60 (j.toNat + n) = M 66 n := by
  intro n hn
  by_cases c : (n : Int) = x
  · rw [e, pz_ue (by first | decide | omega), ev, show x.toNat = n by omega]
  · rw [e, pz_une (by first | decide | omega)]
    exact h n (by first | decide | omega)
theorem pz_ph_s {M N N1 N2 : pz_M} {x y l v1 v2 : Int} {p1 p2 : Nat} (hx : 0 ≤ x) (hy : y = x + 1) (hl : l = M 66 (3 * x).toNat) (h0 : 0 ≤ l) (e1 : N1 = pz_u N 60 p1 v1) (hp1 : (p1 : Int) = 105 + 2 * l) (hv1 : v1 = M 66 (3 * x.toNat + 1)) (e2 : N2 = pz_u N1 60 p2 v2) (hp2 : (p2 : Int) = 106 + 2 * l) (hv2 : v2 = M 66 (3 * x.toNat + 2)) (h : ∀ i : Nat, i < 12 → N 60 (105 + 2 * i) = pz_ph (pz_mph M) i 0 1 x.toNat ∧ N 60 (106 + 2 * i) = pz_ph (pz_mph M) i 240 2 x.toNat) : ∀ i : Nat, i < 12 → N2 60 (105 + 2 * i) = pz_ph (pz_mph M) i 0 1 y.toNat ∧ N2 60 (106 + 2 * i) = pz_ph (pz_mph M) i 240 2 y.toNat := by
  intro i hi
  obtain ⟨a, b⟩ := h i hi
  have ey : y.toNat = x.toNat + 1 := by omega
  have g0 : pz_mph M x.toNat 0 = l := by
    show M 66 (3 * x.toNat + 0) = l
    rw [hl, show 3 * x.toNat + 0 = (3 * x).toNat by omega]
  rw [ey]
  show N2 60 (105 + 2 * i) = (if pz_mph M x.toNat 0 = (i : Int) then pz_mph M x.toNat 1 else pz_ph (pz_mph M) i 0 1 x.toNat) ∧ N2 60 (106 + 2 * i) = (if pz_mph M x.toNat 0 = (i : Int) then pz_mph M x.toNat 2 else pz_ph (pz_mph M) i 240 2 x.toNat)
  rw [g0]
  by_cases c : l = (i : Int)
  · rw [if_pos c, if_pos c]
    refine ⟨?_, ?_⟩
    · rw [e2, pz_une (by first | decide | omega), e1, pz_ue (by first | decide | omega), hv1]
      rfl
    · rw [e2, pz_ue (by first | decide | omega), hv2]
      rfl
  · rw [if_neg c, if_neg c]
    refine ⟨?_, ?_⟩
    · rw [e2, pz_une (by first | decide | omega), e1, pz_une (by first | decide | omega)]
      exact a
    · rw [e2, pz_une (by first | decide | omega), e1, pz_une (by first | decide | omega)]
      exact b
theorem pz_ph_z {N N1 N2 : pz_M} {x y v1 v2 : Int} {p1 p2 : Nat} (hx : 0 ≤ x) (hy : y = x + 1) (e1 : N1 = pz_u N 60 p1 v1) (hp1 : (p1 : Int) = 105 + 2 * x) (hv1 : v1 = 0) (e2 : N2 = pz_u N1 60 p2 v2) (hp2 : (p2 : Int) = 106 + 2 * x) (hv2 : v2 = 240) (h : ∀ i : Nat, (i : Int) < x → N 60 (105 + 2 * i) = 0 ∧ N 60 (106 + 2 * i) = 240) : ∀ i : Nat, (i : Int) < y → N2 60 (105 + 2 * i) = 0 ∧ N2 60 (106 + 2 * i) = 240 := by
  intro i hi
  by_cases c : x = (i : Int)
  · refine ⟨?_, ?_⟩
    · rw [e2, pz_une (by first | decide | omega), e1, pz_ue (by first | decide | omega), hv1]
    · rw [e2, pz_ue (by first | decide | omega), hv2]
  · obtain ⟨a, b⟩ := h i (by first | decide | omega)
    refine ⟨?_, ?_⟩
    · rw [e2, pz_une (by first | decide | omega), e1, pz_une (by first | decide | omega)]
      exact a
    · rw [e2, pz_une (by first | decide | omega), e1, pz_une (by first | decide | omega)]
      exact b
noncomputable def k_X12_putsLaw : pz_C := (1, 1, fun a M => (match a with | [.inr (.inr (12, th))] => pz_im M ∧ pz_wfl M | _ => False), fun a M r M' => (match a, r with | [.inr (.inr (12, th))], some (.inl v) => (v = M 1 13 ∧ pz_lwc M M') ∧ pz_rl pz_QL M M' | _, _ => False))
noncomputable abbrev ct_X12_putsLaw : List (Bool × Nat × pz_C) := []
set_option maxRecDepth 100000 in
set_option maxHeartbeats 4000000 in
theorem h_X12_putsLaw : pz_H yX12_putsLaw cX12_putsLaw 2 (some .int) k_X12_putsLaw 0 0 := by
  refine pz_mk (own := RX12) (tb := t_X12_putsLaw) (fl := pz_flf fl_RX12) (ci := pz_cif ci_RX12) (ct := pz_ctf ct_X12_putsLaw) (rz := false) (pz_pfc_RX12 yX12_putsLaw rfl) rfl t_X12_putsLaw_ok (pz_flk fl_RX12_ok) (pz_cik ci_RX12_ok) ?_ ?_ (Or.inl ⟨rfl, rfl⟩) ?_ ?_
  · exact fun i k' h => pz_ctk (l := ct_X12_putsLaw) (P := fun b i k => b = true → pz_cV 0 0 RX12 i k) (fun _ h => absurd h List.not_mem_nil) true i k' h rfl
  · exact fun i k' h => pz_ctk (l := ct_X12_putsLaw) (P := fun b i k => b = false → (pz_cS 0 0 RX12 i k ∨ (k = pz_kac ∧ 1 ≤ 0 ∧ 60 ≤ 0 ∧ Cond.methodLink RX12 i arraycopyName ∈ pz_tbl))) (fun _ h => absurd h List.not_mem_nil) false i k' h rfl
  · intro a M hlen hpre
    obtain ⟨th, rfl, hpre⟩ : ∃ th, a = [.inr (.inr (12, th))] ∧ (pz_im M ∧ pz_wfl M) := by
      have hpre : (match (generalizing := false) a with | [.inr (.inr (12, th))] => pz_im M ∧ pz_wfl M | _ => False) := hpre
      split at hpre
      · exact ⟨_, rfl, hpre⟩
      · exact hpre.elim
    exact Nat.le_of_ble_eq_true rfl
  · intro a M hlen hcan hM hpre Ok hgo
    obtain ⟨th, rfl, hpre⟩ : ∃ th, a = [.inr (.inr (12, th))] ∧ (pz_im M ∧ pz_wfl M) := by
      have hpre : (match (generalizing := false) a with | [.inr (.inr (12, th))] => pz_im M ∧ pz_wfl M | _ => False) := hpre
      split at hpre
      · exact ⟨_, rfl, hpre⟩
      · exact hpre.elim
    obtain ⟨k_th, hc_th⟩ := pz_tlm hcan
    have k_th : pz_kd th = 12 ∧ th < 231 := k_th
    have R_th := pz_kd12 k_th.1
    subst R_th
    clear k_th
    have hI : pz_im M := hpre.1
    have hI0 := hI
    have hS : pz_r0 pz_W1 M M := pz_r0.rf
    have I13 := hI.2.1.2.2.2.2.2.1
    have I14 := hI.2.1.2.2.2.2.2.2.1
    obtain ⟨-, hwl⟩ := hpre
    have L107 : ∀ (fu : Nat) (x1 : Int) (N107 : pz_M), (820 - x1).toNat < fu → (pz_r0 pz_W1 M N107) → (0 ≤ x1) → (x1 ≤ 820) → (N107 60 89 = M 1 13) → (∀ k : Nat, (k : Int) < M 1 13 → N107 60 (841 + k) = M 64 (4 * k) ∧ N107 60 (857 + k) = M 64 (4 * k + 1) ∧ N107 60 (873 + k) = M 64 (4 * k + 2) ∧ N107 60 (889 + k) = M 64 (4 * k + 3)) → (∀ k : Nat, (k : Int) < x1 → N107 60 (905 + k) = M 65 k) → Ok 107 [some (.inr (.inr (12, 1))), some (.inl x1)] [] N107 := by
      intro fu
      induction fu with
      | zero => exact fun _ _ hn => absurd hn (Nat.not_lt_zero _)
      | succ fu ih107 =>
        intro x1 N107 hn107 hS g107_1 g107_2 g107_3 g107_4 g107_5
        have F14 := hS 1 14 (by unfold pz_W1; first | decide | omega)
        refine hgo (fun p => Nat.beq p 13 || Nat.beq p 107) 93 107 _ _ _ ?_
        intro v110 e110 a110 b110
        have I110 := hI.2.1.2.2.2.2.2.2.1
        intro v113 e113 a113 b113
        rw [pz_wi (by first | decide | omega) (by first | decide | omega)] at e113
        clear a113 b113
        refine And.intro (fun h114 => ?_) (fun h114 => ?_)
        · skip
          intro v140 e140 a140 b140
          have I140 := hI.2.1.2.2.2.2.2.1
          refine And.intro rfl ?_
          have H13 := hS 1 13 (by unfold pz_W1; first | decide | omega)
          have H14 := hS 1 14 (by unfold pz_W1; first | decide | omega)
          refine ⟨⟨by omega, g107_3, g107_4, fun k hk => g107_5 k (by first | decide | omega)⟩, ⟨fun _ => ?_, fun b j hb => hS b j (by unfold pz_QL at hb; unfold pz_W1; omega)⟩⟩
          have h61 : ∀ j, N107 61 j = M 61 j := fun j => hS 61 j (by unfold pz_W1; first | decide | omega)
          refine ⟨?_, pz_ix_of hI.2.1 (fun j _ => hS 1 j (by unfold pz_W1; first | decide | omega)) (by rw [hS 1 4 (by unfold pz_W1; first | decide | omega)]; exact hI.2.1.1) (fun j => hS 62 j (by unfold pz_W1; first | decide | omega)) (hS 63 3 (by unfold pz_W1; first | decide | omega)), ?_, pz_iw_of hI.2.2.2.1 (fun j _ => h61 j), pz_lw_cg hI.2.2.2.2 (fun j _ => h61 j)⟩
          · unfold pz_iw
            rw [hS 60 88 (by unfold pz_W1; first | decide | omega), hS 60 90 (by unfold pz_W1; first | decide | omega), hS 60 92 (by unfold pz_W1; first | decide | omega), hS 60 3 (by unfold pz_W1; first | decide | omega), g107_3]
            exact ⟨hI.1.1, I13, hI.1.2.2.1, hI.1.2.2.2.1, hI.1.2.2.2.2⟩
          · intro i i0 i1
            rw [g107_3] at i1
            obtain ⟨w1, w2, w3, w4⟩ := hwl i i0 i1
            obtain ⟨m1, m2, m3, -⟩ := g107_4 i.toNat (by first | decide | omega)
            rw [show 841 + i.toNat = (841 + i).toNat by omega, show 4 * i.toNat = (4 * i).toNat by omega] at m1
            rw [show 857 + i.toNat = (857 + i).toNat by omega, show 4 * i.toNat + 1 = (4 * i + 1).toNat by omega] at m2
            rw [show 873 + i.toNat = (873 + i).toNat by omega, show 4 * i.toNat + 2 = (4 * i + 2).toNat by omega] at m3
            rw [m1, m2, m3]
            have l3 := w3.1
            have l4 : M 64 (4 * i + 1).toNat ≤ M 64 (4 * i + 2).toNat := by
              rcases w4 with w4 | w4
              · omega
              · have := w4.1
                omega
            refine ⟨w1, by omega, pz_sg_cg w3 w1 (fun j _ q => g107_5 j (by first | decide | omega)), ?_⟩
            rcases w4 with w4 | w4
            · exact Or.inl w4
            · exact Or.inr (pz_sg_cg w4 (by first | decide | omega) (fun j _ q => g107_5 j (by first | decide | omega)))
        · skip
          refine pz_nrc (c := 60) rfl ?_
          intro v125 e125 a125 b125
          rw [pz_wi (by first | decide | omega) (by first | decide | omega)] at e125
          clear a125 b125
          refine pz_nrc (c := 65) rfl ?_
          have lo131 : (0 : Int) ≤ x1 := by omega
          have tn131 : (((x1).toNat : Nat) : Int) = x1 := Int.toNat_of_nonneg lo131
          refine And.intro (lo131) (And.intro (show _ < (820 : Int) from by omega) ?_)
          intro v131 e131 a131 b131
          rw [hS 65 _ (by unfold pz_W1; first | decide | omega)] at e131
          have lo132 : (0 : Int) ≤ v125 := by omega
          have tn132 : (((v125).toNat : Nat) : Int) = v125 := Int.toNat_of_nonneg lo132
          refine And.intro (lo132) (And.intro (show _ < (1725 : Int) from by omega) ?_)
          intro M132 e132
          have hS : pz_r0 pz_W1 M M132 := by
            rw [e132]
            exact pz_r0_u hS (by unfold pz_W1; first | decide | omega)
          have T132_0 : M132 60 89 = N107 60 89 := by
            rw [e132]
            exact (pz_une (by first | decide | omega))
          intro v133 e133 a133 b133
          rw [pz_wi (by first | decide | omega) (by first | decide | omega)] at e133
          obtain ⟨G133a, G133b⟩ := pz_law2 (g := M 64) (h := M 65) (i1 := v125.toNat) (n := M 1 13) g107_1 (by first | decide | omega) (by first | decide | omega) (pz_u64 e132) e131 g107_4 g107_5
          rw [← e133] at G133b
          exact ih107 _ _ (by first | decide | omega) hS (by first | omega | assumption) (by first | omega | assumption) (by first | omega | assumption) (by first | omega | assumption) (by first | omega | assumption)
    have L13 : ∀ (fu : Nat) (x1 : Int) (N13 : pz_M), (16 - x1).toNat < fu → (pz_r0 pz_W1 M N13) → (0 ≤ x1) → (x1 ≤ 16) → (x1 ≤ M 1 13) → (N13 60 89 = M 1 13) → (∀ k : Nat, (k : Int) < x1 → N13 60 (841 + k) = M 64 (4 * k) ∧ N13 60 (857 + k) = M 64 (4 * k + 1) ∧ N13 60 (873 + k) = M 64 (4 * k + 2) ∧ N13 60 (889 + k) = M 64 (4 * k + 3)) → Ok 13 [some (.inr (.inr (12, 1))), some (.inl x1)] [] N13 := by
      intro fu
      induction fu with
      | zero => exact fun _ _ hn => absurd hn (Nat.not_lt_zero _)
      | succ fu ih13 =>
        intro x1 N13 hn13 hS g13_1 g13_2 g13_3 g13_4 g13_5
        have F13 := hS 1 13 (by unfold pz_W1; first | decide | omega)
        refine hgo (fun p => Nat.beq p 13 || Nat.beq p 107) 93 13 _ _ _ ?_
        intro v15 e15 a15 b15
        have I15 := hI.2.1.2.2.2.2.2.1
        refine And.intro (fun h18 => ?_) (fun h18 => ?_)
        · skip
          have G18 : ∀ k : Nat, (k : Int) < M 1 13 → N13 60 (841 + k) = M 64 (4 * k) ∧ N13 60 (857 + k) = M 64 (4 * k + 1) ∧ N13 60 (873 + k) = M 64 (4 * k + 2) ∧ N13 60 (889 + k) = M 64 (4 * k + 3) := fun k hk => g13_5 k (by first | decide | omega)
          have G105 : ∀ k : Nat, (k : Int) < (0 : Int) → N13 60 (905 + k) = M 65 k := fun k hk => absurd hk (by first | decide | omega)
          exact L107 _ _ _ (Nat.lt_succ_self _) hS (by first | omega | assumption) (by first | omega | assumption) (by first | omega | assumption) (by first | omega | assumption) (by first | omega | assumption)
        · skip
          skip
          refine pz_nrc (c := 60) rfl ?_
          intro v29 e29 a29 b29
          rw [pz_wi (by first | decide | omega) (by first | decide | omega)] at e29
          clear a29 b29
          refine pz_nrc (c := 64) rfl ?_
          intro v36 e36 a36 b36
          rw [pz_wi (by first | decide | omega) (by first | decide | omega)] at e36
          clear a36 b36
          have lo37 : (0 : Int) ≤ v36 := by omega
          have tn37 : (((v36).toNat : Nat) : Int) = v36 := Int.toNat_of_nonneg lo37
          refine And.intro (lo37) (And.intro (show _ < (64 : Int) from by omega) ?_)
          intro v37 e37 a37 b37
          rw [hS 64 _ (by unfold pz_W1; first | decide | omega)] at e37
          have lo38 : (0 : Int) ≤ v29 := by omega
          have tn38 : (((v29).toNat : Nat) : Int) = v29 := Int.toNat_of_nonneg lo38
          refine And.intro (lo38) (And.intro (show _ < (1725 : Int) from by omega) ?_)
          intro M38 e38
          have hS : pz_r0 pz_W1 M M38 := by
            rw [e38]
            exact pz_r0_u hS (by unfold pz_W1; first | decide | omega)
          have T38_0 : M38 60 89 = N13 60 89 := by
            rw [e38]
            exact (pz_une (by first | decide | omega))
          refine pz_nrc (c := 60) rfl ?_
          intro v47 e47 a47 b47
          rw [pz_wi (by first | decide | omega) (by first | decide | omega)] at e47
          clear a47 b47
          refine pz_nrc (c := 64) rfl ?_
          intro v54 e54 a54 b54
          rw [pz_wi (by first | decide | omega) (by first | decide | omega)] at e54
          clear a54 b54
          intro v56 e56 a56 b56
          rw [pz_wi (by first | decide | omega) (by first | decide | omega)] at e56
          clear a56 b56
          have lo57 : (0 : Int) ≤ v56 := by omega
          have tn57 : (((v56).toNat : Nat) : Int) = v56 := Int.toNat_of_nonneg lo57
          refine And.intro (lo57) (And.intro (show _ < (64 : Int) from by omega) ?_)
          intro v57 e57 a57 b57
          rw [hS 64 _ (by unfold pz_W1; first | decide | omega)] at e57
          have lo58 : (0 : Int) ≤ v47 := by omega
          have tn58 : (((v47).toNat : Nat) : Int) = v47 := Int.toNat_of_nonneg lo58
          refine And.intro (lo58) (And.intro (show _ < (1725 : Int) from by omega) ?_)
          intro M58 e58
          have hS : pz_r0 pz_W1 M M58 := by
            rw [e58]
            exact pz_r0_u hS (by unfold pz_W1; first | decide | omega)
          have T58_0 : M58 60 89 = N13 60 89 := by
            rw [e58]
            exact (pz_une (by first | decide | omega)).trans T38_0
          clear T38_0
          refine pz_nrc (c := 60) rfl ?_
          intro v67 e67 a67 b67
          rw [pz_wi (by first | decide | omega) (by first | decide | omega)] at e67
          clear a67 b67
          refine pz_nrc (c := 64) rfl ?_
          intro v74 e74 a74 b74
          rw [pz_wi (by first | decide | omega) (by first | decide | omega)] at e74
          clear a74 b74
          intro v76 e76 a76 b76
          rw [pz_wi (by first | decide | omega) (by first | decide | omega)] at e76
          clear a76 b76
          have lo77 : (0 : Int) ≤ v76 := by omega
          have tn77 : (((v76).toNat : Nat) : Int) = v76 := Int.toNat_of_nonneg lo77
          refine And.intro (lo77) (And.intro (show _ < (64 : Int) from by omega) ?_)
          intro v77 e77 a77 b77
          rw [hS 64 _ (by unfold pz_W1; first | decide | omega)] at e77
          have lo78 : (0 : Int) ≤ v67 := by omega
          have tn78 : (((v67).toNat : Nat) : Int) = v67 := Int.toNat_of_nonneg lo78
          refine And.intro (lo78) (And.intro (show _ < (1725 : Int) from by omega) ?_)
          intro M78 e78
          have hS : pz_r0 pz_W1 M M78 := by
            rw [e78]
            exact pz_r0_u hS (by unfold pz_W1; first | decide | omega)
          have T78_0 : M78 60 89 = N13 60 89 := by
            rw [e78]
            exact (pz_une (by first | decide | omega)).trans T58_0
          clear T58_0
          refine pz_nrc (c := 60) rfl ?_
          intro v87 e87 a87 b87
          rw [pz_wi (by first | decide | omega) (by first | decide | omega)] at e87
          clear a87 b87
          refine pz_nrc (c := 64) rfl ?_
          intro v94 e94 a94 b94
          rw [pz_wi (by first | decide | omega) (by first | decide | omega)] at e94
          clear a94 b94
          intro v96 e96 a96 b96
          rw [pz_wi (by first | decide | omega) (by first | decide | omega)] at e96
          clear a96 b96
          have lo97 : (0 : Int) ≤ v96 := by omega
          have tn97 : (((v96).toNat : Nat) : Int) = v96 := Int.toNat_of_nonneg lo97
          refine And.intro (lo97) (And.intro (show _ < (64 : Int) from by omega) ?_)
          intro v97 e97 a97 b97
          rw [hS 64 _ (by unfold pz_W1; first | decide | omega)] at e97
          have lo98 : (0 : Int) ≤ v87 := by omega
          have tn98 : (((v87).toNat : Nat) : Int) = v87 := Int.toNat_of_nonneg lo98
          refine And.intro (lo98) (And.intro (show _ < (1725 : Int) from by omega) ?_)
          intro M98 e98
          have hS : pz_r0 pz_W1 M M98 := by
            rw [e98]
            exact pz_r0_u hS (by unfold pz_W1; first | decide | omega)
          have T98_0 : M98 60 89 = N13 60 89 := by
            rw [e98]
            exact (pz_une (by first | decide | omega)).trans T78_0
          clear T78_0
          intro v99 e99 a99 b99
          rw [pz_wi (by first | decide | omega) (by first | decide | omega)] at e99
          have G99 : ∀ k : Nat, (k : Int) < v99 → M98 60 (841 + k) = M 64 (4 * k) ∧ M98 60 (857 + k) = M 64 (4 * k + 1) ∧ M98 60 (873 + k) = M 64 (4 * k + 2) ∧ M98 60 (889 + k) = M 64 (4 * k + 3) := by
            rw [e99]
            exact pz_law1 (g := M 64) (i1 := v29.toNat) (i2 := v47.toNat) (i3 := v67.toNat) (i4 := v87.toNat) g13_1 (by first | decide | omega) (by first | decide | omega) (by first | decide | omega) (by first | decide | omega) (by first | decide | omega) (fun j => by rw [pz_u64 e98 j, pz_u64 e78 j, pz_u64 e58 j, pz_u64 e38 j]) (by rw [e37, show v36.toNat = (4 * x1).toNat by omega]) (by rw [e57, show v56.toNat = (4 * x1 + 1).toNat by omega]) (by rw [e77, show v76.toNat = (4 * x1 + 2).toNat by omega]) (by rw [e97, show v96.toNat = (4 * x1 + 3).toNat by omega]) g13_5
          exact ih13 _ _ (by first | decide | omega) hS (by first | omega | assumption) (by first | omega | assumption) (by first | omega | assumption) (by first | omega | assumption) (by first | omega | assumption)
    refine hgo (fun p => Nat.beq p 13 || Nat.beq p 107) 93 0 _ [] M ?_
    refine pz_nrc (c := 60) rfl ?_
    intro v7 e7 a7 b7
    have I7 : 0 ≤ v7 ∧ v7 ≤ 16 := by
      rw [e7]
      exact hI.2.1.2.2.2.2.2.1
    clear a7 b7
    have N7 := hI.2.1.2.2.2.2.2.1
    refine And.intro (by first | decide | omega) (And.intro (show _ < (1725 : Int) from by omega) ?_)
    intro M10 e10
    have hS : pz_r0 pz_W1 M M10 := by
      rw [e10]
      exact pz_r0_u hS (by unfold pz_W1; first | decide | omega)
    have T10_0 : M10 60 89 = v7 := by rw [e10]; exact pz_uu
    have G10 : ∀ k : Nat, (k : Int) < (0 : Int) → M10 60 (841 + k) = M 64 (4 * k) ∧ M10 60 (857 + k) = M 64 (4 * k + 1) ∧ M10 60 (873 + k) = M 64 (4 * k + 2) ∧ M10 60 (889 + k) = M 64 (4 * k + 3) := fun k hk => absurd hk (by first | decide | omega)
    exact L13 _ _ _ (Nat.lt_succ_self _) hS (by first | omega | assumption) (by first | omega | assumption) (by first | omega | assumption) (by first | omega | assumption) (by first | omega | assumption)
theorem v_X12_putsLaw {fr lo i : Nat} {own : String} (h1 : 0 + 1 ≤ fr) (h2 : 8 + (2 + 11) + 0 ≤ lo) (h3 : .methodLink own i yX12_putsLaw ∈ lw_tbl) : pz_cV fr lo own i k_X12_putsLaw :=
  pz_cVk (maxL := 2) (fr' := 0) (lo' := 0) 0 12 h_X12_putsLaw rfl ⟨(pz_nhc_RX12 yX12_putsLaw rfl).1, (pz_nhc_RX12 yX12_putsLaw rfl).2, pz_ds1⟩ ⟨pz_wq1390, pz_wq1389, pz_ws34, pz_wq13⟩ (Or.inl ⟨TX12, 28, rfl⟩) (fun a M _ h => by
    have h : (match (generalizing := false) a with | [.inr (.inr (12, th))] => pz_im M ∧ pz_wfl M | _ => False) := h
    split at h
    · exact ⟨_, _, rfl⟩
    · exact h.elim) h1 h2 h3
end
section
noncomputable def k_X12_puts : pz_C := (4, 1, fun a M => (match a with | [.inr (.inr (12, th)), .inl i, .inl j, .inl k] => pz_im M ∧ ((i = 90 ∧ j = 129 ∧ k = 5) ∨ (i = 92 ∧ j = 209 ∧ k = 2)) | _ => False), fun a M r M' => (match a, r with | [.inr (.inr (12, th)), .inl i, .inl j, .inl k], some (.inl v) => (v = M 1 15 ∧ pz_pcc i j k M M') ∧ pz_rl (pz_QP i j k) M M' | _, _ => False))
noncomputable abbrev ct_X12_puts : List (Bool × Nat × pz_C) := []
set_option maxRecDepth 100000 in
set_option maxHeartbeats 4000000 in
theorem h_X12_puts : pz_H yX12_puts cX12_puts 5 (some .int) k_X12_puts 0 0 := by
  refine pz_mk (own := RX12) (tb := t_X12_puts) (fl := pz_flf fl_RX12) (ci := pz_cif ci_RX12) (ct := pz_ctf ct_X12_puts) (rz := false) (pz_pfc_RX12 yX12_puts rfl) rfl t_X12_puts_ok (pz_flk fl_RX12_ok) (pz_cik ci_RX12_ok) ?_ ?_ (Or.inl ⟨rfl, rfl⟩) ?_ ?_
  · exact fun i k' h => pz_ctk (l := ct_X12_puts) (P := fun b i k => b = true → pz_cV 0 0 RX12 i k) (fun _ h => absurd h List.not_mem_nil) true i k' h rfl
  · exact fun i k' h => pz_ctk (l := ct_X12_puts) (P := fun b i k => b = false → (pz_cS 0 0 RX12 i k ∨ (k = pz_kac ∧ 1 ≤ 0 ∧ 60 ≤ 0 ∧ Cond.methodLink RX12 i arraycopyName ∈ pz_tbl))) (fun _ h => absurd h List.not_mem_nil) false i k' h rfl
  · intro a M hlen hpre
    obtain ⟨th, i, j, k, rfl, hpre⟩ : ∃ th i j k, a = [.inr (.inr (12, th)), .inl i, .inl j, .inl k] ∧ (pz_im M ∧ ((i = 90 ∧ j = 129 ∧ k = 5) ∨ (i = 92 ∧ j = 209 ∧ k = 2))) := by
      have hpre : (match (generalizing := false) a with | [.inr (.inr (12, th)), .inl i, .inl j, .inl k] => pz_im M ∧ ((i = 90 ∧ j = 129 ∧ k = 5) ∨ (i = 92 ∧ j = 209 ∧ k = 2)) | _ => False) := hpre
      split at hpre
      · exact ⟨_, _, _, _, rfl, hpre⟩
      · exact hpre.elim
    exact Nat.le_of_ble_eq_true rfl
  · intro a M hlen hcan hM hpre Ok hgo
    obtain ⟨th, i, j, k, rfl, hpre⟩ : ∃ th i j k, a = [.inr (.inr (12, th)), .inl i, .inl j, .inl k] ∧ (pz_im M ∧ ((i = 90 ∧ j = 129 ∧ k = 5) ∨ (i = 92 ∧ j = 209 ∧ k = 2))) := by
      have hpre : (match (generalizing := false) a with | [.inr (.inr (12, th)), .inl i, .inl j, .inl k] => pz_im M ∧ ((i = 90 ∧ j = 129 ∧ k = 5) ∨ (i = 92 ∧ j = 209 ∧ k = 2)) | _ => False) := hpre
      split at hpre
      · exact ⟨_, _, _, _, rfl, hpre⟩
      · exact hpre.elim
    obtain ⟨k_th, hc_th⟩ := pz_tlm hcan
    have k_th : pz_kd th = 12 ∧ th < 231 := k_th
    have R_th := pz_kd12 k_th.1
    subst R_th
    clear k_th
    obtain ⟨k_i, hc_i⟩ := pz_tlm hc_th
    have l_i : -2147483648 ≤ i := k_i.1
    have u_i : i ≤ 2147483647 := k_i.2
    obtain ⟨k_j, hc_j⟩ := pz_tlm hc_i
    have l_j : -2147483648 ≤ j := k_j.1
    have u_j : j ≤ 2147483647 := k_j.2
    obtain ⟨k_k, hc_k⟩ := pz_tlm hc_j
    have l_k : -2147483648 ≤ k := k_k.1
    have u_k : k ≤ 2147483647 := k_k.2
    have hI : pz_im M := hpre.1
    have hI0 := hI
    have hS : pz_rl (pz_QP i j k) M M := pz_rl.rf
    have I15 := hI.2.1.2.2.2.2.2.2.2.1
    obtain ⟨-, hp9⟩ := hpre
    have L13 : ∀ (fu : Nat) (x4 : Int) (N13 : pz_M), (80 - x4).toNat < fu → (pz_rl (pz_QP i j k) M N13) → (0 ≤ x4) → (N13 60 i.toNat = M 1 15) → (∀ n : Nat, (n : Int) < x4 → N13 60 (j.toNat + n) = M 66 n) → Ok 13 [some (.inr (.inr (12, 1))), some (.inl i), some (.inl j), some (.inl k), some (.inl x4)] [] N13 := by
      intro fu
      induction fu with
      | zero => exact fun _ _ hn => absurd hn (Nat.not_lt_zero _)
      | succ fu ih13 =>
        intro x4 N13 hn13 hS g13_1 g13_2 g13_3
        have hI : pz_im N13 := hS.1 hI0
        have F15 := hS.2 1 15 (by unfold pz_QP; first | decide | omega)
        refine hgo (fun p => Nat.beq p 13) 31 13 _ _ _ ?_
        intro v17 e17 a17 b17
        have I17 : 0 ≤ v17 ∧ v17 ≤ 16 := by
          rw [e17]
          exact hI.2.1.2.2.2.2.2.2.2.1
        clear a17 b17
        have N17 := hI.2.1.2.2.2.2.2.2.2.1
        intro v20 e20 a20 b20
        have B20 : (k = 5 ∧ v20 = 5 * v17) ∨ (k = 2 ∧ v20 = 2 * v17) := by
          rcases hp9 with ⟨-, -, h9⟩ | ⟨-, -, h9⟩ <;> rw [h9] at e20 <;> rw [pz_wi (by first | decide | omega) (by first | decide | omega)] at e20 <;> omega
        refine And.intro (fun h21 => ?_) (fun h21 => ?_)
        · skip
          intro v47 e47 a47 b47
          have I47 : 0 ≤ v47 ∧ v47 ≤ 16 := by
            rw [e47]
            exact hI.2.1.2.2.2.2.2.2.2.1
          clear a47 b47
          have N47 := hI.2.1.2.2.2.2.2.2.2.1
          refine And.intro rfl ?_
          have H15 := hS.2 1 15 (by unfold pz_QP; first | decide | omega)
          exact ⟨⟨by omega, g13_2, fun n hn => g13_3 n (by rcases B20 with ⟨b1, b2⟩ | ⟨b1, b2⟩ <;> rw [b1] at hn <;> omega)⟩, hS⟩
        · skip
          refine pz_nrc (c := 60) rfl ?_
          intro v31 e31 a31 b31
          rw [pz_wi (by first | decide | omega) (by first | decide | omega)] at e31
          clear a31 b31
          refine pz_nrc (c := 66) rfl ?_
          have lo38 : (0 : Int) ≤ x4 := by omega
          have tn38 : (((x4).toNat : Nat) : Int) = x4 := Int.toNat_of_nonneg lo38
          refine And.intro (lo38) (And.intro (show _ < (80 : Int) from by omega) ?_)
          intro v38 e38 a38 b38
          rw [hS.2 66 _ (by unfold pz_QP; first | decide | omega)] at e38
          have lo39 : (0 : Int) ≤ v31 := by omega
          have tn39 : (((v31).toNat : Nat) : Int) = v31 := Int.toNat_of_nonneg lo39
          refine And.intro (lo39) (And.intro (show _ < (1725 : Int) from by omega) ?_)
          intro M39 e39
          have hS : pz_rl (pz_QP i j k) M M39 := by
            rw [e39]
            exact pz_rl_u hS (by unfold pz_QP; first | decide | omega) (pz_iom_w2 (by first | decide | omega) (by first | decide | omega))
          have hI : pz_im M39 := hS.1 hI0
          have K39 := e39
          have G39 : M39 60 i.toNat = M 1 15 := by rw [e39, pz_une (by first | decide | omega)]; exact g13_2
          intro v40 e40 a40 b40
          rw [pz_wi (by first | decide | omega) (by first | decide | omega)] at e40
          have G40 : ∀ n : Nat, (n : Int) < v40 → M39 60 (j.toNat + n) = M 66 n := pz_pc_s (p := v31.toNat) (by first | decide | omega) g13_1 (by first | decide | omega) K39 e38 (by first | decide | omega) g13_3
          exact ih13 _ _ (by first | decide | omega) hS (by first | omega | assumption | exact (fun n hn => absurd hn (by first | decide | omega))) (by first | omega | assumption | exact (fun n hn => absurd hn (by first | decide | omega))) (by first | omega | assumption | exact (fun n hn => absurd hn (by first | decide | omega)))
    refine hgo (fun p => Nat.beq p 13) 31 0 _ [] M ?_
    refine pz_nrc (c := 60) rfl ?_
    intro v6 e6 a6 b6
    have I6 : 0 ≤ v6 ∧ v6 ≤ 16 := by
      rw [e6]
      exact hI.2.1.2.2.2.2.2.2.2.1
    clear a6 b6
    have N6 := hI.2.1.2.2.2.2.2.2.2.1
    have lo9 : (0 : Int) ≤ i := by omega
    have tn9 : (((i).toNat : Nat) : Int) = i := Int.toNat_of_nonneg lo9
    refine And.intro (lo9) (And.intro (show _ < (1725 : Int) from by omega) ?_)
    intro M9 e9
    have hS : pz_rl (pz_QP i j k) M M9 := by
      rw [e9]
      exact pz_rl_u hS (by unfold pz_QP; first | decide | omega) (by rcases hp9 with ⟨h9, -, -⟩ | ⟨h9, -, -⟩ <;> rw [h9] <;> first | exact pz_iom_90 (by first | decide | omega) | exact pz_iom_92 (by first | decide | omega))
    have hI : pz_im M9 := hS.1 hI0
    have G9 : M9 60 i.toNat = M 1 15 := by rw [e9, pz_uu]; omega
    exact L13 _ _ _ (Nat.lt_succ_self _) hS (by first | omega | assumption | exact (fun n hn => absurd hn (by first | decide | omega))) (by first | omega | assumption | exact (fun n hn => absurd hn (by first | decide | omega))) (by first | omega | assumption | exact (fun n hn => absurd hn (by first | decide | omega)))
theorem v_X12_puts {fr lo i : Nat} {own : String} (h1 : 0 + 1 ≤ fr) (h2 : 8 + (5 + 11) + 0 ≤ lo) (h3 : .methodLink own i yX12_puts ∈ lw_tbl) : pz_cV fr lo own i k_X12_puts :=
  pz_cVk (maxL := 5) (fr' := 0) (lo' := 0) 3 12 h_X12_puts rfl ⟨(pz_nhc_RX12 yX12_puts rfl).1, (pz_nhc_RX12 yX12_puts rfl).2, pz_ds14⟩ ⟨pz_wq1394, pz_wq1393, pz_ws35, pz_wq13⟩ (Or.inl ⟨TX12, 28, rfl⟩) (fun a M _ h => by
    have h : (match (generalizing := false) a with | [.inr (.inr (12, th)), .inl i, .inl j, .inl k] => pz_im M ∧ ((i = 90 ∧ j = 129 ∧ k = 5) ∨ (i = 92 ∧ j = 209 ∧ k = 2)) | _ => False) := h
    split at h
    · exact ⟨_, _, rfl⟩
    · exact h.elim) h1 h2 h3
noncomputable def k_X12_putsPhones : pz_C := (1, 1, fun a M => (match a with | [.inr (.inr (12, th))] => pz_im M ∧ (∀ r : Int, 0 ≤ r → r < M 1 15 → 0 ≤ M 66 (3 * r).toNat ∧ M 66 (3 * r).toNat ≤ 11) | _ => False), fun a M r M' => (match a, r with | [.inr (.inr (12, th))], some (.inl v) => (v = M 1 15 ∧ pz_phc M M') ∧ pz_rl pz_Q7 M M' | _, _ => False))
noncomputable abbrev ct_X12_putsPhones : List (Bool × Nat × pz_C) := []
set_option maxRecDepth 100000 in
set_option maxHeartbeats 4000000 in
theorem h_X12_putsPhones : pz_H yX12_putsPhones cX12_putsPhones 2 (some .int) k_X12_putsPhones 0 0 := by
  refine pz_mk (own := RX12) (tb := t_X12_putsPhones) (fl := pz_flf fl_RX12) (ci := pz_cif ci_RX12) (ct := pz_ctf ct_X12_putsPhones) (rz := false) (pz_pfc_RX12 yX12_putsPhones rfl) rfl t_X12_putsPhones_ok (pz_flk fl_RX12_ok) (pz_cik ci_RX12_ok) ?_ ?_ (Or.inl ⟨rfl, rfl⟩) ?_ ?_
  · exact fun i k' h => pz_ctk (l := ct_X12_putsPhones) (P := fun b i k => b = true → pz_cV 0 0 RX12 i k) (fun _ h => absurd h List.not_mem_nil) true i k' h rfl
  · exact fun i k' h => pz_ctk (l := ct_X12_putsPhones) (P := fun b i k => b = false → (pz_cS 0 0 RX12 i k ∨ (k = pz_kac ∧ 1 ≤ 0 ∧ 60 ≤ 0 ∧ Cond.methodLink RX12 i arraycopyName ∈ pz_tbl))) (fun _ h => absurd h List.not_mem_nil) false i k' h rfl
  · intro a M hlen hpre
    obtain ⟨th, rfl, hpre⟩ : ∃ th, a = [.inr (.inr (12, th))] ∧ (pz_im M ∧ (∀ r : Int, 0 ≤ r → r < M 1 15 → 0 ≤ M 66 (3 * r).toNat ∧ M 66 (3 * r).toNat ≤ 11)) := by
      have hpre : (match (generalizing := false) a with | [.inr (.inr (12, th))] => pz_im M ∧ (∀ r : Int, 0 ≤ r → r < M 1 15 → 0 ≤ M 66 (3 * r).toNat ∧ M 66 (3 * r).toNat ≤ 11) | _ => False) := hpre
      split at hpre
      · exact ⟨_, rfl, hpre⟩
      · exact hpre.elim
    exact Nat.le_of_ble_eq_true rfl
  · intro a M hlen hcan hM hpre Ok hgo
    obtain ⟨th, rfl, hpre⟩ : ∃ th, a = [.inr (.inr (12, th))] ∧ (pz_im M ∧ (∀ r : Int, 0 ≤ r → r < M 1 15 → 0 ≤ M 66 (3 * r).toNat ∧ M 66 (3 * r).toNat ≤ 11)) := by
      have hpre : (match (generalizing := false) a with | [.inr (.inr (12, th))] => pz_im M ∧ (∀ r : Int, 0 ≤ r → r < M 1 15 → 0 ≤ M 66 (3 * r).toNat ∧ M 66 (3 * r).toNat ≤ 11) | _ => False) := hpre
      split at hpre
      · exact ⟨_, rfl, hpre⟩
      · exact hpre.elim
    obtain ⟨k_th, hc_th⟩ := pz_tlm hcan
    have k_th : pz_kd th = 12 ∧ th < 231 := k_th
    have R_th := pz_kd12 k_th.1
    subst R_th
    clear k_th
    have hI : pz_im M := hpre.1
    have hI0 := hI
    have hS : pz_rl pz_Q7 M M := pz_rl.rf
    have I15 := hI.2.1.2.2.2.2.2.2.2.1
    obtain ⟨-, hp9⟩ := hpre
    have L55 : ∀ (fu : Nat) (x1 : Int) (N55 : pz_M), (16 - x1).toNat < fu → (pz_rl pz_Q7 M N55) → (0 ≤ x1) → (x1 ≤ 16) → (x1 ≤ M 1 15) → (∀ i : Nat, i < 12 → N55 60 (105 + 2 * i) = pz_ph (pz_mph M) i 0 1 x1.toNat ∧ N55 60 (106 + 2 * i) = pz_ph (pz_mph M) i 240 2 x1.toNat) → (N55 60 91 = M 1 15) → Ok 55 [some (.inr (.inr (12, 1))), some (.inl x1)] [] N55 := by
      intro fu
      induction fu with
      | zero => exact fun _ _ hn => absurd hn (Nat.not_lt_zero _)
      | succ fu ih55 =>
        intro x1 N55 hn55 hS g55_1 g55_2 g55_3 g55_4 g55_5
        have hI : pz_im N55 := hS.1 hI0
        have F15 := hS.2 1 15 (by unfold pz_Q7; first | decide | omega)
        have Ux := Int.toNat_of_nonneg g55_1
        have U3 : (((3 * x1).toNat : Nat) : Int) = 3 * x1 := Int.toNat_of_nonneg (by first | decide | omega)
        have U15 : (((M 1 15).toNat : Nat) : Int) = M 1 15 := Int.toNat_of_nonneg (by first | decide | omega)
        refine hgo (fun p => Nat.beq p 13 || Nat.beq p 55) 90 55 _ _ _ ?_
        intro v57 e57 a57 b57
        have I57 : 0 ≤ v57 ∧ v57 ≤ 16 := by
          rw [e57]
          exact hI.2.1.2.2.2.2.2.2.2.1
        clear a57 b57
        have N57 := hI.2.1.2.2.2.2.2.2.2.1
        refine And.intro (fun h60 => ?_) (fun h60 => ?_)
        · skip
          intro v128 e128 a128 b128
          have I128 : 0 ≤ v128 ∧ v128 ≤ 16 := by
            rw [e128]
            exact hI.2.1.2.2.2.2.2.2.2.1
          clear a128 b128
          have N128 := hI.2.1.2.2.2.2.2.2.2.1
          refine And.intro rfl ?_
          have H15 := hS.2 1 15 (by unfold pz_Q7; first | decide | omega)
          exact ⟨⟨by omega, g55_5, fun i hi => by rw [show (M 1 15).toNat = x1.toNat by omega]; exact g55_4 i hi⟩, hS⟩
        · skip
          refine pz_nrc (c := 60) rfl ?_
          refine pz_nrc (c := 66) rfl ?_
          intro v76 e76 a76 b76
          rw [pz_wi (by first | decide | omega) (by first | decide | omega)] at e76
          clear a76 b76
          have lo77 : (0 : Int) ≤ v76 := by omega
          have tn77 : (((v76).toNat : Nat) : Int) = v76 := Int.toNat_of_nonneg lo77
          refine And.intro (lo77) (And.intro (show _ < (80 : Int) from by omega) ?_)
          intro v77 e77 a77 b77
          have H77 := hp9 x1 (by first | decide | omega) (by first | decide | omega)
          rw [hS.2 66 _ (by unfold pz_Q7; first | decide | omega), show v76.toNat = (3 * x1).toNat by omega] at e77
          intro v78 e78 a78 b78
          rw [pz_wi (by first | decide | omega) (by first | decide | omega)] at e78
          clear a78 b78
          intro v79 e79 a79 b79
          rw [pz_wi (by first | decide | omega) (by first | decide | omega)] at e79
          clear a79 b79
          refine pz_nrc (c := 66) rfl ?_
          intro v86 e86 a86 b86
          rw [pz_wi (by first | decide | omega) (by first | decide | omega)] at e86
          clear a86 b86
          intro v88 e88 a88 b88
          rw [pz_wi (by first | decide | omega) (by first | decide | omega)] at e88
          clear a88 b88
          have lo89 : (0 : Int) ≤ v88 := by omega
          have tn89 : (((v88).toNat : Nat) : Int) = v88 := Int.toNat_of_nonneg lo89
          refine And.intro (lo89) (And.intro (show _ < (80 : Int) from by omega) ?_)
          intro v89 e89 a89 b89
          rw [hS.2 66 _ (by unfold pz_Q7; first | decide | omega), show v88.toNat = 3 * x1.toNat + 1 by omega] at e89
          have lo90 : (0 : Int) ≤ v79 := by omega
          have tn90 : (((v79).toNat : Nat) : Int) = v79 := Int.toNat_of_nonneg lo90
          refine And.intro (lo90) (And.intro (show _ < (1725 : Int) from by omega) ?_)
          intro M90 e90
          have hS : pz_rl pz_Q7 M M90 := by
            rw [e90]
            exact pz_rl_u hS (by unfold pz_Q7; first | decide | omega) (by first | exact pz_iom_w (by first | decide | omega) (by first | decide | omega) (by first | decide | omega) (by first | decide | omega) (by first | decide | omega) (by first | decide | omega) | (unfold pz_iom; omega))
          have hI : pz_im M90 := hS.1 hI0
          have K90 := e90
          refine pz_nrc (c := 60) rfl ?_
          refine pz_nrc (c := 66) rfl ?_
          intro v104 e104 a104 b104
          rw [pz_wi (by first | decide | omega) (by first | decide | omega)] at e104
          clear a104 b104
          have lo105 : (0 : Int) ≤ v104 := by omega
          have tn105 : (((v104).toNat : Nat) : Int) = v104 := Int.toNat_of_nonneg lo105
          refine And.intro (lo105) (And.intro (show _ < (80 : Int) from by omega) ?_)
          intro v105 e105 a105 b105
          have H105 := hp9 x1 (by first | decide | omega) (by first | decide | omega)
          rw [hS.2 66 _ (by unfold pz_Q7; first | decide | omega), show v104.toNat = (3 * x1).toNat by omega] at e105
          intro v106 e106 a106 b106
          rw [pz_wi (by first | decide | omega) (by first | decide | omega)] at e106
          clear a106 b106
          intro v107 e107 a107 b107
          rw [pz_wi (by first | decide | omega) (by first | decide | omega)] at e107
          clear a107 b107
          intro v109 e109 a109 b109
          rw [pz_wi (by first | decide | omega) (by first | decide | omega)] at e109
          clear a109 b109
          refine pz_nrc (c := 66) rfl ?_
          intro v116 e116 a116 b116
          rw [pz_wi (by first | decide | omega) (by first | decide | omega)] at e116
          clear a116 b116
          intro v118 e118 a118 b118
          rw [pz_wi (by first | decide | omega) (by first | decide | omega)] at e118
          clear a118 b118
          have lo119 : (0 : Int) ≤ v118 := by omega
          have tn119 : (((v118).toNat : Nat) : Int) = v118 := Int.toNat_of_nonneg lo119
          refine And.intro (lo119) (And.intro (show _ < (80 : Int) from by omega) ?_)
          intro v119 e119 a119 b119
          rw [hS.2 66 _ (by unfold pz_Q7; first | decide | omega), show v118.toNat = 3 * x1.toNat + 2 by omega] at e119
          have lo120 : (0 : Int) ≤ v109 := by omega
          have tn120 : (((v109).toNat : Nat) : Int) = v109 := Int.toNat_of_nonneg lo120
          refine And.intro (lo120) (And.intro (show _ < (1725 : Int) from by omega) ?_)
          intro M120 e120
          have hS : pz_rl pz_Q7 M M120 := by
            rw [e120]
            exact pz_rl_u hS (by unfold pz_Q7; first | decide | omega) (by first | exact pz_iom_w (by first | decide | omega) (by first | decide | omega) (by first | decide | omega) (by first | decide | omega) (by first | decide | omega) (by first | decide | omega) | (unfold pz_iom; omega))
          have hI : pz_im M120 := hS.1 hI0
          have K120 := e120
          intro v121 e121 a121 b121
          rw [pz_wi (by first | decide | omega) (by first | decide | omega)] at e121
          have H121 : M120 60 91 = M 1 15 := by rw [e120, pz_une (by first | decide | omega), e90, pz_une (by first | decide | omega)]; exact g55_5
          have G121 : ∀ i : Nat, i < 12 → M120 60 (105 + 2 * i) = pz_ph (pz_mph M) i 0 1 v121.toNat ∧ M120 60 (106 + 2 * i) = pz_ph (pz_mph M) i 240 2 v121.toNat := pz_ph_s (l := v77) (p1 := v79.toNat) (p2 := v109.toNat) g55_1 (by first | decide | omega) e77 (by first | decide | omega) K90 (by first | decide | omega) e89 K120 (by first | decide | omega) e119 g55_4
          exact ih55 _ _ (by first | decide | omega) hS (by first | omega | assumption) (by first | omega | assumption) (by first | omega | assumption) (by first | omega | assumption) (by first | omega | assumption)
    have L13 : ∀ (fu : Nat) (x1 : Int) (N13 : pz_M), (12 - x1).toNat < fu → (pz_rl pz_Q7 M N13) → (0 ≤ x1) → (x1 ≤ 12) → (∀ i : Nat, (i : Int) < x1 → N13 60 (105 + 2 * i) = 0 ∧ N13 60 (106 + 2 * i) = 240) → (N13 60 91 = M 1 15) → Ok 13 [some (.inr (.inr (12, 1))), some (.inl x1)] [] N13 := by
      intro fu
      induction fu with
      | zero => exact fun _ _ hn => absurd hn (Nat.not_lt_zero _)
      | succ fu ih13 =>
        intro x1 N13 hn13 hS g13_1 g13_2 g13_3 g13_4
        have hI : pz_im N13 := hS.1 hI0
        refine hgo (fun p => Nat.beq p 13 || Nat.beq p 55) 90 13 _ _ _ ?_
        refine And.intro (fun h16 => ?_) (fun h16 => ?_)
        · skip
          have G16 : ∀ i : Nat, i < 12 → N13 60 (105 + 2 * i) = pz_ph (pz_mph M) i 0 1 (0 : Int).toNat ∧ N13 60 (106 + 2 * i) = pz_ph (pz_mph M) i 240 2 (0 : Int).toNat := fun i hi => g13_3 i (by first | decide | omega)
          exact L55 _ _ _ (Nat.lt_succ_self _) hS (by first | omega | assumption) (by first | omega | assumption) (by first | omega | assumption) (by first | omega | assumption) (by first | omega | assumption)
        · skip
          skip
          refine pz_nrc (c := 60) rfl ?_
          intro v27 e27 a27 b27
          rw [pz_wi (by first | decide | omega) (by first | decide | omega)] at e27
          clear a27 b27
          intro v28 e28 a28 b28
          rw [pz_wi (by first | decide | omega) (by first | decide | omega)] at e28
          clear a28 b28
          have lo30 : (0 : Int) ≤ v28 := by omega
          have tn30 : (((v28).toNat : Nat) : Int) = v28 := Int.toNat_of_nonneg lo30
          refine And.intro (lo30) (And.intro (show _ < (1725 : Int) from by omega) ?_)
          intro M30 e30
          have hS : pz_rl pz_Q7 M M30 := by
            rw [e30]
            exact pz_rl_u hS (by unfold pz_Q7; first | decide | omega) (pz_iom_w2 (by first | decide | omega) (by first | decide | omega))
          have hI : pz_im M30 := hS.1 hI0
          have K30 := e30
          refine pz_nrc (c := 60) rfl ?_
          intro v39 e39 a39 b39
          rw [pz_wi (by first | decide | omega) (by first | decide | omega)] at e39
          clear a39 b39
          intro v40 e40 a40 b40
          rw [pz_wi (by first | decide | omega) (by first | decide | omega)] at e40
          clear a40 b40
          intro v42 e42 a42 b42
          rw [pz_wi (by first | decide | omega) (by first | decide | omega)] at e42
          clear a42 b42
          have lo46 : (0 : Int) ≤ v42 := by omega
          have tn46 : (((v42).toNat : Nat) : Int) = v42 := Int.toNat_of_nonneg lo46
          refine And.intro (lo46) (And.intro (show _ < (1725 : Int) from by omega) ?_)
          intro M46 e46
          have hS : pz_rl pz_Q7 M M46 := by
            rw [e46]
            exact pz_rl_u hS (by unfold pz_Q7; first | decide | omega) (pz_iom_w2 (by first | decide | omega) (by first | decide | omega))
          have hI : pz_im M46 := hS.1 hI0
          have K46 := e46
          intro v47 e47 a47 b47
          rw [pz_wi (by first | decide | omega) (by first | decide | omega)] at e47
          have H47 : M46 60 91 = M 1 15 := by rw [e46, pz_une (by first | decide | omega), e30, pz_une (by first | decide | omega)]; exact g13_4
          have G47 : ∀ i : Nat, (i : Int) < v47 → M46 60 (105 + 2 * i) = 0 ∧ M46 60 (106 + 2 * i) = 240 := pz_ph_z (p1 := v28.toNat) (p2 := v42.toNat) g13_1 (by first | decide | omega) K30 (by first | decide | omega) rfl K46 (by first | decide | omega) rfl g13_3
          exact ih13 _ _ (by first | decide | omega) hS (by first | omega | assumption) (by first | omega | assumption) (by first | omega | assumption) (by first | omega | assumption)
    refine hgo (fun p => Nat.beq p 13 || Nat.beq p 55) 90 0 _ [] M ?_
    refine pz_nrc (c := 60) rfl ?_
    intro v7 e7 a7 b7
    have I7 : 0 ≤ v7 ∧ v7 ≤ 16 := by
      rw [e7]
      exact hI.2.1.2.2.2.2.2.2.2.1
    clear a7 b7
    have N7 := hI.2.1.2.2.2.2.2.2.2.1
    refine And.intro (by first | decide | omega) (And.intro (show _ < (1725 : Int) from by omega) ?_)
    intro M10 e10
    have hS : pz_rl pz_Q7 M M10 := by
      rw [e10]
      exact pz_rl_u hS (by unfold pz_Q7; first | decide | omega) (by first | exact pz_iom_w (by first | decide | omega) (by first | decide | omega) (by first | decide | omega) (by first | decide | omega) (by first | decide | omega) (by first | decide | omega) | (unfold pz_iom; omega))
    have hI : pz_im M10 := hS.1 hI0
    have G10 : ∀ i : Nat, (i : Int) < (0 : Int) → M10 60 (105 + 2 * i) = 0 ∧ M10 60 (106 + 2 * i) = 240 := fun i hi => absurd hi (by first | decide | omega)
    have H10 : M10 60 91 = M 1 15 := by rw [e10]; exact (pz_ue ⟨rfl, rfl⟩).trans e7
    exact L13 _ _ _ (Nat.lt_succ_self _) hS (by first | omega | assumption) (by first | omega | assumption) (by first | omega | assumption) (by first | omega | assumption)
theorem v_X12_putsPhones {fr lo i : Nat} {own : String} (h1 : 0 + 1 ≤ fr) (h2 : 8 + (2 + 11) + 0 ≤ lo) (h3 : .methodLink own i yX12_putsPhones ∈ lw_tbl) : pz_cV fr lo own i k_X12_putsPhones :=
  pz_cVk (maxL := 2) (fr' := 0) (lo' := 0) 0 12 h_X12_putsPhones rfl ⟨(pz_nhc_RX12 yX12_putsPhones rfl).1, (pz_nhc_RX12 yX12_putsPhones rfl).2, pz_ds1⟩ ⟨pz_wq1398, pz_wq1397, pz_ws36, pz_wq13⟩ (Or.inl ⟨TX12, 28, rfl⟩) (fun a M _ h => by
    have h : (match (generalizing := false) a with | [.inr (.inr (12, th))] => pz_im M ∧ (∀ r : Int, 0 ≤ r → r < M 1 15 → 0 ≤ M 66 (3 * r).toNat ∧ M 66 (3 * r).toNat ≤ 11) | _ => False) := h
    split at h
    · exact ⟨_, _, rfl⟩
    · exact h.elim) h1 h2 h3
end
section
/-! what the rows of a TEXT are -/
def pq_rok (k n a b c d e : Int) : Prop := (k = 1 → (0 ≤ a ∧ a ≤ 999) ∧ (18 ≤ b ∧ b ≤ 21) ∧ (0 ≤ c ∧ c < n) ∧ (0 ≤ d ∧ d < n) ∧ (0 ≤ e ∧ e ≤ 99) ∧ (b = 18 ∨ b = 20 → 1 ≤ e)) ∧ (k = 2 → (0 ≤ a ∧ a < n) ∧ (0 ≤ b ∧ b < c ∧ c ≤ 240)) ∧ (k = 3 → (0 ≤ a ∧ a ≤ 999) ∧ (0 ≤ b ∧ b < n))
def pq_rol (k n : Int) (l : List Int) : Prop := pq_rok k n (l.getD 0 0) (l.getD 1 0) (l.getD 2 0) (l.getD 3 0) (l.getD 4 0)
def pq_ok (n k : Int) (ls : List (List Int)) : Prop := ls.length ≤ 16 ∧ ∀ r, r < ls.length → pq_rol k n (ls.getD r [])
theorem pz_nu_i {T X : Nat → Int} {lo hi : Int} {i : Nat} {f : Int → pz_rw} {r : Nat × List Int} (h : pz_nu T X lo hi i f = .inl r) : T i = 100 ∧ lo ≤ X i ∧ X i ≤ hi ∧ f (X i) = .inl r := by
  unfold pz_nu at h
  by_cases a : T i = 100
  · rw [if_pos a] at h
    by_cases b : lo ≤ X i ∧ X i ≤ hi
    · rw [if_pos b] at h
      exact ⟨a, b.1, b.2, h⟩
    · rw [if_neg b] at h
      cases h
  · rw [if_neg a] at h
    cases h
theorem pz_nd_i {T : Nat → Int} {t : Int} {i : Nat} {f : pz_rw} {r : Nat × List Int} (h : pz_nd T t i f = .inl r) : T i = t ∧ f = .inl r := by
  unfold pz_nd at h
  by_cases a : T i = t
  · rw [if_pos a] at h
    exact ⟨a, h⟩
  · rw [if_neg a] at h
    cases h
theorem pz_rq_ok {T X : Nat → Int} {i j : Nat} {n d w l m : Int} {r : List Int} (hd : 0 ≤ d ∧ d ≤ 999) (hw : 18 ≤ w ∧ w ≤ 21) (hl : 0 ≤ l ∧ l < n) (hm : 0 ≤ m ∧ m < n) (h : pz_rq T X i d w l m = .inl (j, r)) : pq_rol 1 n r := by
  unfold pz_rq at h
  by_cases c : w = 18 ∨ w = 20
  · rw [if_pos c] at h
    obtain ⟨-, h1, h2, h3⟩ := pz_nu_i h
    have e := (Prod.mk.inj (Sum.inl.inj h3)).2
    subst e
    exact ⟨fun _ => ⟨hd, hw, hl, hm, ⟨by show (0 : Int) ≤ X i; omega, by show X i ≤ 99; omega⟩, fun _ => h1⟩, fun y => absurd y (by decide), fun y => absurd y (by decide)⟩
  · rw [if_neg c] at h
    have e := (Prod.mk.inj (Sum.inl.inj h)).2
    subst e
    exact ⟨fun _ => ⟨hd, hw, hl, hm, ⟨by show (0 : Int) ≤ 0; omega, by show (0 : Int) ≤ 99; omega⟩, fun y => absurd y c⟩, fun y => absurd y (by decide), fun y => absurd y (by decide)⟩
theorem pz_row_ok {k n : Int} {T X : Nat → Int} {i j : Nat} {r : List Int} (hk : k = 1 ∨ k = 2 ∨ k = 3) (h : pz_row k n T X i = .inl (j, r)) : pq_rol k n r := by
  unfold pz_row at h
  rcases hk with rfl | rfl | rfl
  · rw [if_pos rfl] at h
    unfold pz_rp at h
    obtain ⟨-, a1, a2, h⟩ := pz_nu_i h
    by_cases c : 18 ≤ T (i + 1) ∧ T (i + 1) ≤ 21
    · have h := (if_pos c).symm.trans h
      obtain ⟨-, b1, b2, h⟩ := pz_nu_i h
      by_cases e : T (i + 1) = 20
      · have h := (if_pos e).symm.trans h
        by_cases g : T (i + 3) = 100 ∧ X (i + 3) = X (i + 2)
        · have h := (if_pos g).symm.trans h
          cases h
        · have h := (if_neg g).symm.trans h
          obtain ⟨-, d1, d2, h⟩ := pz_nu_i h
          exact pz_rq_ok ⟨a1, a2⟩ c ⟨b1, by omega⟩ ⟨d1, by omega⟩ h
      · have h := (if_neg e).symm.trans h
        exact pz_rq_ok ⟨a1, a2⟩ c ⟨b1, by omega⟩ ⟨by omega, by omega⟩ h
    · have h := (if_neg c).symm.trans h
      cases h
  · rw [if_neg (by decide), if_pos rfl] at h
    unfold pz_rh at h
    obtain ⟨-, a1, a2, h⟩ := pz_nu_i h
    obtain ⟨-, h⟩ := pz_nd_i h
    obtain ⟨-, b1, b2, h⟩ := pz_nu_i h
    obtain ⟨-, h⟩ := pz_nd_i h
    obtain ⟨-, c1, c2, h⟩ := pz_nu_i h
    have e := (Prod.mk.inj (Sum.inl.inj h)).2
    subst e
    exact ⟨fun y => absurd y (by decide), fun _ => ⟨⟨a1, by show X (i + 0) < n; omega⟩, b1, by show X (i + 2) < X (i + 4); omega, c2⟩, fun y => absurd y (by decide)⟩
  · rw [if_neg (by decide), if_neg (by decide)] at h
    unfold pz_rd at h
    obtain ⟨-, a1, a2, h⟩ := pz_nu_i h
    obtain ⟨-, h⟩ := pz_nd_i h
    obtain ⟨-, b1, b2, h⟩ := pz_nu_i h
    have e := (Prod.mk.inj (Sum.inl.inj h)).2
    subst e
    exact ⟨fun y => absurd y (by decide), fun y => absurd y (by decide), fun _ => ⟨⟨a1, a2⟩, b1, by show X (i + 2) < n; omega⟩⟩
theorem pz_gw_ok {k n : Int} {T X : Nat → Int} (hk : k = 1 ∨ k = 2 ∨ k = 3) : ∀ (f i : Nat) (ls : List (List Int)), pz_gw (pz_fw k) (pz_row k n T X) T f i = .inl ls → ls.length ≤ f ∧ ∀ l ∈ ls, pq_rol k n l := by
  intro f
  induction f with
  | zero =>
    intro i ls h
    have h : (if T i = 101 then (Sum.inl [] : pz_rws) else if T i = pz_fw k then .inr (3, i) else .inr (1, i)) = .inl ls := h
    by_cases a : T i = 101
    · rw [if_pos a] at h
      have e := Sum.inl.inj h
      subst e
      exact ⟨Nat.le_refl _, fun l hl => absurd hl List.not_mem_nil⟩
    · rw [if_neg a] at h
      split at h <;> cases h
  | succ f ih =>
    intro i ls h
    have h : (if T i = 101 then (Sum.inl [] : pz_rws) else if T i = pz_fw k then pz_gs T (pz_row k n T X (i + 1)) (pz_gw (pz_fw k) (pz_row k n T X) T f) else .inr (1, i)) = .inl ls := h
    by_cases a : T i = 101
    · rw [if_pos a] at h
      have e := Sum.inl.inj h
      subst e
      exact ⟨Nat.zero_le _, fun l hl => absurd hl List.not_mem_nil⟩
    · rw [if_neg a] at h
      by_cases b : T i = pz_fw k
      · rw [if_pos b] at h
        generalize er : pz_row k n T X (i + 1) = r at h
        rcases r with ⟨j, l⟩ | q
        · have h : (if T j = 59 then pz_pres [l] (pz_gw (pz_fw k) (pz_row k n T X) T f (j + 1)) else .inr (1, j)) = .inl ls := h
          by_cases c : T j = 59
          · rw [if_pos c] at h
            generalize eg : pz_gw (pz_fw k) (pz_row k n T X) T f (j + 1) = g at h
            rcases g with g | g
            · have e : [l] ++ g = ls := Sum.inl.inj h
              subst e
              obtain ⟨i1, i2⟩ := ih _ _ eg
              refine ⟨?_, fun x hx => ?_⟩
              · show g.length + 1 ≤ f + 1
                omega
              · rcases List.mem_cons.mp hx with hx | hx
                · rw [hx]
                  exact pz_row_ok hk er
                · exact i2 x hx
            · cases h
          · rw [if_neg c] at h
            cases h
        · cases h
      · rw [if_neg b] at h
        cases h
theorem pz_gdE {α : Type} {l : List α} {d : α} {k : Nat} (h : k < l.length) : l.getD k d = l[k] := by
  rw [List.getD_eq_getElem?_getD, List.getElem?_eq_getElem h]
  rfl
theorem pq_ok_of {k n : Int} {T X : Nat → Int} {ls : List (List Int)} (hk : 1 ≤ k ∧ k ≤ 3) (h : pz_gw (pz_fw k) (pz_row k n T X) T 16 0 = .inl ls) : pq_ok n k ls := by
  obtain ⟨a, b⟩ := pz_gw_ok (by first | decide | omega) 16 0 ls h
  refine ⟨a, fun r hr => b _ ?_⟩
  rw [pz_gdE hr]
  exact List.getElem_mem hr
theorem pq_ok_le {k n n' : Int} {ls : List (List Int)} (h : pq_ok n k ls) (hn : n ≤ n') : pq_ok n' k ls := ⟨h.1, fun r hr => by
  have := h.2 r hr
  unfold pq_rol pq_rok at this ⊢
  omega⟩
theorem pz_fl_le {o : List (Int × Int)} : o.length ≤ (pz_fl o).length := by
  induction o with
  | nil => exact Nat.le_refl _
  | cons q o ih =>
    show o.length + 1 ≤ (pz_fl1 q ++ pz_fl o).length
    rw [List.length_append]
    have : 1 ≤ (pz_fl1 q).length := by
      unfold pz_fl1
      repeat' split
      all_goals exact Nat.le_of_ble_eq_true rfl
    omega
end
section
/-! the law's relation: the shape, the TAPE, what was wrong -/
theorem pz_QI_sq {M M' : pz_M} (h : pz_rl pz_QI M M') : pz_sq M M' := ⟨h.1, fun b j q => h.2 b j (by unfold pz_QI; unfold pz_mid at q; omega), h.2 1 16 (by unfold pz_QI; first | decide | omega)⟩
def pz_tpc (b j : Nat) : Prop := (b = 4 ∧ j = 1) ∨ b = 48 ∨ (b = 5 ∧ (j = 3 ∨ j = 4)) ∨ (b = 1 ∧ (j = 16 ∨ j = 23 ∨ j = 25)) ∨ b = 67
def pz_TP (M : pz_M) : Prop := M 4 1 = M 1 16 ∧ ∀ k : Nat, (k : Int) < M 4 1 → (-128 ≤ M 48 k ∧ M 48 k ≤ 127) ∧ M 67 k = M 48 k % 256
def pz_FT (M : pz_M) : Prop := M 5 3 = M 1 23 ∧ M 5 4 = M 1 25
def pz_RV (M : pz_M) : Prop := pz_RS M ∧ pz_TP M ∧ pz_FT M
theorem pz_RT_of {M M2 : pz_M} (r : pz_RS M2) (h : pz_RV M) (e : ∀ b j, pz_tpc b j → M2 b j = M b j) : pz_RV M2 := by
  obtain ⟨-, ⟨t1, t2⟩, f1, f2⟩ := h
  refine ⟨r, ⟨?_, fun k hk => ?_⟩, ?_, ?_⟩
  · rw [e 4 1 (by unfold pz_tpc; first | decide | omega), e 1 16 (by unfold pz_tpc; first | decide | omega)]
    exact t1
  · rw [e 4 1 (by unfold pz_tpc; first | decide | omega)] at hk
    rw [e 48 k (by unfold pz_tpc; first | decide | omega), e 67 k (by unfold pz_tpc; first | decide | omega)]
    exact t2 k hk
  · rw [e 5 3 (by unfold pz_tpc; first | decide | omega), e 1 23 (by unfold pz_tpc; first | decide | omega)]
    exact f1
  · rw [e 5 4 (by unfold pz_tpc; first | decide | omega), e 1 25 (by unfold pz_tpc; first | decide | omega)]
    exact f2
theorem pz_RT_sW {M M' : pz_M} (hI : pz_ic M) (h : pz_RV M) (hs : pz_sW M M') : pz_RV M' :=
  pz_RT_of (pz_RS_sx hI h.1 hs.1) h (fun b j q => by
    by_cases q4 : b = 4
    · have j1 : j = 1 := by unfold pz_tpc at q; omega
      rw [q4, j1]
      exact hs.2
    · exact hs.1.2.1 b j (by unfold pz_tpc at q; unfold pz_fy pz_mid; omega))
theorem pz_RT_sk {M M' : pz_M} (h : pz_RV M) (hs : pz_sk M M') : pz_RV M' :=
  pz_RT_of (pz_RS_sn h.1 hs.1) h (fun b j q => by
    by_cases q4 : b = 1 ∧ j = 16
    · rw [q4.1, q4.2]
      exact hs.2
    · exact hs.1.2 b j (by unfold pz_tpc at q; unfold pz_mn pz_mid; omega))
theorem pz_RT_link {M M1 M2 : pz_M} {p q w s v v' : Int} {C : Prop} (hI : pz_ic M) (hR : pz_RV M) (h : ((M 71 3 < 12 ∧ C) ∧ v = M 71 3 ∧ M1 = pz_lkf p q w s M) ∨ (¬ (M 71 3 < 12 ∧ C) ∧ v = -1 ∧ M1 = M)) (h' : ((M1 60 88 < 12 ∧ C) ∧ v' = M1 60 88 ∧ M2 = pz_lkm p q w s M1) ∨ (¬ (M1 60 88 < 12 ∧ C) ∧ v' = -1 ∧ M2 = M1)) : v = v' ∧ pz_RV M2 := by
  obtain ⟨e, r⟩ := pz_RS_link hI hR.1 h h'
  refine ⟨e, pz_RT_of r hR (fun b j y => ?_)⟩
  unfold pz_tpc at y
  have e1 : M1 b j = M b j := by
    rcases h with ⟨-, -, h⟩ | ⟨-, -, h⟩
    · rw [h]
      exact pz_lkf_o (by first | decide | omega)
    · rw [h]
  rcases h' with ⟨-, -, h'⟩ | ⟨-, -, h'⟩
  · rw [h', pz_lkm_o (by first | decide | omega) (by first | decide | omega)]
    exact e1
  · rw [h']
    exact e1
theorem pz_RT_set {M M1 M2 : pz_M} {w i n v v' : Int} {C : Prop} (hC : C → 0 ≤ w ∧ w ≤ 4) (hI : pz_ic M) (hR : pz_RV M) (h : (((0 ≤ i ∧ i < M 71 3) ∧ C) ∧ v = 1 ∧ M1 = pz_u (pz_u M (89 + i.toNat) w.toNat n) 3 2 0) ∨ (¬ ((0 ≤ i ∧ i < M 71 3) ∧ C) ∧ v = 0 ∧ M1 = M)) (h' : (((0 ≤ i ∧ i < M1 60 88) ∧ C) ∧ v' = 1 ∧ M2 = pz_u (pz_u M1 60 (pz_bs w + i).toNat n) 1 4 0) ∨ (¬ ((0 ≤ i ∧ i < M1 60 88) ∧ C) ∧ v' = 0 ∧ M2 = M1)) : v = v' ∧ pz_RV M2 := by
  obtain ⟨e, r⟩ := pz_RS_set hC hI hR.1 h h'
  refine ⟨e, pz_RT_of r hR (fun b j y => ?_)⟩
  unfold pz_tpc at y
  have e1 : M1 b j = M b j := by
    rcases h with ⟨-, -, h⟩ | ⟨-, -, h⟩
    · rw [h, pz_una (by first | decide | omega), pz_una (by first | decide | omega)]
    · rw [h]
  rcases h' with ⟨-, -, h'⟩ | ⟨-, -, h'⟩
  · rw [h', pz_une (by first | decide | omega), pz_una (by first | decide | omega)]
    exact e1
  · rw [h']
    exact e1
theorem pz_xi_tp {c o : Nat} {M M1 : pz_M} {b j : Nat} (hc : c = 71 ∨ c = 73) (h : pz_xi c o M M1) (q : pz_tpc b j) : M1 b j = M b j := by
  by_cases q4 : b = 4
  · have j1 : j = 1 := by unfold pz_tpc at q; omega
    rw [q4, j1]
    exact h.2.2.1
  · unfold pz_tpc at q
    rw [h.2.1 b j (by unfold pz_mq0 pz_ko pz_mid; first | decide | omega) (by first | decide | omega) (by first | decide | omega)]
    exact pz_tf_o (by first | decide | omega) (by unfold pz_lb; first | decide | omega)
theorem pz_RT_image {M M1 M2 : pz_M} {t v v' : Int} (hR : pz_RV M) (h : (t = 0 ∧ M 0 13 = 0 ∧ v = 0 ∧ M1 = M) ∨ (t ≠ 0 ∧ v = 1 ∧ M1 0 13 = 1 ∧ pz_xi 73 71 M M1) ∨ (t = 0 ∧ M 0 13 ≠ 0 ∧ v = 1 ∧ M1 0 13 = M 0 13 ∧ M1 3 2 = 0 ∧ pz_xi 71 73 M M1))
    (h' : (t = 0 ∧ M1 1 5 = 0 ∧ v' = 0 ∧ M2 = M1) ∨ ((t ≠ 0 ∨ M1 1 5 ≠ 0) ∧ v' = 1 ∧ M2 1 5 = 1 ∧ ((t = 0 → ∀ k : Nat, (k : Int) < 1725 → M2 60 k = M1 61 k) ∧ (t = 0 → ∀ k, M2 61 k = M1 61 k) ∧ (t ≠ 0 → ∀ k : Nat, (k : Int) < 1725 → M2 61 k = M1 60 k) ∧ (t ≠ 0 → ∀ k, M2 60 k = M1 60 k)))) (hq : pz_rl pz_QI M1 M2) : v = v' ∧ pz_RV M2 := by
  obtain ⟨e, r⟩ := pz_RS_image hR.1 h h' (pz_QI_sq hq)
  refine ⟨e, pz_RT_of r hR (fun b j y => ?_)⟩
  rw [hq.2 b j (by unfold pz_tpc at y; unfold pz_QI; omega)]
  rcases h with ⟨-, -, -, h⟩ | ⟨-, -, -, h⟩ | ⟨-, -, -, -, -, h⟩
  · rw [h]
  · exact pz_xi_tp (Or.inr rfl) h y
  · exact pz_xi_tp (Or.inl rfl) h y
theorem pz_RT_end {M M1 M2 : pz_M} {n v v' : Int} (hI : pz_ic M) (hR : pz_RV M) (h : if 0 ≤ n ∧ n ≤ M 4 1 then v = 1 ∧ M1 4 1 = n else v = 0 ∧ M1 4 1 = M 4 1) (z : pz_sy M M1) (h' : if 0 ≤ n ∧ n ≤ M1 1 16 then v' = 1 ∧ M2 1 16 = n else v' = 0 ∧ M2 1 16 = M1 1 16) (z' : pz_sn M1 M2) : v = v' ∧ pz_RV M2 := by
  obtain ⟨r, ⟨t1, t2⟩, f1, f2⟩ := hR
  have e : ∀ b j, pz_tpc b j → ¬ (b = 4 ∧ j = 1) → ¬ (b = 1 ∧ j = 16) → M2 b j = M b j := fun b j q q1 q2 => (z'.2 b j (by unfold pz_tpc at q; unfold pz_mn pz_mid; omega)).trans (z.2 b j (by unfold pz_tpc at q; unfold pz_md pz_kx pz_mid; omega))
  have r2 : pz_RS M2 := pz_RS_sn (pz_RS_sx hI r z.sx) z'
  have a : M2 4 1 = M1 4 1 := z'.2 4 1 (by unfold pz_mn pz_mid; first | decide | omega)
  have a2 : M1 1 16 = M 1 16 := z.2 1 16 (by unfold pz_md pz_kx pz_mid; first | decide | omega)
  have len : M2 4 1 = M2 1 16 ∧ M2 4 1 ≤ M 4 1 ∧ v = v' := by
    clear e r r2 t2 z z' f1 f2 hI
    (split at h <;> split at h') <;> omega
  refine ⟨len.2.2, r2, ⟨len.1, fun k hk => ?_⟩, ?_, ?_⟩
  · rw [e 48 k (by unfold pz_tpc; first | decide | omega) (by first | decide | omega) (by first | decide | omega), e 67 k (by unfold pz_tpc; first | decide | omega) (by first | decide | omega) (by first | decide | omega)]
    exact t2 k (by first | decide | omega)
  · rw [e 5 3 (by unfold pz_tpc; first | decide | omega) (by first | decide | omega) (by first | decide | omega), e 1 23 (by unfold pz_tpc; first | decide | omega) (by first | decide | omega) (by first | decide | omega)]
    exact f1
  · rw [e 5 4 (by unfold pz_tpc; first | decide | omega) (by first | decide | omega) (by first | decide | omega), e 1 25 (by unfold pz_tpc; first | decide | omega) (by first | decide | omega) (by first | decide | omega)]
    exact f2
def pz_rsc (b j : Nat) : Prop := (j = 3 ∧ (b = 71 ∨ (73 ≤ b ∧ b < 80) ∨ (89 ≤ b ∧ b < 101) ∨ (115 ≤ b ∧ b < 127) ∨ (128 ≤ b ∧ b < 206))) ∨ ((b = 60 ∨ b = 61) ∧ (j = 88 ∨ (93 ≤ j ∧ j < 105))) ∨ (b = 0 ∧ j = 13) ∨ (b = 1 ∧ j = 5) ∨ b = 3
theorem pz_RS_cg {M M' : pz_M} (h : pz_RS M) (e : ∀ b j, pz_rsc b j → ¬ (b = 3 ∧ j = 2) → M' b j = M b j) (e2 : M' 3 2 = M 3 2 ∨ M' 3 2 = 0) : pz_RS M' := by
  obtain ⟨h1, h2, h3, h4, h5, h6⟩ := h
  refine ⟨?_, fun i hi => ?_, ?_, fun i hi => ?_, ?_, ?_⟩
  · rw [e 71 3 (by unfold pz_rsc; first | decide | omega) (by first | decide | omega), e 60 88 (by unfold pz_rsc; first | decide | omega) (by first | decide | omega)]; exact h1
  · rw [e (89 + i) 3 (by unfold pz_rsc; first | decide | omega) (by first | decide | omega), e 60 (93 + i) (by unfold pz_rsc; first | decide | omega) (by first | decide | omega)]; exact h2 i hi
  · rw [e 73 3 (by unfold pz_rsc; first | decide | omega) (by first | decide | omega), e 61 88 (by unfold pz_rsc; first | decide | omega) (by first | decide | omega)]; exact h3
  · rw [e (115 + i) 3 (by unfold pz_rsc; first | decide | omega) (by first | decide | omega), e 61 (93 + i) (by unfold pz_rsc; first | decide | omega) (by first | decide | omega)]; exact h4 i hi
  · rw [e 0 13 (by unfold pz_rsc; first | decide | omega) (by first | decide | omega), e 1 5 (by unfold pz_rsc; first | decide | omega) (by first | decide | omega)]; exact h5
  · rcases e2 with e2 | e2
    · refine pz_kep_cg (fun b j q => ?_) h6
      by_cases y : b = 3 ∧ j = 2
      · rw [y.1, y.2]
        exact e2
      · exact e b j (by unfold pz_rsc; first | decide | omega) y
    · exact ⟨by omega, fun t ht => absurd ht (by first | decide | omega)⟩
theorem pz_RT_feed {M M1 M2 : pz_M} {p q w s u v v' : Int} (hI : pz_ic M) (hR : pz_RV M) (h : (M 4 1 + 20 ≤ 400 ∧ v = M 4 1 + 20 ∧ M1 4 1 = M 4 1 + 20 ∧ pz_fb M M1 p q w s u) ∨ (¬ M 4 1 + 20 ≤ 400 ∧ v = -1 ∧ M1 = M)) (z : pq_pr pq_Pf M M1)
    (h' : (M1 1 16 + 20 ≤ 400 ∧ v' = M1 1 16 + 20 ∧ M2 1 16 = M1 1 16 + 20 ∧ pz_fm M1 M2 20 p q w s u) ∨ (¬ M1 1 16 + 20 ≤ 400 ∧ v' = -1 ∧ M2 = M1)) (z' : pz_rl pz_QF M1 M2) : v = v' ∧ pz_RV M2 := by
  have i4 := hI.2.2.2.2.1
  have a1 : M1 1 16 = M 1 16 := z.2 1 16 (by unfold pq_Pf; first | decide | omega)
  have a4 : M2 4 1 = M1 4 1 := z'.2 4 1 (by unfold pz_QF; first | decide | omega)
  have e : ∀ b j, ¬ pq_Pf b j → ¬ pz_QF b j → M2 b j = M b j := fun b j y y2 => (z'.2 b j y2).trans (z.2 b j y)
  have r2 : pz_RS M2 := pz_RS_cg hR.1 (fun b j y _ => e b j (by unfold pz_rsc at y; unfold pq_Pf; omega) (by unfold pz_rsc at y; unfold pz_QF; omega)) (Or.inl (e 3 2 (by unfold pq_Pf; first | decide | omega) (by unfold pz_QF; first | decide | omega)))
  obtain ⟨-, ⟨t1, t2⟩, f1, f2⟩ := id hR
  rcases h with ⟨b1, b2, b3, b4, b5⟩ | ⟨b1, b2, b3⟩
  · rcases h' with ⟨c1, c2, c3, c4, c5⟩ | ⟨c1, c2, c3⟩
    · refine ⟨by omega, r2, ⟨by omega, fun k hk => ?_⟩, ?_, ?_⟩
      · rw [z'.2 48 k (by unfold pz_QF; first | decide | omega)]
        rcases Int.lt_or_le (k : Int) (M 4 1) with y | y
        · rw [b4 k y, c4 k (by first | decide | omega), z.2 67 k (by unfold pq_Pf; first | decide | omega)]
          exact t2 k y
        · have w1 := b5 (k - (M 4 1).toNat) (by first | decide | omega)
          have w2 := c5 (k - (M 4 1).toNat) (by first | decide | omega)
          rw [show (M 4 1).toNat + (k - (M 4 1).toNat) = k by omega] at w1
          rw [show (M1 1 16).toNat + (k - (M 4 1).toNat) = k by omega] at w2
          have w3 := pz_by8 (pz_sr (pz_sel (k - (M 4 1).toNat) p q w s u) (24 - 8 * (((k - (M 4 1).toNat) % 4 : Nat) : Int)))
          rw [w1, w2]
          exact ⟨⟨w3.1, w3.2.1⟩, w3.2.2⟩
      · rw [e 5 3 (by unfold pq_Pf; first | decide | omega) (by unfold pz_QF; first | decide | omega), e 1 23 (by unfold pq_Pf; first | decide | omega) (by unfold pz_QF; first | decide | omega)]
        exact f1
      · rw [e 5 4 (by unfold pq_Pf; first | decide | omega) (by unfold pz_QF; first | decide | omega), e 1 25 (by unfold pq_Pf; first | decide | omega) (by unfold pz_QF; first | decide | omega)]
        exact f2
    · omega
  · rcases h' with ⟨c1, c2, c3, c4, c5⟩ | ⟨c1, c2, c3⟩
    · omega
    · rw [c3, b3]
      exact ⟨by omega, hR⟩
theorem pz_agr_c {c : Nat} {T X T1 X1 T2 X2 : Nat → Int} (h : pz_agr c T X T1 X1) (h' : pz_agr c T X T2 X2) : pz_agr c T1 X1 T2 X2 :=
  ⟨((h.2 c (Nat.le_refl _)).1).trans h.1, fun k hk => ⟨((h'.2 k hk).1).trans ((h.2 k hk).1).symm, fun t => by
    have t1 : T k = 100 := ((h.2 k hk).1).symm.trans t
    rw [(h'.2 k hk).2 t1, (h.2 k hk).2 t1]⟩⟩
theorem pz_TP_byt {M : pz_M} (hI : pz_ic M) (h : pz_TP M) : pz_byt (M 48) (M 67) (M 4 1).toNat := by
  have i4 := hI.2.2.2.2.1
  exact fun k hk => ⟨(h.2 k (by first | decide | omega)).1.1, (h.2 k (by first | decide | omega)).1.2, (h.2 k (by first | decide | omega)).2⟩
/-- what both have told -/
def pz_cmr (k : Int) (M M1 M2 : pz_M) : Prop := (∃ ls : List pz_lne, k = 0 ∧ (∃ T X : Nat → Int, pz_gl T X 0 0 (.ok ls)) ∧ pq_lt ls M1 ∧ (∀ b j : Nat, (13 ≤ b ∧ b ≤ 15) ∨ (20 ≤ b ∧ b ≤ 22) → M1 b j = M b j) ∧ pq_wlw ls (M2 60) ∧ ∀ j : Nat, ¬ pq_wf 0 j → M2 60 j = M1 60 j) ∨
  (∃ ls : List (List Int), (1 ≤ k ∧ k ≤ 3) ∧ pq_ok (M 71 3) k ls ∧ pq_rt k.toNat ls M1 ∧ (∀ b j : Nat, pq_xc b → b ≠ 12 + k.toNat → b ≠ 19 + k.toNat → M1 b j = M b j) ∧ pq_w3 k ls (M2 60) ∧ ∀ j : Nat, ¬ pq_wf k j → M2 60 j = M1 60 j) ∨ ((∀ b j : Nat, pq_xc b → M1 b j = M b j) ∧ ∀ j : Nat, M2 60 j = M1 60 j)
theorem pz_RT_cmp {M M1 M2 : pz_M} {k v v' : Int} (hI : pz_ic M) (hR : pz_RV M) (h : pq_te k (M 71 3) M M1 v) (z : pq_pr pq_Pt M M1) (h' : pq_tx k M1 M2 v') : v = v' ∧ M1 5 3 = M2 1 23 ∧ M1 5 4 = M2 1 25 ∧ pz_cmr k M M1 M2 := by
  have i4 := hI.2.2.2.2.1
  have by9 := pz_TP_byt hI hR.2.1
  have e67 : M1 67 = M 67 := funext fun j => z.2 67 j (by unfold pq_Pt; first | decide | omega)
  have e16 : M1 1 16 = M 4 1 := (z.2 1 16 (by unfold pq_Pt; first | decide | omega)).trans hR.2.1.1.symm
  have e88 : M1 60 88 = M 71 3 := (z.2 60 88 (by unfold pq_Pt; first | decide | omega)).trans hR.1.1.symm
  have tT : pq_TM M1 = pz_T (M 67) (M 4 1).toNat := by
    unfold pq_TM
    rw [e67, e16]
  have tX : pq_XM M1 = pz_XV (M 67) (M 4 1).toNat := by
    unfold pq_XM
    rw [e67, e16]
  have tP : ∀ j, pq_PM M1 j = (pz_tp (M 48) (M 4 1).toNat j : Int) := fun j => by
    unfold pq_PM
    rw [e67, e16, pz_tp_cg by9 j]
  have tb : pz_tb M1 := fun i hi => by
    rw [e67, (hR.2.1.2 i (by rw [← e16]; exact hi)).2]
    exact Int.emod_nonneg _ (by decide)
  have ag : ∀ c, pz_T (M 48) (M 4 1).toNat c = 101 → pz_agr c (pz_T (M 48) (M 4 1).toNat) (pz_XV (M 48) (M 4 1).toNat) (pq_TM M1) (pq_XM M1) := fun c hc => ⟨hc, fun i _ => by
    rw [tT, tX]
    exact ⟨(pz_T_cg by9 i).symm, fun y => (pz_X_cg by9 y).symm⟩⟩
  obtain ⟨x1, x2, x3⟩ := h' tb
  obtain ⟨h1, h2, h3⟩ := h
  by_cases k0 : k = 0
  · obtain ⟨c, T, X, a, b⟩ := h1 k0
    have A := pz_agr_c a (ag c a.1)
    rcases b with ⟨ls, b1, b2, b3, b4, b5, b6⟩ | ⟨f, j, b1, b2, b3, b4, b5⟩
    · have D := pz_gl_det A b1 (Nat.zero_le _)
      rcases x1 k0 with ⟨ls', y1, y2, y3, y4, y5, y6⟩ | ⟨f', j', y1, y2, y3, y4, -⟩
      · have d := Sum.inl.inj (D _ y1)
        subst d
        subst k0
        exact ⟨by omega, by omega, by omega, Or.inl ⟨_, rfl, ⟨_, _, b1⟩, b5, b6, y5, y6⟩⟩
      · have d := D _ y1
        cases d
    · have D := pz_gl_det A b1 (Nat.zero_le _)
      rcases x1 k0 with ⟨ls', y1, y2, y3, y4, -⟩ | ⟨f', j', y1, y2, y3, y4, y5⟩
      · have d := D _ y1
        cases d
      · obtain ⟨d, d2⟩ := Prod.mk.inj (Sum.inr.inj (D _ y1))
        subst d
        subst d2
        rw [tP] at y4
        exact ⟨by omega, by omega, by omega, Or.inr (Or.inr ⟨b5, y5⟩)⟩
  · by_cases k3 : 1 ≤ k ∧ k ≤ 3
    · obtain ⟨c, T, X, a, b⟩ := h2 k3
      have A := pz_agr_c a (ag c a.1)
      have D := pz_gw_det (k := k) (n := M 71 3) A 16 0 (Nat.zero_le _)
      rw [← e88] at D
      rcases b with ⟨ls, b1, b2, b0, b3, b4, b5, b6⟩ | ⟨f, j, b1, b2, b3, b4, b5⟩
      · have ok := pq_ok_of k3 b1
        rw [← e88] at b1
        rw [b1] at D
        rcases x2 k3 with ⟨ls', y1, y2, y3, y4, y5, y6⟩ | ⟨f', j', y1, y2, y3, y4, -⟩
        · rw [y1] at D
          have d := Sum.inl.inj D
          subst d
          exact ⟨by omega, by omega, by omega, Or.inr (Or.inl ⟨_, k3, ok, b5, b6, y5, y6⟩)⟩
        · rw [y1] at D
          cases D
      · rw [← e88] at b1
        rw [b1] at D
        rcases x2 k3 with ⟨ls', y1, y2, y3, y4, -⟩ | ⟨f', j', y1, y2, y3, y4, y5⟩
        · rw [y1] at D
          cases D
        · rw [y1] at D
          obtain ⟨d, d2⟩ := Prod.mk.inj (Sum.inr.inj D)
          subst d
          subst d2
          rw [tP] at y4
          exact ⟨by omega, by omega, by omega, Or.inr (Or.inr ⟨b5, y5⟩)⟩
    · have b := h3 (by first | decide | omega)
      have y := x3 (by first | decide | omega)
      exact ⟨b.1.trans y.1.symm, b.2.1.trans y.2.1.symm, b.2.2.1.trans y.2.2.1.symm, Or.inr (Or.inr ⟨b.2.2.2, y.2.2.2⟩)⟩
theorem pz_RT_text {M M1 M2 : pz_M} {k v v' : Int} (hI : pz_ic M) (hR : pz_RV M) (h : pq_te k (M 71 3) M M1 v ∧ M1 4 1 = 0 ∧ (∀ j : Nat, j ≠ 2 → M1 3 j = M 3 j) ∧ (M1 3 2 = M 3 2 ∨ M1 3 2 = 0)) (z : pq_pr pq_Pt M M1) (h' : pq_tx k M1 M2 v' ∧ M2 1 16 = 0) (z' : pz_rl pz_QT M1 M2) : v = v' ∧ pz_RV M2 := by
  obtain ⟨a1, a2, a3, -⟩ := pz_RT_cmp hI hR h.1 z h'.1
  have k2 : M2 3 2 = M1 3 2 := z'.2 3 2 (by unfold pz_QT; first | decide | omega)
  have r2 : pz_RS M2 := pz_RS_cg hR.1 (fun b j y y2 => (z'.2 b j (by unfold pz_rsc at y; unfold pz_QT; omega)).trans (z.2 b j (by unfold pz_rsc at y; unfold pq_Pt; omega))) (by rw [k2]; exact h.2.2.2)
  have f4 : M2 4 1 = M1 4 1 := z'.2 4 1 (by unfold pz_QT; first | decide | omega)
  have f53 : M2 5 3 = M1 5 3 := z'.2 5 3 (by unfold pz_QT; first | decide | omega)
  have f54 : M2 5 4 = M1 5 4 := z'.2 5 4 (by unfold pz_QT; first | decide | omega)
  have h41 := h.2.1
  have h16 := h'.2
  exact ⟨a1, r2, ⟨by omega, fun i hi => absurd hi (by first | decide | omega)⟩, by omega, by omega⟩
theorem pz_RT_fault {M : pz_M} {i v v' : Int} (hR : pz_RV M) (h : (i = 0 → v = M 5 3) ∧ (i = 1 → v = M 5 4) ∧ (¬ (i = 0 ∨ i = 1) → v = -1)) (h' : (i = 0 → v' = M 1 23) ∧ (i = 1 → v' = M 1 25) ∧ (¬ (i = 0 ∨ i = 1) → v' = -1)) : v = v' := by
  obtain ⟨f1, f2⟩ := hR.2.2
  omega
end
