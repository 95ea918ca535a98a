section
noncomputable def k3_X12_does : pz_C := (2, 0, fun a M => (match a with | [.inr (.inr (12, th)), .inl i] => pz_im M ∧ 0 ≤ i ∧ i < 1000 | _ => False), fun a M r M' => (match a, r with | [.inr (.inr (12, th)), .inl i], none => (∀ (ls : List pz_lne) (l1 : List (List Int)) (r : Nat), sd_tm (M 60) ls l1 → sd_wf (M 60) → r < l1.length → i = 129 + 5 * (r : Int) → M' 60 = sd_doe (sd_Tr M) ls (M 60) (l1.getD r [])) ∧ pz_rl pz_QD M M' | _, _ => False))
noncomputable abbrev ct3_X12_does : List (Bool × Nat × pz_C) := [(true, 327, k3_X12_canAsk), (true, 333, k3_X12_asks), (true, 336, k3_X12_canBridge), (true, 339, k3_X12_bridges0), (true, 343, k3_X12_canPay0), (true, 346, k3_X12_pays), (true, 349, k3_X12_canPaper), (true, 352, k3_X12_getsReady)]
set_option maxRecDepth 100000 in
set_option maxHeartbeats 4000000 in
theorem h3_X12_does : pz_H yX12_does cX12_does 3 none k3_X12_does 6 140 := by
  refine pz_mk (own := RX12) (tb := t_X12_does) (fl := pz_flf fl_RX12) (ci := pz_cif ci_RX12) (ct := pz_ctf ct3_X12_does) (rz := false) (pz_pfc_RX12 yX12_does rfl) rfl t_X12_does_ok (pz_flk fl_RX12_ok) (pz_cik ci_RX12_ok) ?_ ?_ (rfl) ?_ ?_
  · exact fun i k' h => pz_ctk (l := ct3_X12_does) (P := fun b i k => b = true → pz_cV 6 140 RX12 i k) (List.forall_mem_cons.mpr ⟨(fun _ => v3_X12_canAsk (by decide) (by decide) pz_wq1411), List.forall_mem_cons.mpr ⟨(fun _ => v3_X12_asks (by decide) (by decide) pz_wq1431), List.forall_mem_cons.mpr ⟨(fun _ => v3_X12_canBridge (by decide) (by decide) pz_wq1491), List.forall_mem_cons.mpr ⟨(fun _ => v3_X12_bridges0 (by decide) (by decide) pz_wq1495), List.forall_mem_cons.mpr ⟨(fun _ => v3_X12_canPay0 (by decide) (by decide) pz_wq1503), List.forall_mem_cons.mpr ⟨(fun _ => v3_X12_pays (by decide) (by decide) pz_wq1507), List.forall_mem_cons.mpr ⟨(fun _ => v3_X12_canPaper (by decide) (by decide) pz_wq1515), List.forall_mem_cons.mpr ⟨(fun _ => v3_X12_getsReady (by decide) (by decide) pz_wq1519), fun _ h => absurd h List.not_mem_nil⟩⟩⟩⟩⟩⟩⟩⟩) true i k' h rfl
  · exact fun i k' h => pz_ctk (l := ct3_X12_does) (P := fun b i k => b = false → (pz_cS 6 140 RX12 i k ∨ (k = pz_kac ∧ 1 ≤ 6 ∧ 60 ≤ 140 ∧ Cond.methodLink RX12 i arraycopyName ∈ pz_tbl))) (List.forall_mem_cons.mpr ⟨((fun z => by cases z)), List.forall_mem_cons.mpr ⟨((fun z => by cases z)), List.forall_mem_cons.mpr ⟨((fun z => by cases z)), List.forall_mem_cons.mpr ⟨((fun z => by cases z)), List.forall_mem_cons.mpr ⟨((fun z => by cases z)), List.forall_mem_cons.mpr ⟨((fun z => by cases z)), List.forall_mem_cons.mpr ⟨((fun z => by cases z)), List.forall_mem_cons.mpr ⟨((fun z => by cases z)), fun _ h => absurd h List.not_mem_nil⟩⟩⟩⟩⟩⟩⟩⟩) false i k' h rfl
  · intro a M hlen hpre
    obtain ⟨th, i, rfl, hpre⟩ : ∃ th i, a = [.inr (.inr (12, th)), .inl i] ∧ (pz_im M ∧ 0 ≤ i ∧ i < 1000) := by
      have hpre : (match (generalizing := false) a with | [.inr (.inr (12, th)), .inl i] => pz_im M ∧ 0 ≤ i ∧ i < 1000 | _ => False) := hpre
      split at hpre
      · exact ⟨_, _, rfl, hpre⟩
      · exact hpre.elim
    exact Nat.le_of_ble_eq_true rfl
  · intro a M hlen hcan hM hpre Ok hgo
    obtain ⟨th, i, rfl, hpre⟩ : ∃ th i, a = [.inr (.inr (12, th)), .inl i] ∧ (pz_im M ∧ 0 ≤ i ∧ i < 1000) := by
      have hpre : (match (generalizing := false) a with | [.inr (.inr (12, th)), .inl i] => pz_im M ∧ 0 ≤ i ∧ i < 1000 | _ => False) := hpre
      split at hpre
      · exact ⟨_, _, rfl, hpre⟩
      · exact hpre.elim
    obtain ⟨k_th, hc_th⟩ := pz_tlm hcan
    have k_th : pz_kd th = 12 ∧ th < 231 := k_th
    have R_th := pz_kd12 k_th.1
    subst R_th
    clear k_th
    obtain ⟨k_i, hc_i⟩ := pz_tlm hc_th
    have l_i : -2147483648 ≤ i := k_i.1
    have u_i : i ≤ 2147483647 := k_i.2
    have hI : pz_im M := hpre.1
    have hI0 := hI
    have hS : pz_rl pz_QD M M := pz_rl.rf
    have I88 := hI.1.1
    refine hgo (fun _ => false) 79 0 _ [] M ?_
    refine pz_nrc (c := 60) rfl ?_
    intro v6 e6 a6 b6
    rw [pz_wi (by omega) (by omega)] at e6
    clear a6 b6
    have lo7 : (0 : Int) ≤ v6 := by omega
    have tn7 : (((v6).toNat : Nat) : Int) = v6 := Int.toNat_of_nonneg lo7
    refine And.intro (lo7) (And.intro (show _ < (1725 : Int) from by omega) ?_)
    intro v7 e7 a7 b7
    refine pz_nrc (c := 60) rfl ?_
    intro v15 e15 a15 b15
    rw [pz_wi (by omega) (by omega)] at e15
    clear a15 b15
    have lo16 : (0 : Int) ≤ v15 := by omega
    have tn16 : (((v15).toNat : Nat) : Int) = v15 := Int.toNat_of_nonneg lo16
    refine And.intro (lo16) (And.intro (show _ < (1725 : Int) from by omega) ?_)
    intro v16 e16 a16 b16
    refine And.intro ?_ ?_
    · skip
      refine And.intro (fun h17 => ?_) ?_
      · skip
        refine And.intro (hI) ?_
        intro v46 M46 a46 b46 q46
        obtain ⟨q46, z46⟩ := q46
        subst z46
        clear a46 b46
        refine And.intro (fun h49 => ?_) (fun h49 => ?_)
        · skip
          replace q46 := q46.resolve_left (fun z => absurd (z.1.symm.trans h49) (by decide))
          refine And.intro rfl ?_
          refine ⟨fun ls l1 r hT hW hr hi => ?_, hS⟩
          have l16 := hT.2.2.2.choose_spec.1
          obtain ⟨R0, R1, R2, R3, R4, R5⟩ := sd_rowm hT hr
          have C7 : v7 = (l1.getD r []).getD 2 0 := by
            rw [e7, sd_wpc (c := 2) hT hr (by decide) (by omega), if_neg (by decide)]
            omega
          have C16 : v16 = (l1.getD r []).getD 1 0 - 10 := by
            rw [e16, sd_wpc (c := 1) hT hr (by decide) (by omega), if_pos rfl]
          have P7 : ∀ o : Nat, (o + v7).toNat = o + v7.toNat := fun o => by omega
          unfold sd_doe
          rw [← C7]
          rw [← C7] at R2
          have Q52 : (52 + v7).toNat = 52 + v7.toNat := by omega
          have Q76 : (76 + v7).toNat = 76 + v7.toNat := by omega
          have Q40 : (40 + v7).toNat = 40 + v7.toNat := by omega
          have Q64 : (64 + v7).toNat = 64 + v7.toNat := by omega
          first
            | (have C61 : v61 = (l1.getD r []).getD 4 0 := by
                 rw [e61, sd_wpc (c := 4) hT hr (by decide) (by omega), if_neg (by decide)]
                 omega
               rw [if_pos (by omega), ← C61]
               have a : sd_ca (M 60) v7.toNat := by
                 rw [show (52 + (v7 + 1)).toNat = 52 + (v7.toNat + 1) by omega, show (76 + (v7 + 1)).toNat = 76 + (v7.toNat + 1) by omega] at q46
                 unfold sd_ca sd_in
                 omega
               rw [if_pos a]
               exact (q62 ls hT.1 hT.2.1 hW (by omega) ⟨by rw [C61]; exact R5 (Or.inl (by omega)), by rw [C61]; exact R4.2⟩).2)
            | (rw [if_pos (by omega)]
               have a : ¬ sd_ca (M 60) v7.toNat := fun y => by
                 rw [show (52 + (v7 + 1)).toNat = 52 + (v7.toNat + 1) by omega, show (76 + (v7 + 1)).toNat = 76 + (v7.toNat + 1) by omega] at q46
                 unfold sd_ca sd_in at y
                 omega
               rw [if_neg a])
            | (rw [if_neg (by omega), if_pos (by omega)]
               rw [Q52, Q76, Q64] at q71
               first
                 | (rw [if_pos (show sd_cb (M 60) v7.toNat by unfold sd_cb sd_in; omega)]
                    exact q79)
                 | rw [if_neg (show ¬ sd_cb (M 60) v7.toNat from fun y => by unfold sd_cb sd_in at y; omega)])
            | (have C94 : v94 = (l1.getD r []).getD 3 0 := by
                 rw [e94, sd_wpc (c := 3) hT hr (by decide) (by omega), if_neg (by decide)]
                 omega
               have C102 : v102 = (l1.getD r []).getD 4 0 := by
                 rw [e102, sd_wpc (c := 4) hT hr (by decide) (by omega), if_neg (by decide)]
                 omega
               rw [if_neg (by omega), if_neg (by omega), if_pos (by omega), ← C94, ← C102]
               rw [← C94] at R3
               rw [show (16 + v7).toNat = 16 + v7.toNat by omega, show (16 + v94).toNat = 16 + v94.toNat by omega] at q103
               first
                 | (have C118 : v118 = v94 := by
                      rw [e118, e94]
                    have C126 : v126 = v102 := by
                      rw [e126, e102]
                      congr 2
                      omega
                    rw [C118, C126] at q127
                    have a : sd_c0 (M 60) v7.toNat v94.toNat v102 := by
                      unfold sd_c0
                      omega
                    rw [if_pos a]
                    exact q127 hW a ⟨by rw [C102]; exact R5 (Or.inr (by omega)), by rw [C102]; exact R4.2⟩)
                 | rw [if_neg (show ¬ sd_c0 (M 60) v7.toNat v94.toNat v102 from fun y => by unfold sd_c0 at y; omega)])
            | (rw [if_neg (by omega), if_neg (by omega), if_neg (by omega)]
               rw [Q52, Q76, Q40] at q135
               first
                 | (rw [if_pos (show sd_cp (M 60) v7.toNat by unfold sd_cp sd_in; omega)]
                    exact q143)
                 | rw [if_neg (show ¬ sd_cp (M 60) v7.toNat from fun y => by unfold sd_cp sd_in at y; omega)])
        · skip
          replace q46 := q46.resolve_right (fun z => h49 z.1)
          refine pz_nrc (c := 60) rfl ?_
          intro v60 e60 a60 b60
          rw [pz_wi (by omega) (by omega)] at e60
          clear a60 b60
          have lo61 : (0 : Int) ≤ v60 := by omega
          have tn61 : (((v60).toNat : Nat) : Int) = v60 := Int.toNat_of_nonneg lo61
          refine And.intro (lo61) (And.intro (show _ < (1725 : Int) from by omega) ?_)
          intro v61 e61 a61 b61
          refine And.intro (And.intro hI (And.intro (by omega) (by omega))) ?_
          intro v62 M62 a62 b62 q62
          obtain ⟨q62, z62⟩ := q62
          have hS : pz_rl pz_QD M M62 := hS.tr z62
          have hI : pz_im M62 := hS.1 hI0
          refine And.intro rfl ?_
          refine ⟨fun ls l1 r hT hW hr hi => ?_, hS⟩
          have l16 := hT.2.2.2.choose_spec.1
          obtain ⟨R0, R1, R2, R3, R4, R5⟩ := sd_rowm hT hr
          have C7 : v7 = (l1.getD r []).getD 2 0 := by
            rw [e7, sd_wpc (c := 2) hT hr (by decide) (by omega), if_neg (by decide)]
            omega
          have C16 : v16 = (l1.getD r []).getD 1 0 - 10 := by
            rw [e16, sd_wpc (c := 1) hT hr (by decide) (by omega), if_pos rfl]
          have P7 : ∀ o : Nat, (o + v7).toNat = o + v7.toNat := fun o => by omega
          unfold sd_doe
          rw [← C7]
          rw [← C7] at R2
          have Q52 : (52 + v7).toNat = 52 + v7.toNat := by omega
          have Q76 : (76 + v7).toNat = 76 + v7.toNat := by omega
          have Q40 : (40 + v7).toNat = 40 + v7.toNat := by omega
          have Q64 : (64 + v7).toNat = 64 + v7.toNat := by omega
          first
            | (have C61 : v61 = (l1.getD r []).getD 4 0 := by
                 rw [e61, sd_wpc (c := 4) hT hr (by decide) (by omega), if_neg (by decide)]
                 omega
               rw [if_pos (by omega), ← C61]
               have a : sd_ca (M 60) v7.toNat := by
                 rw [show (52 + (v7 + 1)).toNat = 52 + (v7.toNat + 1) by omega, show (76 + (v7 + 1)).toNat = 76 + (v7.toNat + 1) by omega] at q46
                 unfold sd_ca sd_in
                 omega
               rw [if_pos a]
               exact (q62 ls hT.1 hT.2.1 hW (by omega) ⟨by rw [C61]; exact R5 (Or.inl (by omega)), by rw [C61]; exact R4.2⟩).2)
            | (rw [if_pos (by omega)]
               have a : ¬ sd_ca (M 60) v7.toNat := fun y => by
                 rw [show (52 + (v7 + 1)).toNat = 52 + (v7.toNat + 1) by omega, show (76 + (v7 + 1)).toNat = 76 + (v7.toNat + 1) by omega] at q46
                 unfold sd_ca sd_in at y
                 omega
               rw [if_neg a])
            | (rw [if_neg (by omega), if_pos (by omega)]
               rw [Q52, Q76, Q64] at q71
               first
                 | (rw [if_pos (show sd_cb (M 60) v7.toNat by unfold sd_cb sd_in; omega)]
                    exact q79)
                 | rw [if_neg (show ¬ sd_cb (M 60) v7.toNat from fun y => by unfold sd_cb sd_in at y; omega)])
            | (have C94 : v94 = (l1.getD r []).getD 3 0 := by
                 rw [e94, sd_wpc (c := 3) hT hr (by decide) (by omega), if_neg (by decide)]
                 omega
               have C102 : v102 = (l1.getD r []).getD 4 0 := by
                 rw [e102, sd_wpc (c := 4) hT hr (by decide) (by omega), if_neg (by decide)]
                 omega
               rw [if_neg (by omega), if_neg (by omega), if_pos (by omega), ← C94, ← C102]
               rw [← C94] at R3
               rw [show (16 + v7).toNat = 16 + v7.toNat by omega, show (16 + v94).toNat = 16 + v94.toNat by omega] at q103
               first
                 | (have C118 : v118 = v94 := by
                      rw [e118, e94]
                    have C126 : v126 = v102 := by
                      rw [e126, e102]
                      congr 2
                      omega
                    rw [C118, C126] at q127
                    have a : sd_c0 (M 60) v7.toNat v94.toNat v102 := by
                      unfold sd_c0
                      omega
                    rw [if_pos a]
                    exact q127 hW a ⟨by rw [C102]; exact R5 (Or.inr (by omega)), by rw [C102]; exact R4.2⟩)
                 | rw [if_neg (show ¬ sd_c0 (M 60) v7.toNat v94.toNat v102 from fun y => by unfold sd_c0 at y; omega)])
            | (rw [if_neg (by omega), if_neg (by omega), if_neg (by omega)]
               rw [Q52, Q76, Q40] at q135
               first
                 | (rw [if_pos (show sd_cp (M 60) v7.toNat by unfold sd_cp sd_in; omega)]
                    exact q143)
                 | rw [if_neg (show ¬ sd_cp (M 60) v7.toNat from fun y => by unfold sd_cp sd_in at y; omega)])
      refine And.intro (fun h17 => ?_) ?_
      · skip
        refine And.intro (hI) ?_
        intro v71 M71 a71 b71 q71
        obtain ⟨q71, z71⟩ := q71
        subst z71
        clear a71 b71
        refine And.intro (fun h74 => ?_) (fun h74 => ?_)
        · skip
          replace q71 := q71.resolve_left (fun z => absurd (z.1.symm.trans h74) (by decide))
          refine And.intro rfl ?_
          refine ⟨fun ls l1 r hT hW hr hi => ?_, hS⟩
          have l16 := hT.2.2.2.choose_spec.1
          obtain ⟨R0, R1, R2, R3, R4, R5⟩ := sd_rowm hT hr
          have C7 : v7 = (l1.getD r []).getD 2 0 := by
            rw [e7, sd_wpc (c := 2) hT hr (by decide) (by omega), if_neg (by decide)]
            omega
          have C16 : v16 = (l1.getD r []).getD 1 0 - 10 := by
            rw [e16, sd_wpc (c := 1) hT hr (by decide) (by omega), if_pos rfl]
          have P7 : ∀ o : Nat, (o + v7).toNat = o + v7.toNat := fun o => by omega
          unfold sd_doe
          rw [← C7]
          rw [← C7] at R2
          have Q52 : (52 + v7).toNat = 52 + v7.toNat := by omega
          have Q76 : (76 + v7).toNat = 76 + v7.toNat := by omega
          have Q40 : (40 + v7).toNat = 40 + v7.toNat := by omega
          have Q64 : (64 + v7).toNat = 64 + v7.toNat := by omega
          first
            | (have C61 : v61 = (l1.getD r []).getD 4 0 := by
                 rw [e61, sd_wpc (c := 4) hT hr (by decide) (by omega), if_neg (by decide)]
                 omega
               rw [if_pos (by omega), ← C61]
               have a : sd_ca (M 60) v7.toNat := by
                 rw [show (52 + (v7 + 1)).toNat = 52 + (v7.toNat + 1) by omega, show (76 + (v7 + 1)).toNat = 76 + (v7.toNat + 1) by omega] at q46
                 unfold sd_ca sd_in
                 omega
               rw [if_pos a]
               exact (q62 ls hT.1 hT.2.1 hW (by omega) ⟨by rw [C61]; exact R5 (Or.inl (by omega)), by rw [C61]; exact R4.2⟩).2)
            | (rw [if_pos (by omega)]
               have a : ¬ sd_ca (M 60) v7.toNat := fun y => by
                 rw [show (52 + (v7 + 1)).toNat = 52 + (v7.toNat + 1) by omega, show (76 + (v7 + 1)).toNat = 76 + (v7.toNat + 1) by omega] at q46
                 unfold sd_ca sd_in at y
                 omega
               rw [if_neg a])
            | (rw [if_neg (by omega), if_pos (by omega)]
               rw [Q52, Q76, Q64] at q71
               first
                 | (rw [if_pos (show sd_cb (M 60) v7.toNat by unfold sd_cb sd_in; omega)]
                    exact q79)
                 | rw [if_neg (show ¬ sd_cb (M 60) v7.toNat from fun y => by unfold sd_cb sd_in at y; omega)])
            | (have C94 : v94 = (l1.getD r []).getD 3 0 := by
                 rw [e94, sd_wpc (c := 3) hT hr (by decide) (by omega), if_neg (by decide)]
                 omega
               have C102 : v102 = (l1.getD r []).getD 4 0 := by
                 rw [e102, sd_wpc (c := 4) hT hr (by decide) (by omega), if_neg (by decide)]
                 omega
               rw [if_neg (by omega), if_neg (by omega), if_pos (by omega), ← C94, ← C102]
               rw [← C94] at R3
               rw [show (16 + v7).toNat = 16 + v7.toNat by omega, show (16 + v94).toNat = 16 + v94.toNat by omega] at q103
               first
                 | (have C118 : v118 = v94 := by
                      rw [e118, e94]
                    have C126 : v126 = v102 := by
                      rw [e126, e102]
                      congr 2
                      omega
                    rw [C118, C126] at q127
                    have a : sd_c0 (M 60) v7.toNat v94.toNat v102 := by
                      unfold sd_c0
                      omega
                    rw [if_pos a]
                    exact q127 hW a ⟨by rw [C102]; exact R5 (Or.inr (by omega)), by rw [C102]; exact R4.2⟩)
                 | rw [if_neg (show ¬ sd_c0 (M 60) v7.toNat v94.toNat v102 from fun y => by unfold sd_c0 at y; omega)])
            | (rw [if_neg (by omega), if_neg (by omega), if_neg (by omega)]
               rw [Q52, Q76, Q40] at q135
               first
                 | (rw [if_pos (show sd_cp (M 60) v7.toNat by unfold sd_cp sd_in; omega)]
                    exact q143)
                 | rw [if_neg (show ¬ sd_cp (M 60) v7.toNat from fun y => by unfold sd_cp sd_in at y; omega)])
        · skip
          replace q71 := q71.resolve_right (fun z => h74 z.1)
          refine And.intro (And.intro hI (And.intro (by omega) (by omega))) ?_
          intro M79 q79
          obtain ⟨q79, z79⟩ := q79
          have hS : pz_rl pz_QD M M79 := hS.tr z79
          have hI : pz_im M79 := hS.1 hI0
          refine And.intro rfl ?_
          refine ⟨fun ls l1 r hT hW hr hi => ?_, hS⟩
          have l16 := hT.2.2.2.choose_spec.1
          obtain ⟨R0, R1, R2, R3, R4, R5⟩ := sd_rowm hT hr
          have C7 : v7 = (l1.getD r []).getD 2 0 := by
            rw [e7, sd_wpc (c := 2) hT hr (by decide) (by omega), if_neg (by decide)]
            omega
          have C16 : v16 = (l1.getD r []).getD 1 0 - 10 := by
            rw [e16, sd_wpc (c := 1) hT hr (by decide) (by omega), if_pos rfl]
          have P7 : ∀ o : Nat, (o + v7).toNat = o + v7.toNat := fun o => by omega
          unfold sd_doe
          rw [← C7]
          rw [← C7] at R2
          have Q52 : (52 + v7).toNat = 52 + v7.toNat := by omega
          have Q76 : (76 + v7).toNat = 76 + v7.toNat := by omega
          have Q40 : (40 + v7).toNat = 40 + v7.toNat := by omega
          have Q64 : (64 + v7).toNat = 64 + v7.toNat := by omega
          first
            | (have C61 : v61 = (l1.getD r []).getD 4 0 := by
                 rw [e61, sd_wpc (c := 4) hT hr (by decide) (by omega), if_neg (by decide)]
                 omega
               rw [if_pos (by omega), ← C61]
               have a : sd_ca (M 60) v7.toNat := by
                 rw [show (52 + (v7 + 1)).toNat = 52 + (v7.toNat + 1) by omega, show (76 + (v7 + 1)).toNat = 76 + (v7.toNat + 1) by omega] at q46
                 unfold sd_ca sd_in
                 omega
               rw [if_pos a]
               exact (q62 ls hT.1 hT.2.1 hW (by omega) ⟨by rw [C61]; exact R5 (Or.inl (by omega)), by rw [C61]; exact R4.2⟩).2)
            | (rw [if_pos (by omega)]
               have a : ¬ sd_ca (M 60) v7.toNat := fun y => by
                 rw [show (52 + (v7 + 1)).toNat = 52 + (v7.toNat + 1) by omega, show (76 + (v7 + 1)).toNat = 76 + (v7.toNat + 1) by omega] at q46
                 unfold sd_ca sd_in at y
                 omega
               rw [if_neg a])
            | (rw [if_neg (by omega), if_pos (by omega)]
               rw [Q52, Q76, Q64] at q71
               first
                 | (rw [if_pos (show sd_cb (M 60) v7.toNat by unfold sd_cb sd_in; omega)]
                    exact q79)
                 | rw [if_neg (show ¬ sd_cb (M 60) v7.toNat from fun y => by unfold sd_cb sd_in at y; omega)])
            | (have C94 : v94 = (l1.getD r []).getD 3 0 := by
                 rw [e94, sd_wpc (c := 3) hT hr (by decide) (by omega), if_neg (by decide)]
                 omega
               have C102 : v102 = (l1.getD r []).getD 4 0 := by
                 rw [e102, sd_wpc (c := 4) hT hr (by decide) (by omega), if_neg (by decide)]
                 omega
               rw [if_neg (by omega), if_neg (by omega), if_pos (by omega), ← C94, ← C102]
               rw [← C94] at R3
               rw [show (16 + v7).toNat = 16 + v7.toNat by omega, show (16 + v94).toNat = 16 + v94.toNat by omega] at q103
               first
                 | (have C118 : v118 = v94 := by
                      rw [e118, e94]
                    have C126 : v126 = v102 := by
                      rw [e126, e102]
                      congr 2
                      omega
                    rw [C118, C126] at q127
                    have a : sd_c0 (M 60) v7.toNat v94.toNat v102 := by
                      unfold sd_c0
                      omega
                    rw [if_pos a]
                    exact q127 hW a ⟨by rw [C102]; exact R5 (Or.inr (by omega)), by rw [C102]; exact R4.2⟩)
                 | rw [if_neg (show ¬ sd_c0 (M 60) v7.toNat v94.toNat v102 from fun y => by unfold sd_c0 at y; omega)])
            | (rw [if_neg (by omega), if_neg (by omega), if_neg (by omega)]
               rw [Q52, Q76, Q40] at q135
               first
                 | (rw [if_pos (show sd_cp (M 60) v7.toNat by unfold sd_cp sd_in; omega)]
                    exact q143)
                 | rw [if_neg (show ¬ sd_cp (M 60) v7.toNat from fun y => by unfold sd_cp sd_in at y; omega)])
      refine And.intro (fun h17 => ?_) ?_
      · skip
        refine pz_nrc (c := 60) rfl ?_
        intro v93 e93 a93 b93
        rw [pz_wi (by omega) (by omega)] at e93
        clear a93 b93
        have lo94 : (0 : Int) ≤ v93 := by omega
        have tn94 : (((v93).toNat : Nat) : Int) = v93 := Int.toNat_of_nonneg lo94
        refine And.intro (lo94) (And.intro (show _ < (1725 : Int) from by omega) ?_)
        intro v94 e94 a94 b94
        refine pz_nrc (c := 60) rfl ?_
        intro v101 e101 a101 b101
        rw [pz_wi (by omega) (by omega)] at e101
        clear a101 b101
        have lo102 : (0 : Int) ≤ v101 := by omega
        have tn102 : (((v101).toNat : Nat) : Int) = v101 := Int.toNat_of_nonneg lo102
        refine And.intro (lo102) (And.intro (show _ < (1725 : Int) from by omega) ?_)
        intro v102 e102 a102 b102
        refine And.intro (hI) ?_
        intro v103 M103 a103 b103 q103
        obtain ⟨q103, z103⟩ := q103
        subst z103
        clear a103 b103
        refine And.intro (fun h106 => ?_) (fun h106 => ?_)
        · skip
          replace q103 := q103.resolve_left (fun z => absurd (z.1.symm.trans h106) (by decide))
          refine And.intro rfl ?_
          refine ⟨fun ls l1 r hT hW hr hi => ?_, hS⟩
          have l16 := hT.2.2.2.choose_spec.1
          obtain ⟨R0, R1, R2, R3, R4, R5⟩ := sd_rowm hT hr
          have C7 : v7 = (l1.getD r []).getD 2 0 := by
            rw [e7, sd_wpc (c := 2) hT hr (by decide) (by omega), if_neg (by decide)]
            omega
          have C16 : v16 = (l1.getD r []).getD 1 0 - 10 := by
            rw [e16, sd_wpc (c := 1) hT hr (by decide) (by omega), if_pos rfl]
          have P7 : ∀ o : Nat, (o + v7).toNat = o + v7.toNat := fun o => by omega
          unfold sd_doe
          rw [← C7]
          rw [← C7] at R2
          have Q52 : (52 + v7).toNat = 52 + v7.toNat := by omega
          have Q76 : (76 + v7).toNat = 76 + v7.toNat := by omega
          have Q40 : (40 + v7).toNat = 40 + v7.toNat := by omega
          have Q64 : (64 + v7).toNat = 64 + v7.toNat := by omega
          first
            | (have C61 : v61 = (l1.getD r []).getD 4 0 := by
                 rw [e61, sd_wpc (c := 4) hT hr (by decide) (by omega), if_neg (by decide)]
                 omega
               rw [if_pos (by omega), ← C61]
               have a : sd_ca (M 60) v7.toNat := by
                 rw [show (52 + (v7 + 1)).toNat = 52 + (v7.toNat + 1) by omega, show (76 + (v7 + 1)).toNat = 76 + (v7.toNat + 1) by omega] at q46
                 unfold sd_ca sd_in
                 omega
               rw [if_pos a]
               exact (q62 ls hT.1 hT.2.1 hW (by omega) ⟨by rw [C61]; exact R5 (Or.inl (by omega)), by rw [C61]; exact R4.2⟩).2)
            | (rw [if_pos (by omega)]
               have a : ¬ sd_ca (M 60) v7.toNat := fun y => by
                 rw [show (52 + (v7 + 1)).toNat = 52 + (v7.toNat + 1) by omega, show (76 + (v7 + 1)).toNat = 76 + (v7.toNat + 1) by omega] at q46
                 unfold sd_ca sd_in at y
                 omega
               rw [if_neg a])
            | (rw [if_neg (by omega), if_pos (by omega)]
               rw [Q52, Q76, Q64] at q71
               first
                 | (rw [if_pos (show sd_cb (M 60) v7.toNat by unfold sd_cb sd_in; omega)]
                    exact q79)
                 | rw [if_neg (show ¬ sd_cb (M 60) v7.toNat from fun y => by unfold sd_cb sd_in at y; omega)])
            | (have C94 : v94 = (l1.getD r []).getD 3 0 := by
                 rw [e94, sd_wpc (c := 3) hT hr (by decide) (by omega), if_neg (by decide)]
                 omega
               have C102 : v102 = (l1.getD r []).getD 4 0 := by
                 rw [e102, sd_wpc (c := 4) hT hr (by decide) (by omega), if_neg (by decide)]
                 omega
               rw [if_neg (by omega), if_neg (by omega), if_pos (by omega), ← C94, ← C102]
               rw [← C94] at R3
               rw [show (16 + v7).toNat = 16 + v7.toNat by omega, show (16 + v94).toNat = 16 + v94.toNat by omega] at q103
               first
                 | (have C118 : v118 = v94 := by
                      rw [e118, e94]
                    have C126 : v126 = v102 := by
                      rw [e126, e102]
                      congr 2
                      omega
                    rw [C118, C126] at q127
                    have a : sd_c0 (M 60) v7.toNat v94.toNat v102 := by
                      unfold sd_c0
                      omega
                    rw [if_pos a]
                    exact q127 hW a ⟨by rw [C102]; exact R5 (Or.inr (by omega)), by rw [C102]; exact R4.2⟩)
                 | rw [if_neg (show ¬ sd_c0 (M 60) v7.toNat v94.toNat v102 from fun y => by unfold sd_c0 at y; omega)])
            | (rw [if_neg (by omega), if_neg (by omega), if_neg (by omega)]
               rw [Q52, Q76, Q40] at q135
               first
                 | (rw [if_pos (show sd_cp (M 60) v7.toNat by unfold sd_cp sd_in; omega)]
                    exact q143)
                 | rw [if_neg (show ¬ sd_cp (M 60) v7.toNat from fun y => by unfold sd_cp sd_in at y; omega)])
        · skip
          replace q103 := q103.resolve_right (fun z => h106 z.1)
          refine pz_nrc (c := 60) rfl ?_
          intro v117 e117 a117 b117
          rw [pz_wi (by omega) (by omega)] at e117
          clear a117 b117
          have lo118 : (0 : Int) ≤ v117 := by omega
          have tn118 : (((v117).toNat : Nat) : Int) = v117 := Int.toNat_of_nonneg lo118
          refine And.intro (lo118) (And.intro (show _ < (1725 : Int) from by omega) ?_)
          intro v118 e118 a118 b118
          rw [show v117 = v93 by omega] at e118
          refine pz_nrc (c := 60) rfl ?_
          intro v125 e125 a125 b125
          rw [pz_wi (by omega) (by omega)] at e125
          clear a125 b125
          have lo126 : (0 : Int) ≤ v125 := by omega
          have tn126 : (((v125).toNat : Nat) : Int) = v125 := Int.toNat_of_nonneg lo126
          refine And.intro (lo126) (And.intro (show _ < (1725 : Int) from by omega) ?_)
          intro v126 e126 a126 b126
          refine And.intro (And.intro hI (And.intro (by omega) (And.intro (by omega) (And.intro (by omega) (by omega))))) ?_
          intro M127 q127
          obtain ⟨q127, z127⟩ := q127
          have hS : pz_rl pz_QD M M127 := hS.tr z127
          have hI : pz_im M127 := hS.1 hI0
          refine And.intro rfl ?_
          refine ⟨fun ls l1 r hT hW hr hi => ?_, hS⟩
          have l16 := hT.2.2.2.choose_spec.1
          obtain ⟨R0, R1, R2, R3, R4, R5⟩ := sd_rowm hT hr
          have C7 : v7 = (l1.getD r []).getD 2 0 := by
            rw [e7, sd_wpc (c := 2) hT hr (by decide) (by omega), if_neg (by decide)]
            omega
          have C16 : v16 = (l1.getD r []).getD 1 0 - 10 := by
            rw [e16, sd_wpc (c := 1) hT hr (by decide) (by omega), if_pos rfl]
          have P7 : ∀ o : Nat, (o + v7).toNat = o + v7.toNat := fun o => by omega
          unfold sd_doe
          rw [← C7]
          rw [← C7] at R2
          have Q52 : (52 + v7).toNat = 52 + v7.toNat := by omega
          have Q76 : (76 + v7).toNat = 76 + v7.toNat := by omega
          have Q40 : (40 + v7).toNat = 40 + v7.toNat := by omega
          have Q64 : (64 + v7).toNat = 64 + v7.toNat := by omega
          first
            | (have C61 : v61 = (l1.getD r []).getD 4 0 := by
                 rw [e61, sd_wpc (c := 4) hT hr (by decide) (by omega), if_neg (by decide)]
                 omega
               rw [if_pos (by omega), ← C61]
               have a : sd_ca (M 60) v7.toNat := by
                 rw [show (52 + (v7 + 1)).toNat = 52 + (v7.toNat + 1) by omega, show (76 + (v7 + 1)).toNat = 76 + (v7.toNat + 1) by omega] at q46
                 unfold sd_ca sd_in
                 omega
               rw [if_pos a]
               exact (q62 ls hT.1 hT.2.1 hW (by omega) ⟨by rw [C61]; exact R5 (Or.inl (by omega)), by rw [C61]; exact R4.2⟩).2)
            | (rw [if_pos (by omega)]
               have a : ¬ sd_ca (M 60) v7.toNat := fun y => by
                 rw [show (52 + (v7 + 1)).toNat = 52 + (v7.toNat + 1) by omega, show (76 + (v7 + 1)).toNat = 76 + (v7.toNat + 1) by omega] at q46
                 unfold sd_ca sd_in at y
                 omega
               rw [if_neg a])
            | (rw [if_neg (by omega), if_pos (by omega)]
               rw [Q52, Q76, Q64] at q71
               first
                 | (rw [if_pos (show sd_cb (M 60) v7.toNat by unfold sd_cb sd_in; omega)]
                    exact q79)
                 | rw [if_neg (show ¬ sd_cb (M 60) v7.toNat from fun y => by unfold sd_cb sd_in at y; omega)])
            | (have C94 : v94 = (l1.getD r []).getD 3 0 := by
                 rw [e94, sd_wpc (c := 3) hT hr (by decide) (by omega), if_neg (by decide)]
                 omega
               have C102 : v102 = (l1.getD r []).getD 4 0 := by
                 rw [e102, sd_wpc (c := 4) hT hr (by decide) (by omega), if_neg (by decide)]
                 omega
               rw [if_neg (by omega), if_neg (by omega), if_pos (by omega), ← C94, ← C102]
               rw [← C94] at R3
               rw [show (16 + v7).toNat = 16 + v7.toNat by omega, show (16 + v94).toNat = 16 + v94.toNat by omega] at q103
               first
                 | (have C118 : v118 = v94 := by
                      rw [e118, e94]
                    have C126 : v126 = v102 := by
                      rw [e126, e102]
                      congr 2
                      omega
                    rw [C118, C126] at q127
                    have a : sd_c0 (M 60) v7.toNat v94.toNat v102 := by
                      unfold sd_c0
                      omega
                    rw [if_pos a]
                    exact q127 hW a ⟨by rw [C102]; exact R5 (Or.inr (by omega)), by rw [C102]; exact R4.2⟩)
                 | rw [if_neg (show ¬ sd_c0 (M 60) v7.toNat v94.toNat v102 from fun y => by unfold sd_c0 at y; omega)])
            | (rw [if_neg (by omega), if_neg (by omega), if_neg (by omega)]
               rw [Q52, Q76, Q40] at q135
               first
                 | (rw [if_pos (show sd_cp (M 60) v7.toNat by unfold sd_cp sd_in; omega)]
                    exact q143)
                 | rw [if_neg (show ¬ sd_cp (M 60) v7.toNat from fun y => by unfold sd_cp sd_in at y; omega)])
      exact True.intro
    · intro h17
      refine And.intro (hI) ?_
      intro v135 M135 a135 b135 q135
      obtain ⟨q135, z135⟩ := q135
      subst z135
      clear a135 b135
      refine And.intro (fun h138 => ?_) (fun h138 => ?_)
      · skip
        replace q135 := q135.resolve_left (fun z => absurd (z.1.symm.trans h138) (by decide))
        refine And.intro rfl ?_
        refine ⟨fun ls l1 r hT hW hr hi => ?_, hS⟩
        have l16 := hT.2.2.2.choose_spec.1
        obtain ⟨R0, R1, R2, R3, R4, R5⟩ := sd_rowm hT hr
        have C7 : v7 = (l1.getD r []).getD 2 0 := by
          rw [e7, sd_wpc (c := 2) hT hr (by decide) (by omega), if_neg (by decide)]
          omega
        have C16 : v16 = (l1.getD r []).getD 1 0 - 10 := by
          rw [e16, sd_wpc (c := 1) hT hr (by decide) (by omega), if_pos rfl]
        have P7 : ∀ o : Nat, (o + v7).toNat = o + v7.toNat := fun o => by omega
        unfold sd_doe
        rw [← C7]
        rw [← C7] at R2
        have Q52 : (52 + v7).toNat = 52 + v7.toNat := by omega
        have Q76 : (76 + v7).toNat = 76 + v7.toNat := by omega
        have Q40 : (40 + v7).toNat = 40 + v7.toNat := by omega
        have Q64 : (64 + v7).toNat = 64 + v7.toNat := by omega
        first
          | (have C61 : v61 = (l1.getD r []).getD 4 0 := by
               rw [e61, sd_wpc (c := 4) hT hr (by decide) (by omega), if_neg (by decide)]
               omega
             rw [if_pos (by omega), ← C61]
             have a : sd_ca (M 60) v7.toNat := by
               rw [show (52 + (v7 + 1)).toNat = 52 + (v7.toNat + 1) by omega, show (76 + (v7 + 1)).toNat = 76 + (v7.toNat + 1) by omega] at q46
               unfold sd_ca sd_in
               omega
             rw [if_pos a]
             exact (q62 ls hT.1 hT.2.1 hW (by omega) ⟨by rw [C61]; exact R5 (Or.inl (by omega)), by rw [C61]; exact R4.2⟩).2)
          | (rw [if_pos (by omega)]
             have a : ¬ sd_ca (M 60) v7.toNat := fun y => by
               rw [show (52 + (v7 + 1)).toNat = 52 + (v7.toNat + 1) by omega, show (76 + (v7 + 1)).toNat = 76 + (v7.toNat + 1) by omega] at q46
               unfold sd_ca sd_in at y
               omega
             rw [if_neg a])
          | (rw [if_neg (by omega), if_pos (by omega)]
             rw [Q52, Q76, Q64] at q71
             first
               | (rw [if_pos (show sd_cb (M 60) v7.toNat by unfold sd_cb sd_in; omega)]
                  exact q79)
               | rw [if_neg (show ¬ sd_cb (M 60) v7.toNat from fun y => by unfold sd_cb sd_in at y; omega)])
          | (have C94 : v94 = (l1.getD r []).getD 3 0 := by
               rw [e94, sd_wpc (c := 3) hT hr (by decide) (by omega), if_neg (by decide)]
               omega
             have C102 : v102 = (l1.getD r []).getD 4 0 := by
               rw [e102, sd_wpc (c := 4) hT hr (by decide) (by omega), if_neg (by decide)]
               omega
             rw [if_neg (by omega), if_neg (by omega), if_pos (by omega), ← C94, ← C102]
             rw [← C94] at R3
             rw [show (16 + v7).toNat = 16 + v7.toNat by omega, show (16 + v94).toNat = 16 + v94.toNat by omega] at q103
             first
               | (have C118 : v118 = v94 := by
                    rw [e118, e94]
                  have C126 : v126 = v102 := by
                    rw [e126, e102]
                    congr 2
                    omega
                  rw [C118, C126] at q127
                  have a : sd_c0 (M 60) v7.toNat v94.toNat v102 := by
                    unfold sd_c0
                    omega
                  rw [if_pos a]
                  exact q127 hW a ⟨by rw [C102]; exact R5 (Or.inr (by omega)), by rw [C102]; exact R4.2⟩)
               | rw [if_neg (show ¬ sd_c0 (M 60) v7.toNat v94.toNat v102 from fun y => by unfold sd_c0 at y; omega)])
          | (rw [if_neg (by omega), if_neg (by omega), if_neg (by omega)]
             rw [Q52, Q76, Q40] at q135
             first
               | (rw [if_pos (show sd_cp (M 60) v7.toNat by unfold sd_cp sd_in; omega)]
                  exact q143)
               | rw [if_neg (show ¬ sd_cp (M 60) v7.toNat from fun y => by unfold sd_cp sd_in at y; omega)])
      · skip
        replace q135 := q135.resolve_right (fun z => h138 z.1)
        refine And.intro (And.intro hI (And.intro (by omega) (by omega))) ?_
        intro M143 q143
        obtain ⟨q143, z143⟩ := q143
        have hS : pz_rl pz_QD M M143 := hS.tr z143
        have hI : pz_im M143 := hS.1 hI0
        refine And.intro rfl ?_
        refine ⟨fun ls l1 r hT hW hr hi => ?_, hS⟩
        have l16 := hT.2.2.2.choose_spec.1
        obtain ⟨R0, R1, R2, R3, R4, R5⟩ := sd_rowm hT hr
        have C7 : v7 = (l1.getD r []).getD 2 0 := by
          rw [e7, sd_wpc (c := 2) hT hr (by decide) (by omega), if_neg (by decide)]
          omega
        have C16 : v16 = (l1.getD r []).getD 1 0 - 10 := by
          rw [e16, sd_wpc (c := 1) hT hr (by decide) (by omega), if_pos rfl]
        have P7 : ∀ o : Nat, (o + v7).toNat = o + v7.toNat := fun o => by omega
        unfold sd_doe
        rw [← C7]
        rw [← C7] at R2
        have Q52 : (52 + v7).toNat = 52 + v7.toNat := by omega
        have Q76 : (76 + v7).toNat = 76 + v7.toNat := by omega
        have Q40 : (40 + v7).toNat = 40 + v7.toNat := by omega
        have Q64 : (64 + v7).toNat = 64 + v7.toNat := by omega
        first
          | (have C61 : v61 = (l1.getD r []).getD 4 0 := by
               rw [e61, sd_wpc (c := 4) hT hr (by decide) (by omega), if_neg (by decide)]
               omega
             rw [if_pos (by omega), ← C61]
             have a : sd_ca (M 60) v7.toNat := by
               rw [show (52 + (v7 + 1)).toNat = 52 + (v7.toNat + 1) by omega, show (76 + (v7 + 1)).toNat = 76 + (v7.toNat + 1) by omega] at q46
               unfold sd_ca sd_in
               omega
             rw [if_pos a]
             exact (q62 ls hT.1 hT.2.1 hW (by omega) ⟨by rw [C61]; exact R5 (Or.inl (by omega)), by rw [C61]; exact R4.2⟩).2)
          | (rw [if_pos (by omega)]
             have a : ¬ sd_ca (M 60) v7.toNat := fun y => by
               rw [show (52 + (v7 + 1)).toNat = 52 + (v7.toNat + 1) by omega, show (76 + (v7 + 1)).toNat = 76 + (v7.toNat + 1) by omega] at q46
               unfold sd_ca sd_in at y
               omega
             rw [if_neg a])
          | (rw [if_neg (by omega), if_pos (by omega)]
             rw [Q52, Q76, Q64] at q71
             first
               | (rw [if_pos (show sd_cb (M 60) v7.toNat by unfold sd_cb sd_in; omega)]
                  exact q79)
               | rw [if_neg (show ¬ sd_cb (M 60) v7.toNat from fun y => by unfold sd_cb sd_in at y; omega)])
          | (have C94 : v94 = (l1.getD r []).getD 3 0 := by
               rw [e94, sd_wpc (c := 3) hT hr (by decide) (by omega), if_neg (by decide)]
               omega
             have C102 : v102 = (l1.getD r []).getD 4 0 := by
               rw [e102, sd_wpc (c := 4) hT hr (by decide) (by omega), if_neg (by decide)]
               omega
             rw [if_neg (by omega), if_neg (by omega), if_pos (by omega), ← C94, ← C102]
             rw [← C94] at R3
             rw [show (16 + v7).toNat = 16 + v7.toNat by omega, show (16 + v94).toNat = 16 + v94.toNat by omega] at q103
             first
               | (have C118 : v118 = v94 := by
                    rw [e118, e94]
                  have C126 : v126 = v102 := by
                    rw [e126, e102]
                    congr 2
                    omega
                  rw [C118, C126] at q127
                  have a : sd_c0 (M 60) v7.toNat v94.toNat v102 := by
                    unfold sd_c0
                    omega
                  rw [if_pos a]
                  exact q127 hW a ⟨by rw [C102]; exact R5 (Or.inr (by omega)), by rw [C102]; exact R4.2⟩)
               | rw [if_neg (show ¬ sd_c0 (M 60) v7.toNat v94.toNat v102 from fun y => by unfold sd_c0 at y; omega)])
          | (rw [if_neg (by omega), if_neg (by omega), if_neg (by omega)]
             rw [Q52, Q76, Q40] at q135
             first
               | (rw [if_pos (show sd_cp (M 60) v7.toNat by unfold sd_cp sd_in; omega)]
                  exact q143)
               | rw [if_neg (show ¬ sd_cp (M 60) v7.toNat from fun y => by unfold sd_cp sd_in at y; omega)])
theorem v3_X12_does {fr lo i : Nat} {own : String} (h1 : 6 + 1 ≤ fr) (h2 : 8 + (3 + 11) + 140 ≤ lo) (h3 : .methodLink own i yX12_does ∈ lw_tbl) : pz_cV fr lo own i k3_X12_does :=
  pz_cVk (maxL := 3) (fr' := 6) (lo' := 140) 1 12 h3_X12_does rfl ⟨(pz_nhc_RX12 yX12_does rfl).1, (pz_nhc_RX12 yX12_does rfl).2, pz_ds8⟩ ⟨pz_wq1538, pz_wq1537, pz_ws60, pz_wq13⟩ (Or.inl ⟨TX12, 28, rfl⟩) (fun a M _ h => by
    have h : (match (generalizing := false) a with | [.inr (.inr (12, th)), .inl i] => pz_im M ∧ 0 ≤ i ∧ i < 1000 | _ => False) := h
    split at h
    · exact ⟨_, _, rfl⟩
    · exact h.elim) h1 h2 h3
end
