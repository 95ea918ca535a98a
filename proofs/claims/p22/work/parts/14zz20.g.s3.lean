section
noncomputable def k3_X12_does : pz_C := (2, 0, fun a M => (match a with | [.inr (.inr (12, th)), .inl i] => pz_im M ∧ 0 ≤ i ∧ i < 1000 | _ => False), fun a M r M' => (match a, r with | [.inr (.inr (12, th)), .inl i], none => (∀ (ls : List pz_lne) (l1 : List (List Int)) (r : Nat), sd_tm (M 60) ls l1 → sd_wf (M 60) → r < l1.length → i = 129 + 5 * (r : Int) → M' 60 = sd_doe (sd_Tr M) ls (M 60) (l1.getD r [])) ∧ pz_rl pz_QD M M' | _, _ => False))
noncomputable abbrev ct3_X12_does : List (Bool × Nat × pz_C) := [(true, 327, k3_X12_canAsk), (true, 333, k3_X12_asks), (true, 336, k3_X12_canBridge), (true, 339, k3_X12_bridges0), (true, 343, k3_X12_canPay0), (true, 346, k3_X12_pays), (true, 349, k3_X12_canPaper), (true, 352, k3_X12_getsReady)]
set_option maxRecDepth 100000 in
set_option maxHeartbeats 4000000 in
theorem h3_X12_does : pz_H yX12_does cX12_does 3 none k3_X12_does 6 140 := by
  refine pz_mk (own := RX12) (tb := t_X12_does) (fl := pz_flf fl_RX12) (ci := pz_cif ci_RX12) (ct := pz_ctf ct3_X12_does) (rz := false) (pz_pfc_RX12 yX12_does rfl) rfl t_X12_does_ok (pz_flk fl_RX12_ok) (pz_cik ci_RX12_ok) ?_ ?_ (rfl) ?_ ?_
  · exact fun i k' h => pz_ctk (l := ct3_X12_does) (P := fun b i k => b = true → pz_cV 6 140 RX12 i k) (List.forall_mem_cons.mpr ⟨(fun _ => v3_X12_canAsk (by decide) (by decide) pz_wq1411), List.forall_mem_cons.mpr ⟨(fun _ => v3_X12_asks (by decide) (by decide) pz_wq1431), List.forall_mem_cons.mpr ⟨(fun _ => v3_X12_canBridge (by decide) (by decide) pz_wq1491), List.forall_mem_cons.mpr ⟨(fun _ => v3_X12_bridges0 (by decide) (by decide) pz_wq1495), List.forall_mem_cons.mpr ⟨(fun _ => v3_X12_canPay0 (by decide) (by decide) pz_wq1503), List.forall_mem_cons.mpr ⟨(fun _ => v3_X12_pays (by decide) (by decide) pz_wq1507), List.forall_mem_cons.mpr ⟨(fun _ => v3_X12_canPaper (by decide) (by decide) pz_wq1515), List.forall_mem_cons.mpr ⟨(fun _ => v3_X12_getsReady (by decide) (by decide) pz_wq1519), fun _ h => absurd h List.not_mem_nil⟩⟩⟩⟩⟩⟩⟩⟩) true i k' h rfl
  · exact fun i k' h => pz_ctk (l := ct3_X12_does) (P := fun b i k => b = false → (pz_cS 6 140 RX12 i k ∨ (k = pz_kac ∧ 1 ≤ 6 ∧ 60 ≤ 140 ∧ Cond.methodLink RX12 i arraycopyName ∈ pz_tbl))) (List.forall_mem_cons.mpr ⟨((fun z => by cases z)), List.forall_mem_cons.mpr ⟨((fun z => by cases z)), List.forall_mem_cons.mpr ⟨((fun z => by cases z)), List.forall_mem_cons.mpr ⟨((fun z => by cases z)), List.forall_mem_cons.mpr ⟨((fun z => by cases z)), List.forall_mem_cons.mpr ⟨((fun z => by cases z)), List.forall_mem_cons.mpr ⟨((fun z => by cases z)), List.forall_mem_cons.mpr ⟨((fun z => by cases z)), fun _ h => absurd h List.not_mem_nil⟩⟩⟩⟩⟩⟩⟩⟩) false i k' h rfl
  · intro a M hlen hpre
    obtain ⟨th, i, rfl, hpre⟩ : ∃ th i, a = [.inr (.inr (12, th)), .inl i] ∧ (pz_im M ∧ 0 ≤ i ∧ i < 1000) := by
      have hpre : (match (generalizing := false) a with | [.inr (.inr (12, th)), .inl i] => pz_im M ∧ 0 ≤ i ∧ i < 1000 | _ => False) := hpre
      split at hpre
      · exact ⟨_, _, rfl, hpre⟩
      · exact hpre.elim
    exact Nat.le_of_ble_eq_true rfl
  · intro a M hlen hcan hM hpre Ok hgo
    obtain ⟨th, i, rfl, hpre⟩ : ∃ th i, a = [.inr (.inr (12, th)), .inl i] ∧ (pz_im M ∧ 0 ≤ i ∧ i < 1000) := by
      have hpre : (match (generalizing := false) a with | [.inr (.inr (12, th)), .inl i] => pz_im M ∧ 0 ≤ i ∧ i < 1000 | _ => False) := hpre
      split at hpre
      · exact ⟨_, _, rfl, hpre⟩
      · exact hpre.elim
    obtain ⟨k_th, hc_th⟩ := pz_tlm hcan
    have k_th : pz_kd th = 12 ∧ th < 231 := k_th
    have R_th := pz_kd12 k_th.1
    subst R_th
    clear k_th
    obtain ⟨k_i, hc_i⟩ := pz_tlm hc_th
    have l_i : -2147483648 ≤ i := k_i.1
    have u_i : i ≤ 2147483647 := k_i.2
    have hI : pz_im M := hpre.1
    have hI0 := hI
    have hS : pz_rl pz_QD M M := pz_rl.rf
    have I88 := hI.1.1
    refine hgo (fun _ => false) 79 0 _ [] M ?_
    refine pz_nrc (c := 60) rfl ?_
    intro v6 e6 a6 b6
    rw [pz_wi (by first | decide | omega) (by first | decide | omega)] at e6
    clear a6 b6
    have lo7 : (0 : Int) ≤ v6 := by omega
    have tn7 : (((v6).toNat : Nat) : Int) = v6 := Int.toNat_of_nonneg lo7
    refine And.intro (lo7) (And.intro (show _ < (1725 : Int) from by omega) ?_)
    intro v7 e7 a7 b7
    refine pz_nrc (c := 60) rfl ?_
    intro v15 e15 a15 b15
    rw [pz_wi (by first | decide | omega) (by first | decide | omega)] at e15
    clear a15 b15
    have lo16 : (0 : Int) ≤ v15 := by omega
    have tn16 : (((v15).toNat : Nat) : Int) = v15 := Int.toNat_of_nonneg lo16
    refine And.intro (lo16) (And.intro (show _ < (1725 : Int) from by omega) ?_)
    intro v16 e16 a16 b16
    refine And.intro ?_ ?_
    · skip
      refine And.intro (fun h17 => ?_) ?_
      · skip
        refine And.intro (hI) ?_
        intro v46 M46 a46 b46 q46
        obtain ⟨q46, z46⟩ := q46
        subst z46
        clear a46 b46
        refine And.intro (fun h49 => ?_) (fun h49 => ?_)
        · skip
          replace q46 := q46.resolve_left (fun z => absurd (z.1.symm.trans h49) (by decide))
          refine And.intro rfl ?_
          refine ⟨fun ls l1 r hT hW hr hi => ?_, hS⟩
          have l16 := hT.2.2.2.choose_spec.1
          obtain ⟨R0, R1, R2, R3, R4, R5⟩ := sd_rowm hT hr
          have C7 : v7 = (l1.getD r []).getD 2 0 := by
            rw [e7, sd_wpc (c := 2) hT hr (by decide) (by first | decide | omega), if_neg (by decide)]
            omega
          have C16 : v16 = (l1.getD r []).getD 1 0 - 10 := by
            rw [e16, sd_wpc (c := 1) hT hr (by decide) (by first | decide | omega), if_pos rfl]
          have P7 : ∀ o : Nat, (o + v7).toNat = o + v7.toNat := fun o => by omega
          unfold sd_doe
          rw [← C7]
          rw [← C7] at R2
          have Q52 : (52 + v7).toNat = 52 + v7.toNat := by omega
          have Q76 : (76 + v7).toNat = 76 + v7.toNat := by omega
          have Q40 : (40 + v7).toNat = 40 + v7.toNat := by omega
          have Q64 : (64 + v7).toNat = 64 + v7.toNat := by omega
          first
            | (have C61 : v61 = (l1.getD r []).getD 4 0 := by
                 rw [e61, sd_wpc (c := 4) hT hr (by decide) (by first | decide | omega), if_neg (by decide)]
                 omega
               rw [if_pos (by first | decide | omega), ← C61]
               have a : sd_ca (M 60) v7.toNat := by
                 rw [show (52 + (v7 + 1)).toNat = 52 + (v7.toNat + 1) by omega, show (76 + (v7 + 1)).toNat = 76 + (v7.toNat + 1) by omega] at q46
                 unfold sd_ca sd_in
                 omega
               rw [if_pos a]
               exact (q62 ls hT.1 hT.2.1 hW (by first | decide | omega) ⟨by rw [C61]; exact R5 (Or.inl (by first | decide | omega)), by rw [C61]; exact R4.2⟩).2)
            | (rw [if_pos (by first | decide | omega)]
               have a : ¬ sd_ca (M 60) v7.toNat := fun y => by
                 rw [show (52 + (v7 + 1)).toNat = 52 + (v7.toNat + 1) by omega, show (76 + (v7 + 1)).toNat = 76 + (v7.toNat + 1) by omega] at q46
                 unfold sd_ca sd_in at y
                 omega
               rw [if_neg a])
            | (rw [if_neg (by first | decide | omega), if_pos (by first | decide | omega)]
               rw [Q52, Q76, Q64] at q71
               first
                 | (rw [if_pos (show sd_cb (M 60) v7.toNat by unfold sd_cb sd_in; omega)]
                    exact q79)
                 | rw [if_neg (show ¬ sd_cb (M 60) v7.toNat from fun y => by unfold sd_cb sd_in at y; omega)])
            | (have C94 : v94 = (l1.getD r []).getD 3 0 := by
                 rw [e94, sd_wpc (c := 3) hT hr (by decide) (by first | decide | omega), if_neg (by decide)]
                 omega
               have C102 : v102 = (l1.getD r []).getD 4 0 := by
                 rw [e102, sd_wpc (c := 4) hT hr (by decide) (by first | decide | omega), if_neg (by decide)]
                 omega
               rw [if_neg (by first | decide | omega), if_neg (by first | decide | omega), if_pos (by first | decide | omega), ← C94, ← C102]
               rw [← C94] at R3
               rw [show (16 + v7).toNat = 16 + v7.toNat by omega, show (16 + v94).toNat = 16 + v94.toNat by omega] at q103
               first
                 | (have C118 : v118 = v94 := by
                      rw [e118, e94]
                    have C126 : v126 = v102 := by
                      rw [e126, e102]
                      congr 2
                      omega
                    rw [C118, C126] at q127
                    have a : sd_c0 (M 60) v7.toNat v94.toNat v102 := by
                      unfold sd_c0
                      omega
                    rw [if_pos a]
                    exact q127 hW a ⟨by rw [C102]; exact R5 (Or.inr (by first | decide | omega)), by rw [C102]; exact R4.2⟩)
                 | rw [if_neg (show ¬ sd_c0 (M 60) v7.toNat v94.toNat v102 from fun y => by unfold sd_c0 at y; omega)])
            | (rw [if_neg (by first | decide | omega), if_neg (by first | decide | omega), if_neg (by first | decide | omega)]
               rw [Q52, Q76, Q40] at q135
               first
                 | (rw [if_pos (show sd_cp (M 60) v7.toNat by unfold sd_cp sd_in; omega)]
                    exact q143)
                 | rw [if_neg (show ¬ sd_cp (M 60) v7.toNat from fun y => by unfold sd_cp sd_in at y; omega)])
        · skip
          replace q46 := q46.resolve_right (fun z => h49 z.1)
          refine pz_nrc (c := 60) rfl ?_
          intro v60 e60 a60 b60
          rw [pz_wi (by first | decide | omega) (by first | decide | omega)] at e60
          clear a60 b60
          have lo61 : (0 : Int) ≤ v60 := by omega
          have tn61 : (((v60).toNat : Nat) : Int) = v60 := Int.toNat_of_nonneg lo61
          refine And.intro (lo61) (And.intro (show _ < (1725 : Int) from by omega) ?_)
          intro v61 e61 a61 b61
          refine And.intro (And.intro hI (And.intro (by first | decide | omega) (by first | decide | omega))) ?_
          intro v62 M62 a62 b62 q62
          obtain ⟨q62, z62⟩ := q62
          have hS : pz_rl pz_QD M M62 := hS.tr z62
          have hI : pz_im M62 := hS.1 hI0
          refine And.intro rfl ?_
          refine ⟨fun ls l1 r hT hW hr hi => ?_, hS⟩
          have l16 := hT.2.2.2.choose_spec.1
          obtain ⟨R0, R1, R2, R3, R4, R5⟩ := sd_rowm hT hr
          have C7 : v7 = (l1.getD r []).getD 2 0 := by
            rw [e7, sd_wpc (c := 2) hT hr (by decide) (by first | decide | omega), if_neg (by decide)]
            omega
          have C16 : v16 = (l1.getD r []).getD 1 0 - 10 := by
            rw [e16, sd_wpc (c := 1) hT hr (by decide) (by first | decide | omega), if_pos rfl]
          have P7 : ∀ o : Nat, (o + v7).toNat = o + v7.toNat := fun o => by omega
          unfold sd_doe
          rw [← C7]
          rw [← C7] at R2
          have Q52 : (52 + v7).toNat = 52 + v7.toNat := by omega
          have Q76 : (76 + v7).toNat = 76 + v7.toNat := by omega
          have Q40 : (40 + v7).toNat = 40 + v7.toNat := by omega
          have Q64 : (64 + v7).toNat = 64 + v7.toNat := by omega
          first
            | (have C61 : v61 = (l1.getD r []).getD 4 0 := by
                 rw [e61, sd_wpc (c := 4) hT hr (by decide) (by first | decide | omega), if_neg (by decide)]
                 omega
               rw [if_pos (by first | decide | omega), ← C61]
               have a : sd_ca (M 60) v7.toNat := by
                 rw [show (52 + (v7 + 1)).toNat = 52 + (v7.toNat + 1) by omega, show (76 + (v7 + 1)).toNat = 76 + (v7.toNat + 1) by omega] at q46
                 unfold sd_ca sd_in
                 omega
               rw [if_pos a]
               exact (q62 ls hT.1 hT.2.1 hW (by first | decide | omega) ⟨by rw [C61]; exact R5 (Or.inl (by first | decide | omega)), by rw [C61]; exact R4.2⟩).2)
            | (rw [if_pos (by first | decide | omega)]
               have a : ¬ sd_ca (M 60) v7.toNat := fun y => by
                 rw [show (52 + (v7 + 1)).toNat = 52 + (v7.toNat + 1) by omega, show (76 + (v7 + 1)).toNat = 76 + (v7.toNat + 1) by omega] at q46
                 unfold sd_ca sd_in at y
                 omega
               rw [if_neg a])
            | (rw [if_neg (by first | decide | omega), if_pos (by first | decide | omega)]
               rw [Q52, Q76, Q64] at q71
               first
                 | (rw [if_pos (show sd_cb (M 60) v7.toNat by unfold sd_cb sd_in; omega)]
                    exact q79)
                 | rw [if_neg (show ¬ sd_cb (M 60) v7.toNat from fun y => by unfold sd_cb sd_in at y; omega)])
            | (have C94 : v94 = (l1.getD r []).getD 3 0 := by
                 rw [e94, sd_wpc (c := 3) hT hr (by decide) (by first | decide | omega), if_neg (by decide)]
                 omega
               have C102 : v102 = (l1.getD r []).getD 4 0 := by
                 rw [e102, sd_wpc (c := 4) hT hr (by decide) (by first | decide | omega), if_neg (by decide)]
                 omega
               rw [if_neg (by first | decide | omega), if_neg (by first | decide | omega), if_pos (by first | decide | omega), ← C94, ← C102]
               rw [← C94] at R3
               rw [show (16 + v7).toNat = 16 + v7.toNat by omega, show (16 + v94).toNat = 16 + v94.toNat by omega] at q103
               first
                 | (have C118 : v118 = v94 := by
                      rw [e118, e94]
                    have C126 : v126 = v102 := by
                      rw [e126, e102]
                      congr 2
                      omega
                    rw [C118, C126] at q127
                    have a : sd_c0 (M 60) v7.toNat v94.toNat v102 := by
                      unfold sd_c0
                      omega
                    rw [if_pos a]
                    exact q127 hW a ⟨by rw [C102]; exact R5 (Or.inr (by first | decide | omega)), by rw [C102]; exact R4.2⟩)
                 | rw [if_neg (show ¬ sd_c0 (M 60) v7.toNat v94.toNat v102 from fun y => by unfold sd_c0 at y; omega)])
            | (rw [if_neg (by first | decide | omega), if_neg (by first | decide | omega), if_neg (by first | decide | omega)]
               rw [Q52, Q76, Q40] at q135
               first
                 | (rw [if_pos (show sd_cp (M 60) v7.toNat by unfold sd_cp sd_in; omega)]
                    exact q143)
                 | rw [if_neg (show ¬ sd_cp (M 60) v7.toNat from fun y => by unfold sd_cp sd_in at y; omega)])
      refine And.intro (fun h17 => ?_) ?_
      · skip
        refine And.intro (hI) ?_
        intro v71 M71 a71 b71 q71
        obtain ⟨q71, z71⟩ := q71
        subst z71
        clear a71 b71
        refine And.intro (fun h74 => ?_) (fun h74 => ?_)
        · skip
          replace q71 := q71.resolve_left (fun z => absurd (z.1.symm.trans h74) (by decide))
          refine And.intro rfl ?_
          refine ⟨fun ls l1 r hT hW hr hi => ?_, hS⟩
          have l16 := hT.2.2.2.choose_spec.1
          obtain ⟨R0, R1, R2, R3, R4, R5⟩ := sd_rowm hT hr
          have C7 : v7 = (l1.getD r []).getD 2 0 := by
            rw [e7, sd_wpc (c := 2) hT hr (by decide) (by first | decide | omega), if_neg (by decide)]
            omega
          have C16 : v16 = (l1.getD r []).getD 1 0 - 10 := by
            rw [e16, sd_wpc (c := 1) hT hr (by decide) (by first | decide | omega), if_pos rfl]
          have P7 : ∀ o : Nat, (o + v7).toNat = o + v7.toNat := fun o => by omega
          unfold sd_doe
          rw [← C7]
          rw [← C7] at R2
          have Q52 : (52 + v7).toNat = 52 + v7.toNat := by omega
          have Q76 : (76 + v7).toNat = 76 + v7.toNat := by omega
          have Q40 : (40 + v7).toNat = 40 + v7.toNat := by omega
          have Q64 : (64 + v7).toNat = 64 + v7.toNat := by omega
          first
            | (have C61 : v61 = (l1.getD r []).getD 4 0 := by
                 rw [e61, sd_wpc (c := 4) hT hr (by decide) (by first | decide | omega), if_neg (by decide)]
                 omega
               rw [if_pos (by first | decide | omega), ← C61]
               have a : sd_ca (M 60) v7.toNat := by
                 rw [show (52 + (v7 + 1)).toNat = 52 + (v7.toNat + 1) by omega, show (76 + (v7 + 1)).toNat = 76 + (v7.toNat + 1) by omega] at q46
                 unfold sd_ca sd_in
                 omega
               rw [if_pos a]
               exact (q62 ls hT.1 hT.2.1 hW (by first | decide | omega) ⟨by rw [C61]; exact R5 (Or.inl (by first | decide | omega)), by rw [C61]; exact R4.2⟩).2)
            | (rw [if_pos (by first | decide | omega)]
               have a : ¬ sd_ca (M 60) v7.toNat := fun y => by
                 rw [show (52 + (v7 + 1)).toNat = 52 + (v7.toNat + 1) by omega, show (76 + (v7 + 1)).toNat = 76 + (v7.toNat + 1) by omega] at q46
                 unfold sd_ca sd_in at y
                 omega
               rw [if_neg a])
            | (rw [if_neg (by first | decide | omega), if_pos (by first | decide | omega)]
               rw [Q52, Q76, Q64] at q71
               first
                 | (rw [if_pos (show sd_cb (M 60) v7.toNat by unfold sd_cb sd_in; omega)]
                    exact q79)
                 | rw [if_neg (show ¬ sd_cb (M 60) v7.toNat from fun y => by unfold sd_cb sd_in at y; omega)])
            | (have C94 : v94 = (l1.getD r []).getD 3 0 := by
                 rw [e94, sd_wpc (c := 3) hT hr (by decide) (by first | decide | omega), if_neg (by decide)]
                 omega
               have C102 : v102 = (l1.getD r []).getD 4 0 := by
                 rw [e102, sd_wpc (c := 4) hT hr (by decide) (by first | decide | omega), if_neg (by decide)]
                 omega
               rw [if_neg (by first | decide | omega), if_neg (by first | decide | omega), if_pos (by first | decide | omega), ← C94, ← C102]
               rw [← C94] at R3
               rw [show (16 + v7).toNat = 16 + v7.toNat by omega, show (16 + v94).toNat = 16 + v94.toNat by omega] at q103
               first
                 | (have C118 : v118 = v94 := by
                      rw [e118, e94]
                    have C126 : v126 = v102 := by
                      rw [e126, e102]
                      congr 2
                      omega
                    rw [C118, C126] at q127
                    have a : sd_c0 (M 60) v7.toNat v94.toNat v102 := by
                      unfold sd_c0
                      omega
                    rw [if_pos a]
                    exact q127 hW a ⟨by rw [C102]; exact R5 (Or.inr (by first | decide | omega)), by rw [C102]; exact R4.2⟩)
                 | rw [if_neg (show ¬ sd_c0 (M 60) v7.toNat v94.toNat v102 from fun y => by unfold sd_c0 at y; omega)])
            | (rw [if_neg (by first | decide | omega), if_neg (by first | decide | omega), if_neg (by first | decide | omega)]
               rw [Q52, Q76, Q40] at q135
               first
                 | (rw [if_pos (show sd_cp (M 60) v7.toNat by unfold sd_cp sd_in; omega)]
                    exact q143)
                 | rw [if_neg (show ¬ sd_cp (M 60) v7.toNat from fun y => by unfold sd_cp sd_in at y; omega)])
        · skip
          replace q71 := q71.resolve_right (fun z => h74 z.1)
          refine And.intro (And.intro hI (And.intro (by first | decide | omega) (by first | decide | omega))) ?_
          intro M79 q79
          obtain ⟨q79, z79⟩ := q79
          have hS : pz_rl pz_QD M M79 := hS.tr z79
          have hI : pz_im M79 := hS.1 hI0
          refine And.intro rfl ?_
          refine ⟨fun ls l1 r hT hW hr hi => ?_, hS⟩
          have l16 := hT.2.2.2.choose_spec.1
          obtain ⟨R0, R1, R2, R3, R4, R5⟩ := sd_rowm hT hr
          have C7 : v7 = (l1.getD r []).getD 2 0 := by
            rw [e7, sd_wpc (c := 2) hT hr (by decide) (by first | decide | omega), if_neg (by decide)]
            omega
          have C16 : v16 = (l1.getD r []).getD 1 0 - 10 := by
            rw [e16, sd_wpc (c := 1) hT hr (by decide) (by first | decide | omega), if_pos rfl]
          have P7 : ∀ o : Nat, (o + v7).toNat = o + v7.toNat := fun o => by omega
          unfold sd_doe
          rw [← C7]
          rw [← C7] at R2
          have Q52 : (52 + v7).toNat = 52 + v7.toNat := by omega
          have Q76 : (76 + v7).toNat = 76 + v7.toNat := by omega
          have Q40 : (40 + v7).toNat = 40 + v7.toNat := by omega
          have Q64 : (64 + v7).toNat = 64 + v7.toNat := by omega
          first
            | (have C61 : v61 = (l1.getD r []).getD 4 0 := by
                 rw [e61, sd_wpc (c := 4) hT hr (by decide) (by first | decide | omega), if_neg (by decide)]
                 omega
               rw [if_pos (by first | decide | omega), ← C61]
               have a : sd_ca (M 60) v7.toNat := by
                 rw [show (52 + (v7 + 1)).toNat = 52 + (v7.toNat + 1) by omega, show (76 + (v7 + 1)).toNat = 76 + (v7.toNat + 1) by omega] at q46
                 unfold sd_ca sd_in
                 omega
               rw [if_pos a]
               exact (q62 ls hT.1 hT.2.1 hW (by first | decide | omega) ⟨by rw [C61]; exact R5 (Or.inl (by first | decide | omega)), by rw [C61]; exact R4.2⟩).2)
            | (rw [if_pos (by first | decide | omega)]
               have a : ¬ sd_ca (M 60) v7.toNat := fun y => by
                 rw [show (52 + (v7 + 1)).toNat = 52 + (v7.toNat + 1) by omega, show (76 + (v7 + 1)).toNat = 76 + (v7.toNat + 1) by omega] at q46
                 unfold sd_ca sd_in at y
                 omega
               rw [if_neg a])
            | (rw [if_neg (by first | decide | omega), if_pos (by first | decide | omega)]
               rw [Q52, Q76, Q64] at q71
               first
                 | (rw [if_pos (show sd_cb (M 60) v7.toNat by unfold sd_cb sd_in; omega)]
                    exact q79)
                 | rw [if_neg (show ¬ sd_cb (M 60) v7.toNat from fun y => by unfold sd_cb sd_in at y; omega)])
            | (have C94 : v94 = (l1.getD r []).getD 3 0 := by
                 rw [e94, sd_wpc (c := 3) hT hr (by decide) (by first | decide | omega), if_neg (by decide)]
                 omega
               have C102 : v102 = (l1.getD r []).getD 4 0 := by
                 rw [e102, sd_wpc (c := 4) hT hr (by decide) (by first | decide | omega), if_neg (by decide)]
                 omega
               rw [if_neg (by first | decide | omega), if_neg (by first | decide | omega), if_pos (by first | decide | omega), ← C94, ← C102]
               rw [← C94] at R3
               rw [show (16 + v7).toNat = 16 + v7.toNat by omega, show (16 + v94).toNat = 16 + v94.toNat by omega] at q103
               first
                 | (have C118 : v118 = v94 := by
                      rw [e118, e94]
                    have C126 : v126 = v102 := by
                      rw [e126, e102]
                      congr 2
                      omega
                    rw [C118, C126] at q127
                    have a : sd_c0 (M 60) v7.toNat v94.toNat v102 := by
                      unfold sd_c0
                      omega
                    rw [if_pos a]
                    exact q127 hW a ⟨by rw [C102]; exact R5 (Or.inr (by first | decide | omega)), by rw [C102]; exact R4.2⟩)
                 | rw [if_neg (show ¬ sd_c0 (M 60) v7.toNat v94.toNat v102 from fun y => by unfold sd_c0 at y; omega)])
            | (rw [if_neg (by first | decide | omega), if_neg (by first | decide | omega), if_neg (by first | decide | omega)]
               rw [Q52, Q76, Q40] at q135
               first
                 | (rw [if_pos (show sd_cp (M 60) v7.toNat by unfold sd_cp sd_in; omega)]
                    exact q143)
                 | rw [if_neg (show ¬ sd_cp (M 60) v7.toNat from fun y => by unfold sd_cp sd_in at y; omega)])
      refine And.intro (fun h17 => ?_) ?_
      · skip
        refine pz_nrc (c := 60) rfl ?_
        intro v93 e93 a93 b93
        rw [pz_wi (by first | decide | omega) (by first | decide | omega)] at e93
        clear a93 b93
        have lo94 : (0 : Int) ≤ v93 := by omega
        have tn94 : (((v93).toNat : Nat) : Int) = v93 := Int.toNat_of_nonneg lo94
        refine And.intro (lo94) (And.intro (show _ < (1725 : Int) from by omega) ?_)
        intro v94 e94 a94 b94
        refine pz_nrc (c := 60) rfl ?_
        intro v101 e101 a101 b101
        rw [pz_wi (by first | decide | omega) (by first | decide | omega)] at e101
        clear a101 b101
        have lo102 : (0 : Int) ≤ v101 := by omega
        have tn102 : (((v101).toNat : Nat) : Int) = v101 := Int.toNat_of_nonneg lo102
        refine And.intro (lo102) (And.intro (show _ < (1725 : Int) from by omega) ?_)
        intro v102 e102 a102 b102
        refine And.intro (hI) ?_
        intro v103 M103 a103 b103 q103
        obtain ⟨q103, z103⟩ := q103
        subst z103
        clear a103 b103
        refine And.intro (fun h106 => ?_) (fun h106 => ?_)
        · skip
          replace q103 := q103.resolve_left (fun z => absurd (z.1.symm.trans h106) (by decide))
          refine And.intro rfl ?_
          refine ⟨fun ls l1 r hT hW hr hi => ?_, hS⟩
          have l16 := hT.2.2.2.choose_spec.1
          obtain ⟨R0, R1, R2, R3, R4, R5⟩ := sd_rowm hT hr
          have C7 : v7 = (l1.getD r []).getD 2 0 := by
            rw [e7, sd_wpc (c := 2) hT hr (by decide) (by first | decide | omega), if_neg (by decide)]
            omega
          have C16 : v16 = (l1.getD r []).getD 1 0 - 10 := by
            rw [e16, sd_wpc (c := 1) hT hr (by decide) (by first | decide | omega), if_pos rfl]
          have P7 : ∀ o : Nat, (o + v7).toNat = o + v7.toNat := fun o => by omega
          unfold sd_doe
          rw [← C7]
          rw [← C7] at R2
          have Q52 : (52 + v7).toNat = 52 + v7.toNat := by omega
          have Q76 : (76 + v7).toNat = 76 + v7.toNat := by omega
          have Q40 : (40 + v7).toNat = 40 + v7.toNat := by omega
          have Q64 : (64 + v7).toNat = 64 + v7.toNat := by omega
          first
            | (have C61 : v61 = (l1.getD r []).getD 4 0 := by
                 rw [e61, sd_wpc (c := 4) hT hr (by decide) (by first | decide | omega), if_neg (by decide)]
                 omega
               rw [if_pos (by first | decide | omega), ← C61]
               have a : sd_ca (M 60) v7.toNat := by
                 rw [show (52 + (v7 + 1)).toNat = 52 + (v7.toNat + 1) by omega, show (76 + (v7 + 1)).toNat = 76 + (v7.toNat + 1) by omega] at q46
                 unfold sd_ca sd_in
                 omega
               rw [if_pos a]
               exact (q62 ls hT.1 hT.2.1 hW (by first | decide | omega) ⟨by rw [C61]; exact R5 (Or.inl (by first | decide | omega)), by rw [C61]; exact R4.2⟩).2)
            | (rw [if_pos (by first | decide | omega)]
               have a : ¬ sd_ca (M 60) v7.toNat := fun y => by
                 rw [show (52 + (v7 + 1)).toNat = 52 + (v7.toNat + 1) by omega, show (76 + (v7 + 1)).toNat = 76 + (v7.toNat + 1) by omega] at q46
                 unfold sd_ca sd_in at y
                 omega
               rw [if_neg a])
            | (rw [if_neg (by first | decide | omega), if_pos (by first | decide | omega)]
               rw [Q52, Q76, Q64] at q71
               first
                 | (rw [if_pos (show sd_cb (M 60) v7.toNat by unfold sd_cb sd_in; omega)]
                    exact q79)
                 | rw [if_neg (show ¬ sd_cb (M 60) v7.toNat from fun y => by unfold sd_cb sd_in at y; omega)])
            | (have C94 : v94 = (l1.getD r []).getD 3 0 := by
                 rw [e94, sd_wpc (c := 3) hT hr (by decide) (by first | decide | omega), if_neg (by decide)]
                 omega
               have C102 : v102 = (l1.getD r []).getD 4 0 := by
                 rw [e102, sd_wpc (c := 4) hT hr (by decide) (by first | decide | omega), if_neg (by decide)]
                 omega
               rw [if_neg (by first | decide | omega), if_neg (by first | decide | omega), if_pos (by first | decide | omega), ← C94, ← C102]
               rw [← C94] at R3
               rw [show (16 + v7).toNat = 16 + v7.toNat by omega, show (16 + v94).toNat = 16 + v94.toNat by omega] at q103
               first
                 | (have C118 : v118 = v94 := by
                      rw [e118, e94]
                    have C126 : v126 = v102 := by
                      rw [e126, e102]
                      congr 2
                      omega
                    rw [C118, C126] at q127
                    have a : sd_c0 (M 60) v7.toNat v94.toNat v102 := by
                      unfold sd_c0
                      omega
                    rw [if_pos a]
                    exact q127 hW a ⟨by rw [C102]; exact R5 (Or.inr (by first | decide | omega)), by rw [C102]; exact R4.2⟩)
                 | rw [if_neg (show ¬ sd_c0 (M 60) v7.toNat v94.toNat v102 from fun y => by unfold sd_c0 at y; omega)])
            | (rw [if_neg (by first | decide | omega), if_neg (by first | decide | omega), if_neg (by first | decide | omega)]
               rw [Q52, Q76, Q40] at q135
               first
                 | (rw [if_pos (show sd_cp (M 60) v7.toNat by unfold sd_cp sd_in; omega)]
                    exact q143)
                 | rw [if_neg (show ¬ sd_cp (M 60) v7.toNat from fun y => by unfold sd_cp sd_in at y; omega)])
        · skip
          replace q103 := q103.resolve_right (fun z => h106 z.1)
          refine pz_nrc (c := 60) rfl ?_
          intro v117 e117 a117 b117
          rw [pz_wi (by first | decide | omega) (by first | decide | omega)] at e117
          clear a117 b117
          have lo118 : (0 : Int) ≤ v117 := by omega
          have tn118 : (((v117).toNat : Nat) : Int) = v117 := Int.toNat_of_nonneg lo118
          refine And.intro (lo118) (And.intro (show _ < (1725 : Int) from by omega) ?_)
          intro v118 e118 a118 b118
          rw [show v117 = v93 by omega] at e118
          refine pz_nrc (c := 60) rfl ?_
          intro v125 e125 a125 b125
          rw [pz_wi (by first | decide | omega) (by first | decide | omega)] at e125
          clear a125 b125
          have lo126 : (0 : Int) ≤ v125 := by omega
          have tn126 : (((v125).toNat : Nat) : Int) = v125 := Int.toNat_of_nonneg lo126
          refine And.intro (lo126) (And.intro (show _ < (1725 : Int) from by omega) ?_)
          intro v126 e126 a126 b126
          refine And.intro (And.intro hI (And.intro (by first | decide | omega) (And.intro (by first | decide | omega) (And.intro (by first | decide | omega) (by first | decide | omega))))) ?_
          intro M127 q127
          obtain ⟨q127, z127⟩ := q127
          have hS : pz_rl pz_QD M M127 := hS.tr z127
          have hI : pz_im M127 := hS.1 hI0
          refine And.intro rfl ?_
          refine ⟨fun ls l1 r hT hW hr hi => ?_, hS⟩
          have l16 := hT.2.2.2.choose_spec.1
          obtain ⟨R0, R1, R2, R3, R4, R5⟩ := sd_rowm hT hr
          have C7 : v7 = (l1.getD r []).getD 2 0 := by
            rw [e7, sd_wpc (c := 2) hT hr (by decide) (by first | decide | omega), if_neg (by decide)]
            omega
          have C16 : v16 = (l1.getD r []).getD 1 0 - 10 := by
            rw [e16, sd_wpc (c := 1) hT hr (by decide) (by first | decide | omega), if_pos rfl]
          have P7 : ∀ o : Nat, (o + v7).toNat = o + v7.toNat := fun o => by omega
          unfold sd_doe
          rw [← C7]
          rw [← C7] at R2
          have Q52 : (52 + v7).toNat = 52 + v7.toNat := by omega
          have Q76 : (76 + v7).toNat = 76 + v7.toNat := by omega
          have Q40 : (40 + v7).toNat = 40 + v7.toNat := by omega
          have Q64 : (64 + v7).toNat = 64 + v7.toNat := by omega
          first
            | (have C61 : v61 = (l1.getD r []).getD 4 0 := by
                 rw [e61, sd_wpc (c := 4) hT hr (by decide) (by first | decide | omega), if_neg (by decide)]
                 omega
               rw [if_pos (by first | decide | omega), ← C61]
               have a : sd_ca (M 60) v7.toNat := by
                 rw [show (52 + (v7 + 1)).toNat = 52 + (v7.toNat + 1) by omega, show (76 + (v7 + 1)).toNat = 76 + (v7.toNat + 1) by omega] at q46
                 unfold sd_ca sd_in
                 omega
               rw [if_pos a]
               exact (q62 ls hT.1 hT.2.1 hW (by first | decide | omega) ⟨by rw [C61]; exact R5 (Or.inl (by first | decide | omega)), by rw [C61]; exact R4.2⟩).2)
            | (rw [if_pos (by first | decide | omega)]
               have a : ¬ sd_ca (M 60) v7.toNat := fun y => by
                 rw [show (52 + (v7 + 1)).toNat = 52 + (v7.toNat + 1) by omega, show (76 + (v7 + 1)).toNat = 76 + (v7.toNat + 1) by omega] at q46
                 unfold sd_ca sd_in at y
                 omega
               rw [if_neg a])
            | (rw [if_neg (by first | decide | omega), if_pos (by first | decide | omega)]
               rw [Q52, Q76, Q64] at q71
               first
                 | (rw [if_pos (show sd_cb (M 60) v7.toNat by unfold sd_cb sd_in; omega)]
                    exact q79)
                 | rw [if_neg (show ¬ sd_cb (M 60) v7.toNat from fun y => by unfold sd_cb sd_in at y; omega)])
            | (have C94 : v94 = (l1.getD r []).getD 3 0 := by
                 rw [e94, sd_wpc (c := 3) hT hr (by decide) (by first | decide | omega), if_neg (by decide)]
                 omega
               have C102 : v102 = (l1.getD r []).getD 4 0 := by
                 rw [e102, sd_wpc (c := 4) hT hr (by decide) (by first | decide | omega), if_neg (by decide)]
                 omega
               rw [if_neg (by first | decide | omega), if_neg (by first | decide | omega), if_pos (by first | decide | omega), ← C94, ← C102]
               rw [← C94] at R3
               rw [show (16 + v7).toNat = 16 + v7.toNat by omega, show (16 + v94).toNat = 16 + v94.toNat by omega] at q103
               first
                 | (have C118 : v118 = v94 := by
                      rw [e118, e94]
                    have C126 : v126 = v102 := by
                      rw [e126, e102]
                      congr 2
                      omega
                    rw [C118, C126] at q127
                    have a : sd_c0 (M 60) v7.toNat v94.toNat v102 := by
                      unfold sd_c0
                      omega
                    rw [if_pos a]
                    exact q127 hW a ⟨by rw [C102]; exact R5 (Or.inr (by first | decide | omega)), by rw [C102]; exact R4.2⟩)
                 | rw [if_neg (show ¬ sd_c0 (M 60) v7.toNat v94.toNat v102 from fun y => by unfold sd_c0 at y; omega)])
            | (rw [if_neg (by first | decide | omega), if_neg (by first | decide | omega), if_neg (by first | decide | omega)]
               rw [Q52, Q76, Q40] at q135
               first
                 | (rw [if_pos (show sd_cp (M 60) v7.toNat by unfold sd_cp sd_in; omega)]
                    exact q143)
                 | rw [if_neg (show ¬ sd_cp (M 60) v7.toNat from fun y => by unfold sd_cp sd_in at y; omega)])
      exact True.intro
    · intro h17
      refine And.intro (hI) ?_
      intro v135 M135 a135 b135 q135
      obtain ⟨q135, z135⟩ := q135
      subst z135
      clear a135 b135
      refine And.intro (fun h138 => ?_) (fun h138 => ?_)
      · skip
        replace q135 := q135.resolve_left (fun z => absurd (z.1.symm.trans h138) (by decide))
        refine And.intro rfl ?_
        refine ⟨fun ls l1 r hT hW hr hi => ?_, hS⟩
        have l16 := hT.2.2.2.choose_spec.1
        obtain ⟨R0, R1, R2, R3, R4, R5⟩ := sd_rowm hT hr
        have C7 : v7 = (l1.getD r []).getD 2 0 := by
          rw [e7, sd_wpc (c := 2) hT hr (by decide) (by first | decide | omega), if_neg (by decide)]
          omega
        have C16 : v16 = (l1.getD r []).getD 1 0 - 10 := by
          rw [e16, sd_wpc (c := 1) hT hr (by decide) (by first | decide | omega), if_pos rfl]
        have P7 : ∀ o : Nat, (o + v7).toNat = o + v7.toNat := fun o => by omega
        unfold sd_doe
        rw [← C7]
        rw [← C7] at R2
        have Q52 : (52 + v7).toNat = 52 + v7.toNat := by omega
        have Q76 : (76 + v7).toNat = 76 + v7.toNat := by omega
        have Q40 : (40 + v7).toNat = 40 + v7.toNat := by omega
        have Q64 : (64 + v7).toNat = 64 + v7.toNat := by omega
        first
          | (have C61 : v61 = (l1.getD r []).getD 4 0 := by
               rw [e61, sd_wpc (c := 4) hT hr (by decide) (by first | decide | omega), if_neg (by decide)]
               omega
             rw [if_pos (by first | decide | omega), ← C61]
             have a : sd_ca (M 60) v7.toNat := by
               rw [show (52 + (v7 + 1)).toNat = 52 + (v7.toNat + 1) by omega, show (76 + (v7 + 1)).toNat = 76 + (v7.toNat + 1) by omega] at q46
               unfold sd_ca sd_in
               omega
             rw [if_pos a]
             exact (q62 ls hT.1 hT.2.1 hW (by first | decide | omega) ⟨by rw [C61]; exact R5 (Or.inl (by first | decide | omega)), by rw [C61]; exact R4.2⟩).2)
          | (rw [if_pos (by first | decide | omega)]
             have a : ¬ sd_ca (M 60) v7.toNat := fun y => by
               rw [show (52 + (v7 + 1)).toNat = 52 + (v7.toNat + 1) by omega, show (76 + (v7 + 1)).toNat = 76 + (v7.toNat + 1) by omega] at q46
               unfold sd_ca sd_in at y
               omega
             rw [if_neg a])
          | (rw [if_neg (by first | decide | omega), if_pos (by first | decide | omega)]
             rw [Q52, Q76, Q64] at q71
             first
               | (rw [if_pos (show sd_cb (M 60) v7.toNat by unfold sd_cb sd_in; omega)]
                  exact q79)
               | rw [if_neg (show ¬ sd_cb (M 60) v7.toNat from fun y => by unfold sd_cb sd_in at y; omega)])
          | (have C94 : v94 = (l1.getD r []).getD 3 0 := by
               rw [e94, sd_wpc (c := 3) hT hr (by decide) (by first | decide | omega), if_neg (by decide)]
               omega
             have C102 : v102 = (l1.getD r []).getD 4 0 := by
               rw [e102, sd_wpc (c := 4) hT hr (by decide) (by first | decide | omega), if_neg (by decide)]
               omega
             rw [if_neg (by first | decide | omega), if_neg (by first | decide | omega), if_pos (by first | decide | omega), ← C94, ← C102]
             rw [← C94] at R3
             rw [show (16 + v7).toNat = 16 + v7.toNat by omega, show (16 + v94).toNat = 16 + v94.toNat by omega] at q103
             first
               | (have C118 : v118 = v94 := by
                    rw [e118, e94]
                  have C126 : v126 = v102 := by
                    rw [e126, e102]
                    congr 2
                    omega
                  rw [C118, C126] at q127
                  have a : sd_c0 (M 60) v7.toNat v94.toNat v102 := by
                    unfold sd_c0
                    omega
                  rw [if_pos a]
                  exact q127 hW a ⟨by rw [C102]; exact R5 (Or.inr (by first | decide | omega)), by rw [C102]; exact R4.2⟩)
               | rw [if_neg (show ¬ sd_c0 (M 60) v7.toNat v94.toNat v102 from fun y => by unfold sd_c0 at y; omega)])
          | (rw [if_neg (by first | decide | omega), if_neg (by first | decide | omega), if_neg (by first | decide | omega)]
             rw [Q52, Q76, Q40] at q135
             first
               | (rw [if_pos (show sd_cp (M 60) v7.toNat by unfold sd_cp sd_in; omega)]
                  exact q143)
               | rw [if_neg (show ¬ sd_cp (M 60) v7.toNat from fun y => by unfold sd_cp sd_in at y; omega)])
      · skip
        replace q135 := q135.resolve_right (fun z => h138 z.1)
        refine And.intro (And.intro hI (And.intro (by first | decide | omega) (by first | decide | omega))) ?_
        intro M143 q143
        obtain ⟨q143, z143⟩ := q143
        have hS : pz_rl pz_QD M M143 := hS.tr z143
        have hI : pz_im M143 := hS.1 hI0
        refine And.intro rfl ?_
        refine ⟨fun ls l1 r hT hW hr hi => ?_, hS⟩
        have l16 := hT.2.2.2.choose_spec.1
        obtain ⟨R0, R1, R2, R3, R4, R5⟩ := sd_rowm hT hr
        have C7 : v7 = (l1.getD r []).getD 2 0 := by
          rw [e7, sd_wpc (c := 2) hT hr (by decide) (by first | decide | omega), if_neg (by decide)]
          omega
        have C16 : v16 = (l1.getD r []).getD 1 0 - 10 := by
          rw [e16, sd_wpc (c := 1) hT hr (by decide) (by first | decide | omega), if_pos rfl]
        have P7 : ∀ o : Nat, (o + v7).toNat = o + v7.toNat := fun o => by omega
        unfold sd_doe
        rw [← C7]
        rw [← C7] at R2
        have Q52 : (52 + v7).toNat = 52 + v7.toNat := by omega
        have Q76 : (76 + v7).toNat = 76 + v7.toNat := by omega
        have Q40 : (40 + v7).toNat = 40 + v7.toNat := by omega
        have Q64 : (64 + v7).toNat = 64 + v7.toNat := by omega
        first
          | (have C61 : v61 = (l1.getD r []).getD 4 0 := by
               rw [e61, sd_wpc (c := 4) hT hr (by decide) (by first | decide | omega), if_neg (by decide)]
               omega
             rw [if_pos (by first | decide | omega), ← C61]
             have a : sd_ca (M 60) v7.toNat := by
               rw [show (52 + (v7 + 1)).toNat = 52 + (v7.toNat + 1) by omega, show (76 + (v7 + 1)).toNat = 76 + (v7.toNat + 1) by omega] at q46
               unfold sd_ca sd_in
               omega
             rw [if_pos a]
             exact (q62 ls hT.1 hT.2.1 hW (by first | decide | omega) ⟨by rw [C61]; exact R5 (Or.inl (by first | decide | omega)), by rw [C61]; exact R4.2⟩).2)
          | (rw [if_pos (by first | decide | omega)]
             have a : ¬ sd_ca (M 60) v7.toNat := fun y => by
               rw [show (52 + (v7 + 1)).toNat = 52 + (v7.toNat + 1) by omega, show (76 + (v7 + 1)).toNat = 76 + (v7.toNat + 1) by omega] at q46
               unfold sd_ca sd_in at y
               omega
             rw [if_neg a])
          | (rw [if_neg (by first | decide | omega), if_pos (by first | decide | omega)]
             rw [Q52, Q76, Q64] at q71
             first
               | (rw [if_pos (show sd_cb (M 60) v7.toNat by unfold sd_cb sd_in; omega)]
                  exact q79)
               | rw [if_neg (show ¬ sd_cb (M 60) v7.toNat from fun y => by unfold sd_cb sd_in at y; omega)])
          | (have C94 : v94 = (l1.getD r []).getD 3 0 := by
               rw [e94, sd_wpc (c := 3) hT hr (by decide) (by first | decide | omega), if_neg (by decide)]
               omega
             have C102 : v102 = (l1.getD r []).getD 4 0 := by
               rw [e102, sd_wpc (c := 4) hT hr (by decide) (by first | decide | omega), if_neg (by decide)]
               omega
             rw [if_neg (by first | decide | omega), if_neg (by first | decide | omega), if_pos (by first | decide | omega), ← C94, ← C102]
             rw [← C94] at R3
             rw [show (16 + v7).toNat = 16 + v7.toNat by omega, show (16 + v94).toNat = 16 + v94.toNat by omega] at q103
             first
               | (have C118 : v118 = v94 := by
                    rw [e118, e94]
                  have C126 : v126 = v102 := by
                    rw [e126, e102]
                    congr 2
                    omega
                  rw [C118, C126] at q127
                  have a : sd_c0 (M 60) v7.toNat v94.toNat v102 := by
                    unfold sd_c0
                    omega
                  rw [if_pos a]
                  exact q127 hW a ⟨by rw [C102]; exact R5 (Or.inr (by first | decide | omega)), by rw [C102]; exact R4.2⟩)
               | rw [if_neg (show ¬ sd_c0 (M 60) v7.toNat v94.toNat v102 from fun y => by unfold sd_c0 at y; omega)])
          | (rw [if_neg (by first | decide | omega), if_neg (by first | decide | omega), if_neg (by first | decide | omega)]
             rw [Q52, Q76, Q40] at q135
             first
               | (rw [if_pos (show sd_cp (M 60) v7.toNat by unfold sd_cp sd_in; omega)]
                  exact q143)
               | rw [if_neg (show ¬ sd_cp (M 60) v7.toNat from fun y => by unfold sd_cp sd_in at y; omega)])
theorem v3_X12_does {fr lo i : Nat} {own : String} (h1 : 6 + 1 ≤ fr) (h2 : 8 + (3 + 11) + 140 ≤ lo) (h3 : .methodLink own i yX12_does ∈ lw_tbl) : pz_cV fr lo own i k3_X12_does :=
  pz_cVk (maxL := 3) (fr' := 6) (lo' := 140) 1 12 h3_X12_does rfl ⟨(pz_nhc_RX12 yX12_does rfl).1, (pz_nhc_RX12 yX12_does rfl).2, pz_ds8⟩ ⟨pz_wq1538, pz_wq1537, pz_ws60, pz_wq13⟩ (Or.inl ⟨TX12, 28, rfl⟩) (fun a M _ h => by
    have h : (match (generalizing := false) a with | [.inr (.inr (12, th)), .inl i] => pz_im M ∧ 0 ≤ i ∧ i < 1000 | _ => False) := h
    split at h
    · exact ⟨_, _, rfl⟩
    · exact h.elim) h1 h2 h3
noncomputable def k3_X12_aDay : pz_C := (1, 1, fun a M => (match a with | [.inr (.inr (12, th))] => pz_im M | _ => False), fun a M r M' => (match a, r with | [.inr (.inr (12, th))], some (.inl v) => (∀ (ls : List pz_lne) (l1 : List (List Int)), sd_tm (M 60) ls l1 → sd_wf (M 60) → v = (sd_d4 (sd_Tr M) ls l1 (M 60)).2 ∧ M' 60 = sd_day (sd_Tr M) ls l1 (M 60) ∧ sd_wf (M' 60)) ∧ pz_rl pz_QD M M' | _, _ => False))
noncomputable abbrev ct3_X12_aDay : List (Bool × Nat × pz_C) := [(true, 367, k3_X12_does), (true, 349, k3_X12_canPaper), (true, 370, k3_X12_readyOf), (true, 373, k3_X12_falls), (true, 352, k3_X12_getsReady), (true, 317, k3_X12_isThere), (true, 376, k3_X12_leaveOf), (true, 379, k3_X12_leaves), (true, 382, k3_X12_moves), (true, 288, k3_X12_isBridged), (true, 385, k3_X12_costOf), (false, 51, k_X12_greater)]
set_option maxRecDepth 100000 in
set_option maxHeartbeats 4000000 in
theorem h3_X12_aDay : pz_H yX12_aDay cX12_aDay 3 (some .int) k3_X12_aDay 7 162 := by
  refine pz_mk (own := RX12) (tb := t_X12_aDay) (fl := pz_flf fl_RX12) (ci := pz_cif ci_RX12) (ct := pz_ctf ct3_X12_aDay) (rz := false) (pz_pfc_RX12 yX12_aDay rfl) rfl t_X12_aDay_ok (pz_flk fl_RX12_ok) (pz_cik ci_RX12_ok) ?_ ?_ (Or.inl ⟨rfl, rfl⟩) ?_ ?_
  · exact fun i k' h => pz_ctk (l := ct3_X12_aDay) (P := fun b i k => b = true → pz_cV 7 162 RX12 i k) (List.forall_mem_cons.mpr ⟨(fun _ => v3_X12_does (by decide) (by decide) pz_wq1535), List.forall_mem_cons.mpr ⟨(fun _ => v3_X12_canPaper (by decide) (by decide) pz_wq1515), List.forall_mem_cons.mpr ⟨(fun _ => v3_X12_readyOf (by decide) (by decide) pz_wq1539), List.forall_mem_cons.mpr ⟨(fun _ => v3_X12_falls (by decide) (by decide) pz_wq1543), List.forall_mem_cons.mpr ⟨(fun _ => v3_X12_getsReady (by decide) (by decide) pz_wq1519), List.forall_mem_cons.mpr ⟨(fun _ => v3_X12_isThere (by decide) (by decide) pz_wq1415), List.forall_mem_cons.mpr ⟨(fun _ => v3_X12_leaveOf (by decide) (by decide) pz_wq1553), List.forall_mem_cons.mpr ⟨(fun _ => v3_X12_leaves (by decide) (by decide) pz_wq1557), List.forall_mem_cons.mpr ⟨(fun _ => v3_X12_moves (by decide) (by decide) pz_wq1565), List.forall_mem_cons.mpr ⟨(fun _ => v3_X12_isBridged (by decide) (by decide) pz_wq1450), List.forall_mem_cons.mpr ⟨(fun _ => v3_X12_costOf (by decide) (by decide) pz_wq1577), List.forall_mem_cons.mpr ⟨((fun z => by cases z)), fun _ h => absurd h List.not_mem_nil⟩⟩⟩⟩⟩⟩⟩⟩⟩⟩⟩⟩) true i k' h rfl
  · exact fun i k' h => pz_ctk (l := ct3_X12_aDay) (P := fun b i k => b = false → (pz_cS 7 162 RX12 i k ∨ (k = pz_kac ∧ 1 ≤ 7 ∧ 60 ≤ 162 ∧ Cond.methodLink RX12 i arraycopyName ∈ pz_tbl))) (List.forall_mem_cons.mpr ⟨((fun z => by cases z)), List.forall_mem_cons.mpr ⟨((fun z => by cases z)), List.forall_mem_cons.mpr ⟨((fun z => by cases z)), List.forall_mem_cons.mpr ⟨((fun z => by cases z)), List.forall_mem_cons.mpr ⟨((fun z => by cases z)), List.forall_mem_cons.mpr ⟨((fun z => by cases z)), List.forall_mem_cons.mpr ⟨((fun z => by cases z)), List.forall_mem_cons.mpr ⟨((fun z => by cases z)), List.forall_mem_cons.mpr ⟨((fun z => by cases z)), List.forall_mem_cons.mpr ⟨((fun z => by cases z)), List.forall_mem_cons.mpr ⟨((fun z => by cases z)), List.forall_mem_cons.mpr ⟨(fun _ => Or.inl (s_X12_greater (by decide) (by decide) (Or.inl pz_wq1447))), fun _ h => absurd h List.not_mem_nil⟩⟩⟩⟩⟩⟩⟩⟩⟩⟩⟩⟩) false i k' h rfl
  · intro a M hlen hpre
    obtain ⟨th, rfl, hpre⟩ : ∃ th, a = [.inr (.inr (12, th))] ∧ (pz_im M) := by
      have hpre : (match (generalizing := false) a with | [.inr (.inr (12, th))] => pz_im M | _ => False) := hpre
      split at hpre
      · exact ⟨_, rfl, hpre⟩
      · exact hpre.elim
    exact Nat.le_of_ble_eq_true rfl
  · intro a M hlen hcan hM hpre Ok hgo
    obtain ⟨th, rfl, hpre⟩ : ∃ th, a = [.inr (.inr (12, th))] ∧ (pz_im M) := by
      have hpre : (match (generalizing := false) a with | [.inr (.inr (12, th))] => pz_im M | _ => False) := hpre
      split at hpre
      · exact ⟨_, rfl, hpre⟩
      · exact hpre.elim
    obtain ⟨k_th, hc_th⟩ := pz_tlm hcan
    have k_th : pz_kd th = 12 ∧ th < 231 := k_th
    have R_th := pz_kd12 k_th.1
    subst R_th
    clear k_th
    have hI : pz_im M := hpre
    have hI0 := hI
    have hS : pz_rl pz_QD M M := pz_rl.rf
    have I88 := hI.1.1
    have L156 : ∀ (fu : Nat) (x1 : Int) (x2 : Int) (N156 : pz_M), (12 - x2).toNat < fu → (pz_rl pz_QD M N156) → (0 ≤ x2) → (∀ (ls : List pz_lne) (l1 : List (List Int)), sd_tm (M 60) ls l1 → sd_wf (M 60) → sd_wf (N156 60) ∧ N156 60 88 = M 60 88 ∧ sd_p5 ls (sd_n (M 60) - x2.toNat) x2.toNat (N156 60) = sd_d5 (sd_Tr M) ls l1 (M 60) ∧ x1 = (sd_d4 (sd_Tr M) ls l1 (M 60)).2) → Ok 156 [some (.inr (.inr (12, 1))), some (.inl x1), some (.inl x2)] [] N156 := by
      intro fu
      induction fu with
      | zero => exact fun _ _ _ hn => absurd hn (Nat.not_lt_zero _)
      | succ fu ih156 =>
        intro x1 x2 N156 hn156 hS g156_1 g156_2
        have hI : pz_im N156 := hS.1 hI0
        have F88 : N156 60 88 = M 60 88 := hS.2 60 88 (by unfold pz_QD; first | decide | omega)
        have I88 := hI0.1.1
        have T0 : sd_Tr N156 = sd_Tr M := by
          unfold sd_Tr
          rw [hS.2 1 26 (by unfold pz_QD; first | decide | omega)]
        have E0 : ∀ (ls : List pz_lne) (l1 : List (List Int)), sd_tm (M 60) ls l1 → sd_tm (N156 60) ls l1 := fun ls l1 h => sd_tm_cg h (fun j q => hS.2 60 j (by unfold pz_QD; first | decide | omega))
        have hS156 := hS
        have L213 : ∀ (x1 : Int) (x2 : Int) (N213 : pz_M), (pz_rl pz_QD M N213) → (0 ≤ x2) → (x2 < 12) → ((12 - x2).toNat < fu + 1) → (x2 < M 60 88) → (∀ (ls : List pz_lne) (l1 : List (List Int)), sd_tm (M 60) ls l1 → sd_wf (M 60) → sd_wf (N213 60) ∧ N213 60 88 = M 60 88 ∧ sd_p5 ls (sd_n (M 60) - (x2.toNat + 1)) (x2.toNat + 1) (N213 60) = sd_d5 (sd_Tr M) ls l1 (M 60) ∧ x1 = (sd_d4 (sd_Tr M) ls l1 (M 60)).2) → Ok 213 [some (.inr (.inr (12, 1))), some (.inl x1), some (.inl x2)] [] N213 := by
          intro x1 x2 N213 hS g213_1 g213_2 g213_3 g213_4 g213_5
          have hI : pz_im N213 := hS.1 hI0
          have F88 : N213 60 88 = M 60 88 := hS.2 60 88 (by unfold pz_QD; first | decide | omega)
          have I88 := hI0.1.1
          have T0 : sd_Tr N213 = sd_Tr M := by
            unfold sd_Tr
            rw [hS.2 1 26 (by unfold pz_QD; first | decide | omega)]
          have E0 : ∀ (ls : List pz_lne) (l1 : List (List Int)), sd_tm (M 60) ls l1 → sd_tm (N213 60) ls l1 := fun ls l1 h => sd_tm_cg h (fun j q => hS.2 60 j (by unfold pz_QD; first | decide | omega))
          have hS213 := hS
          refine hgo (fun p => Nat.beq p 2 || Nat.beq p 45 || Nat.beq p 53 || Nat.beq p 89 || Nat.beq p 97 || Nat.beq p 125 || Nat.beq p 143 || Nat.beq p 156 || Nat.beq p 213) 133 213 _ _ _ ?_
          intro v213 e213 a213 b213
          rw [pz_wi (by first | decide | omega) (by first | decide | omega)] at e213
          have G213 : ∀ (ls : List pz_lne) (l1 : List (List Int)), sd_tm (M 60) ls l1 → sd_wf (M 60) → sd_wf (N213 60) ∧ N213 60 88 = M 60 88 ∧ sd_p5 ls (sd_n (M 60) - v213.toNat) v213.toNat (N213 60) = sd_d5 (sd_Tr M) ls l1 (M 60) ∧ x1 = (sd_d4 (sd_Tr M) ls l1 (M 60)).2 := by
            rw [show v213.toNat = x2.toNat + 1 by omega]
            exact g213_5
          exact ih156 _ _ _ (by first | decide | omega) hS (by first | omega | assumption) (by first | omega | assumption)
        refine hgo (fun p => Nat.beq p 2 || Nat.beq p 45 || Nat.beq p 53 || Nat.beq p 89 || Nat.beq p 97 || Nat.beq p 125 || Nat.beq p 143 || Nat.beq p 156 || Nat.beq p 213) 133 156 _ _ _ ?_
        refine pz_nrc (c := 60) rfl ?_
        refine And.intro (by first | decide | omega) (And.intro (show _ < (1725 : Int) from by omega) ?_)
        intro v163 e163 a163 b163
        replace e163 : v163 = N156 60 88 := e163
        have I163 : 0 ≤ v163 ∧ v163 ≤ 12 := by
          rw [e163]
          exact hI.1.1
        clear a163 b163
        refine And.intro (fun h164 => ?_) (fun h164 => ?_)
        · skip
          refine pz_nrc (c := 60) rfl ?_
          refine And.intro (by first | decide | omega) (And.intro (show _ < (1725 : Int) from by omega) ?_)
          intro v225 e225 a225 b225
          replace e225 : v225 = N156 60 0 := e225
          intro v227 e227 a227 b227
          refine And.intro (by first | decide | omega) (And.intro (show _ < (1725 : Int) from by omega) ?_)
          intro M228 e228
          have hS : pz_rl pz_QD M M228 := by
            rw [e228]
            exact pz_rl_u hS (by unfold pz_QD; first | decide | omega) (pz_iom_w0 (by first | decide | omega))
          have hI : pz_im M228 := hS.1 hI0
          have Z228 : M228 60 = sd_u (N156 60) 0 (pz_w (N156 60 0 + 1)) := by
            rw [e228, sd_um, e227, e225]
            rfl
          refine And.intro rfl ?_
          refine ⟨fun ls l1 hT hW => ?_, hS⟩
          obtain ⟨w, r1, r2, r3⟩ := g156_2 ls l1 hT hW
          have m9 := w.1
          have n9 : (sd_n (M 60) : Int) = M 60 88 := sd_n_i hW
          rw [show sd_n (M 60) - x2.toNat = 0 by omega] at r2
          have r2 : N156 60 = sd_d5 (sd_Tr M) ls l1 (M 60) := r2
          have Zw : sd_wf (M228 60) := by
            rw [Z228]
            exact sd_wf_cg w (fun k hk => sd_un (by first | decide | omega)) (by rw [sd_un (by decide)]; exact w.2.1)
          refine ⟨r3, ?_, Zw⟩
          rw [Z228, r2]
          rfl
        · skip
          refine And.intro (And.intro hI (And.intro (by first | decide | omega) (by first | decide | omega))) ?_
          intro v169 M169 a169 b169 q169
          obtain ⟨q169, z169⟩ := q169
          subst z169
          clear a169 b169
          refine And.intro (fun h172 => ?_) (fun h172 => ?_)
          · skip
            have G172 : ∀ (ls : List pz_lne) (l1 : List (List Int)), sd_tm (M 60) ls l1 → sd_wf (M 60) → sd_wf (N156 60) ∧ N156 60 88 = M 60 88 ∧ sd_p5 ls (sd_n (M 60) - (x2.toNat + 1)) (x2.toNat + 1) (N156 60) = sd_d5 (sd_Tr M) ls l1 (M 60) ∧ x1 = (sd_d4 (sd_Tr M) ls l1 (M 60)).2 := fun ls l1 hT hW => by
              obtain ⟨w, r1, r2, r3⟩ := g156_2 ls l1 hT hW
              have t := E0 ls l1 hT
              have m9 := w.1
              have n9 : (sd_n (M 60) : Int) = M 60 88 := sd_n_i hW
              rw [show sd_n (M 60) - x2.toNat = (sd_n (M 60) - (x2.toNat + 1)) + 1 by omega] at r2
              have r2 : sd_p5 ls (sd_n (M 60) - (x2.toNat + 1)) (x2.toNat + 1) (sd_s5 ls x2.toNat (N156 60)) = _ := r2
              rw [show (64 + x2).toNat = 64 + x2.toNat by omega] at q169
              rw [show sd_s5 ls x2.toNat (N156 60) = N156 60 from if_neg (fun y => by omega)] at r2
              exact ⟨w, r1, r2, r3⟩
            replace q169 := q169.resolve_left (fun z => absurd (z.1.symm.trans h172) (by decide))
            exact L213 _ _ _ hS (by first | omega | assumption) (by first | omega | assumption) (by first | omega | assumption) (by first | omega | assumption) (by first | omega | assumption)
          · skip
            skip
            replace q169 := q169.resolve_right (fun z => h172 z.1)
            refine And.intro (hI) ?_
            intro v177 M177 a177 b177 q177
            obtain ⟨q177, z177⟩ := q177
            subst z177
            clear a177 b177
            refine And.intro (fun h180 => ?_) (fun h180 => ?_)
            · skip
              have G180 : ∀ (ls : List pz_lne) (l1 : List (List Int)), sd_tm (M 60) ls l1 → sd_wf (M 60) → sd_wf (N156 60) ∧ N156 60 88 = M 60 88 ∧ sd_p5 ls (sd_n (M 60) - (x2.toNat + 1)) (x2.toNat + 1) (N156 60) = sd_d5 (sd_Tr M) ls l1 (M 60) ∧ x1 = (sd_d4 (sd_Tr M) ls l1 (M 60)).2 := fun ls l1 hT hW => by
                obtain ⟨w, r1, r2, r3⟩ := g156_2 ls l1 hT hW
                have t := E0 ls l1 hT
                have m9 := w.1
                have n9 : (sd_n (M 60) : Int) = M 60 88 := sd_n_i hW
                rw [show sd_n (M 60) - x2.toNat = (sd_n (M 60) - (x2.toNat + 1)) + 1 by omega] at r2
                have r2 : sd_p5 ls (sd_n (M 60) - (x2.toNat + 1)) (x2.toNat + 1) (sd_s5 ls x2.toNat (N156 60)) = _ := r2
                rw [show (52 + x2).toNat = 52 + x2.toNat by omega, show (76 + x2).toNat = 76 + x2.toNat by omega] at q177
                rw [show sd_s5 ls x2.toNat (N156 60) = N156 60 from if_neg (fun y => by have y2 := y.2; unfold sd_in at y2; omega)] at r2
                exact ⟨w, r1, r2, r3⟩
              replace q177 := q177.resolve_left (fun z => absurd (z.1.symm.trans h180) (by decide))
              exact L213 _ _ _ hS (by first | omega | assumption) (by first | omega | assumption) (by first | omega | assumption) (by first | omega | assumption) (by first | omega | assumption)
            · skip
              skip
              replace q177 := q177.resolve_right (fun z => h180 z.1)
              refine pz_nrc (c := 60) rfl ?_
              intro v190 e190 a190 b190
              rw [pz_wi (by first | decide | omega) (by first | decide | omega)] at e190
              clear a190 b190
              refine pz_nrc (c := 60) rfl ?_
              intro v201 e201 a201 b201
              rw [pz_wi (by first | decide | omega) (by first | decide | omega)] at e201
              clear a201 b201
              have lo202 : (0 : Int) ≤ v201 := by omega
              have tn202 : (((v201).toNat : Nat) : Int) = v201 := Int.toNat_of_nonneg lo202
              refine And.intro (lo202) (And.intro (show _ < (1725 : Int) from by omega) ?_)
              intro v202 e202 a202 b202
              rw [show v201.toNat = 16 + x2.toNat by omega] at e202
              refine And.intro (And.intro hI (And.intro (by first | decide | omega) (by first | decide | omega))) ?_
              intro v205 M205 a205 b205 q205
              obtain ⟨q205, z205⟩ := q205
              have hS : pz_rl pz_QD M M205 := hS.tr (pz_rl.wk pz_wk_QS_QD z205)
              have hI : pz_im M205 := hS.1 hI0
              clear a205 b205
              have W205 : M205 60 = N156 60 := funext fun j => z205.2 60 j (by unfold pz_QS; first | decide | omega)
              intro v208 e208 a208 b208
              refine And.intro (True.intro) ?_
              intro v209 M209 a209 b209 q209
              obtain ⟨q209, z209⟩ := q209
              subst z209
              have lo212 : (0 : Int) ≤ v190 := by omega
              have tn212 : (((v190).toNat : Nat) : Int) = v190 := Int.toNat_of_nonneg lo212
              refine And.intro (lo212) (And.intro (show _ < (1725 : Int) from by omega) ?_)
              intro M212 e212
              have hS : pz_rl pz_QD M M212 := by
                rw [e212]
                exact pz_rl_u hS (by unfold pz_QD; first | decide | omega) (pz_iom_w1 (by first | decide | omega) (by first | decide | omega))
              have hI : pz_im M212 := hS.1 hI0
              rw [show v190.toNat = 16 + x2.toNat by omega] at e212
              have G212 : ∀ (ls : List pz_lne) (l1 : List (List Int)), sd_tm (M 60) ls l1 → sd_wf (M 60) → sd_wf (M212 60) ∧ M212 60 88 = M 60 88 ∧ sd_p5 ls (sd_n (M 60) - (x2.toNat + 1)) (x2.toNat + 1) (M212 60) = sd_d5 (sd_Tr M) ls l1 (M 60) ∧ x1 = (sd_d4 (sd_Tr M) ls l1 (M 60)).2 := fun ls l1 hT hW => by
                obtain ⟨w, r1, r2, r3⟩ := g156_2 ls l1 hT hW
                have t := E0 ls l1 hT
                have m9 := w.1
                have n9 : (sd_n (M 60) : Int) = M 60 88 := sd_n_i hW
                rw [show sd_n (M 60) - x2.toNat = (sd_n (M 60) - (x2.toNat + 1)) + 1 by omega] at r2
                have r2 : sd_p5 ls (sd_n (M 60) - (x2.toNat + 1)) (x2.toNat + 1) (sd_s5 ls x2.toNat (N156 60)) = _ := r2
                rw [show (64 + x2).toNat = 64 + x2.toNat by omega] at q169
                rw [show (52 + x2).toNat = 52 + x2.toNat by omega, show (76 + x2).toNat = 76 + x2.toNat by omega] at q177
                have R := q205.1 (by first | decide | omega) ls t.1 t.2.1
                have P := (w.2.2 x2.toNat (by first | decide | omega)).2.1
                have Q := sd_co_b (ls := ls) (F := N156 60) (i := x2.toNat)
                rw [pz_wi (by first | decide | omega) (by first | decide | omega)] at e208
                have K : M212 60 = sd_s5 ls x2.toNat (N156 60) := by
                  unfold sd_s5
                  rw [if_pos (by unfold sd_in; first | decide | omega), e212, sd_um, W205, show v209 = max (-9999) (N156 60 (16 + x2.toNat) - sd_co ls (N156 60) x2.toNat) by omega]
                rw [K]
                exact ⟨sd_s5_wf w (by first | decide | omega), (sd_s5_88 (by first | decide | omega)).trans r1, r2, r3⟩
              exact L213 _ _ _ hS (by first | omega | assumption) (by first | omega | assumption) (by first | omega | assumption) (by first | omega | assumption) (by first | omega | assumption)
    have L97 : ∀ (fu : Nat) (x1 : Int) (d2 : Option pz_V) (N97 : pz_M), (12 - x1).toNat < fu → (pz_rl pz_QD M N97) → (0 ≤ x1) → (∀ (ls : List pz_lne) (l1 : List (List Int)), sd_tm (M 60) ls l1 → sd_wf (M 60) → sd_wf (N97 60) ∧ N97 60 88 = M 60 88 ∧ sd_p3 (sd_Tr M) ls (sd_n (M 60) - x1.toNat) x1.toNat (N97 60) = sd_d3 (sd_Tr M) ls l1 (M 60)) → Ok 97 [some (.inr (.inr (12, 1))), some (.inl x1), d2] [] N97 := by
      intro fu
      induction fu with
      | zero => exact fun _ _ _ hn => absurd hn (Nat.not_lt_zero _)
      | succ fu ih97 =>
        intro x1 d2 N97 hn97 hS g97_1 g97_2
        have hI : pz_im N97 := hS.1 hI0
        have F88 : N97 60 88 = M 60 88 := hS.2 60 88 (by unfold pz_QD; first | decide | omega)
        have I88 := hI0.1.1
        have T0 : sd_Tr N97 = sd_Tr M := by
          unfold sd_Tr
          rw [hS.2 1 26 (by unfold pz_QD; first | decide | omega)]
        have E0 : ∀ (ls : List pz_lne) (l1 : List (List Int)), sd_tm (M 60) ls l1 → sd_tm (N97 60) ls l1 := fun ls l1 h => sd_tm_cg h (fun j q => hS.2 60 j (by unfold pz_QD; first | decide | omega))
        have hS97 := hS
        have L143 : ∀ (x1 : Int) (x2 : Int) (N143 : pz_M), (pz_rl pz_QD M N143) → (0 ≤ x1) → (x1 < 12) → ((12 - x1).toNat < fu + 1) → (x1 < M 60 88) → (∀ (ls : List pz_lne) (l1 : List (List Int)), sd_tm (M 60) ls l1 → sd_wf (M 60) → sd_wf (N143 60) ∧ N143 60 88 = M 60 88 ∧ sd_p3 (sd_Tr M) ls (sd_n (M 60) - (x1.toNat + 1)) (x1.toNat + 1) (N143 60) = sd_d3 (sd_Tr M) ls l1 (M 60)) → Ok 143 [some (.inr (.inr (12, 1))), some (.inl x1), some (.inl x2)] [] N143 := by
          intro x1 x2 N143 hS g143_1 g143_2 g143_3 g143_4 g143_5
          have hI : pz_im N143 := hS.1 hI0
          have F88 : N143 60 88 = M 60 88 := hS.2 60 88 (by unfold pz_QD; first | decide | omega)
          have I88 := hI0.1.1
          have T0 : sd_Tr N143 = sd_Tr M := by
            unfold sd_Tr
            rw [hS.2 1 26 (by unfold pz_QD; first | decide | omega)]
          have E0 : ∀ (ls : List pz_lne) (l1 : List (List Int)), sd_tm (M 60) ls l1 → sd_tm (N143 60) ls l1 := fun ls l1 h => sd_tm_cg h (fun j q => hS.2 60 j (by unfold pz_QD; first | decide | omega))
          have hS143 := hS
          refine hgo (fun p => Nat.beq p 2 || Nat.beq p 45 || Nat.beq p 53 || Nat.beq p 89 || Nat.beq p 97 || Nat.beq p 125 || Nat.beq p 143 || Nat.beq p 156 || Nat.beq p 213) 133 143 _ _ _ ?_
          intro v143 e143 a143 b143
          rw [pz_wi (by first | decide | omega) (by first | decide | omega)] at e143
          have G143 : ∀ (ls : List pz_lne) (l1 : List (List Int)), sd_tm (M 60) ls l1 → sd_wf (M 60) → sd_wf (N143 60) ∧ N143 60 88 = M 60 88 ∧ sd_p3 (sd_Tr M) ls (sd_n (M 60) - v143.toNat) v143.toNat (N143 60) = sd_d3 (sd_Tr M) ls l1 (M 60) := by
            rw [show v143.toNat = x1.toNat + 1 by omega]
            exact g143_5
          exact ih97 _ _ _ (by first | decide | omega) hS (by first | omega | assumption) (by first | omega | assumption)
        have L125 : ∀ (x1 : Int) (d2 : Option pz_V) (s0 : Int) (N125 : pz_M), (pz_rl pz_QD M N125) → (0 ≤ x1) → (x1 < 12) → ((12 - x1).toNat < fu + 1) → (x1 < M 60 88) → (∀ (ls : List pz_lne) (l1 : List (List Int)), sd_tm (M 60) ls l1 → sd_wf (M 60) → sd_wf (N125 60) ∧ N125 60 88 = M 60 88 ∧ sd_p3 (sd_Tr M) ls (sd_n (M 60) - x1.toNat) x1.toNat (N125 60) = sd_d3 (sd_Tr M) ls l1 (M 60) ∧ s0 = (if sd_in (N125 60) x1.toNat then sd_le ls (N125 60) x1.toNat else 0)) → Ok 125 [some (.inr (.inr (12, 1))), some (.inl x1), d2] [.inl s0] N125 := by
          intro x1 d2 s0 N125 hS g125_1 g125_2 g125_3 g125_4 g125_5
          have hI : pz_im N125 := hS.1 hI0
          have F88 : N125 60 88 = M 60 88 := hS.2 60 88 (by unfold pz_QD; first | decide | omega)
          have I88 := hI0.1.1
          have T0 : sd_Tr N125 = sd_Tr M := by
            unfold sd_Tr
            rw [hS.2 1 26 (by unfold pz_QD; first | decide | omega)]
          have E0 : ∀ (ls : List pz_lne) (l1 : List (List Int)), sd_tm (M 60) ls l1 → sd_tm (N125 60) ls l1 := fun ls l1 h => sd_tm_cg h (fun j q => hS.2 60 j (by unfold pz_QD; first | decide | omega))
          have hS125 := hS
          refine hgo (fun p => Nat.beq p 2 || Nat.beq p 45 || Nat.beq p 53 || Nat.beq p 89 || Nat.beq p 97 || Nat.beq p 125 || Nat.beq p 143 || Nat.beq p 156 || Nat.beq p 213) 133 125 _ _ _ ?_
          refine And.intro (fun h127 => ?_) (fun h127 => ?_)
          · skip
            have G127 : ∀ (ls : List pz_lne) (l1 : List (List Int)), sd_tm (M 60) ls l1 → sd_wf (M 60) → sd_wf (N125 60) ∧ N125 60 88 = M 60 88 ∧ sd_p3 (sd_Tr M) ls (sd_n (M 60) - (x1.toNat + 1)) (x1.toNat + 1) (N125 60) = sd_d3 (sd_Tr M) ls l1 (M 60) := fun ls l1 hT hW => by
              obtain ⟨w, r1, r2, r3⟩ := g125_5 ls l1 hT hW
              have t := E0 ls l1 hT
              have m9 := w.1
              have n9 : (sd_n (M 60) : Int) = M 60 88 := sd_n_i hW
              rw [show sd_n (M 60) - x1.toNat = (sd_n (M 60) - (x1.toNat + 1)) + 1 by omega] at r2
              have r2 : sd_p3 (sd_Tr M) ls (sd_n (M 60) - (x1.toNat + 1)) (x1.toNat + 1) (sd_s3 (sd_Tr M) ls x1.toNat (N125 60)) = _ := r2
              rw [show sd_s3 (sd_Tr M) ls x1.toNat (N125 60) = N125 60 from if_neg (fun y => by have y2 := y.2; rw [if_pos y.1] at r3; omega)] at r2
              exact ⟨w, r1, r2⟩
            exact L143 _ _ _ hS (by first | omega | assumption) (by first | omega | assumption) (by first | omega | assumption) (by first | omega | assumption) (by first | omega | assumption)
          · skip
            skip
            refine And.intro (hI) ?_
            intro v132 M132 a132 b132 q132
            obtain ⟨q132, z132⟩ := q132
            have hS : pz_rl pz_QD M M132 := hS.tr z132
            have hI : pz_im M132 := hS.1 hI0
            refine And.intro (fun h135 => ?_) (fun h135 => ?_)
            · skip
              have G135 : ∀ (ls : List pz_lne) (l1 : List (List Int)), sd_tm (M 60) ls l1 → sd_wf (M 60) → sd_wf (M132 60) ∧ M132 60 88 = M 60 88 ∧ sd_p3 (sd_Tr M) ls (sd_n (M 60) - (x1.toNat + 1)) (x1.toNat + 1) (M132 60) = sd_d3 (sd_Tr M) ls l1 (M 60) := fun ls l1 hT hW => by
                obtain ⟨w, r1, r2, r3⟩ := g125_5 ls l1 hT hW
                have t := E0 ls l1 hT
                have m9 := w.1
                have n9 : (sd_n (M 60) : Int) = M 60 88 := sd_n_i hW
                rw [show sd_n (M 60) - x1.toNat = (sd_n (M 60) - (x1.toNat + 1)) + 1 by omega] at r2
                have r2 : sd_p3 (sd_Tr M) ls (sd_n (M 60) - (x1.toNat + 1)) (x1.toNat + 1) (sd_s3 (sd_Tr M) ls x1.toNat (N125 60)) = _ := r2
                have I : sd_in (N125 60) x1.toNat := by
                  by_cases y : sd_in (N125 60) x1.toNat
                  · exact y
                  · rw [if_neg y] at r3
                    omega
                rw [if_pos I] at r3
                obtain ⟨b0, b1, b2⟩ := q132
                rw [T0, r3] at b1
                rw [T0] at b2
                have K : sd_s3 (sd_Tr M) ls x1.toNat (N125 60) = sd_fF (sd_Tr M) (N125 60) := by
                  unfold sd_s3
                  rw [if_pos ⟨I, by omega⟩, if_neg (fun y => absurd (b1.mpr y) (by first | decide | omega))]
                rw [K] at r2
                rw [b2]
                exact ⟨sd_fF_wf w, (sd_fF_o (by decide)).trans r1, r2⟩
              exact L143 _ _ _ hS (by first | omega | assumption) (by first | omega | assumption) (by first | omega | assumption) (by first | omega | assumption) (by first | omega | assumption)
            · skip
              skip
              refine And.intro (And.intro hI (And.intro (by first | decide | omega) (by first | decide | omega))) ?_
              intro M140 q140
              obtain ⟨q140, z140⟩ := q140
              have hS : pz_rl pz_QD M M140 := hS.tr z140
              have hI : pz_im M140 := hS.1 hI0
              have G140 : ∀ (ls : List pz_lne) (l1 : List (List Int)), sd_tm (M 60) ls l1 → sd_wf (M 60) → sd_wf (M140 60) ∧ M140 60 88 = M 60 88 ∧ sd_p3 (sd_Tr M) ls (sd_n (M 60) - (x1.toNat + 1)) (x1.toNat + 1) (M140 60) = sd_d3 (sd_Tr M) ls l1 (M 60) := fun ls l1 hT hW => by
                obtain ⟨w, r1, r2, r3⟩ := g125_5 ls l1 hT hW
                have t := E0 ls l1 hT
                have m9 := w.1
                have n9 : (sd_n (M 60) : Int) = M 60 88 := sd_n_i hW
                rw [show sd_n (M 60) - x1.toNat = (sd_n (M 60) - (x1.toNat + 1)) + 1 by omega] at r2
                have r2 : sd_p3 (sd_Tr M) ls (sd_n (M 60) - (x1.toNat + 1)) (x1.toNat + 1) (sd_s3 (sd_Tr M) ls x1.toNat (N125 60)) = _ := r2
                have I : sd_in (N125 60) x1.toNat := by
                  by_cases y : sd_in (N125 60) x1.toNat
                  · exact y
                  · rw [if_neg y] at r3
                    omega
                rw [if_pos I] at r3
                obtain ⟨b0, b1, b2⟩ := q132
                rw [T0, r3] at b1
                rw [T0] at b2
                have U132 : sd_Tr M132 = sd_Tr M := by
                  unfold sd_Tr
                  rw [z132.2 1 26 (by unfold pz_QD; first | decide | omega)]
                  exact T0
                have z := q140
                rw [U132, b2] at z
                have K : sd_s3 (sd_Tr M) ls x1.toNat (N125 60) = sd_lev (sd_Tr M) (sd_fF (sd_Tr M) (N125 60)) x1.toNat := by
                  unfold sd_s3
                  rw [if_pos ⟨I, by omega⟩, if_pos (b1.mp (by first | decide | omega))]
                rw [K] at r2
                rw [z]
                exact ⟨sd_lev_wf (sd_fF_wf w) (by rw [sd_fF_o (by decide)]; omega), (sd_lev_88 (by first | decide | omega)).trans ((sd_fF_o (by decide)).trans r1), r2⟩
              exact L143 _ _ _ hS (by first | omega | assumption) (by first | omega | assumption) (by first | omega | assumption) (by first | omega | assumption) (by first | omega | assumption)
        refine hgo (fun p => Nat.beq p 2 || Nat.beq p 45 || Nat.beq p 53 || Nat.beq p 89 || Nat.beq p 97 || Nat.beq p 125 || Nat.beq p 143 || Nat.beq p 156 || Nat.beq p 213) 133 97 _ _ _ ?_
        refine pz_nrc (c := 60) rfl ?_
        refine And.intro (by first | decide | omega) (And.intro (show _ < (1725 : Int) from by omega) ?_)
        intro v104 e104 a104 b104
        replace e104 : v104 = N97 60 88 := e104
        have I104 : 0 ≤ v104 ∧ v104 ≤ 12 := by
          rw [e104]
          exact hI.1.1
        clear a104 b104
        refine And.intro (fun h105 => ?_) (fun h105 => ?_)
        · skip
          skip
          refine And.intro (hI) ?_
          intro v150 M150 a150 b150 q150
          obtain ⟨q150, z150⟩ := q150
          have hS : pz_rl pz_QD M M150 := hS.tr z150
          have hI : pz_im M150 := hS.1 hI0
          have G150 : ∀ (ls : List pz_lne) (l1 : List (List Int)), sd_tm (M 60) ls l1 → sd_wf (M 60) → sd_wf (M150 60) ∧ M150 60 88 = M 60 88 ∧ sd_p5 ls (sd_n (M 60) - (0 : Int).toNat) (0 : Int).toNat (M150 60) = sd_d5 (sd_Tr M) ls l1 (M 60) ∧ v150 = (sd_d4 (sd_Tr M) ls l1 (M 60)).2 := fun ls l1 hT hW => by
            obtain ⟨w, r1, r2⟩ := g97_2 ls l1 hT hW
            have t := E0 ls l1 hT
            have m9 := w.1
            have n9 : (sd_n (M 60) : Int) = M 60 88 := sd_n_i hW
            rw [show sd_n (M 60) - x1.toNat = 0 by omega] at r2
            have r2 : N97 60 = sd_d3 (sd_Tr M) ls l1 (M 60) := r2
            obtain ⟨u1, u2⟩ := q150
            have n7 : sd_n (N97 60) = sd_n (M 60) := by
              unfold sd_n
              rw [r1]
            have z := sd_mv_wf (tr := sd_Tr N97) (b := sd_bb (N97 60)) (n := sd_n (N97 60)) 12 0 (N97 60) 0 w (by rw [n7, n9, r1])
            rw [← u2] at z
            rw [T0, n7, r2] at u1 u2
            refine ⟨z.1, z.2.trans r1, ?_, u1⟩
            rw [u2]
            rfl
          exact L156 _ _ _ _ (Nat.lt_succ_self _) hS (by first | omega | assumption) (by first | omega | assumption)
        · skip
          skip
          refine And.intro (hI) ?_
          intro v110 M110 a110 b110 q110
          obtain ⟨q110, z110⟩ := q110
          subst z110
          clear a110 b110
          refine And.intro (fun h113 => ?_) (fun h113 => ?_)
          · skip
            have G113 : ∀ (ls : List pz_lne) (l1 : List (List Int)), sd_tm (M 60) ls l1 → sd_wf (M 60) → sd_wf (N97 60) ∧ N97 60 88 = M 60 88 ∧ sd_p3 (sd_Tr M) ls (sd_n (M 60) - x1.toNat) x1.toNat (N97 60) = sd_d3 (sd_Tr M) ls l1 (M 60) ∧ (0 : Int) = (if sd_in (N97 60) x1.toNat then sd_le ls (N97 60) x1.toNat else 0) := fun ls l1 hT hW => by
              obtain ⟨w, r1, r2⟩ := g97_2 ls l1 hT hW
              have t := E0 ls l1 hT
              have m9 := w.1
              have n9 : (sd_n (M 60) : Int) = M 60 88 := sd_n_i hW
              rw [show (52 + x1).toNat = 52 + x1.toNat by omega, show (76 + x1).toNat = 76 + x1.toNat by omega] at q110
              exact ⟨w, r1, r2, (if_neg (fun y => by unfold sd_in at y; omega)).symm⟩
            replace q110 := q110.resolve_left (fun z => absurd (z.1.symm.trans h113) (by decide))
            exact L125 _ _ _ _ hS (by first | omega | assumption) (by first | omega | assumption) (by first | omega | assumption) (by first | omega | assumption) (by first | omega | assumption)
          · skip
            skip
            replace q110 := q110.resolve_right (fun z => h113 z.1)
            refine And.intro (And.intro hI (And.intro (by first | decide | omega) (by first | decide | omega))) ?_
            intro v118 M118 a118 b118 q118
            obtain ⟨q118, z118⟩ := q118
            have hS : pz_rl pz_QD M M118 := hS.tr (pz_rl.wk pz_wk_QS_QD z118)
            have hI : pz_im M118 := hS.1 hI0
            clear a118 b118
            have W118 : M118 60 = N97 60 := funext fun j => z118.2 60 j (by unfold pz_QS; first | decide | omega)
            have G118 : ∀ (ls : List pz_lne) (l1 : List (List Int)), sd_tm (M 60) ls l1 → sd_wf (M 60) → sd_wf (M118 60) ∧ M118 60 88 = M 60 88 ∧ sd_p3 (sd_Tr M) ls (sd_n (M 60) - x1.toNat) x1.toNat (M118 60) = sd_d3 (sd_Tr M) ls l1 (M 60) ∧ v118 = (if sd_in (M118 60) x1.toNat then sd_le ls (M118 60) x1.toNat else 0) := fun ls l1 hT hW => by
              obtain ⟨w, r1, r2⟩ := g97_2 ls l1 hT hW
              have t := E0 ls l1 hT
              have m9 := w.1
              have n9 : (sd_n (M 60) : Int) = M 60 88 := sd_n_i hW
              rw [show (52 + x1).toNat = 52 + x1.toNat by omega, show (76 + x1).toNat = 76 + x1.toNat by omega] at q110
              have R := q118.1 (by first | decide | omega) ls t.1 t.2.1
              rw [W118]
              exact ⟨w, r1, r2, R.trans (if_pos (by unfold sd_in; first | decide | omega)).symm⟩
            exact L125 _ _ _ _ hS (by first | omega | assumption) (by first | omega | assumption) (by first | omega | assumption) (by first | omega | assumption) (by first | omega | assumption)
    have L53 : ∀ (fu : Nat) (x1 : Int) (d2 : Option pz_V) (N53 : pz_M), (12 - x1).toNat < fu → (pz_rl pz_QD M N53) → (0 ≤ x1) → (∀ (ls : List pz_lne) (l1 : List (List Int)), sd_tm (M 60) ls l1 → sd_wf (M 60) → sd_wf (N53 60) ∧ N53 60 88 = M 60 88 ∧ sd_p2 (sd_Tr M) ls (sd_n (M 60) - x1.toNat) x1.toNat (N53 60) = sd_p2 (sd_Tr M) ls (sd_n (M 60)) 0 (sd_p1 (sd_Tr M) ls l1 (M 60))) → Ok 53 [some (.inr (.inr (12, 1))), some (.inl x1), d2] [] N53 := by
      intro fu
      induction fu with
      | zero => exact fun _ _ _ hn => absurd hn (Nat.not_lt_zero _)
      | succ fu ih53 =>
        intro x1 d2 N53 hn53 hS g53_1 g53_2
        have hI : pz_im N53 := hS.1 hI0
        have F88 : N53 60 88 = M 60 88 := hS.2 60 88 (by unfold pz_QD; first | decide | omega)
        have I88 := hI0.1.1
        have T0 : sd_Tr N53 = sd_Tr M := by
          unfold sd_Tr
          rw [hS.2 1 26 (by unfold pz_QD; first | decide | omega)]
        have E0 : ∀ (ls : List pz_lne) (l1 : List (List Int)), sd_tm (M 60) ls l1 → sd_tm (N53 60) ls l1 := fun ls l1 h => sd_tm_cg h (fun j q => hS.2 60 j (by unfold pz_QD; first | decide | omega))
        have hS53 := hS
        have L89 : ∀ (x1 : Int) (d2 : Option pz_V) (N89 : pz_M), (pz_rl pz_QD M N89) → (0 ≤ x1) → (x1 < 12) → ((12 - x1).toNat < fu + 1) → (x1 < M 60 88) → (∀ (ls : List pz_lne) (l1 : List (List Int)), sd_tm (M 60) ls l1 → sd_wf (M 60) → sd_wf (N89 60) ∧ N89 60 88 = M 60 88 ∧ sd_p2 (sd_Tr M) ls (sd_n (M 60) - (x1.toNat + 1)) (x1.toNat + 1) (N89 60) = sd_p2 (sd_Tr M) ls (sd_n (M 60)) 0 (sd_p1 (sd_Tr M) ls l1 (M 60))) → Ok 89 [some (.inr (.inr (12, 1))), some (.inl x1), d2] [] N89 := by
          intro x1 d2 N89 hS g89_1 g89_2 g89_3 g89_4 g89_5
          have hI : pz_im N89 := hS.1 hI0
          have F88 : N89 60 88 = M 60 88 := hS.2 60 88 (by unfold pz_QD; first | decide | omega)
          have I88 := hI0.1.1
          have T0 : sd_Tr N89 = sd_Tr M := by
            unfold sd_Tr
            rw [hS.2 1 26 (by unfold pz_QD; first | decide | omega)]
          have E0 : ∀ (ls : List pz_lne) (l1 : List (List Int)), sd_tm (M 60) ls l1 → sd_tm (N89 60) ls l1 := fun ls l1 h => sd_tm_cg h (fun j q => hS.2 60 j (by unfold pz_QD; first | decide | omega))
          have hS89 := hS
          refine hgo (fun p => Nat.beq p 2 || Nat.beq p 45 || Nat.beq p 53 || Nat.beq p 89 || Nat.beq p 97 || Nat.beq p 125 || Nat.beq p 143 || Nat.beq p 156 || Nat.beq p 213) 133 89 _ _ _ ?_
          intro v89 e89 a89 b89
          rw [pz_wi (by first | decide | omega) (by first | decide | omega)] at e89
          have G89 : ∀ (ls : List pz_lne) (l1 : List (List Int)), sd_tm (M 60) ls l1 → sd_wf (M 60) → sd_wf (N89 60) ∧ N89 60 88 = M 60 88 ∧ sd_p2 (sd_Tr M) ls (sd_n (M 60) - v89.toNat) v89.toNat (N89 60) = sd_p2 (sd_Tr M) ls (sd_n (M 60)) 0 (sd_p1 (sd_Tr M) ls l1 (M 60)) := by
            rw [show v89.toNat = x1.toNat + 1 by omega]
            exact g89_5
          exact ih53 _ _ _ (by first | decide | omega) hS (by first | omega | assumption) (by first | omega | assumption)
        refine hgo (fun p => Nat.beq p 2 || Nat.beq p 45 || Nat.beq p 53 || Nat.beq p 89 || Nat.beq p 97 || Nat.beq p 125 || Nat.beq p 143 || Nat.beq p 156 || Nat.beq p 213) 133 53 _ _ _ ?_
        refine pz_nrc (c := 60) rfl ?_
        refine And.intro (by first | decide | omega) (And.intro (show _ < (1725 : Int) from by omega) ?_)
        intro v60 e60 a60 b60
        replace e60 : v60 = N53 60 88 := e60
        have I60 : 0 ≤ v60 ∧ v60 ≤ 12 := by
          rw [e60]
          exact hI.1.1
        clear a60 b60
        refine And.intro (fun h61 => ?_) (fun h61 => ?_)
        · skip
          have G61 : ∀ (ls : List pz_lne) (l1 : List (List Int)), sd_tm (M 60) ls l1 → sd_wf (M 60) → sd_wf (N53 60) ∧ N53 60 88 = M 60 88 ∧ sd_p3 (sd_Tr M) ls (sd_n (M 60) - (0 : Int).toNat) (0 : Int).toNat (N53 60) = sd_d3 (sd_Tr M) ls l1 (M 60) := fun ls l1 hT hW => by
            obtain ⟨w, r1, r2⟩ := g53_2 ls l1 hT hW
            have t := E0 ls l1 hT
            have m9 := w.1
            have n9 : (sd_n (M 60) : Int) = M 60 88 := sd_n_i hW
            rw [show sd_n (M 60) - x1.toNat = 0 by omega] at r2
            have r2 : N53 60 = sd_p2 (sd_Tr M) ls (sd_n (M 60)) 0 (sd_p1 (sd_Tr M) ls l1 (M 60)) := r2
            refine ⟨w, r1, ?_⟩
            rw [r2]
            rfl
          exact L97 _ _ _ _ (Nat.lt_succ_self _) hS (by first | omega | assumption) (by first | omega | assumption)
        · skip
          skip
          refine And.intro (hI) ?_
          intro v66 M66 a66 b66 q66
          obtain ⟨q66, z66⟩ := q66
          subst z66
          clear a66 b66
          refine And.intro (fun h69 => ?_) (fun h69 => ?_)
          · skip
            have G69 : ∀ (ls : List pz_lne) (l1 : List (List Int)), sd_tm (M 60) ls l1 → sd_wf (M 60) → sd_wf (N53 60) ∧ N53 60 88 = M 60 88 ∧ sd_p2 (sd_Tr M) ls (sd_n (M 60) - (x1.toNat + 1)) (x1.toNat + 1) (N53 60) = sd_p2 (sd_Tr M) ls (sd_n (M 60)) 0 (sd_p1 (sd_Tr M) ls l1 (M 60)) := fun ls l1 hT hW => by
              obtain ⟨w, r1, r2⟩ := g53_2 ls l1 hT hW
              have t := E0 ls l1 hT
              have m9 := w.1
              have n9 : (sd_n (M 60) : Int) = M 60 88 := sd_n_i hW
              rw [show (52 + x1).toNat = 52 + x1.toNat by omega, show (76 + x1).toNat = 76 + x1.toNat by omega, show (40 + x1).toNat = 40 + x1.toNat by omega] at q66
              rw [show sd_n (M 60) - x1.toNat = (sd_n (M 60) - (x1.toNat + 1)) + 1 by omega] at r2
              have r2 : sd_p2 (sd_Tr M) ls (sd_n (M 60) - (x1.toNat + 1)) (x1.toNat + 1) (sd_s2 (sd_Tr M) ls x1.toNat (N53 60)) = _ := r2
              rw [show sd_s2 (sd_Tr M) ls x1.toNat (N53 60) = N53 60 from if_neg (fun y => by unfold sd_cp sd_in at y; omega)] at r2
              exact ⟨w, r1, r2⟩
            replace q66 := q66.resolve_left (fun z => absurd (z.1.symm.trans h69) (by decide))
            exact L89 _ _ _ hS (by first | omega | assumption) (by first | omega | assumption) (by first | omega | assumption) (by first | omega | assumption) (by first | omega | assumption)
          · skip
            skip
            replace q66 := q66.resolve_right (fun z => h69 z.1)
            refine And.intro (And.intro hI (And.intro (by first | decide | omega) (by first | decide | omega))) ?_
            intro v75 M75 a75 b75 q75
            obtain ⟨q75, z75⟩ := q75
            have hS : pz_rl pz_QD M M75 := hS.tr (pz_rl.wk pz_wk_QS_QD z75)
            have hI : pz_im M75 := hS.1 hI0
            clear a75 b75
            have W75 : M75 60 = N53 60 := funext fun j => z75.2 60 j (by unfold pz_QS; first | decide | omega)
            have U75 : sd_Tr M75 = sd_Tr M := by
              unfold sd_Tr
              rw [z75.2 1 26 (by unfold pz_QS; first | decide | omega)]
              exact T0
            refine And.intro (hI) ?_
            intro v78 M78 a78 b78 q78
            obtain ⟨q78, z78⟩ := q78
            have hS : pz_rl pz_QD M M78 := hS.tr z78
            have hI : pz_im M78 := hS.1 hI0
            refine And.intro (fun h81 => ?_) (fun h81 => ?_)
            · skip
              have G81 : ∀ (ls : List pz_lne) (l1 : List (List Int)), sd_tm (M 60) ls l1 → sd_wf (M 60) → sd_wf (M78 60) ∧ M78 60 88 = M 60 88 ∧ sd_p2 (sd_Tr M) ls (sd_n (M 60) - (x1.toNat + 1)) (x1.toNat + 1) (M78 60) = sd_p2 (sd_Tr M) ls (sd_n (M 60)) 0 (sd_p1 (sd_Tr M) ls l1 (M 60)) := fun ls l1 hT hW => by
                obtain ⟨w, r1, r2⟩ := g53_2 ls l1 hT hW
                have t := E0 ls l1 hT
                have m9 := w.1
                have n9 : (sd_n (M 60) : Int) = M 60 88 := sd_n_i hW
                rw [show (52 + x1).toNat = 52 + x1.toNat by omega, show (76 + x1).toNat = 76 + x1.toNat by omega, show (40 + x1).toNat = 40 + x1.toNat by omega] at q66
                have R := q75.1 (by first | decide | omega) ls t.1 t.2.1
                obtain ⟨b0, b1, b2⟩ := q78
                rw [U75, W75, R] at b1
                rw [U75, W75] at b2
                rw [show sd_n (M 60) - x1.toNat = (sd_n (M 60) - (x1.toNat + 1)) + 1 by omega] at r2
                have r2 : sd_p2 (sd_Tr M) ls (sd_n (M 60) - (x1.toNat + 1)) (x1.toNat + 1) (sd_s2 (sd_Tr M) ls x1.toNat (N53 60)) = _ := r2
                have K : sd_s2 (sd_Tr M) ls x1.toNat (N53 60) = sd_fF (sd_Tr M) (N53 60) := by
                  unfold sd_s2
                  rw [if_pos (by unfold sd_cp sd_in; first | decide | omega), if_neg (fun y => absurd (b1.mpr y) (by first | decide | omega))]
                rw [K] at r2
                rw [b2]
                exact ⟨sd_fF_wf w, (sd_fF_o (by decide)).trans r1, r2⟩
              exact L89 _ _ _ hS (by first | omega | assumption) (by first | omega | assumption) (by first | omega | assumption) (by first | omega | assumption) (by first | omega | assumption)
            · skip
              skip
              refine And.intro (And.intro hI (And.intro (by first | decide | omega) (by first | decide | omega))) ?_
              intro M86 q86
              obtain ⟨q86, z86⟩ := q86
              have hS : pz_rl pz_QD M M86 := hS.tr z86
              have hI : pz_im M86 := hS.1 hI0
              have G86 : ∀ (ls : List pz_lne) (l1 : List (List Int)), sd_tm (M 60) ls l1 → sd_wf (M 60) → sd_wf (M86 60) ∧ M86 60 88 = M 60 88 ∧ sd_p2 (sd_Tr M) ls (sd_n (M 60) - (x1.toNat + 1)) (x1.toNat + 1) (M86 60) = sd_p2 (sd_Tr M) ls (sd_n (M 60)) 0 (sd_p1 (sd_Tr M) ls l1 (M 60)) := fun ls l1 hT hW => by
                obtain ⟨w, r1, r2⟩ := g53_2 ls l1 hT hW
                have t := E0 ls l1 hT
                have m9 := w.1
                have n9 : (sd_n (M 60) : Int) = M 60 88 := sd_n_i hW
                rw [show (52 + x1).toNat = 52 + x1.toNat by omega, show (76 + x1).toNat = 76 + x1.toNat by omega, show (40 + x1).toNat = 40 + x1.toNat by omega] at q66
                have R := q75.1 (by first | decide | omega) ls t.1 t.2.1
                obtain ⟨b0, b1, b2⟩ := q78
                rw [U75, W75, R] at b1
                rw [U75, W75] at b2
                have U78 : sd_Tr M78 = sd_Tr M := by
                  unfold sd_Tr
                  rw [z78.2 1 26 (by unfold pz_QD; first | decide | omega)]
                  exact U75
                have z := q86
                rw [U78, b2] at z
                rw [show sd_n (M 60) - x1.toNat = (sd_n (M 60) - (x1.toNat + 1)) + 1 by omega] at r2
                have r2 : sd_p2 (sd_Tr M) ls (sd_n (M 60) - (x1.toNat + 1)) (x1.toNat + 1) (sd_s2 (sd_Tr M) ls x1.toNat (N53 60)) = _ := r2
                have K : sd_s2 (sd_Tr M) ls x1.toNat (N53 60) = sd_get (sd_Tr M) (sd_fF (sd_Tr M) (N53 60)) x1.toNat := by
                  unfold sd_s2
                  rw [if_pos (by unfold sd_cp sd_in; first | decide | omega), if_pos (b1.mp (by first | decide | omega))]
                rw [K] at r2
                rw [z]
                exact ⟨sd_get_wf (sd_fF_wf w) (by rw [sd_fF_o (by decide)]; omega), (sd_get_88 (by first | decide | omega)).trans ((sd_fF_o (by decide)).trans r1), r2⟩
              exact L89 _ _ _ hS (by first | omega | assumption) (by first | omega | assumption) (by first | omega | assumption) (by first | omega | assumption) (by first | omega | assumption)
    have L2 : ∀ (fu : Nat) (x1 : Int) (d2 : Option pz_V) (N2 : pz_M), (16 - x1).toNat < fu → (pz_rl pz_QD M N2) → (0 ≤ x1) → (∀ (ls : List pz_lne) (l1 : List (List Int)), sd_tm (M 60) ls l1 → sd_wf (M 60) → sd_wf (N2 60) ∧ N2 60 88 = M 60 88 ∧ sd_p1 (sd_Tr M) ls (l1.drop x1.toNat) (N2 60) = sd_p1 (sd_Tr M) ls l1 (M 60)) → Ok 2 [some (.inr (.inr (12, 1))), some (.inl x1), d2] [] N2 := by
      intro fu
      induction fu with
      | zero => exact fun _ _ _ hn => absurd hn (Nat.not_lt_zero _)
      | succ fu ih2 =>
        intro x1 d2 N2 hn2 hS g2_1 g2_2
        have hI : pz_im N2 := hS.1 hI0
        have F88 : N2 60 88 = M 60 88 := hS.2 60 88 (by unfold pz_QD; first | decide | omega)
        have I88 := hI0.1.1
        have T0 : sd_Tr N2 = sd_Tr M := by
          unfold sd_Tr
          rw [hS.2 1 26 (by unfold pz_QD; first | decide | omega)]
        have E0 : ∀ (ls : List pz_lne) (l1 : List (List Int)), sd_tm (M 60) ls l1 → sd_tm (N2 60) ls l1 := fun ls l1 h => sd_tm_cg h (fun j q => hS.2 60 j (by unfold pz_QD; first | decide | omega))
        have hS2 := hS
        have L45 : ∀ (x1 : Int) (d2 : Option pz_V) (N45 : pz_M), (pz_rl pz_QD M N45) → (0 ≤ x1) → (x1 < 16) → ((16 - x1).toNat < fu + 1) → (∀ (ls : List pz_lne) (l1 : List (List Int)), sd_tm (M 60) ls l1 → sd_wf (M 60) → sd_wf (N45 60) ∧ N45 60 88 = M 60 88 ∧ sd_p1 (sd_Tr M) ls (l1.drop (x1.toNat + 1)) (N45 60) = sd_p1 (sd_Tr M) ls l1 (M 60)) → Ok 45 [some (.inr (.inr (12, 1))), some (.inl x1), d2] [] N45 := by
          intro x1 d2 N45 hS g45_1 g45_2 g45_3 g45_4
          have hI : pz_im N45 := hS.1 hI0
          have F88 : N45 60 88 = M 60 88 := hS.2 60 88 (by unfold pz_QD; first | decide | omega)
          have I88 := hI0.1.1
          have T0 : sd_Tr N45 = sd_Tr M := by
            unfold sd_Tr
            rw [hS.2 1 26 (by unfold pz_QD; first | decide | omega)]
          have E0 : ∀ (ls : List pz_lne) (l1 : List (List Int)), sd_tm (M 60) ls l1 → sd_tm (N45 60) ls l1 := fun ls l1 h => sd_tm_cg h (fun j q => hS.2 60 j (by unfold pz_QD; first | decide | omega))
          have hS45 := hS
          refine hgo (fun p => Nat.beq p 2 || Nat.beq p 45 || Nat.beq p 53 || Nat.beq p 89 || Nat.beq p 97 || Nat.beq p 125 || Nat.beq p 143 || Nat.beq p 156 || Nat.beq p 213) 133 45 _ _ _ ?_
          intro v45 e45 a45 b45
          rw [pz_wi (by first | decide | omega) (by first | decide | omega)] at e45
          have G45 : ∀ (ls : List pz_lne) (l1 : List (List Int)), sd_tm (M 60) ls l1 → sd_wf (M 60) → sd_wf (N45 60) ∧ N45 60 88 = M 60 88 ∧ sd_p1 (sd_Tr M) ls (l1.drop v45.toNat) (N45 60) = sd_p1 (sd_Tr M) ls l1 (M 60) := by
            rw [show v45.toNat = x1.toNat + 1 by omega]
            exact g45_4
          exact ih2 _ _ _ (by first | decide | omega) hS (by first | omega | assumption | exact fun ls l1 hT hW => ⟨hW, rfl, rfl⟩) (by first | omega | assumption | exact fun ls l1 hT hW => ⟨hW, rfl, rfl⟩)
        refine hgo (fun p => Nat.beq p 2 || Nat.beq p 45 || Nat.beq p 53 || Nat.beq p 89 || Nat.beq p 97 || Nat.beq p 125 || Nat.beq p 143 || Nat.beq p 156 || Nat.beq p 213) 133 2 _ _ _ ?_
        refine pz_nrc (c := 60) rfl ?_
        refine And.intro (by first | decide | omega) (And.intro (show _ < (1725 : Int) from by omega) ?_)
        intro v9 e9 a9 b9
        replace e9 : v9 = N2 60 90 := e9
        have I9 : 0 ≤ v9 ∧ v9 ≤ 16 := by
          rw [e9]
          exact hI.1.2.2.1
        clear a9 b9
        refine And.intro (fun h10 => ?_) (fun h10 => ?_)
        · skip
          have G10 : ∀ (ls : List pz_lne) (l1 : List (List Int)), sd_tm (M 60) ls l1 → sd_wf (M 60) → sd_wf (N2 60) ∧ N2 60 88 = M 60 88 ∧ sd_p2 (sd_Tr M) ls (sd_n (M 60) - (0 : Int).toNat) (0 : Int).toNat (N2 60) = sd_p2 (sd_Tr M) ls (sd_n (M 60)) 0 (sd_p1 (sd_Tr M) ls l1 (M 60)) := fun ls l1 hT hW => by
            obtain ⟨w, r1, r2⟩ := g2_2 ls l1 hT hW
            have t := E0 ls l1 hT
            have m9 := w.1
            have n9 : (sd_n (M 60) : Int) = M 60 88 := sd_n_i hW
            have l9 := t.2.2.1.1
            rw [List.drop_eq_nil_of_le (by first | decide | omega)] at r2
            have r2 : N2 60 = sd_p1 (sd_Tr M) ls l1 (M 60) := r2
            refine ⟨w, r1, ?_⟩
            rw [← r2]
            rfl
          exact L53 _ _ _ _ (Nat.lt_succ_self _) hS (by first | omega | assumption) (by first | omega | assumption)
        · skip
          skip
          refine pz_nrc (c := 60) rfl ?_
          intro v22 e22 a22 b22
          rw [pz_wi (by first | decide | omega) (by first | decide | omega)] at e22
          clear a22 b22
          intro v23 e23 a23 b23
          rw [pz_wi (by first | decide | omega) (by first | decide | omega)] at e23
          clear a23 b23
          have lo24 : (0 : Int) ≤ v23 := by omega
          have tn24 : (((v23).toNat : Nat) : Int) = v23 := Int.toNat_of_nonneg lo24
          refine And.intro (lo24) (And.intro (show _ < (1725 : Int) from by omega) ?_)
          intro v24 e24 a24 b24
          refine pz_nrc (c := 60) rfl ?_
          refine And.intro (by first | decide | omega) (And.intro (show _ < (1725 : Int) from by omega) ?_)
          intro v30 e30 a30 b30
          replace e30 : v30 = N2 60 0 := e30
          refine And.intro (fun h31 => ?_) (fun h31 => ?_)
          · skip
            have G31 : ∀ (ls : List pz_lne) (l1 : List (List Int)), sd_tm (M 60) ls l1 → sd_wf (M 60) → sd_wf (N2 60) ∧ N2 60 88 = M 60 88 ∧ sd_p1 (sd_Tr M) ls (l1.drop (x1.toNat + 1)) (N2 60) = sd_p1 (sd_Tr M) ls l1 (M 60) := fun ls l1 hT hW => by
              obtain ⟨w, r1, r2⟩ := g2_2 ls l1 hT hW
              have t := E0 ls l1 hT
              have m9 := w.1
              have n9 : (sd_n (M 60) : Int) = M 60 88 := sd_n_i hW
              have l9 := t.2.2.1.1
              have C : v24 = (l1.getD x1.toNat []).getD 0 0 := by
                rw [e24, sd_wpc (c := 0) (r := x1.toNat) t (by first | decide | omega) (by decide) (by first | decide | omega), if_neg (by decide)]
                omega
              rw [sd_p1_s (by first | decide | omega), if_neg (by rw [← C]; omega)] at r2
              exact ⟨w, r1, r2⟩
            exact L45 _ _ _ hS (by first | omega | assumption) (by first | omega | assumption) (by first | omega | assumption) (by first | omega | assumption)
          · skip
            skip
            intro v40 e40 a40 b40
            rw [pz_wi (by first | decide | omega) (by first | decide | omega)] at e40
            clear a40 b40
            intro v41 e41 a41 b41
            rw [pz_wi (by first | decide | omega) (by first | decide | omega)] at e41
            clear a41 b41
            refine And.intro (And.intro hI (And.intro (by first | decide | omega) (by first | decide | omega))) ?_
            intro M42 q42
            obtain ⟨q42, z42⟩ := q42
            have hS : pz_rl pz_QD M M42 := hS.tr z42
            have hI : pz_im M42 := hS.1 hI0
            have G42 : ∀ (ls : List pz_lne) (l1 : List (List Int)), sd_tm (M 60) ls l1 → sd_wf (M 60) → sd_wf (M42 60) ∧ M42 60 88 = M 60 88 ∧ sd_p1 (sd_Tr M) ls (l1.drop (x1.toNat + 1)) (M42 60) = sd_p1 (sd_Tr M) ls l1 (M 60) := fun ls l1 hT hW => by
              obtain ⟨w, r1, r2⟩ := g2_2 ls l1 hT hW
              have t := E0 ls l1 hT
              have m9 := w.1
              have n9 : (sd_n (M 60) : Int) = M 60 88 := sd_n_i hW
              have l9 := t.2.2.1.1
              have C : v24 = (l1.getD x1.toNat []).getD 0 0 := by
                rw [e24, sd_wpc (c := 0) (r := x1.toNat) t (by first | decide | omega) (by decide) (by first | decide | omega), if_neg (by decide)]
                omega
              rw [sd_p1_s (by first | decide | omega), if_pos (by rw [← C]; omega)] at r2
              have z := q42 ls l1 x1.toNat t w (by first | decide | omega) (by first | decide | omega)
              rw [T0] at z
              rw [z]
              exact ⟨sd_doe_wf t (by first | decide | omega) w, (sd_doe_88 (by first | decide | omega)).trans r1, r2⟩
            exact L45 _ _ _ hS (by first | omega | assumption) (by first | omega | assumption) (by first | omega | assumption) (by first | omega | assumption)
    refine hgo (fun p => Nat.beq p 2 || Nat.beq p 45 || Nat.beq p 53 || Nat.beq p 89 || Nat.beq p 97 || Nat.beq p 125 || Nat.beq p 143 || Nat.beq p 156 || Nat.beq p 213) 133 0 _ [] M ?_
    exact L2 _ _ _ _ (Nat.lt_succ_self _) hS (by first | omega | assumption | exact fun ls l1 hT hW => ⟨hW, rfl, rfl⟩) (by first | omega | assumption | exact fun ls l1 hT hW => ⟨hW, rfl, rfl⟩)
theorem v3_X12_aDay {fr lo i : Nat} {own : String} (h1 : 7 + 1 ≤ fr) (h2 : 8 + (3 + 11) + 162 ≤ lo) (h3 : .methodLink own i yX12_aDay ∈ lw_tbl) : pz_cV fr lo own i k3_X12_aDay :=
  pz_cVk (maxL := 3) (fr' := 7) (lo' := 162) 0 12 h3_X12_aDay rfl ⟨(pz_nhc_RX12 yX12_aDay rfl).1, (pz_nhc_RX12 yX12_aDay rfl).2, pz_ds1⟩ ⟨pz_wq1534, pz_wq1533, pz_ws59, pz_wq13⟩ (Or.inl ⟨TX12, 28, rfl⟩) (fun a M _ h => by
    have h : (match (generalizing := false) a with | [.inr (.inr (12, th))] => pz_im M | _ => False) := h
    split at h
    · exact ⟨_, _, rfl⟩
    · exact h.elim) h1 h2 h3
end
section
noncomputable def k3_X1_mayLeave : pz_C := (3, 0, fun a M => (match a with | [.inr (.inr (1, d)), .inr (.inr (0, c)), .inl i] => pz_ic M ∧ 0 ≤ i ∧ i < 12 | _ => False), fun a M r M' => (match a, r with | [.inr (.inr (1, d)), .inr (.inr (0, c)), .inl i], none => (sd_dd M M' c (fun _ F => i < F 88 ∧ sd_in F i.toNat) (fun tr ls _ F => sd_m3 tr ls i.toNat F)) ∧ pq_pr (pq_Pd c) M M' | _, _ => False))
noncomputable abbrev ct3_X1_mayLeave : List (Bool × Nat × pz_C) := [(true, 64, k3_X3_tells), (true, 114, k3_X0_happens), (true, 39, k_X0_at), (true, 76, k3_X1_write)]
set_option maxRecDepth 100000 in
set_option maxHeartbeats 4000000 in
theorem h3_X1_mayLeave : pz_H yX1_mayLeave cX1_mayLeave 5 none k3_X1_mayLeave 4 97 := by
  refine pz_mk (own := RX1) (tb := t_X1_mayLeave) (fl := pz_flf fl_RX1) (ci := fun _ => none) (ct := pz_ctf ct3_X1_mayLeave) (rz := false) (pz_pfc_RX1 yX1_mayLeave rfl) rfl t_X1_mayLeave_ok (pz_flk fl_RX1_ok) (fun i v h => by cases h) ?_ ?_ (rfl) ?_ ?_
  · exact fun i k' h => pz_ctk (l := ct3_X1_mayLeave) (P := fun b i k => b = true → pz_cV 4 97 RX1 i k) (List.forall_mem_cons.mpr ⟨(fun _ => v3_X3_tells (by decide) (by decide) pz_wq482), List.forall_mem_cons.mpr ⟨(fun _ => v3_X0_happens (by decide) (by decide) pz_wq591), List.forall_mem_cons.mpr ⟨(fun _ => v_X0_at (by decide) (by decide) pz_wq457), List.forall_mem_cons.mpr ⟨(fun _ => v3_X1_write (by decide) (by decide) pz_wq517), fun _ h => absurd h List.not_mem_nil⟩⟩⟩⟩) true i k' h rfl
  · exact fun i k' h => pz_ctk (l := ct3_X1_mayLeave) (P := fun b i k => b = false → (pz_cS 4 97 RX1 i k ∨ (k = pz_kac ∧ 1 ≤ 4 ∧ 60 ≤ 97 ∧ Cond.methodLink RX1 i arraycopyName ∈ pz_tbl))) (List.forall_mem_cons.mpr ⟨((fun z => by cases z)), List.forall_mem_cons.mpr ⟨((fun z => by cases z)), List.forall_mem_cons.mpr ⟨((fun z => by cases z)), List.forall_mem_cons.mpr ⟨((fun z => by cases z)), fun _ h => absurd h List.not_mem_nil⟩⟩⟩⟩) false i k' h rfl
  · intro a M hlen hpre
    obtain ⟨d, c, i, rfl, hpre⟩ : ∃ d c i, a = [.inr (.inr (1, d)), .inr (.inr (0, c)), .inl i] ∧ (pz_ic M ∧ 0 ≤ i ∧ i < 12) := by
      have hpre : (match (generalizing := false) a with | [.inr (.inr (1, d)), .inr (.inr (0, c)), .inl i] => pz_ic M ∧ 0 ≤ i ∧ i < 12 | _ => False) := hpre
      split at hpre
      · exact ⟨_, _, _, rfl, hpre⟩
      · exact hpre.elim
    exact Nat.le_of_ble_eq_true rfl
  · intro a M hlen hcan hM hpre Ok hgo
    obtain ⟨d, c, i, rfl, hpre⟩ : ∃ d c i, a = [.inr (.inr (1, d)), .inr (.inr (0, c)), .inl i] ∧ (pz_ic M ∧ 0 ≤ i ∧ i < 12) := by
      have hpre : (match (generalizing := false) a with | [.inr (.inr (1, d)), .inr (.inr (0, c)), .inl i] => pz_ic M ∧ 0 ≤ i ∧ i < 12 | _ => False) := hpre
      split at hpre
      · exact ⟨_, _, _, rfl, hpre⟩
      · exact hpre.elim
    obtain ⟨k_d, hc_d⟩ := pz_tlm hcan
    have k_d : pz_kd d = 1 ∧ d < 231 := k_d
    have R_d := pz_kd1 k_d.1
    subst R_d
    obtain ⟨k_c, hc_c⟩ := pz_tlm hc_d
    have k_c : pz_kd c = 0 ∧ c < 231 := k_c
    have R_c := pz_kd0 k_c.1
    obtain ⟨k_i, hc_i⟩ := pz_tlm hc_c
    have l_i : -2147483648 ≤ i := k_i.1
    have u_i : i ≤ 2147483647 := k_i.2
    have hI : pz_ic M := hpre.1
    have hI0 := hI
    have hS : pq_pr (pq_Pd c) M M := pq_pr.rf
    have hi0 := hpre.2.1
    have hi1 := hpre.2.2
    have L59 : ∀ (fu : Nat) (x3 : Int) (x4 : Int) (N59 : pz_M), (i + 2 - x4).toNat < fu → (pq_pr (pq_Pd c) M N59) → (i - 1 ≤ x4) → (x4 ≤ i + 2) → (sd_lq M N59 c (fun F => i < F 88 ∧ sd_in F i.toNat) (fun ls _ F G => (0 < sd_le ls F i.toNat ∧ sd_fb (decide (M c 0 = 0)) F (sd_le ls F i.toNat) = true) ∧ G = sd_lvH (decide (M c 0 = 0)) F i.toNat (x4 - (i - 1)).toNat)) → Ok 59 [some (.inr (.inr (1, 2))), some (.inr (.inr (0, c))), some (.inl i), some (.inl x3), some (.inl x4)] [] N59 := by
      intro fu
      induction fu with
      | zero => exact fun _ _ _ hn => absurd hn (Nat.not_lt_zero _)
      | succ fu ih59 =>
        intro x3 x4 N59 hn59 hS g59_1 g59_2 g59_3
        have hI : pz_ic N59 := hS.1 hI0
        have L90 : ∀ (x3 : Int) (x4 : Int) (N90 : pz_M), (pq_pr (pq_Pd c) M N90) → (x4 ≤ i + 1) → (i - 1 ≤ x4) → ((i + 2 - x4).toNat < fu + 1) → (sd_lq M N90 c (fun F => i < F 88 ∧ sd_in F i.toNat) (fun ls _ F G => (0 < sd_le ls F i.toNat ∧ sd_fb (decide (M c 0 = 0)) F (sd_le ls F i.toNat) = true) ∧ G = sd_lvH (decide (M c 0 = 0)) F i.toNat (x4 + 1 - (i - 1)).toNat)) → Ok 90 [some (.inr (.inr (1, 2))), some (.inr (.inr (0, c))), some (.inl i), some (.inl x3), some (.inl x4)] [] N90 := by
          intro x3 x4 N90 hS g90_1 g90_2 g90_3 g90_4
          have hI : pz_ic N90 := hS.1 hI0
          refine hgo (fun p => Nat.beq p 59 || Nat.beq p 90) 57 90 _ _ _ ?_
          intro v90 e90 a90 b90
          rw [pz_wi (by first | decide | omega) (by first | decide | omega)] at e90
          have G90 : sd_lq M N90 c (fun F => i < F 88 ∧ sd_in F i.toNat) (fun ls _ F G => (0 < sd_le ls F i.toNat ∧ sd_fb (decide (M c 0 = 0)) F (sd_le ls F i.toNat) = true) ∧ G = sd_lvH (decide (M c 0 = 0)) F i.toNat (v90 - (i - 1)).toNat) := by
            rw [e90]
            exact g90_4
          exact ih59 _ _ _ (by first | decide | omega) hS (by first | omega | assumption) (by first | omega | assumption) (by first | omega | assumption)
        refine hgo (fun p => Nat.beq p 59 || Nat.beq p 90) 57 59 _ _ _ ?_
        intro v63 e63 a63 b63
        try rw [pz_wi (by first | decide | omega) (by first | decide | omega)] at e63
        refine And.intro (fun h64 => ?_) (fun h64 => ?_)
        · skip
          refine And.intro rfl ?_
          refine ⟨fun ls l1 F hT hF hP hW hp => ?_, hS⟩
          obtain ⟨G, s, p, w, t, r1, r2⟩ := g59_3 ls l1 F hT hF hP hW hp
          rw [show (x4 - (i - 1)).toNat = 3 by omega, sd_lvH_3 hW (by have := hp.1; omega) hp.2] at r2
          unfold sd_m3
          dsimp only
          rw [if_pos r1.1, if_pos r1.2, ← r2]
          exact ⟨s, p, w⟩
        · skip
          refine And.intro (True.intro) ?_
          intro r70 M70 k70 q70
          have R70 := pz_kd5 k70
          obtain ⟨q70, z70⟩ := q70
          subst z70
          have A70 := pz_at_lk R_c q70
          have B70 : 89 + 13 * (c - 71) ≤ r70 ∧ r70 ≤ 89 + 13 * (c - 71) + 12 := by
            rw [A70]
            exact pz_lnk_c
          intro v73 e73 a73 b73
          refine And.intro (fun h77 => ?_) (fun h77 => ?_)
          · skip
            have G77 : sd_lq M N59 c (fun F => i < F 88 ∧ sd_in F i.toNat) (fun ls _ F G => (0 < sd_le ls F i.toNat ∧ sd_fb (decide (M c 0 = 0)) F (sd_le ls F i.toNat) = true) ∧ G = sd_lvH (decide (M c 0 = 0)) F i.toNat (x4 + 1 - (i - 1)).toNat) := fun ls l1 F hT hF hP hW hp => by
              obtain ⟨G, s, p, w, t, r1, r2⟩ := g59_3 ls l1 F hT hF hP hW hp
              have n9 := w.1
              have e : sd_lvH (decide (M c 0 = 0)) F i.toNat (x4 + 1 - (i - 1)).toNat = sd_lvk G x4 := by
                rw [show (x4 + 1 - (i - 1)).toNat = (x4 - (i - 1)).toNat + 1 by omega, r2]
                show sd_lvk _ (((i.toNat : Nat) : Int) - 1 + ((x4 - (i - 1)).toNat : Nat)) = _
                rw [show ((i.toNat : Nat) : Int) - 1 + ((x4 - (i - 1)).toNat : Nat) = x4 by omega]
              have k : sd_lvk G x4 = G := if_neg (fun z => by
                have b7 := (sd_at R_c s w z.1 z.2.1 A70).2.2.2.2.2.2.2
                have z3 := z.2.2
                omega)
              exact ⟨G, s, p, w, t, r1, by rw [e, k]⟩
            exact L90 _ _ _ hS (by first | omega | assumption) (by first | omega | assumption) (by first | omega | assumption) (by first | omega | assumption)
          · skip
            skip
            refine And.intro (True.intro) ?_
            intro r83 M83 k83 q83
            have R83 := pz_kd5 k83
            obtain ⟨q83, z83⟩ := q83
            subst z83
            have A83 := pz_at_lk R_c q83
            have B83 : 89 + 13 * (c - 71) ≤ r83 ∧ r83 ≤ 89 + 13 * (c - 71) + 12 := by
              rw [A83]
              exact pz_lnk_c
            intro M87 e87
            have hS : pq_pr (pq_Pd c) M M87 := by
              rw [e87]
              exact pq_pr_u hS (by unfold pq_Pd pq_Pw pz_lb; first | decide | omega) (by unfold pz_iok; first | decide | omega)
            have hI : pz_ic M87 := hS.1 hI0
            have G87 : sd_lq M M87 c (fun F => i < F 88 ∧ sd_in F i.toNat) (fun ls _ F G => (0 < sd_le ls F i.toNat ∧ sd_fb (decide (M c 0 = 0)) F (sd_le ls F i.toNat) = true) ∧ G = sd_lvH (decide (M c 0 = 0)) F i.toNat (x4 + 1 - (i - 1)).toNat) := fun ls l1 F hT hF hP hW hp => by
              obtain ⟨G, s, p, w, t, r1, r2⟩ := g59_3 ls l1 F hT hF hP hW hp
              have n9 := w.1
              have e : sd_lvH (decide (M c 0 = 0)) F i.toNat (x4 + 1 - (i - 1)).toNat = sd_lvk G x4 := by
                rw [show (x4 + 1 - (i - 1)).toNat = (x4 - (i - 1)).toNat + 1 by omega, r2]
                show sd_lvk _ (((i.toNat : Nat) : Int) - 1 + ((x4 - (i - 1)).toNat : Nat)) = _
                rw [show ((i.toNat : Nat) : Int) - 1 + ((x4 - (i - 1)).toNat : Nat) = x4 by omega]
              have t87 : sd_tx M87 ls l1 := sd_tx_cg t (fun b j q => by rw [e87]; exact pz_una (by first | decide | omega))
              have p87 : sd_pg M87 (sd_lvk G x4) := sd_pg_cg p (fun j => by rw [e87]; exact pz_una (by first | decide | omega)) (fun k b _ => sd_lvk_o (by first | decide | omega) (by first | decide | omega))
              refine ⟨sd_lvk G x4, ?_, p87, sd_lvk_wf w, t87, r1, e.symm⟩
              by_cases z : 0 ≤ x4 ∧ x4 < G 88
              · have b7 := (sd_at R_c s w z.1 z.2 A70).2.2.2.2.2.2.2
                have k : sd_lvk G x4 = sd_u G (40 + x4.toNat) 0 := if_pos ⟨z.1, z.2, by omega⟩
                rw [k]
                exact (sd_put (f := 4) (i := x4) (v := 0) R_c s p w z.1 z.2 A83 (by decide) e87 (sd_okv_4 (Or.inl rfl))).1
              · have k : sd_lvk G x4 = G := if_neg (fun y => z ⟨y.1, y.2.1⟩)
                rw [k, e87]
                exact sd_se_x R_c s (by first | decide | omega) A83 z
            exact L90 _ _ _ hS (by first | omega | assumption) (by first | omega | assumption) (by first | omega | assumption) (by first | omega | assumption)
    refine hgo (fun p => Nat.beq p 59 || Nat.beq p 90) 57 0 _ [] M ?_
    intro r1 e1 k1
    have R1 := pz_kd10 k1
    intro r4 e4 k4
    have R4 := pz_kd3 k4
    have L4 : r4 = 10 := by rw [e4, e1]; rfl
    refine And.intro (hI) ?_
    intro v10 M10 a10 b10 q10
    obtain ⟨q10, z10⟩ := q10
    have hS : pq_pr (pq_Pd c) M M10 := hS.tr z10.dw
    have hI : pz_ic M10 := hS.1 hI0
    rw [L4] at q10
    refine And.intro (fun h15 => ?_) (fun h15 => ?_)
    · skip
      refine And.intro rfl ?_
      refine ⟨fun ls l1 F hT hF hP hW hp => ?_, hS⟩
      obtain ⟨h1, h2⟩ := hp
      have hm := hW.1
      have T := sd_tel1 R_c hT hF hW (by first | decide | omega) h1 q10.2
      have s10 := sd_se_d R_c hF hW z10
      have p10 := sd_pg_d hP z10
      have d10 : M10 c 0 = M c 0 := z10.2 c 0 (by unfold pq_Pw; first | decide | omega)
      unfold sd_m3
      dsimp only
      first
        | (rw [if_neg (by rw [← T]; omega)]
           exact ⟨s10, p10, hW⟩)
        | (obtain ⟨a1, a2, a3⟩ := q20
           obtain ⟨a4, a5⟩ := a3 F s10 hW
           rw [d10] at a4 a5
           rw [if_pos (by rw [← T]; omega), if_neg (by rw [← T]; exact fun y => absurd (a4.mpr y) (by first | decide | omega))]
           exact ⟨a5, sd_pg_cg p10 a2 (fun k b _ => sd_fF_o (by first | decide | omega)), sd_fF_wf hW⟩)
    · skip
      refine And.intro (hI) ?_
      intro v20 M20 a20 b20 q20
      obtain ⟨q20, z20⟩ := q20
      have hS : pq_pr (pq_Pd c) M M20 := hS.tr z20
      have hI : pz_ic M20 := hS.1 hI0
      refine And.intro (fun h23 => ?_) (fun h23 => ?_)
      · skip
        refine And.intro (True.intro) ?_
        intro r29 M29 k29 q29
        have R29 := pz_kd5 k29
        obtain ⟨q29, z29⟩ := q29
        subst z29
        have A29 := pz_at_lk R_c q29
        have B29 : 89 + 13 * (c - 71) ≤ r29 ∧ r29 ≤ 89 + 13 * (c - 71) + 12 := by
          rw [A29]
          exact pz_lnk_c
        intro M33 e33
        have hS : pq_pr (pq_Pd c) M M33 := by
          rw [e33]
          exact pq_pr_u hS (by unfold pq_Pd pq_Pw pz_lb; first | decide | omega) (by unfold pz_iok; first | decide | omega)
        have hI : pz_ic M33 := hS.1 hI0
        intro v38 e38 a38 b38
        intro v42 e42 a42 b42
        intro M43 e43
        have hS : pq_pr (pq_Pd c) M M43 := by
          rw [e43]
          exact pq_pr_u hS (by unfold pq_Pd pq_Pw pz_lb; first | decide | omega) (by unfold pz_iok; first | decide | omega)
        have hI : pz_ic M43 := hS.1 hI0
        refine And.intro (hI) ?_
        intro M51 q51
        obtain ⟨q51, z51⟩ := q51
        have hS : pq_pr (pq_Pd c) M M51 := hS.tr z51
        have hI : pz_ic M51 := hS.1 hI0
        intro v56 e56 a56 b56
        rw [pz_wi (by first | decide | omega) (by first | decide | omega)] at e56
        have G56 : sd_lq M M51 c (fun F => i < F 88 ∧ sd_in F i.toNat) (fun ls _ F G => (0 < sd_le ls F i.toNat ∧ sd_fb (decide (M c 0 = 0)) F (sd_le ls F i.toNat) = true) ∧ G = sd_lvH (decide (M c 0 = 0)) F i.toNat (v56 - (i - 1)).toNat) := fun ls l1 F hT hF hP hW hp => by
          obtain ⟨h1, h2⟩ := hp
          have hm := hW.1
          have T := sd_tel1 R_c hT hF hW (by first | decide | omega) h1 q10.2
          have s10 := sd_se_d R_c hF hW z10
          have p10 := sd_pg_d hP z10
          have t10 := sd_tx_w hT z10
          have d10 : M10 c 0 = M c 0 := z10.2 c 0 (by unfold pq_Pw; first | decide | omega)
          obtain ⟨a1, a2, a3⟩ := q20
          obtain ⟨a4, a5⟩ := a3 F s10 hW
          rw [d10] at a4 a5
          have p20 : sd_pg M20 (sd_fF (decide (M c 0 = 0)) F) := sd_pg_cg p10 a2 (fun k b _ => sd_fF_o (by first | decide | omega))
          have w20 := sd_fF_wf (tr := decide (M c 0 = 0)) hW
          have k88 : sd_fF (decide (M c 0 = 0)) F 88 = F 88 := sd_fF_o (by decide)
          have t20 : sd_tx M20 ls l1 := sd_tx_d t10 (by first | decide | omega) z20
          have d20 : M20 c 0 = M c 0 := (z20.2 c 0 (by unfold pq_Pd pq_Pw pz_lb; first | decide | omega)).trans d10
          obtain ⟨s33, p33, w33, d33⟩ := sd_put (f := 5) (i := i) (v := 1) R_c a5 p20 w20 (by first | decide | omega) (by rw [k88]; exact h1) A29 (by decide) e33 (sd_okv_5 (Or.inr rfl))
          have k1 : (sd_u (sd_fF (decide (M c 0 = 0)) F) (sd_fo 5 + i.toNat) 1) 88 = F 88 := (sd_un (by show (88 : Nat) ≠ 52 + i.toNat; omega)).trans k88
          have k2 : (sd_u (sd_fF (decide (M c 0 = 0)) F) (sd_fo 5 + i.toNat) 1) 1 = sd_fF (decide (M c 0 = 0)) F 1 := sd_un (by show (1 : Nat) ≠ 52 + i.toNat; omega)
          have s43 : sd_se M43 c (sd_u (sd_u (sd_fF (decide (M c 0 = 0)) F) (sd_fo 5 + i.toNat) 1) 1 (pz_w (sd_fF (decide (M c 0 = 0)) F 1 + 1))) := by
            rw [e43, e42, e38, s33.2.2.1, k2]
            exact sd_se_c (k := 1) (f := 5) R_c s33 (by first | decide | omega) ⟨by decide, rfl⟩
          have p43 : sd_pg M43 (sd_u (sd_u (sd_fF (decide (M c 0 = 0)) F) (sd_fo 5 + i.toNat) 1) 1 (pz_w (sd_fF (decide (M c 0 = 0)) F 1 + 1))) := sd_pg_cg p33 (fun j => by rw [e43]; exact pz_una (by first | decide | omega)) (fun k b _ => sd_un (by first | decide | omega))
          have w43 : sd_wf (sd_u (sd_u (sd_fF (decide (M c 0 = 0)) F) (sd_fo 5 + i.toNat) 1) 1 (pz_w (sd_fF (decide (M c 0 = 0)) F 1 + 1))) := sd_wf_cg w33 (fun k hk => sd_un (by first | decide | omega)) (by rw [sd_un (by decide)]; exact w33.2.1)
          have q := q51 _ s43 p43 w43
          have d43 : M43 c 0 = M c 0 := by
            rw [e43, pz_unk (by decide), d33]
            exact d20
          rw [d43] at q
          have ei : ((i.toNat : Nat) : Int) = i := by omega
          refine ⟨sd_lvH (decide (M c 0 = 0)) F i.toNat (v56 - (i - 1)).toNat, ?_, ?_, ?_, sd_tx_cg t20 (fun b j q => (z51.2 b j (by unfold pq_Pd pq_Pw pz_lb; first | decide | omega)).trans (by rw [e43, pz_una (by first | decide | omega), e33]; exact pz_una (by first | decide | omega))), ⟨⟨by rw [← T]; omega, by rw [← T]; exact a4.mp (by first | decide | omega)⟩, rfl⟩⟩
          · rw [show (v56 - (i - 1)).toNat = 0 by omega]
            show sd_se M51 c (sd_note _ (sd_u (sd_u (sd_fF (decide (M c 0 = 0)) F) (52 + i.toNat) 1) 1 (pz_w (sd_fF (decide (M c 0 = 0)) F 1 + 1))) 4 ((i.toNat : Nat) : Int) 0)
            rw [ei]
            exact q.1
          · rw [show (v56 - (i - 1)).toNat = 0 by omega]
            show sd_pg M51 (sd_note _ (sd_u (sd_u (sd_fF (decide (M c 0 = 0)) F) (52 + i.toNat) 1) 1 (pz_w (sd_fF (decide (M c 0 = 0)) F 1 + 1))) 4 ((i.toNat : Nat) : Int) 0)
            rw [ei]
            exact q.2
          · rw [show (v56 - (i - 1)).toNat = 0 by omega]
            exact sd_note_wf w43
        exact L59 _ _ _ _ (Nat.lt_succ_self _) hS (by first | omega | assumption) (by first | omega | assumption) (by first | omega | assumption)
      · skip
        refine And.intro rfl ?_
        refine ⟨fun ls l1 F hT hF hP hW hp => ?_, hS⟩
        obtain ⟨h1, h2⟩ := hp
        have hm := hW.1
        have T := sd_tel1 R_c hT hF hW (by first | decide | omega) h1 q10.2
        have s10 := sd_se_d R_c hF hW z10
        have p10 := sd_pg_d hP z10
        have d10 : M10 c 0 = M c 0 := z10.2 c 0 (by unfold pq_Pw; first | decide | omega)
        unfold sd_m3
        dsimp only
        first
          | (rw [if_neg (by rw [← T]; omega)]
             exact ⟨s10, p10, hW⟩)
          | (obtain ⟨a1, a2, a3⟩ := q20
             obtain ⟨a4, a5⟩ := a3 F s10 hW
             rw [d10] at a4 a5
             rw [if_pos (by rw [← T]; omega), if_neg (by rw [← T]; exact fun y => absurd (a4.mpr y) (by first | decide | omega))]
             exact ⟨a5, sd_pg_cg p10 a2 (fun k b _ => sd_fF_o (by first | decide | omega)), sd_fF_wf hW⟩)
theorem v3_X1_mayLeave {fr lo i : Nat} {own : String} (h1 : 4 + 1 ≤ fr) (h2 : 8 + (5 + 11) + 97 ≤ lo) (h3 : .methodLink own i yX1_mayLeave ∈ lw_tbl) : pz_cV fr lo own i k3_X1_mayLeave :=
  pz_cVk (maxL := 5) (fr' := 4) (lo' := 97) 2 1 h3_X1_mayLeave rfl ⟨(pz_nhc_RX1 yX1_mayLeave rfl).1, (pz_nhc_RX1 yX1_mayLeave rfl).2, pz_ds34⟩ ⟨pz_wq600, pz_wq598, pz_wq599, pz_wq7⟩ (Or.inl ⟨TX1, 2, rfl⟩) (fun a M _ h => by
    have h : (match (generalizing := false) a with | [.inr (.inr (1, d)), .inr (.inr (0, c)), .inl i] => pz_ic M ∧ 0 ≤ i ∧ i < 12 | _ => False) := h
    split at h
    · exact ⟨_, _, rfl⟩
    · exact h.elim) h1 h2 h3
noncomputable def k3_X1_oneDay : pz_C := (2, 1, fun a M => (match a with | [.inr (.inr (1, d)), .inr (.inr (0, c))] => pz_ic M | _ => False), fun a M r M' => (match a, r with | [.inr (.inr (1, d)), .inr (.inr (0, c))], some (.inl v) => (sd_od M M' c v) ∧ pq_pr (pq_Pd c) M M' | _, _ => False))
noncomputable abbrev ct3_X1_oneDay : List (Bool × Nat × pz_C) := [(true, 103, k_X6_cell), (true, 106, k3_X1_doPlanned), (true, 110, k3_X1_canGetReady), (true, 64, k3_X3_tells), (true, 114, k3_X0_happens), (true, 117, k3_X1_getReady), (true, 39, k_X0_at), (true, 43, k_X5_isIn), (true, 120, k3_X1_mayLeave), (true, 123, k3_X1_moveParts), (true, 127, k3_X1_payForBridges)]
set_option maxRecDepth 100000 in
set_option maxHeartbeats 4000000 in
theorem h3_X1_oneDay : pz_H yX1_oneDay cX1_oneDay 3 (some .int) k3_X1_oneDay 6 147 := by
  refine pz_mk (own := RX1) (tb := t_X1_oneDay) (fl := pz_flf fl_RX1) (ci := fun _ => none) (ct := pz_ctf ct3_X1_oneDay) (rz := false) (pz_pfc_RX1 yX1_oneDay rfl) rfl t_X1_oneDay_ok (pz_flk fl_RX1_ok) (fun i v h => by cases h) ?_ ?_ (Or.inl ⟨rfl, rfl⟩) ?_ ?_
  · exact fun i k' h => pz_ctk (l := ct3_X1_oneDay) (P := fun b i k => b = true → pz_cV 6 147 RX1 i k) (List.forall_mem_cons.mpr ⟨(fun _ => v_X6_cell (by decide) (by decide) pz_wq575), List.forall_mem_cons.mpr ⟨(fun _ => v3_X1_doPlanned (by decide) (by decide) pz_wq579), List.forall_mem_cons.mpr ⟨(fun _ => v3_X1_canGetReady (by decide) (by decide) pz_wq589), List.forall_mem_cons.mpr ⟨(fun _ => v3_X3_tells (by decide) (by decide) pz_wq482), List.forall_mem_cons.mpr ⟨(fun _ => v3_X0_happens (by decide) (by decide) pz_wq591), List.forall_mem_cons.mpr ⟨(fun _ => v3_X1_getReady (by decide) (by decide) pz_wq590), List.forall_mem_cons.mpr ⟨(fun _ => v_X0_at (by decide) (by decide) pz_wq457), List.forall_mem_cons.mpr ⟨(fun _ => v_X5_isIn (by decide) (by decide) pz_wq458), List.forall_mem_cons.mpr ⟨(fun _ => v3_X1_mayLeave (by decide) (by decide) pz_wq597), List.forall_mem_cons.mpr ⟨(fun _ => v3_X1_moveParts (by decide) (by decide) pz_wq601), List.forall_mem_cons.mpr ⟨(fun _ => v3_X1_payForBridges (by decide) (by decide) pz_wq639), fun _ h => absurd h List.not_mem_nil⟩⟩⟩⟩⟩⟩⟩⟩⟩⟩⟩) true i k' h rfl
  · exact fun i k' h => pz_ctk (l := ct3_X1_oneDay) (P := fun b i k => b = false → (pz_cS 6 147 RX1 i k ∨ (k = pz_kac ∧ 1 ≤ 6 ∧ 60 ≤ 147 ∧ Cond.methodLink RX1 i arraycopyName ∈ pz_tbl))) (List.forall_mem_cons.mpr ⟨((fun z => by cases z)), List.forall_mem_cons.mpr ⟨((fun z => by cases z)), List.forall_mem_cons.mpr ⟨((fun z => by cases z)), List.forall_mem_cons.mpr ⟨((fun z => by cases z)), List.forall_mem_cons.mpr ⟨((fun z => by cases z)), List.forall_mem_cons.mpr ⟨((fun z => by cases z)), List.forall_mem_cons.mpr ⟨((fun z => by cases z)), List.forall_mem_cons.mpr ⟨((fun z => by cases z)), List.forall_mem_cons.mpr ⟨((fun z => by cases z)), List.forall_mem_cons.mpr ⟨((fun z => by cases z)), List.forall_mem_cons.mpr ⟨((fun z => by cases z)), fun _ h => absurd h List.not_mem_nil⟩⟩⟩⟩⟩⟩⟩⟩⟩⟩⟩) false i k' h rfl
  · intro a M hlen hpre
    obtain ⟨d, c, rfl, hpre⟩ : ∃ d c, a = [.inr (.inr (1, d)), .inr (.inr (0, c))] ∧ (pz_ic M) := by
      have hpre : (match (generalizing := false) a with | [.inr (.inr (1, d)), .inr (.inr (0, c))] => pz_ic M | _ => False) := hpre
      split at hpre
      · exact ⟨_, _, rfl, hpre⟩
      · exact hpre.elim
    exact Nat.le_of_ble_eq_true rfl
  · intro a M hlen hcan hM hpre Ok hgo
    obtain ⟨d, c, rfl, hpre⟩ : ∃ d c, a = [.inr (.inr (1, d)), .inr (.inr (0, c))] ∧ (pz_ic M) := by
      have hpre : (match (generalizing := false) a with | [.inr (.inr (1, d)), .inr (.inr (0, c))] => pz_ic M | _ => False) := hpre
      split at hpre
      · exact ⟨_, _, rfl, hpre⟩
      · exact hpre.elim
    obtain ⟨k_d, hc_d⟩ := pz_tlm hcan
    have k_d : pz_kd d = 1 ∧ d < 231 := k_d
    have R_d := pz_kd1 k_d.1
    subst R_d
    obtain ⟨k_c, hc_c⟩ := pz_tlm hc_d
    have k_c : pz_kd c = 0 ∧ c < 231 := k_c
    have R_c := pz_kd0 k_c.1
    have hI : pz_ic M := hpre
    have hI0 := hI
    have hS : pq_pr (pq_Pd c) M M := pq_pr.rf
    have L100 : ∀ (fu : Nat) (x2 : Int) (N100 : pz_M), (12 - x2).toNat < fu → (pq_pr (pq_Pd c) M N100) → (0 ≤ x2) → (sd_lp M N100 c (fun ls l1 F G => G 88 = F 88 ∧ sd_p3 (decide (M c 0 = 0)) ls (sd_n F - x2.toNat) x2.toNat G = sd_d3 (decide (M c 0 = 0)) ls l1 F)) → Ok 100 [some (.inr (.inr (1, 2))), some (.inr (.inr (0, c))), some (.inl x2)] [] N100 := by
      intro fu
      induction fu with
      | zero => exact fun _ _ hn => absurd hn (Nat.not_lt_zero _)
      | succ fu ih100 =>
        intro x2 N100 hn100 hS g100_1 g100_2
        have hI : pz_ic N100 := hS.1 hI0
        have hS9 := hS
        have t0 : N100 c 0 = M c 0 := hS.2 c 0 (by unfold pq_Pd pq_Pw pz_lb; first | decide | omega)
        have L125 : ∀ (x2 : Int) (N125 : pz_M), (pq_pr (pq_Pd c) M N125) → (0 ≤ x2) → (x2 < 12) → ((12 - x2).toNat < fu + 1) → (sd_lp M N125 c (fun ls l1 F G => G 88 = F 88 ∧ sd_p3 (decide (M c 0 = 0)) ls (sd_n F - (x2.toNat + 1)) (x2.toNat + 1) G = sd_d3 (decide (M c 0 = 0)) ls l1 F)) → Ok 125 [some (.inr (.inr (1, 2))), some (.inr (.inr (0, c))), some (.inl x2)] [] N125 := by
          intro x2 N125 hS g125_1 g125_2 g125_3 g125_4
          have hI : pz_ic N125 := hS.1 hI0
          refine hgo (fun p => Nat.beq p 2 || Nat.beq p 41 || Nat.beq p 49 || Nat.beq p 92 || Nat.beq p 100 || Nat.beq p 125) 84 125 _ _ _ ?_
          intro v125 e125 a125 b125
          rw [pz_wi (by first | decide | omega) (by first | decide | omega)] at e125
          have G125 : sd_lp M N125 c (fun ls l1 F G => G 88 = F 88 ∧ sd_p3 (decide (M c 0 = 0)) ls (sd_n F - v125.toNat) v125.toNat G = sd_d3 (decide (M c 0 = 0)) ls l1 F) := by
            rw [show v125.toNat = x2.toNat + 1 by omega]
            exact g125_4
          exact ih100 _ _ (by first | decide | omega) hS (by first | omega | assumption) (by first | omega | assumption)
        refine hgo (fun p => Nat.beq p 2 || Nat.beq p 41 || Nat.beq p 49 || Nat.beq p 92 || Nat.beq p 100 || Nat.beq p 125) 84 100 _ _ _ ?_
        intro v102 e102 a102 b102
        have I102 := hI.1 c (by first | decide | omega) (by first | decide | omega)
        refine And.intro (fun h105 => ?_) (fun h105 => ?_)
        · skip
          refine And.intro (hI) ?_
          intro v133 M133 a133 b133 q133
          obtain ⟨q133, z133⟩ := q133
          have hS : pq_pr (pq_Pd c) M M133 := hS.tr z133
          have hI : pz_ic M133 := hS.1 hI0
          refine And.intro (hI) ?_
          intro M139 q139
          obtain ⟨q139, z139⟩ := q139
          have hS : pq_pr (pq_Pd c) M M139 := hS.tr z139
          have hI : pz_ic M139 := hS.1 hI0
          intro v144 e144 a144 b144
          intro v148 e148 a148 b148
          intro M149 e149
          have hS : pq_pr (pq_Pd c) M M149 := by
            rw [e149]
            exact pq_pr_u hS (by unfold pq_Pd pq_Pw pz_lb; first | decide | omega) (by unfold pz_iok; first | decide | omega)
          have hI : pz_ic M149 := hS.1 hI0
          refine And.intro rfl ?_
          refine ⟨fun ls l1 F hT hF hP hW => ?_, hS⟩
          obtain ⟨G, s, p, w, t, r1, r2⟩ := g100_2 ls l1 F hT hF hP hW
          have n9 := s.1
          have m9 := w.1
          have k9 := sd_n_i hW
          rw [show sd_n F - x2.toNat = 0 by omega] at r2
          have r2 : G = sd_d3 (decide (M c 0 = 0)) ls l1 F := r2
          have nn : sd_n G = sd_n F := by unfold sd_n; rw [r1]
          have y := q133 ls l1 G t s p w
          rw [t0, nn, r2] at y
          obtain ⟨y1, y2, y3, y4, y5⟩ := y
          have t133 := sd_tx_d t (by first | decide | omega) z133
          have d133 : M133 c 0 = M c 0 := (z133.2 c 0 (by unfold pq_Pd pq_Pw pz_lb; first | decide | omega)).trans t0
          have z := q139 ls l1 _ t133 y2 y3 y4 trivial
          have n4 : sd_n (sd_mv (decide (M c 0 = 0)) (sd_bb (sd_d3 (decide (M c 0 = 0)) ls l1 F)) (sd_n F) 12 0 (sd_d3 (decide (M c 0 = 0)) ls l1 F) 0).1 = sd_n F := by
            exact congrArg Int.toNat (y5.trans (by rw [← r2]; exact r1))
          dsimp only at z
          rw [n4] at z
          obtain ⟨z1, z2, z3⟩ := z
          have z1 : sd_se M139 c (sd_d5 (decide (M c 0 = 0)) ls l1 F) := z1
          have z2 : sd_pg M139 (sd_d5 (decide (M c 0 = 0)) ls l1 F) := z2
          have z3 : sd_wf (sd_d5 (decide (M c 0 = 0)) ls l1 F) := z3
          have m5 := z3.1
          unfold sd_day
          refine ⟨y1, ?_, sd_pg_cg z2 (fun j => by rw [e149]; exact pz_una (by first | decide | omega)) (fun k a _ => sd_un (by first | decide | omega)), sd_wf_cg z3 (fun k hk => sd_un (by first | decide | omega)) (by rw [sd_un (by decide)]; exact z3.2.1)⟩
          rw [e149, e148, e144, z1.2.1]
          exact sd_se_c (k := 0) (f := 4) R_c z1 (by first | decide | omega) ⟨by decide, rfl⟩
        · skip
          refine And.intro (True.intro) ?_
          intro r110 M110 k110 q110
          have R110 := pz_kd5 k110
          obtain ⟨q110, z110⟩ := q110
          subst z110
          have A110 := pz_at_lk R_c q110
          have B110 : 89 + 13 * (c - 71) ≤ r110 ∧ r110 ≤ 89 + 13 * (c - 71) + 12 := by
            rw [A110]
            exact pz_lnk_c
          refine And.intro (True.intro) ?_
          intro v113 M113 a113 b113 q113
          obtain ⟨q113, z113⟩ := q113
          subst z113
          refine And.intro (fun h116 => ?_) (fun h116 => ?_)
          · skip
            have G116 : sd_lp M N100 c (fun ls l1 F G => G 88 = F 88 ∧ sd_p3 (decide (M c 0 = 0)) ls (sd_n F - (x2.toNat + 1)) (x2.toNat + 1) G = sd_d3 (decide (M c 0 = 0)) ls l1 F) := fun ls l1 F hT hF hP hW => by
              obtain ⟨G, s, p, w, t, r1, r2⟩ := g100_2 ls l1 F hT hF hP hW
              have n9 := s.1
              have m9 := w.1
              have k9 := sd_n_i hW
              have b := sd_at R_c s w g100_1 (by first | decide | omega) A110
              have b5 := b.2.2.2.2.2.1
              have b7 := b.2.2.2.2.2.2.2
              have P := w.2.2 x2.toNat (by first | decide | omega)
              unfold sd_lw at P
              rw [b5, b7] at q113
              have ni : ¬ sd_in G x2.toNat := fun y => by
                unfold sd_in at y
                split at q113 <;> omega
              rw [show sd_n F - x2.toNat = (sd_n F - (x2.toNat + 1)) + 1 by omega] at r2
              refine ⟨G, s, p, w, t, r1, ?_⟩
              rw [← r2]
              show _ = sd_p3 _ ls _ (x2.toNat + 1) (sd_s3 _ ls x2.toNat G)
              rw [sd_s3_no ni]
            exact L125 _ _ hS (by first | omega | assumption) (by first | omega | assumption) (by first | omega | assumption) (by first | omega | assumption)
          · skip
            skip
            refine And.intro (And.intro hI (And.intro (by first | decide | omega) (by first | decide | omega))) ?_
            intro M122 q122
            obtain ⟨q122, z122⟩ := q122
            have hS : pq_pr (pq_Pd c) M M122 := hS.tr z122
            have hI : pz_ic M122 := hS.1 hI0
            have G122 : sd_lp M M122 c (fun ls l1 F G => G 88 = F 88 ∧ sd_p3 (decide (M c 0 = 0)) ls (sd_n F - (x2.toNat + 1)) (x2.toNat + 1) G = sd_d3 (decide (M c 0 = 0)) ls l1 F) := fun ls l1 F hT hF hP hW => by
              obtain ⟨G, s, p, w, t, r1, r2⟩ := g100_2 ls l1 F hT hF hP hW
              have n9 := s.1
              have m9 := w.1
              have k9 := sd_n_i hW
              have b := sd_at R_c s w g100_1 (by first | decide | omega) A110
              have b5 := b.2.2.2.2.2.1
              have b7 := b.2.2.2.2.2.2.2
              rw [b5, b7] at q113
              have yi : sd_in G x2.toNat := by
                unfold sd_in
                split at q113 <;> omega
              have z := q122 ls l1 G t s p w ⟨by omega, yi⟩
              rw [t0] at z
              rw [show sd_n F - x2.toNat = (sd_n F - (x2.toNat + 1)) + 1 by omega] at r2
              exact ⟨_, z.1, z.2.1, z.2.2, sd_tx_d t (by first | decide | omega) z122, (sd_m3_88 (by first | decide | omega)).trans r1, by
                rw [← r2]
                show sd_p3 _ ls _ (x2.toNat + 1) (sd_m3 _ ls x2.toNat G) = _
                rw [← sd_s3_in yi]
                rfl⟩
            exact L125 _ _ hS (by first | omega | assumption) (by first | omega | assumption) (by first | omega | assumption) (by first | omega | assumption)
    have L49 : ∀ (fu : Nat) (x2 : Int) (N49 : pz_M), (12 - x2).toNat < fu → (pq_pr (pq_Pd c) M N49) → (0 ≤ x2) → (sd_lp M N49 c (fun ls l1 F G => G 88 = F 88 ∧ sd_p2 (decide (M c 0 = 0)) ls (sd_n F - x2.toNat) x2.toNat G = sd_p2 (decide (M c 0 = 0)) ls (sd_n F) 0 (sd_p1 (decide (M c 0 = 0)) ls l1 F))) → Ok 49 [some (.inr (.inr (1, 2))), some (.inr (.inr (0, c))), some (.inl x2)] [] N49 := by
      intro fu
      induction fu with
      | zero => exact fun _ _ hn => absurd hn (Nat.not_lt_zero _)
      | succ fu ih49 =>
        intro x2 N49 hn49 hS g49_1 g49_2
        have hI : pz_ic N49 := hS.1 hI0
        have hS9 := hS
        have t0 : N49 c 0 = M c 0 := hS.2 c 0 (by unfold pq_Pd pq_Pw pz_lb; first | decide | omega)
        have L92 : ∀ (x2 : Int) (N92 : pz_M), (pq_pr (pq_Pd c) M N92) → (0 ≤ x2) → (x2 < 12) → ((12 - x2).toNat < fu + 1) → (sd_lp M N92 c (fun ls l1 F G => G 88 = F 88 ∧ sd_p2 (decide (M c 0 = 0)) ls (sd_n F - (x2.toNat + 1)) (x2.toNat + 1) G = sd_p2 (decide (M c 0 = 0)) ls (sd_n F) 0 (sd_p1 (decide (M c 0 = 0)) ls l1 F))) → Ok 92 [some (.inr (.inr (1, 2))), some (.inr (.inr (0, c))), some (.inl x2)] [] N92 := by
          intro x2 N92 hS g92_1 g92_2 g92_3 g92_4
          have hI : pz_ic N92 := hS.1 hI0
          refine hgo (fun p => Nat.beq p 2 || Nat.beq p 41 || Nat.beq p 49 || Nat.beq p 92 || Nat.beq p 100 || Nat.beq p 125) 84 92 _ _ _ ?_
          intro v92 e92 a92 b92
          rw [pz_wi (by first | decide | omega) (by first | decide | omega)] at e92
          have G92 : sd_lp M N92 c (fun ls l1 F G => G 88 = F 88 ∧ sd_p2 (decide (M c 0 = 0)) ls (sd_n F - v92.toNat) v92.toNat G = sd_p2 (decide (M c 0 = 0)) ls (sd_n F) 0 (sd_p1 (decide (M c 0 = 0)) ls l1 F)) := by
            rw [show v92.toNat = x2.toNat + 1 by omega]
            exact g92_4
          exact ih49 _ _ (by first | decide | omega) hS (by first | omega | assumption) (by first | omega | assumption)
        refine hgo (fun p => Nat.beq p 2 || Nat.beq p 41 || Nat.beq p 49 || Nat.beq p 92 || Nat.beq p 100 || Nat.beq p 125) 84 49 _ _ _ ?_
        intro v51 e51 a51 b51
        have I51 := hI.1 c (by first | decide | omega) (by first | decide | omega)
        refine And.intro (fun h54 => ?_) (fun h54 => ?_)
        · skip
          have G54 : sd_lp M N49 c (fun ls l1 F G => G 88 = F 88 ∧ sd_p3 (decide (M c 0 = 0)) ls (sd_n F - (0 : Int).toNat) (0 : Int).toNat G = sd_d3 (decide (M c 0 = 0)) ls l1 F) := fun ls l1 F hT hF hP hW => by
            obtain ⟨G, s, p, w, t, r1, r2⟩ := g49_2 ls l1 F hT hF hP hW
            have n9 := s.1
            have m9 := w.1
            have k9 := sd_n_i hW
            rw [show sd_n F - x2.toNat = 0 by omega] at r2
            have r2 : G = sd_p2 (decide (M c 0 = 0)) ls (sd_n F) 0 (sd_p1 (decide (M c 0 = 0)) ls l1 F) := r2
            refine ⟨G, s, p, w, t, r1, ?_⟩
            rw [r2]
            rfl
          exact L100 _ _ _ (Nat.lt_succ_self _) hS (by first | omega | assumption) (by first | omega | assumption)
        · skip
          skip
          refine And.intro (hI) ?_
          intro v60 M60 a60 b60 q60
          obtain ⟨q60, z60⟩ := q60
          subst z60
          refine And.intro (fun h63 => ?_) (fun h63 => ?_)
          · skip
            have G63 : sd_lp M N49 c (fun ls l1 F G => G 88 = F 88 ∧ sd_p2 (decide (M c 0 = 0)) ls (sd_n F - (x2.toNat + 1)) (x2.toNat + 1) G = sd_p2 (decide (M c 0 = 0)) ls (sd_n F) 0 (sd_p1 (decide (M c 0 = 0)) ls l1 F)) := fun ls l1 F hT hF hP hW => by
              obtain ⟨G, s, p, w, t, r1, r2⟩ := g49_2 ls l1 F hT hF hP hW
              have n9 := s.1
              have m9 := w.1
              have k9 := sd_n_i hW
              have a := q60.2 G s w
              rw [show sd_n F - x2.toNat = (sd_n F - (x2.toNat + 1)) + 1 by omega] at r2
              refine ⟨G, s, p, w, t, r1, ?_⟩
              rw [← r2]
              show _ = sd_p2 _ ls _ (x2.toNat + 1) (sd_s2 _ ls x2.toNat G)
              rw [show sd_s2 (decide (M c 0 = 0)) ls x2.toNat G = G from if_neg (fun y => absurd (a.mpr ⟨g49_1, y⟩) (by first | decide | omega))]
            exact L92 _ _ hS (by first | omega | assumption) (by first | omega | assumption) (by first | omega | assumption) (by first | omega | assumption)
          · skip
            skip
            intro r68 e68 k68
            have R68 := pz_kd10 k68
            intro r71 e71 k71
            have R71 := pz_kd3 k71
            have L71 : r71 = 10 := by rw [e71, e68]; rfl
            refine And.intro (hI) ?_
            intro v77 M77 a77 b77 q77
            obtain ⟨q77, z77⟩ := q77
            have hS : pq_pr (pq_Pd c) M M77 := hS.tr z77.dw
            have hI : pz_ic M77 := hS.1 hI0
            rw [L71] at q77
            refine And.intro (hI) ?_
            intro v80 M80 a80 b80 q80
            obtain ⟨q80, z80⟩ := q80
            have hS : pq_pr (pq_Pd c) M M80 := hS.tr z80
            have hI : pz_ic M80 := hS.1 hI0
            refine And.intro (fun h83 => ?_) (fun h83 => ?_)
            · skip
              have G83 : sd_lp M M80 c (fun ls l1 F G => G 88 = F 88 ∧ sd_p2 (decide (M c 0 = 0)) ls (sd_n F - (x2.toNat + 1)) (x2.toNat + 1) G = sd_p2 (decide (M c 0 = 0)) ls (sd_n F) 0 (sd_p1 (decide (M c 0 = 0)) ls l1 F)) := fun ls l1 F hT hF hP hW => by
                obtain ⟨G, s, p, w, t, r1, r2⟩ := g49_2 ls l1 F hT hF hP hW
                have n9 := s.1
                have m9 := w.1
                have k9 := sd_n_i hW
                have a := q60.2 G s w
                have a1 := a.mp (by first | decide | omega)
                have T := sd_tel0 R_c t s w g49_1 (by first | decide | omega) q77.2
                have s77 := sd_se_d R_c s w z77
                have p77 := sd_pg_d p z77
                have t77 := sd_tx_w t z77
                have d77 : M77 c 0 = M c 0 := (z77.2 c 0 (by unfold pq_Pw; first | decide | omega)).trans t0
                obtain ⟨b1, b2, b3⟩ := q80
                obtain ⟨b4, b5⟩ := b3 G s77 w
                rw [d77] at b4 b5
                rw [show sd_n F - x2.toNat = (sd_n F - (x2.toNat + 1)) + 1 by omega] at r2
                refine ⟨sd_fF (decide (M c 0 = 0)) G, b5, sd_pg_cg p77 b2 (fun k b _ => sd_fF_o (by first | decide | omega)), sd_fF_wf w, sd_tx_d t77 (by first | decide | omega) z80, (sd_fF_o (by decide)).trans r1, ?_⟩
                rw [← r2]
                show _ = sd_p2 _ ls _ (x2.toNat + 1) (sd_s2 _ ls x2.toNat G)
                rw [show sd_s2 (decide (M c 0 = 0)) ls x2.toNat G = sd_fF (decide (M c 0 = 0)) G by
                  unfold sd_s2
                  rw [if_pos a1.2, if_neg (by rw [← T]; exact fun y => absurd (b4.mpr y) (by first | decide | omega))]]
              exact L92 _ _ hS (by first | omega | assumption) (by first | omega | assumption) (by first | omega | assumption) (by first | omega | assumption)
            · skip
              skip
              refine And.intro (hI) ?_
              intro M89 q89
              obtain ⟨q89, z89⟩ := q89
              have hS : pq_pr (pq_Pd c) M M89 := hS.tr z89
              have hI : pz_ic M89 := hS.1 hI0
              have G89 : sd_lp M M89 c (fun ls l1 F G => G 88 = F 88 ∧ sd_p2 (decide (M c 0 = 0)) ls (sd_n F - (x2.toNat + 1)) (x2.toNat + 1) G = sd_p2 (decide (M c 0 = 0)) ls (sd_n F) 0 (sd_p1 (decide (M c 0 = 0)) ls l1 F)) := fun ls l1 F hT hF hP hW => by
                obtain ⟨G, s, p, w, t, r1, r2⟩ := g49_2 ls l1 F hT hF hP hW
                have n9 := s.1
                have m9 := w.1
                have k9 := sd_n_i hW
                have a := q60.2 G s w
                have a1 := a.mp (by first | decide | omega)
                have T := sd_tel0 R_c t s w g49_1 (by first | decide | omega) q77.2
                have s77 := sd_se_d R_c s w z77
                have p77 := sd_pg_d p z77
                have t77 := sd_tx_w t z77
                have d77 : M77 c 0 = M c 0 := (z77.2 c 0 (by unfold pq_Pw; first | decide | omega)).trans t0
                obtain ⟨b1, b2, b3⟩ := q80
                obtain ⟨b4, b5⟩ := b3 G s77 w
                rw [d77] at b4 b5
                have p80 : sd_pg M80 (sd_fF (decide (M c 0 = 0)) G) := sd_pg_cg p77 b2 (fun k b _ => sd_fF_o (by first | decide | omega))
                have t80 := sd_tx_d t77 (by first | decide | omega) z80
                have d80 : M80 c 0 = M c 0 := (z80.2 c 0 (by unfold pq_Pd pq_Pw pz_lb; first | decide | omega)).trans d77
                have k88 : sd_fF (decide (M c 0 = 0)) G 88 = G 88 := sd_fF_o (by decide)
                have z := q89 ls l1 _ t80 b5 p80 (sd_fF_wf w) ⟨g49_1, by rw [k88]; omega⟩
                rw [d80] at z
                rw [show sd_n F - x2.toNat = (sd_n F - (x2.toNat + 1)) + 1 by omega] at r2
                have K : sd_s2 (decide (M c 0 = 0)) ls x2.toNat G = sd_get (decide (M c 0 = 0)) (sd_fF (decide (M c 0 = 0)) G) x2.toNat := by
                  unfold sd_s2
                  rw [if_pos a1.2, if_pos (by rw [← T]; exact b4.mp (by first | decide | omega))]
                exact ⟨_, z.1, z.2.1, z.2.2, sd_tx_d t80 (by first | decide | omega) z89, ((sd_get_88 (by first | decide | omega)).trans k88).trans r1, by
                  rw [← r2]
                  show sd_p2 _ ls _ (x2.toNat + 1) (sd_get _ (sd_fF _ G) x2.toNat) = _
                  rw [← K]
                  rfl⟩
              exact L92 _ _ hS (by first | omega | assumption) (by first | omega | assumption) (by first | omega | assumption) (by first | omega | assumption)
    have L2 : ∀ (fu : Nat) (x2 : Int) (N2 : pz_M), (16 - x2).toNat < fu → (pq_pr (pq_Pd c) M N2) → (0 ≤ x2) → (sd_lp M N2 c (fun ls l1 F G => G 88 = F 88 ∧ sd_p1 (decide (M c 0 = 0)) ls (l1.drop x2.toNat) G = sd_p1 (decide (M c 0 = 0)) ls l1 F)) → Ok 2 [some (.inr (.inr (1, 2))), some (.inr (.inr (0, c))), some (.inl x2)] [] N2 := by
      intro fu
      induction fu with
      | zero => exact fun _ _ hn => absurd hn (Nat.not_lt_zero _)
      | succ fu ih2 =>
        intro x2 N2 hn2 hS g2_1 g2_2
        have hI : pz_ic N2 := hS.1 hI0
        have hS9 := hS
        have t0 : N2 c 0 = M c 0 := hS.2 c 0 (by unfold pq_Pd pq_Pw pz_lb; first | decide | omega)
        have L41 : ∀ (x2 : Int) (N41 : pz_M), (pq_pr (pq_Pd c) M N41) → (0 ≤ x2) → (x2 < 16) → ((16 - x2).toNat < fu + 1) → (sd_lp M N41 c (fun ls l1 F G => G 88 = F 88 ∧ sd_p1 (decide (M c 0 = 0)) ls (l1.drop (x2.toNat + 1)) G = sd_p1 (decide (M c 0 = 0)) ls l1 F)) → Ok 41 [some (.inr (.inr (1, 2))), some (.inr (.inr (0, c))), some (.inl x2)] [] N41 := by
          intro x2 N41 hS g41_1 g41_2 g41_3 g41_4
          have hI : pz_ic N41 := hS.1 hI0
          refine hgo (fun p => Nat.beq p 2 || Nat.beq p 41 || Nat.beq p 49 || Nat.beq p 92 || Nat.beq p 100 || Nat.beq p 125) 84 41 _ _ _ ?_
          intro v41 e41 a41 b41
          rw [pz_wi (by first | decide | omega) (by first | decide | omega)] at e41
          have G41 : sd_lp M N41 c (fun ls l1 F G => G 88 = F 88 ∧ sd_p1 (decide (M c 0 = 0)) ls (l1.drop v41.toNat) G = sd_p1 (decide (M c 0 = 0)) ls l1 F) := by
            rw [show v41.toNat = x2.toNat + 1 by omega]
            exact g41_4
          exact ih2 _ _ (by first | decide | omega) hS (by first | omega | assumption | exact fun ls l1 F hT hF hP hW => ⟨F, hF, hP, hW, hT, rfl, rfl⟩) (by first | omega | assumption | exact fun ls l1 F hT hF hP hW => ⟨F, hF, hP, hW, hT, rfl, rfl⟩)
        refine hgo (fun p => Nat.beq p 2 || Nat.beq p 41 || Nat.beq p 49 || Nat.beq p 92 || Nat.beq p 100 || Nat.beq p 125) 84 2 _ _ _ ?_
        intro r4 e4 k4
        have R4 := pz_kd10 k4
        intro r7 e7 k7
        have R7 := pz_kd6 k7
        have L7 : r7 = 13 := by rw [e7, e4]; rfl
        intro v10 e10 a10 b10
        have I10 := hI.2.2.1 r7 (by first | decide | omega) (by first | decide | omega)
        have E10 := e10
        rw [L7] at E10
        refine And.intro (fun h13 => ?_) (fun h13 => ?_)
        · skip
          have G13 : sd_lp M N2 c (fun ls l1 F G => G 88 = F 88 ∧ sd_p2 (decide (M c 0 = 0)) ls (sd_n F - (0 : Int).toNat) (0 : Int).toNat G = sd_p2 (decide (M c 0 = 0)) ls (sd_n F) 0 (sd_p1 (decide (M c 0 = 0)) ls l1 F)) := fun ls l1 F hT hF hP hW => by
            obtain ⟨G, s, p, w, t, r1, r2⟩ := g2_2 ls l1 F hT hF hP hW
            have n9 := s.1
            have m9 := w.1
            have k9 := sd_n_i hW
            have l9 := sd_l1_16 t
            rw [List.drop_eq_nil_of_le (by first | decide | omega)] at r2
            have r2 : G = sd_p1 (decide (M c 0 = 0)) ls l1 F := r2
            refine ⟨G, s, p, w, t, r1, ?_⟩
            rw [← r2]
            rfl
          exact L49 _ _ _ (Nat.lt_succ_self _) hS (by first | omega | assumption) (by first | omega | assumption)
        · skip
          skip
          intro r17 e17 k17
          have R17 := pz_kd10 k17
          intro r20 e20 k20
          have R20 := pz_kd6 k20
          have L20 : r20 = 13 := by rw [e20, e17]; rfl
          refine And.intro (hI) ?_
          intro v25 M25 a25 b25 q25
          obtain ⟨q25, z25⟩ := q25
          subst z25
          rw [L20] at q25
          intro v29 e29 a29 b29
          refine And.intro (fun h32 => ?_) (fun h32 => ?_)
          · skip
            have G32 : sd_lp M N2 c (fun ls l1 F G => G 88 = F 88 ∧ sd_p1 (decide (M c 0 = 0)) ls (l1.drop (x2.toNat + 1)) G = sd_p1 (decide (M c 0 = 0)) ls l1 F) := fun ls l1 F hT hF hP hW => by
              obtain ⟨G, s, p, w, t, r1, r2⟩ := g2_2 ls l1 F hT hF hP hW
              have n9 := s.1
              have m9 := w.1
              have k9 := sd_n_i hW
              have l9 := sd_l1_16 t
              have C := sd_cel t ⟨g2_1, by omega⟩ ⟨by decide, by decide⟩ q25
              have C : v25 = (l1.getD x2.toNat []).getD 0 0 := C
              rw [sd_p1_s (by first | decide | omega), if_neg (by rw [← C, ← s.2.1, ← e29]; assumption)] at r2
              exact ⟨G, s, p, w, t, r1, r2⟩
            exact L41 _ _ hS (by first | omega | assumption) (by first | omega | assumption) (by first | omega | assumption) (by first | omega | assumption)
          · skip
            skip
            refine And.intro (hI) ?_
            intro M38 q38
            obtain ⟨q38, z38⟩ := q38
            have hS : pq_pr (pq_Pd c) M M38 := hS.tr z38
            have hI : pz_ic M38 := hS.1 hI0
            have G38 : sd_lp M M38 c (fun ls l1 F G => G 88 = F 88 ∧ sd_p1 (decide (M c 0 = 0)) ls (l1.drop (x2.toNat + 1)) G = sd_p1 (decide (M c 0 = 0)) ls l1 F) := fun ls l1 F hT hF hP hW => by
              obtain ⟨G, s, p, w, t, r1, r2⟩ := g2_2 ls l1 F hT hF hP hW
              have n9 := s.1
              have m9 := w.1
              have k9 := sd_n_i hW
              have l9 := sd_l1_16 t
              have C := sd_cel t ⟨g2_1, by omega⟩ ⟨by decide, by decide⟩ q25
              have C : v25 = (l1.getD x2.toNat []).getD 0 0 := C
              rw [sd_p1_s (by first | decide | omega), if_pos (by rw [← C, ← s.2.1, ← e29]; omega)] at r2
              have z := q38 ls l1 G t s p w ⟨g2_1, by omega⟩
              rw [t0] at z
              exact ⟨_, z.1, z.2.1, z.2.2, sd_tx_d t (by first | decide | omega) z38, (sd_doe_88 (by first | decide | omega)).trans r1, r2⟩
            exact L41 _ _ hS (by first | omega | assumption) (by first | omega | assumption) (by first | omega | assumption) (by first | omega | assumption)
    refine hgo (fun p => Nat.beq p 2 || Nat.beq p 41 || Nat.beq p 49 || Nat.beq p 92 || Nat.beq p 100 || Nat.beq p 125) 84 0 _ [] M ?_
    exact L2 _ _ _ (Nat.lt_succ_self _) hS (by first | omega | assumption | exact fun ls l1 F hT hF hP hW => ⟨F, hF, hP, hW, hT, rfl, rfl⟩) (by first | omega | assumption | exact fun ls l1 F hT hF hP hW => ⟨F, hF, hP, hW, hT, rfl, rfl⟩)
theorem v3_X1_oneDay {fr lo i : Nat} {own : String} (h1 : 6 + 1 ≤ fr) (h2 : 8 + (3 + 11) + 147 ≤ lo) (h3 : .methodLink own i yX1_oneDay ∈ lw_tbl) : pz_cV fr lo own i k3_X1_oneDay :=
  pz_cVk (maxL := 3) (fr' := 6) (lo' := 147) 1 1 h3_X1_oneDay rfl ⟨(pz_nhc_RX1 yX1_oneDay rfl).1, (pz_nhc_RX1 yX1_oneDay rfl).2, pz_ds30⟩ ⟨pz_wq574, pz_wq572, pz_wq573, pz_wq7⟩ (Or.inl ⟨TX1, 2, rfl⟩) (fun a M _ h => by
    have h : (match (generalizing := false) a with | [.inr (.inr (1, d)), .inr (.inr (0, c))] => pz_ic M | _ => False) := h
    split at h
    · exact ⟨_, _, rfl⟩
    · exact h.elim) h1 h2 h3
end
