section
noncomputable def k3_X12_undo : pz_C := (1, 1, fun a M => (match a with | [.inr (.inr (12, th))] => pz_im M | _ => False), fun a M r M' => (match a, r with | [.inr (.inr (12, th))], some (.inl v) => ((M 1 4 = 0 ∧ v = 0 ∧ M' = M) ∨ (M 1 4 ≠ 0 ∧ v = 1 ∧ M' 1 4 = M 1 4 - 1 ∧ M' 60 = sd_kF M (M 1 4 - 1).toNat)) ∧ pz_rl pz_QK M M' | _, _ => False))
noncomputable abbrev ct3_X12_undo : List (Bool × Nat × pz_C) := []
set_option maxRecDepth 100000 in
set_option maxHeartbeats 4000000 in
theorem h3_X12_undo : pz_H yX12_undo cX12_undo 2 (some .boolean) k3_X12_undo 0 0 := by
  refine pz_mk (own := RX12) (tb := t_X12_undo) (fl := pz_flf fl_RX12) (ci := pz_cif ci_RX12) (ct := pz_ctf ct3_X12_undo) (rz := true) (pz_pfc_RX12 yX12_undo rfl) rfl t_X12_undo_ok (pz_flk fl_RX12_ok) (pz_cik ci_RX12_ok) ?_ ?_ (Or.inr ⟨rfl, rfl⟩) ?_ ?_
  · exact fun i k' h => pz_ctk (l := ct3_X12_undo) (P := fun b i k => b = true → pz_cV 0 0 RX12 i k) (fun _ h => absurd h List.not_mem_nil) true i k' h rfl
  · exact fun i k' h => pz_ctk (l := ct3_X12_undo) (P := fun b i k => b = false → (pz_cS 0 0 RX12 i k ∨ (k = pz_kac ∧ 1 ≤ 0 ∧ 60 ≤ 0 ∧ Cond.methodLink RX12 i arraycopyName ∈ pz_tbl))) (fun _ h => absurd h List.not_mem_nil) false i k' h rfl
  · intro a M hlen hpre
    obtain ⟨th, rfl, hpre⟩ : ∃ th, a = [.inr (.inr (12, th))] ∧ (pz_im M) := by
      have hpre : (match (generalizing := false) a with | [.inr (.inr (12, th))] => pz_im M | _ => False) := hpre
      split at hpre
      · exact ⟨_, rfl, hpre⟩
      · exact hpre.elim
    exact Nat.le_of_ble_eq_true rfl
  · intro a M hlen hcan hM hpre Ok hgo
    obtain ⟨th, rfl, hpre⟩ : ∃ th, a = [.inr (.inr (12, th))] ∧ (pz_im M) := by
      have hpre : (match (generalizing := false) a with | [.inr (.inr (12, th))] => pz_im M | _ => False) := hpre
      split at hpre
      · exact ⟨_, rfl, hpre⟩
      · exact hpre.elim
    obtain ⟨k_th, hc_th⟩ := pz_tlm hcan
    have k_th : pz_kd th = 12 ∧ th < 231 := k_th
    have R_th := pz_kd12 k_th.1
    subst R_th
    clear k_th
    have hI : pz_im M := hpre
    have hI0 := hI
    have hS : pz_rl pz_QK M M := pz_rl.rf
    have L21 : ∀ (fu : Nat) (x1 : Int) (N21 : pz_M), (88 - x1).toNat < fu → (pz_rl pz_QK M N21) → (0 ≤ x1) → (x1 ≤ 88) → (0 ≤ N21 1 4) → (N21 1 4 ≤ 5) → (N21 1 4 = M 1 4 - 1) → (sd_ki M N21 (M 1 4 - 1).toNat x1) → Ok 21 [some (.inr (.inr (12, 1))), some (.inl x1)] [] N21 := by
      intro fu
      induction fu with
      | zero => exact fun _ _ hn => absurd hn (Nat.not_lt_zero _)
      | succ fu ih21 =>
        intro x1 N21 hn21 hS g21_1 g21_2 g21_3 g21_4 g21_5 g21_6
        have hI : pz_im N21 := hS.1 hI0
        have hS21 := hS
        refine hgo (fun p => Nat.beq p 21) 35 21 _ _ _ ?_
        refine And.intro (fun h24 => ?_) (fun h24 => ?_)
        · skip
          refine And.intro (by first | decide | omega) ?_
          refine And.intro rfl ?_
          first
            | exact ⟨Or.inl ⟨by omega, by omega, rfl⟩, hS⟩
            | exact ⟨Or.inr ⟨by omega, rfl, by assumption, sd_ki_e g21_6 (by first | decide | omega)⟩, hS⟩
        · skip
          refine pz_nrc (c := 60) rfl ?_
          refine pz_nrc (c := 62) rfl ?_
          intro v39 e39 a39 b39
          have I39 : 0 ≤ v39 ∧ v39 ≤ 6 := by
            rw [e39]
            exact hI.2.1.1
          clear a39 b39
          have N39 := hI.2.1.1
          intro v42 e42 a42 b42
          rw [pz_wi (by first | decide | omega) (by first | decide | omega)] at e42
          clear a42 b42
          intro v44 e44 a44 b44
          rw [pz_wi (by first | decide | omega) (by first | decide | omega)] at e44
          clear a44 b44
          have lo45 : (0 : Int) ≤ v44 := by omega
          have tn45 : (((v44).toNat : Nat) : Int) = v44 := Int.toNat_of_nonneg lo45
          refine And.intro (lo45) (And.intro (show _ < (528 : Int) from by omega) ?_)
          intro v45 e45 a45 b45
          have J45 : x1 = 3 → 0 ≤ v45 ∧ v45 ≤ 150 := fun q => by
            have z := hI.2.1.2.2.2.2.2.2.2.2 v39.toNat (by first | decide | omega)
            rw [show 88 * v39.toNat + 3 = v44.toNat by omega] at z
            rw [e45]
            exact z
          have lo46 : (0 : Int) ≤ x1 := by omega
          have tn46 : (((x1).toNat : Nat) : Int) = x1 := Int.toNat_of_nonneg lo46
          refine And.intro (lo46) (And.intro (show _ < (1725 : Int) from by omega) ?_)
          intro M46 e46
          have hS : pz_rl pz_QK M M46 := by
            rw [e46]
            exact pz_rl_u hS (by unfold pz_QK; first | decide | omega) (pz_iom_u (by first | decide | omega) (fun q => J45 (by first | decide | omega)))
          have hI : pz_im M46 := hS.1 hI0
          have T46_0 : M46 1 4 = N21 1 4 := by
            rw [e46]
            exact (pz_une (fun h => absurd h.1 (by decide)))
          have G46 : sd_ki M M46 (M 1 4 - 1).toNat (x1 + 1) := sd_ki_s (k := x1.toNat) g21_6 (by first | decide | omega) rfl (by
            rw [e45, hS21.2 62 _ (by unfold pz_QK; first | decide | omega), show v44.toNat = 88 * (M 1 4 - 1).toNat + x1.toNat by omega]) e46
          intro v47 e47 a47 b47
          rw [pz_wi (by first | decide | omega) (by first | decide | omega)] at e47
          have G47 : sd_ki M M46 (M 1 4 - 1).toNat v47 := by
            rw [e47]
            exact G46
          exact ih21 _ _ (by first | decide | omega) hS (by first | omega | assumption) (by first | omega | assumption) (by first | omega | assumption) (by first | omega | assumption) (by first | omega | assumption) (by first | omega | assumption)
    refine hgo (fun p => Nat.beq p 21) 35 0 _ [] M ?_
    intro v1 e1 a1 b1
    have I1 : 0 ≤ v1 ∧ v1 ≤ 6 := by
      rw [e1]
      exact hI.2.1.1
    clear a1 b1
    have N1 := hI.2.1.1
    refine And.intro (fun h4 => ?_) (fun h4 => ?_)
    · skip
      replace h4 : 1 ≤ v1 := by omega
      intro v11 e11 a11 b11
      have I11 : 0 ≤ v11 ∧ v11 ≤ 6 := by
        rw [e11]
        exact hI.2.1.1
      clear a11 b11
      have N11 := hI.2.1.1
      intro v15 e15 a15 b15
      rw [pz_wi (by first | decide | omega) (by first | decide | omega)] at e15
      clear a15 b15
      intro M16 e16
      have hS : pz_rl pz_QK M M16 := by
        rw [e16]
        exact pz_rl_u hS (by unfold pz_QK; decide) (pz_iom_4 (by first | decide | omega))
      have hI : pz_im M16 := hS.1 hI0
      have T16_0 : M16 1 4 = v15 := by rw [e16]; exact pz_uu
      have G16 : sd_ki M M16 (M 1 4 - 1).toNat 0 := fun j => by
        rw [if_neg (by first | decide | omega), e16, pz_una (by decide)]
      exact L21 _ _ _ (Nat.lt_succ_self _) hS (by first | omega | assumption) (by first | omega | assumption) (by first | omega | assumption) (by first | omega | assumption) (by first | omega | assumption) (by first | omega | assumption)
    · skip
      refine And.intro (by first | decide | omega) ?_
      refine And.intro rfl ?_
      first
        | exact ⟨Or.inl ⟨by omega, by omega, rfl⟩, hS⟩
        | exact ⟨Or.inr ⟨by omega, rfl, by assumption, sd_ki_e g21_6 (by first | decide | omega)⟩, hS⟩
theorem v3_X12_undo {fr lo i : Nat} {own : String} (h1 : 0 + 1 ≤ fr) (h2 : 8 + (2 + 11) + 0 ≤ lo) (h3 : .methodLink own i yX12_undo ∈ lw_tbl) : pz_cV fr lo own i k3_X12_undo :=
  pz_cVk (maxL := 2) (fr' := 0) (lo' := 0) 0 12 h3_X12_undo rfl ⟨(pz_nhc_RX12 yX12_undo rfl).1, (pz_nhc_RX12 yX12_undo rfl).2, pz_ds3⟩ ⟨pz_wq1406, pz_wq1404, pz_wq1405, pz_wq13⟩ (Or.inl ⟨TX12, 28, rfl⟩) (fun a M _ h => by
    have h : (match (generalizing := false) a with | [.inr (.inr (12, th))] => pz_im M | _ => False) := h
    split at h
    · exact ⟨_, _, rfl⟩
    · exact h.elim) h1 h2 h3
noncomputable def k3_X12_keeps : pz_C := (1, 0, fun a M => (match a with | [.inr (.inr (12, th))] => pz_im M | _ => False), fun a M r M' => (match a, r with | [.inr (.inr (12, th))], none => (M' 1 26 = 1 ∧ M' 1 4 = sd_kb M + 1 ∧ sd_kW M M' 88) ∧ pz_rl pz_QE M M' | _, _ => False))
noncomputable abbrev ct3_X12_keeps : List (Bool × Nat × pz_C) := []
set_option maxRecDepth 100000 in
set_option maxHeartbeats 4000000 in
theorem h3_X12_keeps : pz_H yX12_keeps cX12_keeps 2 none k3_X12_keeps 0 0 := by
  refine pz_mk (own := RX12) (tb := t_X12_keeps) (fl := pz_flf fl_RX12) (ci := pz_cif ci_RX12) (ct := pz_ctf ct3_X12_keeps) (rz := false) (pz_pfc_RX12 yX12_keeps rfl) rfl t_X12_keeps_ok (pz_flk fl_RX12_ok) (pz_cik ci_RX12_ok) ?_ ?_ (rfl) ?_ ?_
  · exact fun i k' h => pz_ctk (l := ct3_X12_keeps) (P := fun b i k => b = true → pz_cV 0 0 RX12 i k) (fun _ h => absurd h List.not_mem_nil) true i k' h rfl
  · exact fun i k' h => pz_ctk (l := ct3_X12_keeps) (P := fun b i k => b = false → (pz_cS 0 0 RX12 i k ∨ (k = pz_kac ∧ 1 ≤ 0 ∧ 60 ≤ 0 ∧ Cond.methodLink RX12 i arraycopyName ∈ pz_tbl))) (fun _ h => absurd h List.not_mem_nil) false i k' h rfl
  · intro a M hlen hpre
    obtain ⟨th, rfl, hpre⟩ : ∃ th, a = [.inr (.inr (12, th))] ∧ (pz_im M) := by
      have hpre : (match (generalizing := false) a with | [.inr (.inr (12, th))] => pz_im M | _ => False) := hpre
      split at hpre
      · exact ⟨_, rfl, hpre⟩
      · exact hpre.elim
    exact Nat.le_of_ble_eq_true rfl
  · intro a M hlen hcan hM hpre Ok hgo
    obtain ⟨th, rfl, hpre⟩ : ∃ th, a = [.inr (.inr (12, th))] ∧ (pz_im M) := by
      have hpre : (match (generalizing := false) a with | [.inr (.inr (12, th))] => pz_im M | _ => False) := hpre
      split at hpre
      · exact ⟨_, rfl, hpre⟩
      · exact hpre.elim
    obtain ⟨k_th, hc_th⟩ := pz_tlm hcan
    have k_th : pz_kd th = 12 ∧ th < 231 := k_th
    have R_th := pz_kd12 k_th.1
    subst R_th
    clear k_th
    have hI : pz_im M := hpre
    have hI0 := hI
    have hS : pz_rl pz_QE M M := pz_rl.rf
    have b0 : 0 ≤ sd_kb M ∧ sd_kb M ≤ 5 ∧ (M 1 4 = 6 → sd_kb M = 5) ∧ (¬ M 1 4 = 6 → sd_kb M = M 1 4) := by
      have i4 := hI.2.1.1
      unfold sd_kb
      split <;> omega
    have L51 : ∀ (fu : Nat) (x1 : Int) (N51 : pz_M), (88 - x1).toNat < fu → (pz_rl pz_QE M N51) → (0 ≤ x1) → (x1 ≤ 88) → (N51 1 4 ≤ 5) → (N51 1 4 = sd_kb M) → (sd_kW M N51 x1) → Ok 51 [some (.inr (.inr (12, 1))), some (.inl x1)] [] N51 := by
      intro fu
      induction fu with
      | zero => exact fun _ _ hn => absurd hn (Nat.not_lt_zero _)
      | succ fu ih51 =>
        intro x1 N51 hn51 hS g51_1 g51_2 g51_3 g51_4 g51_5
        have hI : pz_im N51 := hS.1 hI0
        have hS51 := hS
        refine hgo (fun p => Nat.beq p 11 || Nat.beq p 51) 59 51 _ _ _ ?_
        refine And.intro (fun h54 => ?_) (fun h54 => ?_)
        · skip
          intro v85 e85 a85 b85
          have I85 : 0 ≤ v85 ∧ v85 ≤ 6 := by
            rw [e85]
            exact hI.2.1.1
          clear a85 b85
          have N85 := hI.2.1.1
          intro v89 e89 a89 b89
          rw [pz_wi (by first | decide | omega) (by first | decide | omega)] at e89
          clear a89 b89
          intro M90 e90
          have hS : pz_rl pz_QE M M90 := by
            rw [e90]
            exact pz_rl_u hS (by unfold pz_QE; decide) (pz_iom_4 (by first | decide | omega))
          have hI : pz_im M90 := hS.1 hI0
          have T90_0 : M90 1 4 = v89 := by rw [e90]; exact pz_uu
          refine And.intro (by first | decide | omega) ?_
          intro M95 e95
          have hS : pz_rl pz_QE M M95 := by
            rw [e95]
            exact pz_rl_u hS (by unfold pz_QE; decide) (pz_iom_f (by decide))
          have hI : pz_im M95 := hS.1 hI0
          have T95_0 : M95 1 4 = v89 := by
            rw [e95]
            exact (pz_une (by decide)).trans T90_0
          clear T90_0
          have G95 : sd_kW M M95 88 := by
            have z : sd_kW M N51 x1 := by assumption
            rw [show x1 = 88 by omega] at z
            exact fun k => by
              rw [e95, pz_una (by decide), e90, pz_una (by decide)]
              exact z k
          have H95 : M95 1 26 = 1 := by
            rw [e95]
            exact pz_uu
          refine And.intro rfl ?_
          exact ⟨⟨H95, by omega, G95⟩, hS⟩
        · skip
          refine pz_nrc (c := 62) rfl ?_
          intro v64 e64 a64 b64
          have I64 : 0 ≤ v64 ∧ v64 ≤ 6 := by
            rw [e64]
            exact hI.2.1.1
          clear a64 b64
          have N64 := hI.2.1.1
          intro v67 e67 a67 b67
          rw [pz_wi (by first | decide | omega) (by first | decide | omega)] at e67
          clear a67 b67
          intro v69 e69 a69 b69
          rw [pz_wi (by first | decide | omega) (by first | decide | omega)] at e69
          clear a69 b69
          refine pz_nrc (c := 60) rfl ?_
          have lo75 : (0 : Int) ≤ x1 := by omega
          have tn75 : (((x1).toNat : Nat) : Int) = x1 := Int.toNat_of_nonneg lo75
          refine And.intro (lo75) (And.intro (show _ < (1725 : Int) from by omega) ?_)
          intro v75 e75 a75 b75
          have J75 : x1 = 3 → 0 ≤ v75 ∧ v75 ≤ 150 := fun q => by
            rw [e75, q]
            exact hI.1.2.2.2.2
          rw [hS51.2 60 _ (by unfold pz_QE; first | decide | omega)] at e75
          have lo76 : (0 : Int) ≤ v69 := by omega
          have tn76 : (((v69).toNat : Nat) : Int) = v69 := Int.toNat_of_nonneg lo76
          refine And.intro (lo76) (And.intro (show _ < (528 : Int) from by omega) ?_)
          intro M76 e76
          have hS : pz_rl pz_QE M M76 := by
            rw [e76]
            exact pz_rl_u hS (by unfold pz_QE; first | decide | omega) (pz_iom_62 (fun q => J75 (by first | decide | omega)))
          have hI : pz_im M76 := hS.1 hI0
          have T76_0 : M76 1 4 = N51 1 4 := by
            rw [e76]
            exact (pz_une (fun h => absurd h.1 (by decide)))
          have G76 : sd_kW M M76 (x1 + 1) := sd_kW_s (k := (88 * sd_kb M + x1).toNat) (by assumption) b0.1 (by first | decide | omega) rfl e75 (by rw [e76, show v69.toNat = (88 * sd_kb M + x1).toNat by omega])
          intro v77 e77 a77 b77
          rw [pz_wi (by first | decide | omega) (by first | decide | omega)] at e77
          have G77 : sd_kW M M76 v77 := by
            rw [e77]
            exact G76
          exact ih51 _ _ (by first | decide | omega) hS (by first | omega | assumption | exact sd_kW_1 (by first | decide | omega)) (by first | omega | assumption | exact sd_kW_1 (by first | decide | omega)) (by first | omega | assumption | exact sd_kW_1 (by first | decide | omega)) (by first | omega | assumption | exact sd_kW_1 (by first | decide | omega)) (by first | omega | assumption | exact sd_kW_1 (by first | decide | omega))
    have L11 : ∀ (fu : Nat) (x1 : Int) (N11 : pz_M), (440 - x1).toNat < fu → (pz_rl pz_QE M N11) → (0 ≤ x1) → (x1 ≤ 440) → (M 1 4 = 6) → (N11 1 4 = 6) → (sd_kS M N11 x1) → Ok 11 [some (.inr (.inr (12, 1))), some (.inl x1)] [] N11 := by
      intro fu
      induction fu with
      | zero => exact fun _ _ hn => absurd hn (Nat.not_lt_zero _)
      | succ fu ih11 =>
        intro x1 N11 hn11 hS g11_1 g11_2 g11_3 g11_4 g11_5
        have hI : pz_im N11 := hS.1 hI0
        have hS11 := hS
        refine hgo (fun p => Nat.beq p 11 || Nat.beq p 51) 59 11 _ _ _ ?_
        refine And.intro (fun h15 => ?_) (fun h15 => ?_)
        · skip
          intro v41 e41 a41 b41
          have I41 : 0 ≤ v41 ∧ v41 ≤ 6 := by
            rw [e41]
            exact hI.2.1.1
          clear a41 b41
          have N41 := hI.2.1.1
          intro v45 e45 a45 b45
          rw [pz_wi (by first | decide | omega) (by first | decide | omega)] at e45
          clear a45 b45
          intro M46 e46
          have hS : pz_rl pz_QE M M46 := by
            rw [e46]
            exact pz_rl_u hS (by unfold pz_QE; decide) (pz_iom_4 (by first | decide | omega))
          have hI : pz_im M46 := hS.1 hI0
          have T46_0 : M46 1 4 = v45 := by rw [e46]; exact pz_uu
          have G46 : sd_kW M M46 0 := by
            have z := sd_kW_0 (M := M) (N := N11) (by assumption) (by first | decide | omega) (by first | decide | omega)
            exact fun k => by
              rw [e46, pz_una (by decide)]
              exact z k
          exact L51 _ _ _ (Nat.lt_succ_self _) hS (by first | omega | assumption | exact sd_kW_1 (by first | decide | omega)) (by first | omega | assumption | exact sd_kW_1 (by first | decide | omega)) (by first | omega | assumption | exact sd_kW_1 (by first | decide | omega)) (by first | omega | assumption | exact sd_kW_1 (by first | decide | omega)) (by first | omega | assumption | exact sd_kW_1 (by first | decide | omega))
        · skip
          refine pz_nrc (c := 62) rfl ?_
          refine pz_nrc (c := 62) rfl ?_
          intro v30 e30 a30 b30
          rw [pz_wi (by first | decide | omega) (by first | decide | omega)] at e30
          clear a30 b30
          have lo31 : (0 : Int) ≤ v30 := by omega
          have tn31 : (((v30).toNat : Nat) : Int) = v30 := Int.toNat_of_nonneg lo31
          refine And.intro (lo31) (And.intro (show _ < (528 : Int) from by omega) ?_)
          intro v31 e31 a31 b31
          have J31 : v30 % 88 = 3 → 0 ≤ v31 ∧ v31 ≤ 150 := fun q => by
            have z := hI.2.1.2.2.2.2.2.2.2.2 (v30 / 88).toNat (by first | decide | omega)
            rw [show 88 * (v30 / 88).toNat + 3 = v30.toNat by omega] at z
            rw [e31]
            exact z
          have lo32 : (0 : Int) ≤ x1 := by omega
          have tn32 : (((x1).toNat : Nat) : Int) = x1 := Int.toNat_of_nonneg lo32
          refine And.intro (lo32) (And.intro (show _ < (528 : Int) from by omega) ?_)
          intro M32 e32
          have hS : pz_rl pz_QE M M32 := by
            rw [e32]
            exact pz_rl_u hS (by unfold pz_QE; first | decide | omega) (pz_iom_62 (fun q => J31 (by first | decide | omega)))
          have hI : pz_im M32 := hS.1 hI0
          have T32_0 : M32 1 4 = N11 1 4 := by
            rw [e32]
            exact (pz_une (fun h => absurd h.1 (by decide)))
          have G32 : sd_kS M M32 (x1 + 1) := sd_kS_s (k := x1.toNat) (by assumption) (by first | decide | omega) rfl (by rw [e31, show v30.toNat = x1.toNat + 88 by omega]) e32
          intro v33 e33 a33 b33
          rw [pz_wi (by first | decide | omega) (by first | decide | omega)] at e33
          have G33 : sd_kS M M32 v33 := by
            rw [e33]
            exact G32
          exact ih11 _ _ (by first | decide | omega) hS (by first | omega | assumption | exact sd_kS_0) (by first | omega | assumption | exact sd_kS_0) (by first | omega | assumption | exact sd_kS_0) (by first | omega | assumption | exact sd_kS_0) (by first | omega | assumption | exact sd_kS_0)
    refine hgo (fun p => Nat.beq p 11 || Nat.beq p 51) 59 0 _ [] M ?_
    intro v1 e1 a1 b1
    have I1 : 0 ≤ v1 ∧ v1 ≤ 6 := by
      rw [e1]
      exact hI.2.1.1
    clear a1 b1
    have N1 := hI.2.1.1
    refine And.intro (fun h6 => ?_) (fun h6 => ?_)
    · skip
      replace h6 : v1 ≤ 5 := by omega
      exact L51 _ _ _ (Nat.lt_succ_self _) hS (by first | omega | assumption | exact sd_kW_1 (by first | decide | omega)) (by first | omega | assumption | exact sd_kW_1 (by first | decide | omega)) (by first | omega | assumption | exact sd_kW_1 (by first | decide | omega)) (by first | omega | assumption | exact sd_kW_1 (by first | decide | omega)) (by first | omega | assumption | exact sd_kW_1 (by first | decide | omega))
    · skip
      exact L11 _ _ _ (Nat.lt_succ_self _) hS (by first | omega | assumption | exact sd_kS_0) (by first | omega | assumption | exact sd_kS_0) (by first | omega | assumption | exact sd_kS_0) (by first | omega | assumption | exact sd_kS_0) (by first | omega | assumption | exact sd_kS_0)
theorem v3_X12_keeps {fr lo i : Nat} {own : String} (h1 : 0 + 1 ≤ fr) (h2 : 8 + (2 + 11) + 0 ≤ lo) (h3 : .methodLink own i yX12_keeps ∈ lw_tbl) : pz_cV fr lo own i k3_X12_keeps :=
  pz_cVk (maxL := 2) (fr' := 0) (lo' := 0) 0 12 h3_X12_keeps rfl ⟨(pz_nhc_RX12 yX12_keeps rfl).1, (pz_nhc_RX12 yX12_keeps rfl).2, pz_ds2⟩ ⟨pz_wq1430, pz_wq1429, pz_ws41, pz_wq13⟩ (Or.inl ⟨TX12, 28, rfl⟩) (fun a M _ h => by
    have h : (match (generalizing := false) a with | [.inr (.inr (12, th))] => pz_im M | _ => False) := h
    split at h
    · exact ⟨_, _, rfl⟩
    · exact h.elim) h1 h2 h3
end
