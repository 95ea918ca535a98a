section
noncomputable def k3_X12_undo : pz_C := (1, 1, fun a M => (match a with | [.inr (.inr (12, th))] => pz_im M | _ => False), fun a M r M' => (match a, r with | [.inr (.inr (12, th))], some (.inl v) => ((M 1 4 = 0 ∧ v = 0 ∧ M' = M) ∨ (M 1 4 ≠ 0 ∧ v = 1 ∧ M' 1 4 = M 1 4 - 1 ∧ M' 60 = sd_kF M (M 1 4 - 1).toNat)) ∧ pz_rl pz_QK M M' | _, _ => False))
noncomputable abbrev ct3_X12_undo : List (Bool × Nat × pz_C) := []
set_option maxRecDepth 100000 in
set_option maxHeartbeats 4000000 in
theorem h3_X12_undo : pz_H yX12_undo cX12_undo 2 (some .boolean) k3_X12_undo 0 0 := by
  refine pz_mk (own := RX12) (tb := t_X12_undo) (fl := pz_flf fl_RX12) (ci := pz_cif ci_RX12) (ct := pz_ctf ct3_X12_undo) (rz := true) (pz_pfc_RX12 yX12_undo rfl) rfl t_X12_undo_ok (pz_flk fl_RX12_ok) (pz_cik ci_RX12_ok) ?_ ?_ (Or.inr ⟨rfl, rfl⟩) ?_ ?_
  · exact fun i k' h => pz_ctk (l := ct3_X12_undo) (P := fun b i k => b = true → pz_cV 0 0 RX12 i k) (fun _ h => absurd h List.not_mem_nil) true i k' h rfl
  · exact fun i k' h => pz_ctk (l := ct3_X12_undo) (P := fun b i k => b = false → (pz_cS 0 0 RX12 i k ∨ (k = pz_kac ∧ 1 ≤ 0 ∧ 60 ≤ 0 ∧ Cond.methodLink RX12 i arraycopyName ∈ pz_tbl))) (fun _ h => absurd h List.not_mem_nil) false i k' h rfl
  · intro a M hlen hpre
    obtain ⟨th, rfl, hpre⟩ : ∃ th, a = [.inr (.inr (12, th))] ∧ (pz_im M) := by
      have hpre : (match (generalizing := false) a with | [.inr (.inr (12, th))] => pz_im M | _ => False) := hpre
      split at hpre
      · exact ⟨_, rfl, hpre⟩
      · exact hpre.elim
    exact Nat.le_of_ble_eq_true rfl
  · intro a M hlen hcan hM hpre Ok hgo
    obtain ⟨th, rfl, hpre⟩ : ∃ th, a = [.inr (.inr (12, th))] ∧ (pz_im M) := by
      have hpre : (match (generalizing := false) a with | [.inr (.inr (12, th))] => pz_im M | _ => False) := hpre
      split at hpre
      · exact ⟨_, rfl, hpre⟩
      · exact hpre.elim
    obtain ⟨k_th, hc_th⟩ := pz_tlm hcan
    have k_th : pz_kd th = 12 ∧ th < 231 := k_th
    have R_th := pz_kd12 k_th.1
    subst R_th
    clear k_th
    have hI : pz_im M := hpre
    have hI0 := hI
    have hS : pz_rl pz_QK M M := pz_rl.rf
    have L21 : ∀ (fu : Nat) (x1 : Int) (N21 : pz_M), (88 - x1).toNat < fu → (pz_rl pz_QK M N21) → (0 ≤ x1) → (x1 ≤ 88) → (0 ≤ N21 1 4) → (N21 1 4 ≤ 5) → (N21 1 4 = M 1 4 - 1) → (sd_ki M N21 (M 1 4 - 1).toNat x1) → Ok 21 [some (.inr (.inr (12, 1))), some (.inl x1)] [] N21 := by
      intro fu
      induction fu with
      | zero => exact fun _ _ hn => absurd hn (Nat.not_lt_zero _)
      | succ fu ih21 =>
        intro x1 N21 hn21 hS g21_1 g21_2 g21_3 g21_4 g21_5 g21_6
        have hI : pz_im N21 := hS.1 hI0
        have hS21 := hS
        refine hgo (fun p => Nat.beq p 21) 35 21 _ _ _ ?_
        refine And.intro (fun h24 => ?_) (fun h24 => ?_)
        · skip
          refine And.intro (by first | decide | omega) ?_
          refine And.intro rfl ?_
          first
            | exact ⟨Or.inl ⟨by omega, by omega, rfl⟩, hS⟩
            | exact ⟨Or.inr ⟨by omega, rfl, by assumption, sd_ki_e g21_6 (by first | decide | omega)⟩, hS⟩
        · skip
          refine pz_nrc (c := 60) rfl ?_
          refine pz_nrc (c := 62) rfl ?_
          intro v39 e39 a39 b39
          have I39 : 0 ≤ v39 ∧ v39 ≤ 6 := by
            rw [e39]
            exact hI.2.1.1
          clear a39 b39
          have N39 := hI.2.1.1
          intro v42 e42 a42 b42
          rw [pz_wi (by first | decide | omega) (by first | decide | omega)] at e42
          clear a42 b42
          intro v44 e44 a44 b44
          rw [pz_wi (by first | decide | omega) (by first | decide | omega)] at e44
          clear a44 b44
          have lo45 : (0 : Int) ≤ v44 := by omega
          have tn45 : (((v44).toNat : Nat) : Int) = v44 := Int.toNat_of_nonneg lo45
          refine And.intro (lo45) (And.intro (show _ < (528 : Int) from by omega) ?_)
          intro v45 e45 a45 b45
          have J45 : x1 = 3 → 0 ≤ v45 ∧ v45 ≤ 150 := fun q => by
            have z := hI.2.1.2.2.2.2.2.2.2.2 v39.toNat (by first | decide | omega)
            rw [show 88 * v39.toNat + 3 = v44.toNat by omega] at z
            rw [e45]
            exact z
          have lo46 : (0 : Int) ≤ x1 := by omega
          have tn46 : (((x1).toNat : Nat) : Int) = x1 := Int.toNat_of_nonneg lo46
          refine And.intro (lo46) (And.intro (show _ < (1725 : Int) from by omega) ?_)
          intro M46 e46
          have hS : pz_rl pz_QK M M46 := by
            rw [e46]
            exact pz_rl_u hS (by unfold pz_QK; first | decide | omega) (pz_iom_u (by first | decide | omega) (fun q => J45 (by first | decide | omega)))
          have hI : pz_im M46 := hS.1 hI0
          have T46_0 : M46 1 4 = N21 1 4 := by
            rw [e46]
            exact (pz_une (fun h => absurd h.1 (by decide)))
          have G46 : sd_ki M M46 (M 1 4 - 1).toNat (x1 + 1) := sd_ki_s (k := x1.toNat) g21_6 (by first | decide | omega) rfl (by
            rw [e45, hS21.2 62 _ (by unfold pz_QK; first | decide | omega), show v44.toNat = 88 * (M 1 4 - 1).toNat + x1.toNat by omega]) e46
          intro v47 e47 a47 b47
          rw [pz_wi (by first | decide | omega) (by first | decide | omega)] at e47
          have G47 : sd_ki M M46 (M 1 4 - 1).toNat v47 := by
            rw [e47]
            exact G46
          exact ih21 _ _ (by first | decide | omega) hS (by first | omega | assumption) (by first | omega | assumption) (by first | omega | assumption) (by first | omega | assumption) (by first | omega | assumption) (by first | omega | assumption)
    refine hgo (fun p => Nat.beq p 21) 35 0 _ [] M ?_
    intro v1 e1 a1 b1
    have I1 : 0 ≤ v1 ∧ v1 ≤ 6 := by
      rw [e1]
      exact hI.2.1.1
    clear a1 b1
    have N1 := hI.2.1.1
    refine And.intro (fun h4 => ?_) (fun h4 => ?_)
    · skip
      replace h4 : 1 ≤ v1 := by omega
      intro v11 e11 a11 b11
      have I11 : 0 ≤ v11 ∧ v11 ≤ 6 := by
        rw [e11]
        exact hI.2.1.1
      clear a11 b11
      have N11 := hI.2.1.1
      intro v15 e15 a15 b15
      rw [pz_wi (by first | decide | omega) (by first | decide | omega)] at e15
      clear a15 b15
      intro M16 e16
      have hS : pz_rl pz_QK M M16 := by
        rw [e16]
        exact pz_rl_u hS (by unfold pz_QK; decide) (pz_iom_4 (by first | decide | omega))
      have hI : pz_im M16 := hS.1 hI0
      have T16_0 : M16 1 4 = v15 := by rw [e16]; exact pz_uu
      have G16 : sd_ki M M16 (M 1 4 - 1).toNat 0 := fun j => by
        rw [if_neg (by first | decide | omega), e16, pz_una (by decide)]
      exact L21 _ _ _ (Nat.lt_succ_self _) hS (by first | omega | assumption) (by first | omega | assumption) (by first | omega | assumption) (by first | omega | assumption) (by first | omega | assumption) (by first | omega | assumption)
    · skip
      refine And.intro (by first | decide | omega) ?_
      refine And.intro rfl ?_
      first
        | exact ⟨Or.inl ⟨by omega, by omega, rfl⟩, hS⟩
        | exact ⟨Or.inr ⟨by omega, rfl, by assumption, sd_ki_e g21_6 (by first | decide | omega)⟩, hS⟩
theorem v3_X12_undo {fr lo i : Nat} {own : String} (h1 : 0 + 1 ≤ fr) (h2 : 8 + (2 + 11) + 0 ≤ lo) (h3 : .methodLink own i yX12_undo ∈ lw_tbl) : pz_cV fr lo own i k3_X12_undo :=
  pz_cVk (maxL := 2) (fr' := 0) (lo' := 0) 0 12 h3_X12_undo rfl ⟨(pz_nhc_RX12 yX12_undo rfl).1, (pz_nhc_RX12 yX12_undo rfl).2, pz_ds3⟩ ⟨pz_wq1406, pz_wq1404, pz_wq1405, pz_wq13⟩ (Or.inl ⟨TX12, 28, rfl⟩) (fun a M _ h => by
    have h : (match (generalizing := false) a with | [.inr (.inr (12, th))] => pz_im M | _ => False) := h
    split at h
    · exact ⟨_, _, rfl⟩
    · exact h.elim) h1 h2 h3
noncomputable def k3_X12_keeps : pz_C := (1, 0, fun a M => (match a with | [.inr (.inr (12, th))] => pz_im M | _ => False), fun a M r M' => (match a, r with | [.inr (.inr (12, th))], none => (M' 1 26 = 1 ∧ M' 1 4 = sd_kb M + 1 ∧ sd_kW M M' 88) ∧ pz_rl pz_QE M M' | _, _ => False))
noncomputable abbrev ct3_X12_keeps : List (Bool × Nat × pz_C) := []
set_option maxRecDepth 100000 in
set_option maxHeartbeats 4000000 in
theorem h3_X12_keeps : pz_H yX12_keeps cX12_keeps 2 none k3_X12_keeps 0 0 := by
  refine pz_mk (own := RX12) (tb := t_X12_keeps) (fl := pz_flf fl_RX12) (ci := pz_cif ci_RX12) (ct := pz_ctf ct3_X12_keeps) (rz := false) (pz_pfc_RX12 yX12_keeps rfl) rfl t_X12_keeps_ok (pz_flk fl_RX12_ok) (pz_cik ci_RX12_ok) ?_ ?_ (rfl) ?_ ?_
  · exact fun i k' h => pz_ctk (l := ct3_X12_keeps) (P := fun b i k => b = true → pz_cV 0 0 RX12 i k) (fun _ h => absurd h List.not_mem_nil) true i k' h rfl
  · exact fun i k' h => pz_ctk (l := ct3_X12_keeps) (P := fun b i k => b = false → (pz_cS 0 0 RX12 i k ∨ (k = pz_kac ∧ 1 ≤ 0 ∧ 60 ≤ 0 ∧ Cond.methodLink RX12 i arraycopyName ∈ pz_tbl))) (fun _ h => absurd h List.not_mem_nil) false i k' h rfl
  · intro a M hlen hpre
    obtain ⟨th, rfl, hpre⟩ : ∃ th, a = [.inr (.inr (12, th))] ∧ (pz_im M) := by
      have hpre : (match (generalizing := false) a with | [.inr (.inr (12, th))] => pz_im M | _ => False) := hpre
      split at hpre
      · exact ⟨_, rfl, hpre⟩
      · exact hpre.elim
    exact Nat.le_of_ble_eq_true rfl
  · intro a M hlen hcan hM hpre Ok hgo
    obtain ⟨th, rfl, hpre⟩ : ∃ th, a = [.inr (.inr (12, th))] ∧ (pz_im M) := by
      have hpre : (match (generalizing := false) a with | [.inr (.inr (12, th))] => pz_im M | _ => False) := hpre
      split at hpre
      · exact ⟨_, rfl, hpre⟩
      · exact hpre.elim
    obtain ⟨k_th, hc_th⟩ := pz_tlm hcan
    have k_th : pz_kd th = 12 ∧ th < 231 := k_th
    have R_th := pz_kd12 k_th.1
    subst R_th
    clear k_th
    have hI : pz_im M := hpre
    have hI0 := hI
    have hS : pz_rl pz_QE M M := pz_rl.rf
    have b0 : 0 ≤ sd_kb M ∧ sd_kb M ≤ 5 ∧ (M 1 4 = 6 → sd_kb M = 5) ∧ (¬ M 1 4 = 6 → sd_kb M = M 1 4) := by
      have i4 := hI.2.1.1
      unfold sd_kb
      split <;> omega
    have L51 : ∀ (fu : Nat) (x1 : Int) (N51 : pz_M), (88 - x1).toNat < fu → (pz_rl pz_QE M N51) → (0 ≤ x1) → (x1 ≤ 88) → (N51 1 4 ≤ 5) → (N51 1 4 = sd_kb M) → (sd_kW M N51 x1) → Ok 51 [some (.inr (.inr (12, 1))), some (.inl x1)] [] N51 := by
      intro fu
      induction fu with
      | zero => exact fun _ _ hn => absurd hn (Nat.not_lt_zero _)
      | succ fu ih51 =>
        intro x1 N51 hn51 hS g51_1 g51_2 g51_3 g51_4 g51_5
        have hI : pz_im N51 := hS.1 hI0
        have hS51 := hS
        refine hgo (fun p => Nat.beq p 11 || Nat.beq p 51) 59 51 _ _ _ ?_
        refine And.intro (fun h54 => ?_) (fun h54 => ?_)
        · skip
          intro v85 e85 a85 b85
          have I85 : 0 ≤ v85 ∧ v85 ≤ 6 := by
            rw [e85]
            exact hI.2.1.1
          clear a85 b85
          have N85 := hI.2.1.1
          intro v89 e89 a89 b89
          rw [pz_wi (by first | decide | omega) (by first | decide | omega)] at e89
          clear a89 b89
          intro M90 e90
          have hS : pz_rl pz_QE M M90 := by
            rw [e90]
            exact pz_rl_u hS (by unfold pz_QE; decide) (pz_iom_4 (by first | decide | omega))
          have hI : pz_im M90 := hS.1 hI0
          have T90_0 : M90 1 4 = v89 := by rw [e90]; exact pz_uu
          refine And.intro (by first | decide | omega) ?_
          intro M95 e95
          have hS : pz_rl pz_QE M M95 := by
            rw [e95]
            exact pz_rl_u hS (by unfold pz_QE; decide) (pz_iom_f (by decide))
          have hI : pz_im M95 := hS.1 hI0
          have T95_0 : M95 1 4 = v89 := by
            rw [e95]
            exact (pz_une (by decide)).trans T90_0
          clear T90_0
          have G95 : sd_kW M M95 88 := by
            have z : sd_kW M N51 x1 := by assumption
            rw [show x1 = 88 by omega] at z
            exact fun k => by
              rw [e95, pz_una (by decide), e90, pz_una (by decide)]
              exact z k
          have H95 : M95 1 26 = 1 := by
            rw [e95]
            exact pz_uu
          refine And.intro rfl ?_
          exact ⟨⟨H95, by omega, G95⟩, hS⟩
        · skip
          refine pz_nrc (c := 62) rfl ?_
          intro v64 e64 a64 b64
          have I64 : 0 ≤ v64 ∧ v64 ≤ 6 := by
            rw [e64]
            exact hI.2.1.1
          clear a64 b64
          have N64 := hI.2.1.1
          intro v67 e67 a67 b67
          rw [pz_wi (by first | decide | omega) (by first | decide | omega)] at e67
          clear a67 b67
          intro v69 e69 a69 b69
          rw [pz_wi (by first | decide | omega) (by first | decide | omega)] at e69
          clear a69 b69
          refine pz_nrc (c := 60) rfl ?_
          have lo75 : (0 : Int) ≤ x1 := by omega
          have tn75 : (((x1).toNat : Nat) : Int) = x1 := Int.toNat_of_nonneg lo75
          refine And.intro (lo75) (And.intro (show _ < (1725 : Int) from by omega) ?_)
          intro v75 e75 a75 b75
          have J75 : x1 = 3 → 0 ≤ v75 ∧ v75 ≤ 150 := fun q => by
            rw [e75, q]
            exact hI.1.2.2.2.2
          rw [hS51.2 60 _ (by unfold pz_QE; first | decide | omega)] at e75
          have lo76 : (0 : Int) ≤ v69 := by omega
          have tn76 : (((v69).toNat : Nat) : Int) = v69 := Int.toNat_of_nonneg lo76
          refine And.intro (lo76) (And.intro (show _ < (528 : Int) from by omega) ?_)
          intro M76 e76
          have hS : pz_rl pz_QE M M76 := by
            rw [e76]
            exact pz_rl_u hS (by unfold pz_QE; first | decide | omega) (pz_iom_62 (fun q => J75 (by first | decide | omega)))
          have hI : pz_im M76 := hS.1 hI0
          have T76_0 : M76 1 4 = N51 1 4 := by
            rw [e76]
            exact (pz_une (fun h => absurd h.1 (by decide)))
          have G76 : sd_kW M M76 (x1 + 1) := sd_kW_s (k := (88 * sd_kb M + x1).toNat) (by assumption) b0.1 (by first | decide | omega) rfl e75 (by rw [e76, show v69.toNat = (88 * sd_kb M + x1).toNat by omega])
          intro v77 e77 a77 b77
          rw [pz_wi (by first | decide | omega) (by first | decide | omega)] at e77
          have G77 : sd_kW M M76 v77 := by
            rw [e77]
            exact G76
          exact ih51 _ _ (by first | decide | omega) hS (by first | omega | assumption | exact sd_kW_1 (by first | decide | omega)) (by first | omega | assumption | exact sd_kW_1 (by first | decide | omega)) (by first | omega | assumption | exact sd_kW_1 (by first | decide | omega)) (by first | omega | assumption | exact sd_kW_1 (by first | decide | omega)) (by first | omega | assumption | exact sd_kW_1 (by first | decide | omega))
    have L11 : ∀ (fu : Nat) (x1 : Int) (N11 : pz_M), (440 - x1).toNat < fu → (pz_rl pz_QE M N11) → (0 ≤ x1) → (x1 ≤ 440) → (M 1 4 = 6) → (N11 1 4 = 6) → (sd_kS M N11 x1) → Ok 11 [some (.inr (.inr (12, 1))), some (.inl x1)] [] N11 := by
      intro fu
      induction fu with
      | zero => exact fun _ _ hn => absurd hn (Nat.not_lt_zero _)
      | succ fu ih11 =>
        intro x1 N11 hn11 hS g11_1 g11_2 g11_3 g11_4 g11_5
        have hI : pz_im N11 := hS.1 hI0
        have hS11 := hS
        refine hgo (fun p => Nat.beq p 11 || Nat.beq p 51) 59 11 _ _ _ ?_
        refine And.intro (fun h15 => ?_) (fun h15 => ?_)
        · skip
          intro v41 e41 a41 b41
          have I41 : 0 ≤ v41 ∧ v41 ≤ 6 := by
            rw [e41]
            exact hI.2.1.1
          clear a41 b41
          have N41 := hI.2.1.1
          intro v45 e45 a45 b45
          rw [pz_wi (by first | decide | omega) (by first | decide | omega)] at e45
          clear a45 b45
          intro M46 e46
          have hS : pz_rl pz_QE M M46 := by
            rw [e46]
            exact pz_rl_u hS (by unfold pz_QE; decide) (pz_iom_4 (by first | decide | omega))
          have hI : pz_im M46 := hS.1 hI0
          have T46_0 : M46 1 4 = v45 := by rw [e46]; exact pz_uu
          have G46 : sd_kW M M46 0 := by
            have z := sd_kW_0 (M := M) (N := N11) (by assumption) (by first | decide | omega) (by first | decide | omega)
            exact fun k => by
              rw [e46, pz_una (by decide)]
              exact z k
          exact L51 _ _ _ (Nat.lt_succ_self _) hS (by first | omega | assumption | exact sd_kW_1 (by first | decide | omega)) (by first | omega | assumption | exact sd_kW_1 (by first | decide | omega)) (by first | omega | assumption | exact sd_kW_1 (by first | decide | omega)) (by first | omega | assumption | exact sd_kW_1 (by first | decide | omega)) (by first | omega | assumption | exact sd_kW_1 (by first | decide | omega))
        · skip
          refine pz_nrc (c := 62) rfl ?_
          refine pz_nrc (c := 62) rfl ?_
          intro v30 e30 a30 b30
          rw [pz_wi (by first | decide | omega) (by first | decide | omega)] at e30
          clear a30 b30
          have lo31 : (0 : Int) ≤ v30 := by omega
          have tn31 : (((v30).toNat : Nat) : Int) = v30 := Int.toNat_of_nonneg lo31
          refine And.intro (lo31) (And.intro (show _ < (528 : Int) from by omega) ?_)
          intro v31 e31 a31 b31
          have J31 : v30 % 88 = 3 → 0 ≤ v31 ∧ v31 ≤ 150 := fun q => by
            have z := hI.2.1.2.2.2.2.2.2.2.2 (v30 / 88).toNat (by first | decide | omega)
            rw [show 88 * (v30 / 88).toNat + 3 = v30.toNat by omega] at z
            rw [e31]
            exact z
          have lo32 : (0 : Int) ≤ x1 := by omega
          have tn32 : (((x1).toNat : Nat) : Int) = x1 := Int.toNat_of_nonneg lo32
          refine And.intro (lo32) (And.intro (show _ < (528 : Int) from by omega) ?_)
          intro M32 e32
          have hS : pz_rl pz_QE M M32 := by
            rw [e32]
            exact pz_rl_u hS (by unfold pz_QE; first | decide | omega) (pz_iom_62 (fun q => J31 (by first | decide | omega)))
          have hI : pz_im M32 := hS.1 hI0
          have T32_0 : M32 1 4 = N11 1 4 := by
            rw [e32]
            exact (pz_une (fun h => absurd h.1 (by decide)))
          have G32 : sd_kS M M32 (x1 + 1) := sd_kS_s (k := x1.toNat) (by assumption) (by first | decide | omega) rfl (by rw [e31, show v30.toNat = x1.toNat + 88 by omega]) e32
          intro v33 e33 a33 b33
          rw [pz_wi (by first | decide | omega) (by first | decide | omega)] at e33
          have G33 : sd_kS M M32 v33 := by
            rw [e33]
            exact G32
          exact ih11 _ _ (by first | decide | omega) hS (by first | omega | assumption | exact sd_kS_0) (by first | omega | assumption | exact sd_kS_0) (by first | omega | assumption | exact sd_kS_0) (by first | omega | assumption | exact sd_kS_0) (by first | omega | assumption | exact sd_kS_0)
    refine hgo (fun p => Nat.beq p 11 || Nat.beq p 51) 59 0 _ [] M ?_
    intro v1 e1 a1 b1
    have I1 : 0 ≤ v1 ∧ v1 ≤ 6 := by
      rw [e1]
      exact hI.2.1.1
    clear a1 b1
    have N1 := hI.2.1.1
    refine And.intro (fun h6 => ?_) (fun h6 => ?_)
    · skip
      replace h6 : v1 ≤ 5 := by omega
      exact L51 _ _ _ (Nat.lt_succ_self _) hS (by first | omega | assumption | exact sd_kW_1 (by first | decide | omega)) (by first | omega | assumption | exact sd_kW_1 (by first | decide | omega)) (by first | omega | assumption | exact sd_kW_1 (by first | decide | omega)) (by first | omega | assumption | exact sd_kW_1 (by first | decide | omega)) (by first | omega | assumption | exact sd_kW_1 (by first | decide | omega))
    · skip
      exact L11 _ _ _ (Nat.lt_succ_self _) hS (by first | omega | assumption | exact sd_kS_0) (by first | omega | assumption | exact sd_kS_0) (by first | omega | assumption | exact sd_kS_0) (by first | omega | assumption | exact sd_kS_0) (by first | omega | assumption | exact sd_kS_0)
theorem v3_X12_keeps {fr lo i : Nat} {own : String} (h1 : 0 + 1 ≤ fr) (h2 : 8 + (2 + 11) + 0 ≤ lo) (h3 : .methodLink own i yX12_keeps ∈ lw_tbl) : pz_cV fr lo own i k3_X12_keeps :=
  pz_cVk (maxL := 2) (fr' := 0) (lo' := 0) 0 12 h3_X12_keeps rfl ⟨(pz_nhc_RX12 yX12_keeps rfl).1, (pz_nhc_RX12 yX12_keeps rfl).2, pz_ds2⟩ ⟨pz_wq1430, pz_wq1429, pz_ws41, pz_wq13⟩ (Or.inl ⟨TX12, 28, rfl⟩) (fun a M _ h => by
    have h : (match (generalizing := false) a with | [.inr (.inr (12, th))] => pz_im M | _ => False) := h
    split at h
    · exact ⟨_, _, rfl⟩
    · exact h.elim) h1 h2 h3
end
section
/-! what looking changes, what a deed changes -/
def pq_Pk (b j : Nat) : Prop := pq_Pw b j ∨ (b = 72 ∧ j ≠ 0) ∨ (102 ≤ b ∧ b ≤ 114) ∨ (52 ≤ b ∧ b ≤ 59) ∨ b = 7
def pq_Pg (b j : Nat) : Prop := pq_Pk b j ∨ b = 45
def pq_Ph (r b j : Nat) : Prop := pq_Pk b j ∨ (b = r ∧ j = 3)
def pq_Pz (b j : Nat) : Prop := pq_Pd 71 b j ∨ b = 3 ∨ (74 ≤ b ∧ b < 80 ∧ j ≠ 0) ∨ (128 ≤ b ∧ b < 206)
theorem pq_pr.mo {P P' : Nat → Nat → Prop} {M M' : pz_M} (hp : ∀ b j, P b j → P' b j) (h : pq_pr P M M') : pq_pr P' M M' := ⟨h.1, fun b j q => h.2 b j (fun z => q (hp b j z))⟩
theorem pq_pr.wpk {M M' : pz_M} (h : pq_pr pq_Pw M M') : pq_pr pq_Pk M M' := h.mo (fun _ _ z => Or.inl z)
theorem pq_pr.kpg {M M' : pz_M} (h : pq_pr pq_Pk M M') : pq_pr pq_Pg M M' := h.mo (fun _ _ z => Or.inl z)
theorem pq_pr.wph {r : Nat} {M M' : pz_M} (h : pq_pr pq_Pw M M') : pq_pr (pq_Ph r) M M' := h.mo (fun _ _ z => Or.inl (Or.inl z))
theorem pq_pr.kph {r : Nat} {M M' : pz_M} (h : pq_pr pq_Pk M M') : pq_pr (pq_Ph r) M M' := h.mo (fun _ _ z => Or.inl z)
theorem pq_pr.hpk {r : Nat} {M M' : pz_M} (h : pq_pr (pq_Ph r) M M') (e : M' r 3 = M r 3) : pq_pr pq_Pk M M' := ⟨h.1, fun b j q => by
  by_cases y : b = r ∧ j = 3
  · rw [y.1, y.2]
    exact e
  · exact h.2 b j (fun z => z.elim q y)⟩
theorem pq_pr.d72 {M M' : pz_M} (h : pq_pr (pq_Pd 72) M M') : pq_pr pq_Pg M M' := h.mo (fun b j z => by
  unfold pq_Pd pq_Pw pz_lb at z
  unfold pq_Pg pq_Pk pq_Pw
  omega)
theorem pq_pr.d71 {M M' : pz_M} (h : pq_pr (pq_Pd 71) M M') : pq_pr pq_Pz M M' := h.mo (fun _ _ z => Or.inl z)
theorem pz_tf_72 {M M' : pz_M} (e : M' = pz_tf 72 71 M) (h : pz_rt M M') : pq_pr pq_Pg M M' := ⟨h, fun b j q => by
  rw [e]
  unfold pz_tf pz_tn
  unfold pq_Pg pq_Pk pq_Pw at q
  rw [if_neg (by unfold pz_lb; first | decide | omega), if_neg (by first | decide | omega)]⟩
theorem pq_pr.dsW {M M' : pz_M} (h : pq_pr (pq_Pd 71) M M') : pz_sW M M' := by
  refine ⟨⟨h.1, fun b j q => h.2 b j (by unfold pz_fy pz_mid at q; unfold pq_Pd pq_Pw pz_lb; omega), fun hi hk => ⟨?_, fun b j q => h.2 b j (by unfold pz_fz at q; unfold pq_Pd pq_Pw pz_lb; omega)⟩⟩, h.2 4 1 (by unfold pq_Pd pq_Pw pz_lb; first | decide | omega)⟩
  exact pz_kep_cg (fun b j q => h.2 b j (by unfold pq_Pd pq_Pw pz_lb; first | decide | omega)) hk
theorem pq_pr.wsW {M M' : pz_M} (h : pq_pr pq_Pw M M') : pz_sW M M' := h.dw.dsW
/-! what is kept, in the class: the newest first -/
def sd_ck (M : pz_M) (L : List (Nat → Int)) : Prop := M 3 2 = (L.length : Int) ∧ L.length ≤ 6 ∧ ∀ t : Nat, t < L.length → sd_se M (74 + ((M 3 1 + 5 - (t : Int)) % 6).toNat) (L.getD t (fun _ => 0)) ∧ sd_wf (L.getD t (fun _ => 0))
theorem sd_kf_o {M : pz_M} {b j : Nat} (hi : pz_ic M) (h : ¬ (b = 3 ∨ (74 ≤ b ∧ b < 80 ∧ j ≠ 0) ∨ (128 ≤ b ∧ b < 206))) : pz_kf M b j = M b j := by
  have i3 := hi.2.1
  by_cases z : b = 74 + (M 3 1).toNat
  · have j0 : j = 0 := by omega
    rw [z, j0]
    unfold pz_kf
    rw [pz_una (by first | decide | omega), pz_una (by first | decide | omega)]
    unfold pz_tf pz_tn
    rw [if_neg (by unfold pz_lb; first | decide | omega), if_neg (by first | decide | omega)]
  · exact pz_kf_o hi (by first | decide | omega) z (by unfold pz_lb; first | decide | omega)
theorem sd_kf_pz {M : pz_M} (hi : pz_ic M) (h : pz_rt M (pz_kf M)) : pq_pr pq_Pz M (pz_kf M) := ⟨h, fun b j q => sd_kf_o hi (fun z => q (Or.inr z))⟩
theorem sd_kf_se {M : pz_M} {F : Nat → Int} (hi : pz_ic M) (h : sd_se M 71 F) (h12 : F 88 ≤ 12) : sd_se (pz_kf M) 71 F := sd_se_cg h (fun b j q => sd_kf_o hi (by unfold pz_lb at q; first | decide | omega)) h12
theorem sd_kf_pg {M : pz_M} {F : Nat → Int} (hi : pz_ic M) (h : sd_pg M F) : sd_pg (pz_kf M) F := fun k hk => by rw [sd_kf_o hi (by first | decide | omega)]; exact h k hk
theorem sd_kf_tx {M : pz_M} {ls : List pz_lne} {l1 : List (List Int)} (hi : pz_ic M) (h : sd_tx M ls l1) : sd_tx (pz_kf M) ls l1 := sd_tx_cg h (fun b j q => sd_kf_o hi (by first | decide | omega))
theorem sd_tk_l {F : Nat → Int} {L : List (Nat → Int)} : ((F :: L).take 6).length = min 6 (L.length + 1) := List.length_take
theorem sd_tk_0 {F : Nat → Int} {L : List (Nat → Int)} : ((F :: L).take 6).getD 0 (fun _ => 0) = F := rfl
theorem sd_tk_s {F : Nat → Int} {L : List (Nat → Int)} {t : Nat} (h : t < 5) : ((F :: L).take 6).getD (t + 1) (fun _ => 0) = L.getD t (fun _ => 0) := by
  show (F :: L.take 5).getD (t + 1) (fun _ => 0) = _
  rw [List.getD_eq_getElem?_getD, List.getD_eq_getElem?_getD, List.getElem?_cons_succ, List.getElem?_take_of_lt h]
theorem sd_ck_kf {M : pz_M} {F : Nat → Int} {L : List (Nat → Int)} (hi : pz_ic M) (h : sd_ck M L) (hF : sd_se M 71 F) (hW : sd_wf F) : sd_ck (pz_kf M) ((F :: L).take 6) := by
  obtain ⟨h1, h2, h3⟩ := h
  have i3 := hi.2.1
  have h12 := hW.1
  have n1 : pz_kf M 3 1 = (M 3 1 + 1) % 6 := by
    unfold pz_kf
    rw [pz_unk (by decide)]
    exact pz_uu
  have n2 : pz_kf M 3 2 = min ((L.length : Int) + 1) 6 := by
    unfold pz_kf
    rw [pz_uu, h1, pz_wi (by first | decide | omega) (by first | decide | omega)]
  refine ⟨by rw [n2, sd_tk_l]; omega, by rw [sd_tk_l]; omega, fun t ht => ?_⟩
  rw [sd_tk_l] at ht
  rw [n1]
  rcases t with _ | t
  · rw [sd_tk_0, show ((M 3 1 + 1) % 6 + 5 - ((0 : Nat) : Int)) % 6 = M 3 1 by omega]
    refine ⟨?_, hW⟩
    have c : ∀ j : Nat, 3 ≤ j → j < 8 → pz_kf M (74 + (M 3 1).toNat) j = M 71 j := fun j j1 j2 => by
      unfold pz_kf
      rw [pz_una (by first | decide | omega), pz_una (by first | decide | omega)]
      exact pz_tf_k (by first | decide | omega) ⟨j1, j2⟩
    obtain ⟨a1, a2, a3, a4, a5, a6⟩ := hF
    refine ⟨(c 3 (by first | decide | omega) (by first | decide | omega)).trans a1, (c 4 (by first | decide | omega) (by first | decide | omega)).trans a2, (c 5 (by first | decide | omega) (by first | decide | omega)).trans a3, (c 6 (by first | decide | omega) (by first | decide | omega)).trans a4, (c 7 (by first | decide | omega) (by first | decide | omega)).trans a5, fun i f hi2 hf => ?_⟩
    rw [← a6 i f hi2 hf]
    unfold pz_kf
    rw [pz_una (by unfold pz_lb; first | decide | omega), pz_una (by unfold pz_lb; first | decide | omega)]
    exact pz_tf_l (by first | decide | omega) hf
  · rw [sd_tk_s (by first | decide | omega)]
    obtain ⟨s1, s2⟩ := h3 t (by first | decide | omega)
    have e : ((M 3 1 + 1) % 6 + 5 - ((t + 1 : Nat) : Int)) % 6 = (M 3 1 + 5 - (t : Int)) % 6 := by omega
    rw [e]
    have ne : (M 3 1 + 5 - (t : Int)) % 6 ≠ M 3 1 := by omega
    have r : 0 ≤ (M 3 1 + 5 - (t : Int)) % 6 ∧ (M 3 1 + 5 - (t : Int)) % 6 ≤ 5 := by omega
    generalize (M 3 1 + 5 - (t : Int)) % 6 = x at s1 ne r
    have m := s2.1
    exact ⟨sd_se_cg s1 (fun b j q => pz_kf_o hi (by unfold pz_lb at q; first | decide | omega) (by unfold pz_lb at q; first | decide | omega) (by unfold pz_lb at q ⊢; omega)) (by first | decide | omega), s2⟩
theorem sd_ck_cg {M N : pz_M} {L : List (Nat → Int)} (h : sd_ck M L) (e : ∀ b j : Nat, b = 3 ∨ (74 ≤ b ∧ b < 80) ∨ (128 ≤ b ∧ b < 206) → N b j = M b j) : sd_ck N L := by
  obtain ⟨h1, h2, h3⟩ := h
  refine ⟨(e 3 2 (by first | decide | omega)).trans h1, h2, fun t ht => ?_⟩
  rw [e 3 1 (by first | decide | omega)]
  obtain ⟨s1, s2⟩ := h3 t ht
  have r : ((M 3 1 + 5 - (t : Int)) % 6).toNat ≤ 5 := by omega
  have m := s2.1
  exact ⟨sd_se_cg s1 (fun b j q => e b j (by unfold pz_lb at q; first | decide | omega)) (by first | decide | omega), s2⟩
theorem sd_ck_d {M N : pz_M} {L : List (Nat → Int)} (h : sd_ck M L) (hs : pq_pr (pq_Pd 71) M N) : sd_ck N L := sd_ck_cg h (fun b j q => hs.2 b j (by unfold pq_Pd pq_Pw pz_lb; first | decide | omega))
theorem sd_ck_0 {M : pz_M} (h : M 3 2 = 0) : sd_ck M [] := ⟨h, by decide, fun t ht => absurd ht (Nat.not_lt_zero _)⟩
/-- the latest one comes back -/
theorem sd_ck_bf {M : pz_M} {F : Nat → Int} {L : List (Nat → Int)} (hi : pz_ic M) (h : sd_ck M (F :: L)) : sd_ck (pz_bf M) L ∧ sd_se (pz_bf M) 71 F ∧ sd_wf F := by
  obtain ⟨h1, h2, h3⟩ := h
  have i3 := hi.2.1
  have hl : (F :: L).length = L.length + 1 := rfl
  rw [hl] at h1 h2 h3
  have b : 0 ≤ pz_bn M ∧ pz_bn M ≤ 5 ∧ pz_bn M = (M 3 1 + 5) % 6 := by
    unfold pz_bn
    omega
  have n1 : pz_bf M 3 1 = pz_bn M := by
    unfold pz_bf
    rw [pz_tf_o (by decide) (by unfold pz_lb; first | decide | omega)]
    exact pz_uu
  have n2 : pz_bf M 3 2 = (L.length : Int) := by
    unfold pz_bf
    rw [pz_tf_o (by decide) (by unfold pz_lb; first | decide | omega), pz_unk (by decide), pz_uu, h1, pz_wi (by first | decide | omega) (by first | decide | omega)]
    omega
  obtain ⟨s1, s2⟩ := h3 0 (by first | decide | omega)
  have g0 : (F :: L).getD 0 (fun _ => 0) = F := rfl
  rw [g0] at s1 s2
  have m := s2.1
  refine ⟨⟨n2, by omega, fun t ht => ?_⟩, ?_, s2⟩
  · rw [n1]
    obtain ⟨u1, u2⟩ := h3 (t + 1) (by first | decide | omega)
    have g : (F :: L).getD (t + 1) (fun _ => 0) = L.getD t (fun _ => 0) := rfl
    rw [g] at u1 u2
    have e : (pz_bn M + 5 - (t : Int)) % 6 = (M 3 1 + 5 - ((t + 1 : Nat) : Int)) % 6 := by omega
    rw [e]
    have r : ((M 3 1 + 5 - ((t + 1 : Nat) : Int)) % 6).toNat ≤ 5 := by omega
    have m2 := u2.1
    exact ⟨sd_se_cg u1 (fun b j q => pz_bf_o (by unfold pz_lb at q; first | decide | omega) (by unfold pz_lb at q; first | decide | omega) (by unfold pz_lb at q; first | decide | omega)) (by first | decide | omega), u2⟩
  · rw [show (M 3 1 + 5 - ((0 : Nat) : Int)) % 6 = pz_bn M by omega] at s1
    have c : ∀ j : Nat, 3 ≤ j → j < 8 → pz_bf M 71 j = M (74 + (pz_bn M).toNat) j := fun j j1 j2 => by
      unfold pz_bf
      rw [pz_tf_k (by first | decide | omega) ⟨j1, j2⟩, pz_una (by first | decide | omega), pz_una (by first | decide | omega)]
    obtain ⟨a1, a2, a3, a4, a5, a6⟩ := s1
    refine ⟨(c 3 (by first | decide | omega) (by first | decide | omega)).trans a1, (c 4 (by first | decide | omega) (by first | decide | omega)).trans a2, (c 5 (by first | decide | omega) (by first | decide | omega)).trans a3, (c 6 (by first | decide | omega) (by first | decide | omega)).trans a4, (c 7 (by first | decide | omega) (by first | decide | omega)).trans a5, fun i f hi2 hf => ?_⟩
    rw [← a6 i f hi2 hf]
    unfold pz_bf
    rw [pz_tf_l (by first | decide | omega) hf, pz_una (by unfold pz_lb; first | decide | omega), pz_una (by unfold pz_lb; first | decide | omega)]
/-! what is kept, in the model -/
def sd_mq (M : pz_M) (L : List (Nat → Int)) : Prop := M 1 4 = (L.length : Int) ∧ ∀ t : Nat, t < L.length → ∀ j : Nat, j ≤ 88 ∨ (93 ≤ j ∧ j ≤ 104) → L.getD t (fun _ => 0) j = if j < 88 then M 62 (88 * (L.length - 1 - t) + j) else M 60 j
theorem sd_mq_0 {M : pz_M} (h : M 1 4 = 0) : sd_mq M [] := ⟨h, fun t ht => absurd ht (Nat.not_lt_zero _)⟩
theorem sd_mq_cg {M N : pz_M} {L : List (Nat → Int)} (h : sd_mq M L) (e4 : N 1 4 = M 1 4) (e62 : ∀ j : Nat, N 62 j = M 62 j) (e60 : ∀ j : Nat, j = 88 ∨ (93 ≤ j ∧ j ≤ 104) → N 60 j = M 60 j) : sd_mq N L := by
  refine ⟨e4.trans h.1, fun t ht j hj => ?_⟩
  rw [h.2 t ht j hj]
  by_cases q : j < 88
  · rw [if_pos q, if_pos q, e62]
  · rw [if_neg q, if_neg q, e60 j (by first | decide | omega)]
theorem sd_mq_k {M N : pz_M} {L : List (Nat → Int)} (h : sd_mq M L) (hl : L.length ≤ 6) (k4 : N 1 4 = sd_kb M + 1) (kW : sd_kW M N 88) (e60 : ∀ j : Nat, j = 88 ∨ (93 ≤ j ∧ j ≤ 104) → N 60 j = M 60 j) : sd_mq N ((M 60 :: L).take 6) := by
  obtain ⟨h1, h2⟩ := h
  have kb : sd_kb M = if L.length = 6 then 5 else (L.length : Int) := by
    unfold sd_kb
    by_cases q : L.length = 6
    · rw [if_pos q, if_pos (by first | decide | omega)]
    · rw [if_neg q, if_neg (by first | decide | omega), h1]
  refine ⟨?_, fun t ht j hj => ?_⟩
  · rw [k4, kb, sd_tk_l]
    split <;> omega
  rw [sd_tk_l] at ht ⊢
  rcases t with _ | t
  · rw [sd_tk_0]
    by_cases q : j < 88
    · have e : ((88 * (min 6 (L.length + 1) - 1 - 0) + j : Nat) : Int) = 88 * sd_kb M + j := by
        rw [kb]
        split <;> omega
      rw [if_pos q, kW, if_pos (by first | decide | omega), e, show (88 * sd_kb M + (j : Int) - 88 * sd_kb M).toNat = j by omega]
    · rw [if_neg q, e60 j (by first | decide | omega)]
  · rw [sd_tk_s (by first | decide | omega), h2 t (by first | decide | omega) j hj]
    by_cases q : j < 88
    · rw [if_pos q, if_pos q, kW, if_neg (by
        rw [kb]
        split <;> omega)]
      unfold sd_kB
      by_cases y : L.length = 6
      · rw [if_pos ⟨by omega, by omega⟩]
        congr 1
        omega
      · rw [if_neg (fun z => y (by have := z.1; omega))]
        congr 1
        omega
    · rw [if_neg q, if_neg q, e60 j (by first | decide | omega)]
theorem sd_mq_u {M N : pz_M} {F : Nat → Int} {L : List (Nat → Int)} (h : sd_mq M (F :: L)) (k4 : N 1 4 = M 1 4 - 1) (e0 : N 60 = sd_kF M (M 1 4 - 1).toNat) (e62 : ∀ j : Nat, N 62 j = M 62 j) : sd_mq N L ∧ ∀ j : Nat, j ≤ 88 ∨ (93 ≤ j ∧ j ≤ 104) → N 60 j = F j := by
  obtain ⟨h1, h2⟩ := h
  have hl : (F :: L).length = L.length + 1 := rfl
  rw [hl] at h1 h2
  have n4 : (M 1 4 - 1).toNat = L.length := by omega
  rw [n4] at e0
  have e8 : ∀ j : Nat, 88 ≤ j → N 60 j = M 60 j := fun j hj => by
    rw [e0]
    exact if_neg (by first | decide | omega)
  refine ⟨⟨by omega, fun t ht j hj => ?_⟩, fun j hj => ?_⟩
  · have g := h2 (t + 1) (by first | decide | omega) j hj
    have g0 : (F :: L).getD (t + 1) (fun _ => 0) = L.getD t (fun _ => 0) := rfl
    rw [g0] at g
    rw [g]
    by_cases q : j < 88
    · rw [if_pos q, if_pos q, e62, show L.length + 1 - 1 - (t + 1) = L.length - 1 - t by omega]
    · rw [if_neg q, if_neg q, e8 j (by first | decide | omega)]
  · have g := h2 0 (by first | decide | omega) j hj
    have g0 : (F :: L).getD 0 (fun _ => 0) = F := rfl
    rw [g0] at g
    rw [g]
    by_cases q : j < 88
    · rw [if_pos q, e0]
      exact if_pos q
    · rw [if_neg q, e8 j (by first | decide | omega)]
end
section
/-! deeds and days, told for a caller -/
def pz_QV (b _j : Nat) : Prop := b = 68 ∨ b = 69 ∨ b = 70
def pz_Qh (r b j : Nat) : Prop := b = 68 ∨ b = 69 ∨ b = 70 ∨ (b = 60 ∧ j = r)
def pz_QX (b j : Nat) : Prop := (b = 60 ∧ (j < 88 ∨ (241 ≤ j ∧ j < 841))) ∨ b = 68 ∨ b = 69 ∨ b = 62 ∨ (b = 1 ∧ (j = 4 ∨ j = 26))
def pz_QG (b j : Nat) : Prop := (b = 60 ∧ (j < 88 ∨ (241 ≤ j ∧ j < 841))) ∨ b = 68 ∨ b = 69 ∨ b = 63 ∨ (b = 1 ∧ j = 26)
theorem pz_rl.vh {r : Nat} {M M' : pz_M} (h : pz_rl pz_QV M M') : pz_rl (pz_Qh r) M M' := pz_rl.wk (by intro b j q; unfold pz_QV at q; unfold pz_Qh; omega) h
theorem pz_rl.hv {r : Nat} {M M' : pz_M} (h : pz_rl (pz_Qh r) M M') (e : M' 60 r = M 60 r) : pz_rl pz_QV M M' := ⟨h.1, fun b j q => by
  by_cases y : b = 60 ∧ j = r
  · rw [y.1, y.2]
    exact e
  · exact h.2 b j (by unfold pz_Qh; unfold pz_QV at q; omega)⟩
def sd_da (M M' : pz_M) (v d : Int) (P : (Nat → Int) → Prop) (A : List pz_lne → (Nat → Int) → Int) (g : List pz_lne → (Nat → Int) → (Nat → Int)) : Prop := ∀ F : Nat → Int, sd_se M 71 F → sd_wf F → (¬ P F → v = d ∧ M' = M) ∧ (P F → pq_pr (pq_Pd 71) (pz_kf M) M' ∧ ∀ (ls : List pz_lne) (l1 : List (List Int)), sd_tx M ls l1 → sd_pg M F → M 71 0 = 0 → v = A ls F ∧ sd_se M' 71 (g ls F) ∧ sd_pg M' (g ls F) ∧ sd_wf (g ls F))
def sd_ma (M M' : pz_M) (v d : Int) (P : (Nat → Int) → Prop) (A : List pz_lne → (Nat → Int) → Int) (g : List pz_lne → (Nat → Int) → (Nat → Int)) : Prop := (¬ P (M 60) → v = d ∧ M' = M) ∧ (P (M 60) → (M' 1 4 = sd_kb M + 1 ∧ sd_kW M M' 88) ∧ ∀ ls : List pz_lne, pq_wlw ls (M 60) → (∀ q ∈ ls, pv_ln q) → sd_wf (M 60) → v = A ls (M 60) ∧ M' 60 = g ls (M 60))
/-- n DAYS, each kept -/
def sd_it (ls : List pz_lne) (l1 : List (List Int)) : Nat → (Nat → Int) → List (Nat → Int) → Int → (Nat → Int) × List (Nat → Int) × Int
  | 0, F, L, c => (F, L, c)
  | n + 1, F, L, c => sd_it ls l1 n (sd_day true ls l1 F) ((F :: L).take 6) (pz_w (c + (sd_d4 true ls l1 F).2))
def sd_dn (F : Nat → Int) (n : Int) : Prop := (1 ≤ n ∧ n ≤ 60) ∧ pz_w (F 0 + n) ≤ 9999
def sd_dc (M M' : pz_M) (n v : Int) : Prop := ∀ F : Nat → Int, sd_se M 71 F → sd_wf F → (¬ sd_dn F n → v = -1 ∧ M' = M) ∧ (sd_dn F n → pq_pr pq_Pz M M' ∧ ∀ (ls : List pz_lne) (l1 : List (List Int)) (L : List (Nat → Int)), sd_tx M ls l1 → sd_pg M F → M 71 0 = 0 → sd_ck M L → v = (sd_it ls l1 n.toNat F L 0).2.2 ∧ sd_se M' 71 (sd_it ls l1 n.toNat F L 0).1 ∧ sd_pg M' (sd_it ls l1 n.toNat F L 0).1 ∧ sd_wf (sd_it ls l1 n.toNat F L 0).1 ∧ sd_ck M' (sd_it ls l1 n.toNat F L 0).2.1)
def sd_dcI (M N : pz_M) (n x c : Int) : Prop := ∀ F : Nat → Int, sd_se M 71 F → sd_wf F → ∀ (ls : List pz_lne) (l1 : List (List Int)) (L : List (Nat → Int)), sd_tx M ls l1 → sd_pg M F → M 71 0 = 0 → sd_ck M L → ∃ (G : Nat → Int) (L' : List (Nat → Int)), sd_se N 71 G ∧ sd_pg N G ∧ sd_wf G ∧ sd_tx N ls l1 ∧ N 71 0 = 0 ∧ sd_ck N L' ∧ sd_it ls l1 (n - x).toNat G L' c = sd_it ls l1 n.toNat F L 0
theorem sd_dcI_0 {M : pz_M} {n : Int} : sd_dcI M M n 0 0 := fun F hF hW ls l1 L hT hP h0 hK => ⟨F, L, hF, hP, hW, hT, h0, hK, by rw [Int.sub_zero]⟩
theorem sd_dcI_s {M N N1 N2 : pz_M} {n x y c c' w : Int} (h : sd_dcI M N n x c) (hi : pz_ic N) (hx : x < n) (hy : y = x + 1) (e1 : N1 = pz_kf N) (q : sd_od N1 N2 71 w) (z : pq_pr (pq_Pd 71) N1 N2) (hc : c' = pz_w (c + w)) : sd_dcI M N2 n y c' := fun F hF hW ls l1 L hT hP h0 hK => by
  obtain ⟨G, L', s, p, g, t, a0, k, r⟩ := h F hF hW ls l1 L hT hP h0 hK
  subst e1
  have m := g.1
  have b0 : pz_kf N 71 0 = 0 := (sd_kf_o hi (by first | decide | omega)).trans a0
  have tr : decide (pz_kf N 71 0 = 0) = true := decide_eq_true b0
  have o := q ls l1 G (sd_kf_tx hi t) (sd_kf_se hi s (by first | decide | omega)) (sd_kf_pg hi p) g
  rw [tr] at o
  obtain ⟨o1, o2, o3, o4⟩ := o
  refine ⟨_, _, o2, o3, o4, sd_tx_d (sd_kf_tx hi t) (by first | decide | omega) z, (z.2 71 0 (by unfold pq_Pd pq_Pw pz_lb; first | decide | omega)).trans b0, sd_ck_d (sd_ck_kf hi k s g) z, ?_⟩
  rw [← r, show (n - x).toNat = (n - y).toNat + 1 by omega, hc, o1]
  rfl
theorem sd_dcI_z {M N : pz_M} {n x c : Int} (h : sd_dcI M N n x c) (hx : ¬ x < n) : ∀ F : Nat → Int, sd_se M 71 F → sd_wf F → ∀ (ls : List pz_lne) (l1 : List (List Int)) (L : List (Nat → Int)), sd_tx M ls l1 → sd_pg M F → M 71 0 = 0 → sd_ck M L → c = (sd_it ls l1 n.toNat F L 0).2.2 ∧ sd_se N 71 (sd_it ls l1 n.toNat F L 0).1 ∧ sd_pg N (sd_it ls l1 n.toNat F L 0).1 ∧ sd_wf (sd_it ls l1 n.toNat F L 0).1 ∧ sd_ck N (sd_it ls l1 n.toNat F L 0).2.1 := fun F hF hW ls l1 L hT hP h0 hK => by
  obtain ⟨G, L', s, p, g, t, a0, k, r⟩ := h F hF hW ls l1 L hT hP h0 hK
  rw [show (n - x).toNat = 0 by omega] at r
  have r : (G, L', c) = _ := r
  rw [← r]
  exact ⟨rfl, s, p, g, k⟩
/-! the model's days -/
def sd_dm (M M' : pz_M) (n v : Int) : Prop := (¬ sd_dn (M 60) n → v = -1 ∧ M' = M) ∧ (sd_dn (M 60) n → ∀ (ls : List pz_lne) (l1 : List (List Int)) (L : List (Nat → Int)), sd_tm (M 60) ls l1 → sd_wf (M 60) → sd_mq M L → L.length ≤ 6 → v = (sd_it ls l1 n.toNat (M 60) L 0).2.2 ∧ M' 60 = (sd_it ls l1 n.toNat (M 60) L 0).1 ∧ sd_mq M' (sd_it ls l1 n.toNat (M 60) L 0).2.1)
def sd_dmI (M N : pz_M) (n x c : Int) : Prop := ∀ (ls : List pz_lne) (l1 : List (List Int)) (L : List (Nat → Int)), sd_tm (M 60) ls l1 → sd_wf (M 60) → sd_mq M L → L.length ≤ 6 → ∃ L' : List (Nat → Int), sd_wf (N 60) ∧ sd_tm (N 60) ls l1 ∧ sd_mq N L' ∧ L'.length ≤ 6 ∧ sd_it ls l1 (n - x).toNat (N 60) L' c = sd_it ls l1 n.toNat (M 60) L 0
theorem sd_dmI_0 {M : pz_M} {n : Int} : sd_dmI M M n 0 0 := fun ls l1 L hT hW hK hl => ⟨L, hW, hT, hK, hl, by rw [Int.sub_zero]⟩
theorem sd_dmI_s {M N N1 N2 : pz_M} {n x y c c' w : Int} (h : sd_dmI M N n x c) (hx : x < n) (hy : y = x + 1) (k : N1 1 26 = 1 ∧ N1 1 4 = sd_kb N + 1 ∧ sd_kW N N1 88) (z1 : pz_rl pz_QE N N1) (q : ∀ (ls : List pz_lne) (l1 : List (List Int)), sd_tm (N1 60) ls l1 → sd_wf (N1 60) → w = (sd_d4 (sd_Tr N1) ls l1 (N1 60)).2 ∧ N2 60 = sd_day (sd_Tr N1) ls l1 (N1 60) ∧ sd_wf (N2 60)) (z2 : pz_rl pz_QD N1 N2) (hc : c' = pz_w (c + w)) : sd_dmI M N2 n y c' := fun ls l1 L hT hW hK hl => by
  obtain ⟨L', g, t, m, l, r⟩ := h ls l1 L hT hW hK hl
  have W : N1 60 = N 60 := funext fun j => z1.2 60 j (by unfold pz_QE; first | decide | omega)
  have T : sd_Tr N1 = true := by
    unfold sd_Tr
    exact decide_eq_true (by first | decide | omega)
  rw [W, T] at q
  obtain ⟨q1, q2, q3⟩ := q ls l1 t g
  refine ⟨(N 60 :: L').take 6, q3, sd_tm_cg t (fun j y => (z2.2 60 j (by unfold pz_QD; first | decide | omega)).trans (congrFun W j)), sd_mq_k m l ((z2.2 1 4 (by unfold pz_QD; first | decide | omega)).trans k.2.1) (fun i => (z2.2 62 i (by unfold pz_QD; first | decide | omega)).trans (k.2.2 i)) (fun j j1 => (z2.2 60 j (by unfold pz_QD; first | decide | omega)).trans (congrFun W j)), by rw [sd_tk_l]; omega, ?_⟩
  rw [← r, show (n - x).toNat = (n - y).toNat + 1 by omega, hc, q1, q2]
  rfl
theorem sd_dmI_z {M N : pz_M} {n x c : Int} (h : sd_dmI M N n x c) (hx : ¬ x < n) : ∀ (ls : List pz_lne) (l1 : List (List Int)) (L : List (Nat → Int)), sd_tm (M 60) ls l1 → sd_wf (M 60) → sd_mq M L → L.length ≤ 6 → c = (sd_it ls l1 n.toNat (M 60) L 0).2.2 ∧ N 60 = (sd_it ls l1 n.toNat (M 60) L 0).1 ∧ sd_mq N (sd_it ls l1 n.toNat (M 60) L 0).2.1 := fun ls l1 L hT hW hK hl => by
  obtain ⟨L', g, t, m, l, r⟩ := h ls l1 L hT hW hK hl
  rw [show (n - x).toNat = 0 by omega] at r
  have r : (N 60, L', c) = _ := r
  rw [← r]
  exact ⟨rfl, rfl, m⟩
/-! nothing of a day in thought is outside of what is kept -/
def sd_no (F G : Nat → Int) : Prop := ∀ k : Nat, 88 ≤ k → G k = F k
theorem sd_no.rf {F : Nat → Int} : sd_no F F := fun _ _ => rfl
theorem sd_no.tr {F G H : Nat → Int} (h : sd_no F G) (h' : sd_no G H) : sd_no F H := fun k hk => (h' k hk).trans (h k hk)
theorem sd_no_u {F G : Nat → Int} {j : Nat} {v : Int} (h : sd_no F G) (hj : j < 88) : sd_no F (sd_u G j v) := fun k hk => (sd_un (by first | decide | omega)).trans (h k hk)
theorem sd_no_n {F G : Nat → Int} {w i m : Int} (h : sd_no F G) : sd_no F (sd_note false G w i m) := by rw [sd_note_n (Or.inl rfl)]; exact h
theorem sd_no_fF {F G : Nat → Int} (h : sd_no F G) : sd_no F (sd_fF false G) := h
theorem sd_no_doe {ls : List pz_lne} {F : Nat → Int} {r : List Int} (h : F 88 ≤ 12) : sd_no F (sd_doe false ls F r) := by
  unfold sd_doe
  split
  · split
    · rename_i q
      have q1 := q.1
      exact sd_no_n (sd_no_u (sd_no_u .rf (by first | decide | omega)) (by first | decide | omega))
    · exact .rf
  · split
    · split
      · rename_i q
        have q1 := q.1
        exact sd_no_n (sd_no_u .rf (by first | decide | omega))
      · exact .rf
    · split
      · split
        · rename_i q
          have q1 := q.1
          have q2 := q.2.1
          exact sd_no_n (sd_no_u (sd_no_u .rf (by first | decide | omega)) (by first | decide | omega))
        · exact .rf
      · split
        · rename_i q
          have q1 := q.1
          exact sd_no_n (sd_no_u .rf (by first | decide | omega))
        · exact .rf
theorem sd_no_p1 {ls : List pz_lne} : ∀ (l : List (List Int)) (F : Nat → Int), F 88 ≤ 12 → sd_no F (sd_p1 false ls l F) := by
  intro l
  induction l with
  | nil => exact fun F _ => .rf
  | cons r l ih =>
    intro F h
    have a : sd_no F (if r.getD 0 0 = F 0 then sd_doe false ls F r else F) := by
      split
      · exact sd_no_doe h
      · exact .rf
    exact a.tr (ih _ (by rw [a 88 (Nat.le_refl _)]; exact h))
theorem sd_no_s2 {ls : List pz_lne} {F : Nat → Int} {i : Nat} (h : F 88 ≤ 12) : sd_no F (sd_s2 false ls i F) := by
  unfold sd_s2
  split
  · rename_i q
    have q1 := q.1
    split
    · exact sd_no_n (sd_no_u .rf (by first | decide | omega))
    · exact .rf
  · exact .rf
theorem sd_no_p2 {ls : List pz_lne} : ∀ (m i : Nat) (F : Nat → Int), F 88 ≤ 12 → sd_no F (sd_p2 false ls m i F) := by
  intro m
  induction m with
  | zero => exact fun i F _ => .rf
  | succ m ih =>
    intro i F h
    have a := sd_no_s2 (ls := ls) (i := i) h
    exact a.tr (ih _ _ (by rw [a 88 (Nat.le_refl _)]; exact h))
theorem sd_no_unr {F G : Nat → Int} {k : Nat} (h : sd_no F G) (h12 : F 88 ≤ 12) : sd_no F (sd_unr G k) := by
  unfold sd_unr
  split
  · rename_i q
    have q1 := q.1
    rw [h 88 (Nat.le_refl _)] at q1
    exact sd_no_u h (by first | decide | omega)
  · exact h
theorem sd_no_s3 {ls : List pz_lne} {F : Nat → Int} {i : Nat} (h : F 88 ≤ 12) (hi : i < 12) : sd_no F (sd_s3 false ls i F) := by
  unfold sd_s3
  split
  · split
    · have a : sd_no F (sd_lv1 (sd_fF false F) i) := sd_no_u (sd_no_u (sd_no_u .rf (by first | decide | omega)) (by first | decide | omega)) (by first | decide | omega)
      unfold sd_lev
      refine sd_no_n (sd_no_unr ?_ h)
      split
      · exact a
      · exact sd_no_unr a h
    · exact .rf
  · exact .rf
theorem sd_no_p3 {ls : List pz_lne} : ∀ (m i : Nat) (F : Nat → Int), F 88 ≤ 12 → i + m ≤ 12 → sd_no F (sd_p3 false ls m i F) := by
  intro m
  induction m with
  | zero => exact fun i F _ _ => .rf
  | succ m ih =>
    intro i F h hi
    have a := sd_no_s3 (ls := ls) (i := i) h (by first | decide | omega)
    exact a.tr (ih _ _ (by rw [a 88 (Nat.le_refl _)]; exact h) (by first | decide | omega))
theorem sd_no_mi {e : Bool} {to : Nat} : ∀ (m i : Nat) (F : Nat → Int) (c : Int), i + m ≤ 12 → sd_no F (sd_mi false to e m i F c).1 := by
  intro m
  induction m with
  | zero => exact fun i F c _ => .rf
  | succ m ih =>
    intro i F c hi
    show sd_no F (if sd_mk F to e i then sd_mi false to e m (i + 1) (sd_note false (sd_u F (76 + i) (F 0)) 5 i 0) (pz_w (c + 1)) else sd_mi false to e m (i + 1) F c).1
    split
    · exact (sd_no_n (sd_no_u .rf (by first | decide | omega))).tr (ih _ _ _ (by first | decide | omega))
    · exact ih _ _ _ (by first | decide | omega)
theorem sd_no_mv {b : Nat → Bool} {n : Nat} (hn : n ≤ 12) : ∀ (f a : Nat) (F : Nat → Int) (c : Int), sd_no F (sd_mv false b n f a F c).1 := by
  intro f
  induction f with
  | zero => exact fun a F c => .rf
  | succ f ih =>
    intro a F c
    by_cases q : a < n
    · have e : sd_mv false b n (f + 1) a F c = sd_mv false b n f (if sd_end b n a = n - 1 then n else sd_end b n a) (if sd_cm F (sd_end b n a) (sd_end b n a + 1 - a) a = true then sd_mi false (sd_end b n a) (decide (sd_end b n a = n - 1)) (sd_end b n a + 1 - a) a F c else (F, c)).1 (if sd_cm F (sd_end b n a) (sd_end b n a + 1 - a) a = true then sd_mi false (sd_end b n a) (decide (sd_end b n a = n - 1)) (sd_end b n a + 1 - a) a F c else (F, c)).2 := if_pos q
      rw [e]
      have z := sd_end_s (b := b) q
      refine sd_no.tr ?_ (ih _ _ _)
      split
      · exact sd_no_mi _ _ _ _ (by first | decide | omega)
      · exact .rf
    · have e : sd_mv false b n (f + 1) a F c = (F, c) := if_neg q
      rw [e]
      exact .rf
theorem sd_no_p5 {ls : List pz_lne} : ∀ (m i : Nat) (F : Nat → Int), i + m ≤ 12 → sd_no F (sd_p5 ls m i F) := by
  intro m
  induction m with
  | zero => exact fun i F _ => .rf
  | succ m ih =>
    intro i F hi
    have a : sd_no F (sd_s5 ls i F) := by
      unfold sd_s5
      split
      · exact sd_no_u .rf (by first | decide | omega)
      · exact .rf
    exact a.tr (ih _ _ (by first | decide | omega))
theorem sd_no_day {ls : List pz_lne} {l1 : List (List Int)} {F : Nat → Int} (h : F 88 ≤ 12) : sd_no F (sd_day false ls l1 F) := by
  have n12 : sd_n F ≤ 12 := by
    unfold sd_n
    omega
  have a1 := sd_no_p1 (ls := ls) l1 F h
  have a2 := sd_no_p2 (ls := ls) (sd_n F) 0 (sd_p1 false ls l1 F) (by rw [a1 88 (Nat.le_refl _)]; exact h)
  have a12 := a1.tr a2
  have a3 := sd_no_p3 (ls := ls) (sd_n F) 0 (sd_p2 false ls (sd_n F) 0 (sd_p1 false ls l1 F)) (by rw [a12 88 (Nat.le_refl _)]; exact h) (by first | decide | omega)
  have a123 : sd_no F (sd_d3 false ls l1 F) := a12.tr a3
  have a4 : sd_no F (sd_d4 false ls l1 F).1 := a123.tr (sd_no_mv n12 12 0 _ 0)
  have a5 : sd_no F (sd_d5 false ls l1 F) := a4.tr (sd_no_p5 _ _ _ (by first | decide | omega))
  exact sd_no_u a5 (by first | decide | omega)
/-- n DAYS in thought -/
def sd_gt (ls : List pz_lne) (l1 : List (List Int)) : Nat → (Nat → Int) → (Nat → Int)
  | 0, F => F
  | n + 1, F => sd_gt ls l1 n (sd_day false ls l1 F)
/-- the latest DAY on which one MOVED -/
def sd_lat (F : Nat → Int) : Nat → Nat → Int → Int
  | 0, _, a => a
  | m + 1, i, a => if F (76 + i) = -1 then -1 else sd_lat F m (i + 1) (max a (F (76 + i)))
def sd_gw (F : Nat → Int) (w : Int) : Int := if w = 0 then pz_cnt (sd_vn F) 12 else if w = 1 then sd_lat F (sd_n F) 0 (-1) else F 1
def sd_gq (n w : Int) : Prop := (1 ≤ n ∧ n ≤ 99) ∧ (0 ≤ w ∧ w ≤ 2)
def sd_gc (M M' : pz_M) (n w v : Int) : Prop := (¬ sd_gq n w → v = -2) ∧ ∀ (ls : List pz_lne) (l1 : List (List Int)) (F : Nat → Int), sd_tx M ls l1 → sd_se M 71 F → sd_pg M F → sd_wf F → M 72 0 ≠ 0 → (sd_gq n w → v = sd_gw (sd_gt ls l1 n.toNat F) w) ∧ ∀ k : Nat, k < 600 → M' 45 k = M 45 k
def sd_gcI (M N : pz_M) (n x : Int) : Prop := ∀ (ls : List pz_lne) (l1 : List (List Int)) (F : Nat → Int), sd_tx M ls l1 → sd_se M 71 F → sd_pg M F → sd_wf F → M 72 0 ≠ 0 → ∃ G : Nat → Int, sd_se N 72 G ∧ sd_pg N G ∧ sd_wf G ∧ sd_tx N ls l1 ∧ N 72 0 ≠ 0 ∧ sd_no F G ∧ sd_gt ls l1 (n - x).toNat G = sd_gt ls l1 n.toNat F
theorem sd_gcI_0 {M N : pz_M} {n : Int} (e : N = pz_tf 72 71 M) : sd_gcI M N n 0 := fun ls l1 F hT hF hP hW h0 => by
  have o : ∀ b j : Nat, b ≠ 72 → (b < 102 ∨ 114 ≤ b) → N b j = M b j := fun b j q q2 => by
    rw [e]
    exact pz_tf_o q (by unfold pz_lb; first | decide | omega)
  have c : ∀ j : Nat, 3 ≤ j → j < 8 → N 72 j = M 71 j := fun j j1 j2 => by
    rw [e]
    exact pz_tf_k (by first | decide | omega) ⟨j1, j2⟩
  obtain ⟨a1, a2, a3, a4, a5, a6⟩ := id hF
  have m := hW.1
  refine ⟨F, ⟨(c 3 (by first | decide | omega) (by first | decide | omega)).trans a1, (c 4 (by first | decide | omega) (by first | decide | omega)).trans a2, (c 5 (by first | decide | omega) (by first | decide | omega)).trans a3, (c 6 (by first | decide | omega) (by first | decide | omega)).trans a4, (c 7 (by first | decide | omega) (by first | decide | omega)).trans a5, fun i f hi hf => ?_⟩, fun k hk => by rw [o 45 k (by first | decide | omega) (by first | decide | omega)]; exact hP k hk, hW, sd_tx_cg hT (fun b j q => o b j (by first | decide | omega) (by first | decide | omega)), ?_, .rf, by rw [Int.sub_zero]⟩
  · rw [← a6 i f hi hf, e]
    exact pz_tf_l (by first | decide | omega) hf
  · rw [e]
    unfold pz_tf pz_tn
    rw [if_neg (by unfold pz_lb; first | decide | omega), if_neg (by first | decide | omega)]
    exact h0
theorem sd_gcI_s {M N N2 : pz_M} {n x y w : Int} (h : sd_gcI M N n x) (hx : x < n) (hy : y = x + 1) (q : sd_od N N2 72 w) (z : pq_pr (pq_Pd 72) N N2) : sd_gcI M N2 n y := fun ls l1 F hT hF hP hW h0 => by
  obtain ⟨G, s, p, g, t, a0, o9, r⟩ := h ls l1 F hT hF hP hW h0
  have tr : decide (N 72 0 = 0) = false := decide_eq_false a0
  have o := q ls l1 G t s p g
  rw [tr] at o
  obtain ⟨o1, o2, o3, o4⟩ := o
  have m := g.1
  refine ⟨_, o2, o3, o4, sd_tx_d t (by first | decide | omega) z, by rw [z.2 72 0 (by unfold pq_Pd pq_Pw pz_lb; first | decide | omega)]; exact a0, o9.tr (sd_no_day (by first | decide | omega)), ?_⟩
  rw [← r, show (n - x).toNat = (n - y).toNat + 1 by omega]
  rfl
theorem sd_gcI_z {M N : pz_M} {n x : Int} (h : sd_gcI M N n x) (hx : ¬ x < n) {ls : List pz_lne} {l1 : List (List Int)} {F : Nat → Int} (hT : sd_tx M ls l1) (hF : sd_se M 71 F) (hP : sd_pg M F) (hW : sd_wf F) (h0 : M 72 0 ≠ 0) : sd_se N 72 (sd_gt ls l1 n.toNat F) ∧ sd_wf (sd_gt ls l1 n.toNat F) ∧ ∀ k : Nat, k < 600 → N 45 k = M 45 k := by
  obtain ⟨G, s, p, g, t, a0, o9, r⟩ := h ls l1 F hT hF hP hW h0
  rw [show (n - x).toNat = 0 by omega] at r
  have r : G = _ := r
  rw [← r]
  exact ⟨s, g, fun k hk => by rw [p k hk, hP k hk]; exact o9 _ (by first | decide | omega)⟩
/-- the model: what was is there again -/
def sd_gm (M M' : pz_M) (n w v : Int) : Prop := (¬ sd_gq n w → v = -2 ∧ M' = M) ∧ (sd_gq n w → ∀ (ls : List pz_lne) (l1 : List (List Int)), sd_tm (M 60) ls l1 → sd_wf (M 60) → v = sd_gw (sd_gt ls l1 n.toNat (M 60)) w ∧ M' 60 = M 60)
def sd_gmI (M N : pz_M) (n x : Int) : Prop := ∀ (ls : List pz_lne) (l1 : List (List Int)), sd_tm (M 60) ls l1 → sd_wf (M 60) → sd_wf (N 60) ∧ sd_no (M 60) (N 60) ∧ sd_gt ls l1 (n - x).toNat (N 60) = sd_gt ls l1 n.toNat (M 60)
theorem sd_gmI_0 {M N : pz_M} {n : Int} (e : N 60 = M 60) : sd_gmI M N n 0 := fun ls l1 hT hW => by
  rw [e]
  exact ⟨hW, .rf, by rw [Int.sub_zero]⟩
theorem sd_gmI_s {M N N2 : pz_M} {n x y w : Int} (h : sd_gmI M N n x) (hx : x < n) (hy : y = x + 1) (h26 : N 1 26 = 0) (q : ∀ (ls : List pz_lne) (l1 : List (List Int)), sd_tm (N 60) ls l1 → sd_wf (N 60) → w = (sd_d4 (sd_Tr N) ls l1 (N 60)).2 ∧ N2 60 = sd_day (sd_Tr N) ls l1 (N 60) ∧ sd_wf (N2 60)) : sd_gmI M N2 n y := fun ls l1 hT hW => by
  obtain ⟨g, o9, r⟩ := h ls l1 hT hW
  have T : sd_Tr N = false := by
    unfold sd_Tr
    exact decide_eq_false (by first | decide | omega)
  rw [T] at q
  obtain ⟨q1, q2, q3⟩ := q ls l1 (sd_tm_cg hT (fun j y => o9 j (by first | decide | omega))) g
  have m := g.1
  refine ⟨q3, by rw [q2]; exact o9.tr (sd_no_day (by first | decide | omega)), ?_⟩
  rw [← r, show (n - x).toNat = (n - y).toNat + 1 by omega, q2]
  rfl
theorem sd_gmI_z {M N : pz_M} {n x : Int} (h : sd_gmI M N n x) (hx : ¬ x < n) {ls : List pz_lne} {l1 : List (List Int)} (hT : sd_tm (M 60) ls l1) (hW : sd_wf (M 60)) : N 60 = sd_gt ls l1 n.toNat (M 60) ∧ sd_wf (N 60) ∧ sd_no (M 60) (N 60) := by
  obtain ⟨g, o9, r⟩ := h ls l1 hT hW
  rw [show (n - x).toNat = 0 by omega] at r
  exact ⟨r, g, o9⟩
end
section
/-! the law's relation: the state is the same in the class and in the model -/
theorem pz_XV_0 {B : Nat → Int} {n i : Nat} (h : pz_T B n i = 100) : 0 ≤ pz_XV B n i := by
  have hp := pz_T_end (B := B) (n := n) (i := i) (by first | decide | omega)
  unfold pz_T at h
  unfold pz_XV
  generalize pz_tp B n i = p at h hp
  by_cases q : pz_let (B p) = true
  · rw [pz_tt_l hp q] at h
    have := pz_wd_r (B := B) (p := p) (e := pz_te B n p)
    omega
  · by_cases q2 : pz_dig (B p) = true
    · rw [pz_tt_d hp q q2] at h
      have l : pz_te B n p ≤ p + 4 := by
        split at h
        · assumption
        · omega
      have e := pz_te_d hp q q2
      unfold pz_tx
      exact (pz_dv_b _ (by first | decide | omega) (fun j hj => of_decide_eq_true ((pz_whl_s (p := pz_dig) (B := B) (n := n) (i := p)).2.2.1 (p + j) (by first | decide | omega) (by first | decide | omega)).2)).1
    · rw [pz_tt_s hp q q2] at h
      split at h
      · rename_i y
        have := pz_sgn_i.mp y
        omega
      · omega
def pz_xv (j : Nat) : Prop := j = 89 ∨ j = 90 ∨ (129 ≤ j ∧ j < 209) ∨ 841 ≤ j
def sd_LQ (t a : Nat) (M : pz_M) : Prop := ∃ (ls : List pz_lne) (l1 : List (List Int)), (pq_ltx t ls M ∧ pq_wlw ls (M a) ∧ pz_lok ls ∧ ∀ q ∈ ls, pv_ln q) ∧ pq_rtx t 1 l1 M ∧ pq_wp l1 (M a) ∧ ∃ n : Int, pq_ok n 1 l1
theorem sd_LQ_mv {t a t' a' : Nat} {M M' : pz_M} (h : sd_LQ t a M) (e10 : ∀ j : Nat, j < 2 → M' (10 + t') j = M (10 + t) j) (e27 : ∀ k j : Nat, k < 4 → j < 16 → M' (27 + 6 * t' + k) j = M (27 + 6 * t + k) j) (e31 : ∀ j : Nat, j < 400 → M' (31 + 6 * t') j = M (31 + 6 * t) j) (e13 : M' (12 + 3 * t' + 1) 0 = M (12 + 3 * t + 1) 0) (e20 : ∀ j : Nat, j < 80 → M' (19 + 3 * t' + 1) j = M (19 + 3 * t + 1) j) (e2 : ∀ j : Nat, pz_xv j → j < 1725 → M' a' j = M a j) : sd_LQ t' a' M' := by
  obtain ⟨ls, l1, ⟨x1, x2, x3, x4⟩, p1, p2, n, p3⟩ := h
  exact ⟨ls, l1, ⟨pq_ltx_mv x3 x1 e10 e27 e31, pq_wl_mv x3 x2 (fun j y => e2 j (by unfold pq_wf at y; unfold pz_xv; omega)), x3, x4⟩, pq_rtx_mv p3.1 p1 e13 (fun j hj => e20 j hj), pq_wp_mv p3.1 p2 (fun j y => e2 j (by unfold pq_wf at y; unfold pz_xv; omega)), n, p3⟩
theorem sd_LQ_cg {t a : Nat} {M M' : pz_M} (h : sd_LQ t a M) (e : ∀ b j : Nat, pz_xcl t b → M' b j = M b j) (e2 : ∀ j : Nat, pz_xv j → M' a j = M a j) : sd_LQ t a M' :=
  sd_LQ_mv h (fun j _ => e _ j (by unfold pz_xcl; first | decide | omega)) (fun k j hk _ => e _ j (by unfold pz_xcl; first | decide | omega)) (fun j _ => e _ j (by unfold pz_xcl; first | decide | omega)) (e _ _ (by unfold pz_xcl; first | decide | omega)) (fun j _ => e _ j (by unfold pz_xcl; first | decide | omega)) (fun j y _ => e2 j y)
theorem sd_LQ_img {d s t t' a a' : Nat} {M M' : pz_M} (hd : d = 8 + t') (hs : s = 8 + t) (h : sd_LQ t a M) (q : pz_Ti d s M M') (e2 : ∀ j : Nat, j < 1725 → M' a' j = M a j) : sd_LQ t' a' M' := by
  obtain ⟨q1, q2, q3, q4, q5, -⟩ := q
  subst hd
  subst hs
  refine sd_LQ_mv h (fun j hj => ?_) (fun k j hk hj => ?_) (fun j hj => ?_) ?_ (fun j hj => ?_) (fun j _ hj => e2 j hj)
  · have x := q1 j hj
    rw [show 8 + t' + 2 = 10 + t' by omega, show 8 + t + 2 = 10 + t by omega] at x
    exact x
  · have x := q2 k j hk hj
    rw [show 27 + 6 * (8 + t' - 8) + k = 27 + 6 * t' + k by omega, show 27 + 6 * (8 + t - 8) + k = 27 + 6 * t + k by omega] at x
    exact x
  · have x := q3 j hj
    rw [show 31 + 6 * (8 + t' - 8) = 31 + 6 * t' by omega, show 31 + 6 * (8 + t - 8) = 31 + 6 * t by omega] at x
    exact x
  · have x := q4 0 (by first | decide | omega)
    rw [show 13 + 3 * (8 + t' - 8) + 0 = 12 + 3 * t' + 1 by omega, show 13 + 3 * (8 + t - 8) + 0 = 12 + 3 * t + 1 by omega] at x
    exact x
  · have x := q5 0 j (by first | decide | omega) hj
    rw [show 20 + 3 * (8 + t' - 8) + 0 = 19 + 3 * t' + 1 by omega, show 20 + 3 * (8 + t - 8) + 0 = 19 + 3 * t + 1 by omega] at x
    exact x
theorem sd_LQ_x {M : pz_M} (h : sd_LQ 0 60 M) : ∃ (ls : List pz_lne) (l1 : List (List Int)), sd_tx M ls l1 ∧ sd_tm (M 60) ls l1 := by
  obtain ⟨ls, l1, ⟨x1, x2, x3, x4⟩, p1, p2, p3⟩ := h
  exact ⟨ls, l1, ⟨x1, x4, p1, p3⟩, x2, x4, p2, p3⟩
/-- THE LAW told anew -/
theorem sd_RT_ln {M M1 M2 : pz_M} {k v v' : Int} (hI : pz_ic M) (hR : pz_RV M) (h : pq_te k (M 71 3) M M1 v) (z : pq_pr pq_Pt M M1) (h' : pq_tx k M1 M2 v') (k0 : k = 0) : (∃ ls : List pz_lne, (∀ q ∈ ls, pv_ln q) ∧ (∃ T X : Nat → Int, pz_gl T X 0 0 (.ok ls)) ∧ pq_lt ls M1 ∧ (∀ b j : Nat, (13 ≤ b ∧ b ≤ 15) ∨ (20 ≤ b ∧ b ≤ 22) → M1 b j = M b j) ∧ pq_wlw ls (M2 60) ∧ ∀ j : Nat, ¬ pq_wf 0 j → M2 60 j = M1 60 j) ∨ ((∀ b j : Nat, pq_xc b → M1 b j = M b j) ∧ ∀ j : Nat, M2 60 j = M1 60 j) := by
  have i4 := hI.2.2.2.2.1
  have by9 := pz_TP_byt hI hR.2.1
  have e67 : M1 67 = M 67 := funext fun j => z.2 67 j (by unfold pq_Pt; first | decide | omega)
  have e16 : M1 1 16 = M 4 1 := (z.2 1 16 (by unfold pq_Pt; first | decide | omega)).trans hR.2.1.1.symm
  have tT : pq_TM M1 = pz_T (M 67) (M 4 1).toNat := by
    unfold pq_TM
    rw [e67, e16]
  have tX : pq_XM M1 = pz_XV (M 67) (M 4 1).toNat := by
    unfold pq_XM
    rw [e67, e16]
  have tb : pz_tb M1 := fun i hi => by
    rw [e67, (hR.2.1.2 i (by rw [← e16]; exact hi)).2]
    exact Int.emod_nonneg _ (by decide)
  have ag : ∀ c, pz_T (M 48) (M 4 1).toNat c = 101 → pz_agr c (pz_T (M 48) (M 4 1).toNat) (pz_XV (M 48) (M 4 1).toNat) (pq_TM M1) (pq_XM M1) := fun c hc => ⟨hc, fun i _ => by
    rw [tT, tX]
    exact ⟨(pz_T_cg by9 i).symm, fun y => (pz_X_cg by9 y).symm⟩⟩
  have hX : ∀ i, pq_TM M1 i = 100 → 0 ≤ pq_XM M1 i := fun i q => by
    rw [tT] at q
    rw [tX]
    exact pz_XV_0 q
  obtain ⟨x1, x2, x3⟩ := h' tb
  obtain ⟨h1, h2, h3⟩ := h
  obtain ⟨c, T, X, a, b⟩ := h1 k0
  have A := pz_agr_c a (ag c a.1)
  rcases b with ⟨ls, b1, b2, b3, b4, b5, b6⟩ | ⟨f, j, b1, b2, b3, b4, b5⟩
  · have D := pz_gl_det A b1 (Nat.zero_le _)
    rcases x1 k0 with ⟨ls', y1, y2, y3, y4, y5, y6⟩ | ⟨f', j', y1, y2, y3, y4, -⟩
    · have d := Sum.inl.inj (D _ y1)
      subst d
      subst k0
      exact Or.inl ⟨_, pv_gl_q hX y1 _ rfl, ⟨_, _, b1⟩, b5, b6, y5, y6⟩
    · have d := D _ y1
      cases d
  · have D := pz_gl_det A b1 (Nat.zero_le _)
    rcases x1 k0 with ⟨ls', y1, y2, y3, y4, -⟩ | ⟨f', j', y1, y2, y3, y4, y5⟩
    · have d := D _ y1
      cases d
    · exact Or.inr ⟨b5, y5⟩
theorem sd_LQ_text {M M1 M2 : pz_M} {k v v' : Int} (hI : pz_ic M) (hI1 : pz_ic M1) (hR : pz_RV M) (h : pq_te k (M 71 3) M M1 v) (z : pq_pr pq_Pt M M1) (h' : pq_tx k M1 M2 v') (z' : pz_rl pz_QT M1 M2) (q : sd_LQ 0 60 M) : sd_LQ 0 60 M2 := by
  have m2 : ∀ b j, pz_xcl 0 b → M2 b j = M1 b j := fun b j y => z'.2 b j (by unfold pz_xcl at y; unfold pz_QT; omega)
  have e60 : ∀ j, M1 60 j = M 60 j := fun j => z.2 60 j (by unfold pq_Pt; first | decide | omega)
  have same : (∀ b j : Nat, pq_xc b → M1 b j = M b j) → (∀ j : Nat, M2 60 j = M1 60 j) → sd_LQ 0 60 M2 := fun c1 c2 => sd_LQ_cg q (fun b j y => (m2 b j y).trans (c1 b j (by unfold pz_xcl at y; unfold pq_xc; omega))) (fun j _ => (c2 j).trans (e60 j))
  obtain ⟨ls, l1, ⟨x1, x2, x3, x4⟩, p1, p2, n, p3⟩ := id q
  by_cases k0 : k = 0
  · rcases sd_RT_ln hI hR h z h' k0 with ⟨ls', g1, g2, ⟨c1, c2, c3, c4⟩, c5, c6, c7⟩ | ⟨c1, c2⟩
    · have i1 := hI1.2.2.2.1 10 (by first | decide | omega) (by first | decide | omega)
      have x0 : pz_lok ls' := ⟨by omega, by omega, g2⟩
      have fc : ∀ b j, (13 ≤ b ∧ b ≤ 15) ∨ (20 ≤ b ∧ b ≤ 22) → M2 b j = M b j := fun b j y => (m2 b j (by unfold pz_xcl; first | decide | omega)).trans (c5 b j y)
      refine ⟨ls', l1, ⟨⟨?_, ?_, fun i hi => ?_, fun i hi => ?_⟩, c6, x0, g1⟩, pq_rtx_mv p3.1 p1 (fc _ _ (by first | decide | omega)) (fun j _ => fc _ j (by first | decide | omega)), pq_wp_mv p3.1 p2 (fun j y _ => (c7 j (by unfold pq_wf at y ⊢; omega)).trans (e60 j)), n, p3⟩
      · exact (m2 10 0 (by unfold pz_xcl; first | decide | omega)).trans c1
      · exact (m2 10 1 (by unfold pz_xcl; first | decide | omega)).trans c2
      · exact (m2 31 i (by unfold pz_xcl; first | decide | omega)).trans (c3 i hi)
      · show pq_l1 ls' i (M2 27 i) (M2 28 i) (M2 29 i) (M2 30 i)
        rw [m2 27 i (by unfold pz_xcl; first | decide | omega), m2 28 i (by unfold pz_xcl; first | decide | omega), m2 29 i (by unfold pz_xcl; first | decide | omega), m2 30 i (by unfold pz_xcl; first | decide | omega)]
        exact c4 i hi
    · exact same c1 c2
  · obtain ⟨-, -, -, c⟩ := pz_RT_cmp hI hR h z h'
    rcases c with ⟨ls', k9, -⟩ | ⟨lr, k3, c1, ⟨c2, c3⟩, c5, c6, c7⟩ | ⟨c1, c2⟩
    · exact absurd k9 k0
    · have fc : ∀ b j, pz_xcl 0 b → b ≠ 12 + k.toNat → b ≠ 19 + k.toNat → M2 b j = M b j := fun b j y y1 y2 => (m2 b j y).trans (c5 b j (by unfold pz_xcl at y; unfold pq_xc; omega) y1 y2)
      have X : pq_ltx 0 ls M2 ∧ pq_wlw ls (M2 60) := ⟨pq_ltx_mv x3 x1 (fun j _ => fc _ j (by unfold pz_xcl; first | decide | omega) (by first | decide | omega) (by first | decide | omega)) (fun k j hk _ => fc _ j (by unfold pz_xcl; first | decide | omega) (by first | decide | omega) (by first | decide | omega)) (fun j _ => fc _ j (by unfold pz_xcl; first | decide | omega) (by first | decide | omega) (by first | decide | omega)), pq_wl_mv x3 x2 (fun j y _ => (c7 j (by unfold pq_wf at y ⊢; omega)).trans (e60 j))⟩
      by_cases k1 : k = 1
      · subst k1
        refine ⟨ls, lr, ⟨X.1, X.2, x3, x4⟩, ⟨?_, fun a b ha hb => ?_⟩, c6.1 rfl, _, c1⟩
        · rw [m2 _ _ (by unfold pz_xcl; first | decide | omega)]
          exact c2
        · rw [m2 _ _ (by unfold pz_xcl; first | decide | omega)]
          exact c3 a b ha hb
      · exact ⟨ls, l1, ⟨X.1, X.2, x3, x4⟩, pq_rtx_mv p3.1 p1 (fc _ _ (by unfold pz_xcl; first | decide | omega) (by first | decide | omega) (by first | decide | omega)) (fun j _ => fc _ j (by unfold pz_xcl; first | decide | omega) (by first | decide | omega) (by first | decide | omega)), pq_wp_mv p3.1 p2 (fun j y _ => (c7 j (by unfold pq_wf at y ⊢; omega)).trans (e60 j)), n, p3⟩
    · exact same c1 c2
def sd_RZ (M : pz_M) : Prop := (M 71 0 = 0 ∧ M 72 0 ≠ 0) ∧ (sd_se M 71 (M 60) ∧ sd_pg M (M 60) ∧ sd_wf (M 60)) ∧ sd_LQ 0 60 M ∧ (∃ L : List (Nat → Int), sd_ck M L ∧ sd_mq M L) ∧ (sd_se M 73 (M 61) ∧ (∀ k : Nat, k < 600 → M 46 k = M 61 (241 + k)) ∧ sd_wf (M 61) ∧ sd_LQ 1 61 M)
def pz_RZ (M : pz_M) : Prop := pz_RX M ∧ sd_RZ M
def sd_rz (b j : Nat) : Prop := b = 71 ∨ (b = 72 ∧ j = 0) ∨ (73 ≤ b ∧ b < 80) ∨ (89 ≤ b ∧ b ≤ 100) ∨ (115 ≤ b ∧ b ≤ 126) ∨ (128 ≤ b ∧ b < 206) ∨ (b = 45 ∧ j < 600) ∨ b = 46 ∨ b = 3 ∨ b = 10 ∨ b = 11 ∨ (13 ≤ b ∧ b ≤ 18) ∨ (20 ≤ b ∧ b ≤ 25) ∨ (27 ≤ b ∧ b ≤ 31) ∨ (33 ≤ b ∧ b ≤ 37) ∨ b = 60 ∨ b = 61 ∨ b = 62 ∨ (b = 1 ∧ j = 4)
/-- the image's part -/
theorem sd_im_cg {M N : pz_M} (h : sd_se M 73 (M 61) ∧ (∀ k : Nat, k < 600 → M 46 k = M 61 (241 + k)) ∧ sd_wf (M 61) ∧ sd_LQ 1 61 M) (e : ∀ b j : Nat, b = 73 ∨ (115 ≤ b ∧ b ≤ 126) ∨ b = 46 ∨ b = 61 ∨ b = 11 ∨ (16 ≤ b ∧ b ≤ 18) ∨ (23 ≤ b ∧ b ≤ 25) ∨ (33 ≤ b ∧ b ≤ 37) → N b j = M b j) : sd_se N 73 (N 61) ∧ (∀ k : Nat, k < 600 → N 46 k = N 61 (241 + k)) ∧ sd_wf (N 61) ∧ sd_LQ 1 61 N := by
  obtain ⟨h1, h2, h3, h4⟩ := h
  have w : N 61 = M 61 := funext fun j => e 61 j (by first | decide | omega)
  have m := h3.1
  rw [w]
  exact ⟨sd_se_cg h1 (fun b j q => e b j (by unfold pz_lb at q; first | decide | omega)) (by first | decide | omega), fun k hk => (e 46 k (by first | decide | omega)).trans (h2 k hk), h3, sd_LQ_cg h4 (fun b j y => e b j (by unfold pz_xcl at y; first | decide | omega)) (fun j _ => e 61 j (by first | decide | omega))⟩
theorem sd_RZ_cg {M N : pz_M} (h : sd_RZ M) (e : ∀ b j : Nat, sd_rz b j → N b j = M b j) : sd_RZ N := by
  obtain ⟨h1, ⟨h2, h3, h4⟩, h5, ⟨L, h6, h7⟩, h8⟩ := h
  have w : N 60 = M 60 := funext fun j => e 60 j (by unfold sd_rz; first | decide | omega)
  have m := h4.1
  refine ⟨?_, ?_, sd_LQ_cg h5 (fun b j y => e b j (by unfold pz_xcl at y; unfold sd_rz; omega)) (fun j _ => e 60 j (by unfold sd_rz; first | decide | omega)), ⟨L, sd_ck_cg h6 (fun b j y => e b j (by unfold sd_rz; first | decide | omega)), sd_mq_cg h7 (e 1 4 (by unfold sd_rz; first | decide | omega)) (fun j => e 62 j (by unfold sd_rz; first | decide | omega)) (fun j _ => e 60 j (by unfold sd_rz; first | decide | omega))⟩, sd_im_cg h8 (fun b j y => e b j (by unfold sd_rz; first | decide | omega))⟩
  · rw [e 71 0 (by unfold sd_rz; first | decide | omega), e 72 0 (by unfold sd_rz; first | decide | omega)]
    exact h1
  · rw [w]
    exact ⟨sd_se_cg h2 (fun b j q => e b j (by unfold pz_lb at q; unfold sd_rz; omega)) (by first | decide | omega), fun k hk => (e 45 k (by unfold sd_rz; first | decide | omega)).trans (h3 k hk), h4⟩
theorem pq_pr.gst {M M' : pz_M} (h : pq_pr pq_Pg M M') : pz_st M M' := ⟨⟨h.1, fun b j q => h.2 b j (by unfold pz_md pz_kx pz_mid at q; unfold pq_Pg pq_Pk pq_Pw; omega)⟩, h.2 4 1 (by unfold pq_Pg pq_Pk pq_Pw; first | decide | omega), h.2 5 9 (by unfold pq_Pg pq_Pk pq_Pw; first | decide | omega)⟩
theorem pz_rl.vsk {M M' : pz_M} (h : pz_rl pz_QV M M') : pz_sk M M' := (pz_rl.sm (by intro b j q; unfold pz_QV at q; unfold pz_mn pz_mid; omega) h).1
theorem pz_rl.xsk {M M' : pz_M} (h : pz_rl pz_QX M M') : pz_sk M M' := (pz_rl.sm (by intro b j q; unfold pz_QX at q; unfold pz_mn pz_mid; omega) h).1
theorem pz_rl.gsk {M M' : pz_M} (h : pz_rl pz_QG M M') : pz_sk M M' := (pz_rl.sm (by intro b j q; unfold pz_QG at q; unfold pz_mn pz_mid; omega) h).1
theorem pz_rl.ksk {M M' : pz_M} (h : pz_rl pz_QK M M') : pz_sk M M' := (pz_rl.sm (by intro b j q; unfold pz_QK at q; unfold pz_mn pz_mid; omega) h).1
theorem pz_RZ_k {M N : pz_M} (hI : pz_ic M) (h : pz_RZ M) (hs : pq_pr pq_Pk M N) : pz_RZ N := ⟨pz_RX_sW hI h.1 hs.kpg.gst.sw, sd_RZ_cg h.2 (fun b j y => hs.2 b j (by unfold sd_rz at y; unfold pq_Pk pq_Pw; omega))⟩
theorem pz_RZ_v {M N : pz_M} (h : pz_RZ M) (hs : pz_rl pz_QV M N) : pz_RZ N := ⟨pz_RX_sk h.1 hs.vsk, sd_RZ_cg h.2 (fun b j y => hs.2 b j (by unfold sd_rz at y; unfold pz_QV; omega))⟩
theorem pz_RZ_feed {M M1 M2 : pz_M} {p q w s u v v' : Int} (hI : pz_ic M) (hR : pz_RZ M) (h : (M 4 1 + 20 ≤ 400 ∧ v = M 4 1 + 20 ∧ M1 4 1 = M 4 1 + 20 ∧ pz_fb M M1 p q w s u) ∨ (¬ M 4 1 + 20 ≤ 400 ∧ v = -1 ∧ M1 = M)) (z : pq_pr pq_Pf M M1)
    (h' : (M1 1 16 + 20 ≤ 400 ∧ v' = M1 1 16 + 20 ∧ M2 1 16 = M1 1 16 + 20 ∧ pz_fm M1 M2 20 p q w s u) ∨ (¬ M1 1 16 + 20 ≤ 400 ∧ v' = -1 ∧ M2 = M1)) (z' : pz_rl pz_QF M1 M2) : v = v' ∧ pz_RZ M2 := by
  obtain ⟨e, r⟩ := pz_RX_feed hI hR.1 h z h' z'
  exact ⟨e, r, sd_RZ_cg hR.2 (fun b j y => (z'.2 b j (by unfold sd_rz at y; unfold pz_QF; omega)).trans (z.2 b j (by unfold sd_rz at y; unfold pq_Pf; omega)))⟩
def pq_Pe (b j : Nat) : Prop := b = 4 ∧ j = 1
def pz_QN (b j : Nat) : Prop := b = 1 ∧ j = 16
theorem pz_RZ_end {M M1 M2 : pz_M} {n v v' : Int} (hI : pz_ic M) (hR : pz_RZ M) (h : if 0 ≤ n ∧ n ≤ M 4 1 then v = 1 ∧ M1 4 1 = n else v = 0 ∧ M1 4 1 = M 4 1) (z : pq_pr pq_Pe M M1) (h' : if 0 ≤ n ∧ n ≤ M1 1 16 then v' = 1 ∧ M2 1 16 = n else v' = 0 ∧ M2 1 16 = M1 1 16) (z' : pz_rl pz_QN M1 M2) : v = v' ∧ pz_RZ M2 := by
  obtain ⟨e, r⟩ := pz_RX_end hI hR.1 h ⟨z.1, fun b j q => z.2 b j (by unfold pz_md pz_kx pz_mid at q; unfold pq_Pe; omega)⟩ h' ⟨z'.1, fun b j q => z'.2 b j (by unfold pz_mn pz_mid at q; unfold pz_QN; omega)⟩
  exact ⟨e, r, sd_RZ_cg hR.2 (fun b j y => (z'.2 b j (by unfold sd_rz at y; unfold pz_QN; omega)).trans (z.2 b j (by unfold sd_rz at y; unfold pq_Pe; omega)))⟩
/-- a deed, on both sides -/
theorem sd_RZ_d {M M1 M2 : pz_M} {G : Nat → Int} {L : List (Nat → Int)} (hR : sd_RZ M) (f1 : pq_pr pq_Pz M M1) (s : sd_se M1 71 G) (p : sd_pg M1 G) (w : sd_wf G) (k : sd_ck M1 L) (f2 : pz_rl pz_QX M1 M2) (e : M2 60 = G) (m : sd_mq M2 L) : sd_RZ M2 := by
  obtain ⟨h1, -, h5, -, h8⟩ := hR
  have c : ∀ b j : Nat, b ≠ 60 → b ≠ 68 → b ≠ 69 → b ≠ 62 → b ≠ 1 → M2 b j = M1 b j := fun b j q1 q2 q3 q4 q5 => f2.2 b j (by unfold pz_QX; first | decide | omega)
  have c1 : ∀ b j : Nat, ¬ pq_Pz b j → ¬ pz_QX b j → M2 b j = M b j := fun b j q1 q2 => (f2.2 b j q2).trans (f1.2 b j q1)
  have n9 := w.1
  refine ⟨?_, ?_, sd_LQ_cg h5 (fun b j y => c1 b j (by unfold pz_xcl at y; unfold pq_Pz pq_Pd pq_Pw pz_lb; omega) (by unfold pz_xcl at y; unfold pz_QX; omega)) (fun j y => c1 60 j (by unfold pq_Pz pq_Pd pq_Pw pz_lb; first | decide | omega) (by unfold pz_xv at y; unfold pz_QX; omega)), ⟨L, sd_ck_cg k (fun b j y => c b j (by first | decide | omega) (by first | decide | omega) (by first | decide | omega) (by first | decide | omega) (by first | decide | omega)), m⟩, sd_im_cg h8 (fun b j y => c1 b j (by unfold pq_Pz pq_Pd pq_Pw pz_lb; first | decide | omega) (by unfold pz_QX; first | decide | omega))⟩
  · rw [c1 71 0 (by unfold pq_Pz pq_Pd pq_Pw pz_lb; first | decide | omega) (by unfold pz_QX; first | decide | omega), c1 72 0 (by unfold pq_Pz pq_Pd pq_Pw pz_lb; first | decide | omega) (by unfold pz_QX; first | decide | omega)]
    exact h1
  · rw [e]
    exact ⟨sd_se_cg s (fun b j q => c b j (by unfold pz_lb at q; first | decide | omega) (by unfold pz_lb at q; first | decide | omega) (by unfold pz_lb at q; first | decide | omega) (by unfold pz_lb at q; first | decide | omega) (by unfold pz_lb at q; first | decide | omega)) (by first | decide | omega), fun k hk => (c 45 k (by first | decide | omega) (by first | decide | omega) (by first | decide | omega) (by first | decide | omega) (by first | decide | omega)).trans (p k hk), w⟩
theorem sd_sW_60 {M M1 : pz_M} (z : pz_sW M M1) {b : Nat} (hb : pz_mid b) : M1 b = M b := funext fun j => z.1.2.1 b j (Or.inl hb)
theorem pz_RZ_deed {M M1 M2 : pz_M} {v v' d : Int} {P : (Nat → Int) → Prop} {A : List pz_lne → (Nat → Int) → Int} {g : List pz_lne → (Nat → Int) → (Nat → Int)} (hI : pz_ic M) (h : pz_RZ M) (q : sd_da M M1 v d P A g) (z : pz_sW M M1) (q' : sd_ma M1 M2 v' d P A g) (z' : pz_rl pz_QX M1 M2) : v = v' ∧ pz_RZ M2 := by
  have r9 : pz_RX M2 := pz_RX_sk (pz_RX_sW hI h.1 z) z'.xsk
  obtain ⟨h1, ⟨h2, h3, h4⟩, h5, ⟨L, h6, h7⟩, h8⟩ := id h.2
  have w60 : M1 60 = M 60 := sd_sW_60 z (by unfold pz_mid; first | decide | omega)
  have w62 : M1 62 = M 62 := sd_sW_60 z (by unfold pz_mid; first | decide | omega)
  have w1 : M1 1 = M 1 := sd_sW_60 z (by unfold pz_mid; first | decide | omega)
  obtain ⟨a1, a2⟩ := q (M 60) h2 h4
  obtain ⟨b1, b2⟩ := q'
  rw [w60] at b1 b2
  by_cases hp : P (M 60)
  · obtain ⟨f, a3⟩ := a2 hp
    obtain ⟨ls, l1, t1, t2⟩ := sd_LQ_x h5
    obtain ⟨c1, c2, c3, c4⟩ := a3 ls l1 t1 h3 h1.1
    obtain ⟨⟨k4, kW⟩, b3⟩ := b2 hp
    obtain ⟨d1, d2⟩ := b3 ls t2.1 t2.2.1 h4
    have f1 : pq_pr pq_Pz M M1 := ⟨z.1.1, fun b j y => (f.2 b j (fun x => y (Or.inl x))).trans (sd_kf_o hI (fun x => y (Or.inr x)))⟩
    have k : sd_ck M1 ((M 60 :: L).take 6) := sd_ck_d (sd_ck_kf hI h6 h2 h4) f
    have m1 : sd_mq M1 L := sd_mq_cg h7 (congrFun w1 4) (congrFun w62) (fun j _ => congrFun w60 j)
    have m : sd_mq M2 ((M1 60 :: L).take 6) := sd_mq_k m1 h6.2.1 k4 kW (fun j j1 => z'.2 60 j (by unfold pz_QX; first | decide | omega))
    rw [w60] at m
    exact ⟨c1.trans d1.symm, r9, sd_RZ_d h.2 f1 c2 c3 c4 k z' d2 m⟩
  · obtain ⟨c1, c2⟩ := a1 hp
    obtain ⟨d1, d2⟩ := b1 hp
    refine ⟨c1.trans d1.symm, ?_⟩
    rw [d2, c2]
    exact h
theorem pz_RZ_days {M M1 M2 : pz_M} {n v v' : Int} (hI : pz_ic M) (h : pz_RZ M) (q : sd_dc M M1 n v) (z : pz_sW M M1) (q' : sd_dm M1 M2 n v') (z' : pz_rl pz_QX M1 M2) : v = v' ∧ pz_RZ M2 := by
  have r9 : pz_RX M2 := pz_RX_sk (pz_RX_sW hI h.1 z) z'.xsk
  obtain ⟨h1, ⟨h2, h3, h4⟩, h5, ⟨L, h6, h7⟩, h8⟩ := id h.2
  have w60 : M1 60 = M 60 := sd_sW_60 z (by unfold pz_mid; first | decide | omega)
  have w62 : M1 62 = M 62 := sd_sW_60 z (by unfold pz_mid; first | decide | omega)
  have w1 : M1 1 = M 1 := sd_sW_60 z (by unfold pz_mid; first | decide | omega)
  obtain ⟨a1, a2⟩ := q (M 60) h2 h4
  obtain ⟨b1, b2⟩ := q'
  rw [w60] at b1 b2
  by_cases hp : sd_dn (M 60) n
  · obtain ⟨f1, a3⟩ := a2 hp
    obtain ⟨ls, l1, t1, t2⟩ := sd_LQ_x h5
    obtain ⟨c1, c2, c3, c4, c5⟩ := a3 ls l1 L t1 h3 h1.1 h6
    have m1 : sd_mq M1 L := sd_mq_cg h7 (congrFun w1 4) (congrFun w62) (fun j _ => congrFun w60 j)
    obtain ⟨d1, d2, d3⟩ := b2 hp ls l1 L t2 h4 m1 h6.2.1
    exact ⟨c1.trans d1.symm, r9, sd_RZ_d h.2 f1 c2 c3 c4 c5 z' d2 d3⟩
  · obtain ⟨c1, c2⟩ := a1 hp
    obtain ⟨d1, d2⟩ := b1 hp
    refine ⟨c1.trans d1.symm, ?_⟩
    rw [d2, c2]
    exact h
theorem pz_RZ_state {M M1 M2 : pz_M} {n v v' : Int} (hI : pz_ic M) (h : pz_RZ M) (q : v = M 71 6 ∧ M1 = pz_u (pz_u M 71 6 n) 3 2 0) (z : pz_sW M M1) (q' : v' = M1 60 2 ∧ M2 = pz_u (pz_u M1 60 2 n) 1 4 0) (z' : pz_rl pz_QX M1 M2) : v = v' ∧ pz_RZ M2 := by
  have r9 : pz_RX M2 := pz_RX_sk (pz_RX_sW hI h.1 z) z'.xsk
  obtain ⟨h1, ⟨h2, h3, h4⟩, h5, -, h8⟩ := id h.2
  have w60 : M1 60 = M 60 := sd_sW_60 z (by unfold pz_mid; first | decide | omega)
  have n9 := h4.1
  have e : M2 60 = sd_u (M 60) 2 n := by
    rw [q'.2, sd_uo (by decide), sd_um, w60]
  refine ⟨?_, r9, sd_RZ_d (G := sd_u (M 60) 2 n) (L := []) h.2 ⟨z.1.1, fun b j y => ?_⟩ ?_ (fun k hk => ?_) (sd_wf_cg h4 (fun k hk => sd_un (by first | decide | omega)) (by rw [sd_un (by decide)]; exact h4.2.1)) (sd_ck_0 (by rw [q.2]; exact pz_uu)) z' e (sd_mq_0 (by rw [q'.2]; exact pz_uu))⟩
  · rw [q.1, q'.1, w60]
    exact h2.2.2.2.1
  · unfold pq_Pz pq_Pd pq_Pw at y
    rw [q.2, pz_una (by first | decide | omega), pz_une (by first | decide | omega)]
  · rw [q.2]
    exact sd_se_cg (sd_se_c (k := 2) (f := 6) (by first | decide | omega) h2 (by first | decide | omega) ⟨by decide, rfl⟩) (fun b j y => pz_una (by unfold pz_lb at y; first | decide | omega)) (by rw [sd_un (by decide)]; omega)
  · rw [q.2, pz_una (by decide), pz_una (by decide), sd_un (by first | decide | omega)]
    exact h3 k hk
theorem pz_RZ_undo {M M1 M2 : pz_M} {v v' : Int} (hI : pz_ic M) (h : pz_RZ M) (q : (M 3 2 = 0 ∧ v = 0 ∧ M1 = M) ∨ (M 3 2 ≠ 0 ∧ v = 1 ∧ M1 = pz_bf M)) (z : pz_sW M M1) (q' : (M1 1 4 = 0 ∧ v' = 0 ∧ M2 = M1) ∨ (M1 1 4 ≠ 0 ∧ v' = 1 ∧ M2 1 4 = M1 1 4 - 1 ∧ M2 60 = sd_kF M1 (M1 1 4 - 1).toNat)) (z' : pz_rl pz_QK M1 M2) : v = v' ∧ pz_RZ M2 := by
  have r9 : pz_RX M2 := pz_RX_sk (pz_RX_sW hI h.1 z) z'.ksk
  obtain ⟨h1, ⟨h2, h3, h4⟩, h5, ⟨L, h6, h7⟩, h8⟩ := id h.2
  have w60 : M1 60 = M 60 := sd_sW_60 z (by unfold pz_mid; first | decide | omega)
  have w62 : M1 62 = M 62 := sd_sW_60 z (by unfold pz_mid; first | decide | omega)
  have w1 : M1 1 4 = M 1 4 := congrFun (sd_sW_60 z (by unfold pz_mid; first | decide | omega)) 4
  have l1 := h6.1
  have l2 := h7.1
  rcases q with ⟨a1, a2, a3⟩ | ⟨a1, a2, a3⟩
  · rcases q' with ⟨b1, b2, b3⟩ | ⟨b1, b2, b3, b4⟩
    · refine ⟨by omega, ?_⟩
      rw [b3, a3]
      exact h
    · omega
  · rcases q' with ⟨b1, b2, b3⟩ | ⟨b1, b2, b3, b4⟩
    · omega
    · rcases L with _ | ⟨F, L⟩
      · have : (([] : List (Nat → Int)).length : Int) = 0 := rfl
        omega
      · obtain ⟨k1, k2, k3⟩ := sd_ck_bf hI h6
        rw [← a3] at k1 k2
        have m1 : sd_mq M1 (F :: L) := sd_mq_cg h7 w1 (congrFun w62) (fun j _ => congrFun w60 j)
        obtain ⟨m2, m3⟩ := sd_mq_u m1 b3 b4 (fun j => z'.2 62 j (by unfold pz_QK; first | decide | omega))
        have bo : ∀ b j : Nat, b ≠ 3 → ¬ (b = 71 ∧ 3 ≤ j ∧ j < 8) → b < 89 ∨ 101 ≤ b → M1 b j = M b j := fun b j y1 y2 y3 => by
          rw [a3]
          by_cases x : b = 71
          · rw [x]
            unfold pz_bf pz_tf pz_tn
            rw [if_neg (by unfold pz_lb; first | decide | omega), if_neg (by first | decide | omega), pz_una (by decide), pz_una (by decide)]
          · exact pz_bf_o (by first | decide | omega) x y3
        have c : ∀ b j : Nat, b ≠ 60 → b ≠ 1 → M2 b j = M1 b j := fun b j y1 y2 => z'.2 b j (by unfold pz_QK; first | decide | omega)
        have hi60 : ∀ j : Nat, 88 ≤ j → M2 60 j = M 60 j := fun j hj => (z'.2 60 j (by unfold pz_QK; first | decide | omega)).trans (congrFun w60 j)
        have n9 := k3.1
        refine ⟨by omega, r9, ?_, ⟨?_, fun k hk => ?_, ?_⟩, sd_LQ_cg h5 (fun b j y => (c b j (by unfold pz_xcl at y; first | decide | omega) (by unfold pz_xcl at y; first | decide | omega)).trans (bo b j (by unfold pz_xcl at y; first | decide | omega) (by unfold pz_xcl at y; first | decide | omega) (by unfold pz_xcl at y; first | decide | omega))) (fun j y => hi60 j (by unfold pz_xv at y; first | decide | omega)), ⟨L, sd_ck_cg k1 (fun b j y => c b j (by first | decide | omega) (by first | decide | omega)), m2⟩, sd_im_cg h8 (fun b j y => (c b j (by first | decide | omega) (by first | decide | omega)).trans (bo b j (by first | decide | omega) (by first | decide | omega) (by first | decide | omega)))⟩
        · rw [c 71 0 (by first | decide | omega) (by first | decide | omega), c 72 0 (by first | decide | omega) (by first | decide | omega), bo 71 0 (by first | decide | omega) (by first | decide | omega) (by first | decide | omega), bo 72 0 (by first | decide | omega) (by first | decide | omega) (by first | decide | omega)]
          exact h1
        · exact sd_se_f (sd_se_cg k2 (fun b j y => c b j (by unfold pz_lb at y; first | decide | omega) (by unfold pz_lb at y; first | decide | omega)) (by first | decide | omega)) (fun k hk => m3 k (by first | decide | omega)) (by first | decide | omega)
        · rw [c 45 k (by first | decide | omega) (by first | decide | omega), bo 45 k (by first | decide | omega) (by first | decide | omega) (by first | decide | omega), hi60 _ (by first | decide | omega)]
          exact h3 k hk
        · exact sd_wf_cg k3 (fun k hk => m3 k (by first | decide | omega)) (by rw [m3 3 (by first | decide | omega)]; exact k3.2.1)
end
section
theorem pz_RZ_goes {M M1 M2 : pz_M} {n w v v' : Int} (hI : pz_ic M) (h : pz_RZ M) (q : sd_gc M M1 n w v) (z : pq_pr pq_Pg M M1) (q' : sd_gm M1 M2 n w v') (z' : pz_rl pz_QG M1 M2) : v = v' ∧ pz_RZ M2 := by
  have r9 : pz_RX M2 := pz_RX_sk (pz_RX_sW hI h.1 z.gst.sw) z'.gsk
  obtain ⟨h1, ⟨h2, h3, h4⟩, h5, ⟨L, h6, h7⟩, h8⟩ := id h.2
  have w60 : M1 60 = M 60 := funext fun j => z.2 60 j (by unfold pq_Pg pq_Pk pq_Pw; first | decide | omega)
  obtain ⟨ls, l1, t1, t2⟩ := sd_LQ_x h5
  obtain ⟨a1, a2⟩ := q
  obtain ⟨a3, a4⟩ := a2 ls l1 (M 60) t1 h2 h3 h4 h1.2
  have k1 : sd_RZ M1 := sd_RZ_cg h.2 (fun b j y => by
    by_cases x : b = 45
    · rw [x]
      exact a4 j (by unfold sd_rz at y; first | decide | omega)
    · exact z.2 b j (by unfold sd_rz at y; unfold pq_Pg pq_Pk pq_Pw; omega))
  obtain ⟨b1, b2⟩ := q'
  rw [w60] at b2
  by_cases hq : sd_gq n w
  · obtain ⟨c1, c2⟩ := b2 hq ls l1 t2 h4
    refine ⟨(a3 hq).trans c1.symm, r9, sd_RZ_cg k1 (fun b j y => ?_)⟩
    by_cases x : b = 60
    · rw [x, c2, w60]
    · exact z'.2 b j (by unfold sd_rz at y; unfold pz_QG; omega)
  · obtain ⟨c1, c2⟩ := b1 hq
    rw [c2] at r9 ⊢
    exact ⟨(a1 hq).trans c1.symm, r9, k1⟩
/-! a new LINK -/
theorem sd_uk {M : pz_M} {a k j : Nat} {v : Int} : pz_u M a k v a j = if j = k then v else M a j := by
  by_cases h : j = k
  · rw [if_pos h]
    exact pz_ue ⟨rfl, h⟩
  · rw [if_neg h]
    exact pz_unk h
theorem sd_lkm_at {M : pz_M} {p q w s : Int} {j : Nat} : pz_lkm p q w s M 60 j = if j = 88 then M 60 88 + 1 else if j = 106 + 2 * (M 60 88).toNat then 240 else if j = 105 + 2 * (M 60 88).toNat then 0 else if j = 76 + (M 60 88).toNat then -1 else if j = 64 + (M 60 88).toNat then 0 else if j = 52 + (M 60 88).toNat then 0 else if j = 40 + (M 60 88).toNat then 0 else if j = 93 + (M 60 88).toNat then s else if j = 28 + (M 60 88).toNat then w else if j = 16 + (M 60 88).toNat then q else if j = 4 + (M 60 88).toNat then p else M 60 j := by
  unfold pz_lkm
  rw [pz_una (by decide), sd_uk, sd_uk, sd_uk, sd_uk, sd_uk, sd_uk, sd_uk, sd_uk, sd_uk, sd_uk, sd_uk]
theorem sd_mkl_at {M : pz_M} {c j : Nat} {p q w z : Int} : pz_mkl c p q w z M c j = if j = 7 then -1 else if j = 6 then 0 else if j = 5 then 0 else if j = 4 then 0 else if j = 3 then z else if j = 2 then w else if j = 1 then q else if j = 0 then p else M c j := by
  unfold pz_mkl
  rw [sd_uk, sd_uk, sd_uk, sd_uk, sd_uk, sd_uk, sd_uk, sd_uk]
theorem sd_lkm_n {N : Nat} {M : pz_M} {p q w s : Int} {j : Nat} (hN : (M 60 88).toNat = N) (h : j ≠ 88 ∧ j ≠ 106 + 2 * N ∧ j ≠ 105 + 2 * N ∧ j ≠ 76 + N ∧ j ≠ 64 + N ∧ j ≠ 52 + N ∧ j ≠ 40 + N ∧ j ≠ 93 + N ∧ j ≠ 28 + N ∧ j ≠ 16 + N ∧ j ≠ 4 + N) : pz_lkm p q w s M 60 j = M 60 j := by
  obtain ⟨a1, a2, a3, a4, a5, a6, a7, a8, a9, b1, b2⟩ := h
  rw [sd_lkm_at, hN, if_neg a1, if_neg a2, if_neg a3, if_neg a4, if_neg a5, if_neg a6, if_neg a7, if_neg a8, if_neg a9, if_neg b1, if_neg b2]
theorem sd_link_se {M : pz_M} {p q w s : Int} (hF : sd_se M 71 (M 60)) (hW : sd_wf (M 60)) (h12 : M 60 88 < 12) : sd_se (pz_lkf p q w s M) 71 (pz_lkm p q w s M 60) ∧ (sd_pg M (M 60) → sd_pg (pz_lkf p q w s M) (pz_lkm p q w s M 60)) := by
  obtain ⟨a1, a2, a3, a4, a5, a6⟩ := hF
  have m := hW.1
  obtain ⟨N, hN⟩ : ∃ N : Nat, (M 60 88).toNat = N := ⟨_, rfl⟩
  have hN2 : (M 71 3).toNat = N := by rw [a1]; exact hN
  have N12 : N < 12 := by omega
  have o : ∀ b j : Nat, b ≠ 3 → b ≠ 7 → ¬ (b = 71 ∧ j = 3) → b ≠ 89 + N → pz_lkf p q w s M b j = M b j := fun b j y1 y2 y3 y4 => by
    unfold pz_lkf
    rw [pz_una y2, pz_una y1, pz_une y3]
    exact pz_mkl_o (by first | decide | omega)
  have z : ∀ k : Nat, k < 4 → pz_lkm p q w s M 60 k = M 60 k := fun k hk => sd_lkm_n hN (by first | decide | omega)
  refine ⟨⟨?_, ?_, ?_, ?_, ?_, fun i f hi hf => ?_⟩, fun hP k hk => ?_⟩
  · rw [pz_lkm_88]
    unfold pz_lkf
    rw [pz_una (by decide), pz_una (by decide), pz_uu, a1]
  · rw [o 71 4 (by first | decide | omega) (by first | decide | omega) (by first | decide | omega) (by first | decide | omega), z 0 (by first | decide | omega)]; exact a2
  · rw [o 71 5 (by first | decide | omega) (by first | decide | omega) (by first | decide | omega) (by first | decide | omega), z 1 (by first | decide | omega)]; exact a3
  · rw [o 71 6 (by first | decide | omega) (by first | decide | omega) (by first | decide | omega) (by first | decide | omega), z 2 (by first | decide | omega)]; exact a4
  · rw [o 71 7 (by first | decide | omega) (by first | decide | omega) (by first | decide | omega) (by first | decide | omega), z 3 (by first | decide | omega)]; exact a5
  · rw [pz_lkm_88] at hi
    have lb : pz_lb 71 = 89 := rfl
    rw [lb] at a6 ⊢
    by_cases c : i = N
    · rw [c]
      unfold pz_lkf
      rw [pz_una (by first | decide | omega), pz_una (by first | decide | omega), pz_una (by first | decide | omega), hN2, sd_mkl_at, sd_lkm_at, hN]
      have hf : f = 0 ∨ f = 1 ∨ f = 2 ∨ f = 3 ∨ f = 4 ∨ f = 5 ∨ f = 6 ∨ f = 7 := by omega
      have key : sd_fo 0 = 4 ∧ sd_fo 1 = 16 ∧ sd_fo 2 = 28 ∧ sd_fo 3 = 93 ∧ sd_fo 4 = 40 ∧ sd_fo 5 = 52 ∧ sd_fo 6 = 64 ∧ sd_fo 7 = 76 := ⟨rfl, rfl, rfl, rfl, rfl, rfl, rfl, rfl⟩
      obtain ⟨k0, k1, k2, k3, k4, k5, k6, k7⟩ := key
      rcases hf with rfl | rfl | rfl | rfl | rfl | rfl | rfl | rfl
      · rw [k0, if_neg (by decide), if_neg (by decide), if_neg (by decide), if_neg (by decide), if_neg (by decide), if_neg (by decide), if_neg (by decide), if_pos rfl, if_neg (by first | decide | omega), if_neg (by first | decide | omega), if_neg (by first | decide | omega), if_neg (by first | decide | omega), if_neg (by first | decide | omega), if_neg (by first | decide | omega), if_neg (by first | decide | omega), if_neg (by first | decide | omega), if_neg (by first | decide | omega), if_neg (by first | decide | omega), if_pos rfl]
      · rw [k1, if_neg (by decide), if_neg (by decide), if_neg (by decide), if_neg (by decide), if_neg (by decide), if_neg (by decide), if_pos rfl, if_neg (by first | decide | omega), if_neg (by first | decide | omega), if_neg (by first | decide | omega), if_neg (by first | decide | omega), if_neg (by first | decide | omega), if_neg (by first | decide | omega), if_neg (by first | decide | omega), if_neg (by first | decide | omega), if_neg (by first | decide | omega), if_pos rfl]
      · rw [k2, if_neg (by decide), if_neg (by decide), if_neg (by decide), if_neg (by decide), if_neg (by decide), if_pos rfl, if_neg (by first | decide | omega), if_neg (by first | decide | omega), if_neg (by first | decide | omega), if_neg (by first | decide | omega), if_neg (by first | decide | omega), if_neg (by first | decide | omega), if_neg (by first | decide | omega), if_neg (by first | decide | omega), if_pos rfl]
      · rw [k3, if_neg (by decide), if_neg (by decide), if_neg (by decide), if_neg (by decide), if_pos rfl, if_neg (by first | decide | omega), if_neg (by first | decide | omega), if_neg (by first | decide | omega), if_neg (by first | decide | omega), if_neg (by first | decide | omega), if_neg (by first | decide | omega), if_neg (by first | decide | omega), if_pos rfl]
      · rw [k4, if_neg (by decide), if_neg (by decide), if_neg (by decide), if_pos rfl, if_neg (by first | decide | omega), if_neg (by first | decide | omega), if_neg (by first | decide | omega), if_neg (by first | decide | omega), if_neg (by first | decide | omega), if_neg (by first | decide | omega), if_pos rfl]
      · rw [k5, if_neg (by decide), if_neg (by decide), if_pos rfl, if_neg (by first | decide | omega), if_neg (by first | decide | omega), if_neg (by first | decide | omega), if_neg (by first | decide | omega), if_neg (by first | decide | omega), if_pos rfl]
      · rw [k6, if_neg (by decide), if_pos rfl, if_neg (by first | decide | omega), if_neg (by first | decide | omega), if_neg (by first | decide | omega), if_neg (by first | decide | omega), if_pos rfl]
      · rw [k7, if_pos rfl, if_neg (by first | decide | omega), if_neg (by first | decide | omega), if_neg (by first | decide | omega), if_pos rfl]
    · have b := sd_fo_b hf (show i < 12 by omega)
      have d : ∀ g : Nat, g < 8 → sd_fo f + i ≠ sd_fo g + N := fun g hg => sd_fo_ne hf hg (by first | decide | omega) N12 (Or.inr c)
      have d0 := d 0 (by first | decide | omega)
      have d1 := d 1 (by first | decide | omega)
      have d2 := d 2 (by first | decide | omega)
      have d3 := d 3 (by first | decide | omega)
      have d4 := d 4 (by first | decide | omega)
      have d5 := d 5 (by first | decide | omega)
      have d6 := d 6 (by first | decide | omega)
      have d7 := d 7 (by first | decide | omega)
      rw [o (89 + i) f (by first | decide | omega) (by first | decide | omega) (by first | decide | omega) (by first | decide | omega), a6 i f (by first | decide | omega) hf]
      exact (sd_lkm_n hN ⟨by omega, by omega, by omega, d7, d6, d5, d4, d3, d2, d1, d0⟩).symm
  · rw [o 45 k (by first | decide | omega) (by first | decide | omega) (by first | decide | omega) (by first | decide | omega), sd_lkm_n hN (by first | decide | omega)]
    exact hP k hk
theorem sd_link_wf {M : pz_M} {p q w s : Int} (hW : sd_wf (M 60)) (h12 : M 60 88 < 12) (hc : (1 ≤ p ∧ p ≤ 999) ∧ (-9999 ≤ q ∧ q ≤ 9999) ∧ (-999 ≤ w ∧ w ≤ 999) ∧ 0 ≤ s ∧ s ≤ 9) : sd_wf (pz_lkm p q w s M 60) := by
  obtain ⟨w1, w2, w3⟩ := hW
  obtain ⟨N, hN⟩ : ∃ N : Nat, (M 60 88).toNat = N := ⟨_, rfl⟩
  have N12 : N < 12 := by omega
  refine ⟨by rw [pz_lkm_88]; omega, by rw [sd_lkm_n hN (by first | decide | omega)]; exact w2, fun i hi => ?_⟩
  rw [pz_lkm_88] at hi
  unfold sd_lw
  rw [pz_lkm_88]
  by_cases c : i = N
  · subst c
    have e0 : pz_lkm p q w s M 60 (4 + i) = p := by
      rw [sd_lkm_at, hN]
      repeat first | rw [if_pos (by first | decide | omega)] | rw [if_neg (by first | decide | omega)]
    have e1 : pz_lkm p q w s M 60 (16 + i) = q := by
      rw [sd_lkm_at, hN]
      repeat first | rw [if_pos (by first | decide | omega)] | rw [if_neg (by first | decide | omega)]
    have e2 : pz_lkm p q w s M 60 (28 + i) = w := by
      rw [sd_lkm_at, hN]
      repeat first | rw [if_pos (by first | decide | omega)] | rw [if_neg (by first | decide | omega)]
    have e3 : pz_lkm p q w s M 60 (93 + i) = s := by
      rw [sd_lkm_at, hN]
      repeat first | rw [if_pos (by first | decide | omega)] | rw [if_neg (by first | decide | omega)]
    have e4 : pz_lkm p q w s M 60 (40 + i) = 0 := by
      rw [sd_lkm_at, hN]
      repeat first | rw [if_pos (by first | decide | omega)] | rw [if_neg (by first | decide | omega)]
    have e5 : pz_lkm p q w s M 60 (52 + i) = 0 := by
      rw [sd_lkm_at, hN]
      repeat first | rw [if_pos (by first | decide | omega)] | rw [if_neg (by first | decide | omega)]
    have e6 : pz_lkm p q w s M 60 (64 + i) = 0 := by
      rw [sd_lkm_at, hN]
      repeat first | rw [if_pos (by first | decide | omega)] | rw [if_neg (by first | decide | omega)]
    rw [e0, e1, e2, e3, e4, e5, e6]
    exact ⟨hc.1, hc.2.1, hc.2.2.1, hc.2.2.2, Or.inl rfl, Or.inl rfl, Or.inl rfl⟩
  · have a := w3 i (by first | decide | omega)
    unfold sd_lw at a
    rw [sd_lkm_n hN (j := 4 + i) (by first | decide | omega), sd_lkm_n hN (j := 16 + i) (by first | decide | omega), sd_lkm_n hN (j := 28 + i) (by first | decide | omega), sd_lkm_n hN (j := 93 + i) (by first | decide | omega), sd_lkm_n hN (j := 40 + i) (by first | decide | omega), sd_lkm_n hN (j := 52 + i) (by first | decide | omega), sd_lkm_n hN (j := 64 + i) (by first | decide | omega)]
    omega
theorem pz_RZ_link {M M1 M2 : pz_M} {p q w s v v' : Int} (hI : pz_ic M) (h : pz_RZ M) (q1 : ((M 71 3 < 12 ∧ (1 ≤ p ∧ p ≤ 999) ∧ (-9999 ≤ q ∧ q ≤ 9999) ∧ (-999 ≤ w ∧ w ≤ 999) ∧ 0 ≤ s ∧ s ≤ 9) ∧ v = M 71 3 ∧ M1 = pz_lkf p q w s M) ∨ (¬ (M 71 3 < 12 ∧ (1 ≤ p ∧ p ≤ 999) ∧ (-9999 ≤ q ∧ q ≤ 9999) ∧ (-999 ≤ w ∧ w ≤ 999) ∧ 0 ≤ s ∧ s ≤ 9) ∧ v = -1 ∧ M1 = M))
    (q2 : ((M1 60 88 < 12 ∧ (1 ≤ p ∧ p ≤ 999) ∧ (-9999 ≤ q ∧ q ≤ 9999) ∧ (-999 ≤ w ∧ w ≤ 999) ∧ 0 ≤ s ∧ s ≤ 9) ∧ v' = M1 60 88 ∧ M2 = pz_lkm p q w s M1) ∨ (¬ (M1 60 88 < 12 ∧ (1 ≤ p ∧ p ≤ 999) ∧ (-9999 ≤ q ∧ q ≤ 9999) ∧ (-999 ≤ w ∧ w ≤ 999) ∧ 0 ≤ s ∧ s ≤ 9) ∧ v' = -1 ∧ M2 = M1)) : v = v' ∧ pz_RZ M2 := by
  obtain ⟨e, r⟩ := pz_RX_link hI h.1 q1 q2
  refine ⟨e, r, ?_⟩
  obtain ⟨h1, ⟨h2, h3, h4⟩, h5, -, h8⟩ := id h.2
  have i1 := hI.1 71 (by first | decide | omega) (by first | decide | omega)
  have n9 := h2.1
  rcases q1 with ⟨⟨a1, a2⟩, -, a3⟩ | ⟨a1, -, a3⟩
  · have w60 : M1 60 = M 60 := funext fun j => by
      rw [a3]
      exact pz_lkf_o (by first | decide | omega)
    rw [w60] at q2
    rcases q2 with ⟨-, -, b3⟩ | ⟨b1, -, b3⟩
    · have E : M2 60 = pz_lkm p q w s M 60 := by
        funext j
        rw [b3, sd_lkm_at, sd_lkm_at, w60]
      obtain ⟨s1, s2⟩ := sd_link_se (p := p) (q := q) (w := w) (s := s) h2 h4 (by first | decide | omega)
      have wf := sd_link_wf (p := p) (q := q) (w := w) (s := s) h4 (by first | decide | omega) a2
      have o : ∀ b j : Nat, b ≠ 60 → ¬ (b = 1 ∧ j = 4) → M2 b j = M1 b j := fun b j y1 y2 => by
        rw [b3]
        exact pz_lkm_o y1 y2
      have o1 : ∀ b j : Nat, b ≠ 3 → b ≠ 7 → ¬ (b = 71 ∧ j = 3) → b < 89 ∨ 101 ≤ b → M1 b j = M b j := fun b j y1 y2 y3 y4 => by
        rw [a3]
        unfold pz_lkf
        rw [pz_una y2, pz_una y1, pz_une y3]
        exact pz_mkl_o (by first | decide | omega)
      have n12 : M 60 88 < 12 := by omega
      have m9 : (pz_lkm p q w s M 60) 88 ≤ 12 := by
        rw [pz_lkm_88]
        omega
      refine ⟨?_, ⟨?_, ?_, by rw [E]; exact wf⟩, sd_LQ_cg h5 (fun b j y => (o b j (by unfold pz_xcl at y; first | decide | omega) (by unfold pz_xcl at y; first | decide | omega)).trans (o1 b j (by unfold pz_xcl at y; first | decide | omega) (by unfold pz_xcl at y; first | decide | omega) (by unfold pz_xcl at y; first | decide | omega) (by unfold pz_xcl at y; first | decide | omega))) ?_, ⟨[], sd_ck_0 ?_, sd_mq_0 ?_⟩, sd_im_cg h8 (fun b j y => (o b j (by first | decide | omega) (by first | decide | omega)).trans (o1 b j (by first | decide | omega) (by first | decide | omega) (by first | decide | omega) (by first | decide | omega)))⟩
      · rw [o 71 0 (by first | decide | omega) (by first | decide | omega), o 72 0 (by first | decide | omega) (by first | decide | omega), o1 71 0 (by first | decide | omega) (by first | decide | omega) (by first | decide | omega) (by first | decide | omega), o1 72 0 (by first | decide | omega) (by first | decide | omega) (by first | decide | omega) (by first | decide | omega)]
        exact h1
      · rw [E]
        rw [← a3] at s1
        exact sd_se_cg s1 (fun b j y => o b j (by unfold pz_lb at y; first | decide | omega) (by unfold pz_lb at y; first | decide | omega)) m9
      · rw [E]
        have s3 := s2 h3
        rw [← a3] at s3
        exact fun k hk => (o 45 k (by first | decide | omega) (by first | decide | omega)).trans (s3 k hk)
      · exact fun j y => by
          rw [E]
          exact sd_lkm_n rfl (by unfold pz_xv at y; first | decide | omega)
      · rw [o 3 2 (by first | decide | omega) (by first | decide | omega), a3]
        unfold pz_lkf
        rw [pz_una (by decide)]
        exact pz_uu
      · rw [b3]
        exact pz_uu
    · omega
  · rcases q2 with ⟨⟨b1, b2⟩, -, b3⟩ | ⟨b1, -, b3⟩
    · rw [a3] at b1
      exact absurd ⟨by omega, b2⟩ a1
    · rw [b3, a3]
      exact h.2
theorem pz_RZ_set {M M1 M2 : pz_M} {w i n v v' : Int} {C : Prop} (hC : C → (w = 0 ∧ 1 ≤ n ∧ n ≤ 999) ∨ (w = 1 ∧ -9999 ≤ n ∧ n ≤ 9999) ∨ (w = 2 ∧ -999 ≤ n ∧ n ≤ 999) ∨ (w = 3 ∧ 0 ≤ n ∧ n ≤ 9) ∨ (w = 4 ∧ 0 ≤ n ∧ n ≤ 1)) (hI : pz_ic M) (h : pz_RZ M) (q1 : (((0 ≤ i ∧ i < M 71 3) ∧ C) ∧ v = 1 ∧ M1 = pz_u (pz_u M (89 + i.toNat) w.toNat n) 3 2 0) ∨ (¬ ((0 ≤ i ∧ i < M 71 3) ∧ C) ∧ v = 0 ∧ M1 = M)) (q2 : (((0 ≤ i ∧ i < M1 60 88) ∧ C) ∧ v' = 1 ∧ M2 = pz_u (pz_u M1 60 (pz_bs w + i).toNat n) 1 4 0) ∨ (¬ ((0 ≤ i ∧ i < M1 60 88) ∧ C) ∧ v' = 0 ∧ M2 = M1)) : v = v' ∧ pz_RZ M2 := by
  obtain ⟨e, r⟩ := pz_RX_set (fun h => by have := hC h; omega) hI h.1 q1 q2
  refine ⟨e, r, ?_⟩
  obtain ⟨h1, ⟨h2, h3, h4⟩, h5, -, h8⟩ := id h.2
  have i1 := hI.1 71 (by first | decide | omega) (by first | decide | omega)
  have n9 := h2.1
  rcases q1 with ⟨⟨a1, a2⟩, -, a3⟩ | ⟨a1, -, a3⟩
  · have w60 : M1 60 = M 60 := funext fun j => by
      rw [a3, pz_una (by decide), pz_una (by first | decide | omega)]
    rw [w60] at q2
    rcases q2 with ⟨-, -, b3⟩ | ⟨b1, -, b3⟩
    · have c := hC a2
      obtain ⟨f, hf, hw, hb⟩ : ∃ f : Nat, f < 5 ∧ w.toNat = f ∧ (pz_bs w + i).toNat = sd_fo f + i.toNat := by
        have hw : w = 0 ∨ w = 1 ∨ w = 2 ∨ w = 3 ∨ w = 4 := by omega
        rcases hw with rfl | rfl | rfl | rfl | rfl
        · exact ⟨0, by decide, rfl, by show (4 + i).toNat = 4 + i.toNat; omega⟩
        · exact ⟨1, by decide, rfl, by show (16 + i).toNat = 16 + i.toNat; omega⟩
        · exact ⟨2, by decide, rfl, by show (28 + i).toNat = 28 + i.toNat; omega⟩
        · exact ⟨3, by decide, rfl, by show (93 + i).toNat = 93 + i.toNat; omega⟩
        · exact ⟨4, by decide, rfl, by show (40 + i).toNat = 40 + i.toNat; omega⟩
      have bf := sd_fo_b (f := f) (i := i.toNat) (by first | decide | omega) (by first | decide | omega)
      have bk : ∀ f, f < 8 → sd_fo f + 12 ≤ 88 ∨ 93 ≤ sd_fo f := by decide
      have bf2 := bk f (by first | decide | omega)
      have E : M2 60 = sd_u (M 60) (sd_fo f + i.toNat) n := by
        rw [b3, sd_uo (by decide), sd_um, w60, hb]
      rw [hw] at a3
      have ok : sd_okv (M 60) f i.toNat n := by
        unfold sd_okv
        omega
      have s1 : sd_se (pz_u M (pz_lb 71 + i.toNat) f n) 71 (sd_u (M 60) (sd_fo f + i.toNat) n) := sd_se_w (by first | decide | omega) h2 (by first | decide | omega) (by first | decide | omega) (by first | decide | omega)
      have wf := sd_wf_1 (f := f) (v := n) h4 (by first | decide | omega) (show ((i.toNat : Nat) : Int) < M 60 88 by omega) ok
      have o : ∀ b j : Nat, b ≠ 60 → ¬ (b = 1 ∧ j = 4) → M2 b j = M1 b j := fun b j y1 y2 => by
        rw [b3, pz_une y2, pz_una y1]
      have o1 : ∀ b j : Nat, b ≠ 3 → b < 89 ∨ 101 ≤ b → M1 b j = M b j := fun b j y1 y2 => by
        rw [a3, pz_una y1, pz_una (by first | decide | omega)]
      refine ⟨?_, ⟨?_, ?_, by rw [E]; exact wf⟩, sd_LQ_cg h5 (fun b j y => (o b j (by unfold pz_xcl at y; first | decide | omega) (by unfold pz_xcl at y; first | decide | omega)).trans (o1 b j (by unfold pz_xcl at y; first | decide | omega) (by unfold pz_xcl at y; first | decide | omega))) (fun j y => ?_), ⟨[], sd_ck_0 ?_, sd_mq_0 ?_⟩, sd_im_cg h8 (fun b j y => (o b j (by first | decide | omega) (by first | decide | omega)).trans (o1 b j (by first | decide | omega) (by first | decide | omega)))⟩
      · rw [o 71 0 (by first | decide | omega) (by first | decide | omega), o 72 0 (by first | decide | omega) (by first | decide | omega), o1 71 0 (by first | decide | omega) (by first | decide | omega), o1 72 0 (by first | decide | omega) (by first | decide | omega)]
        exact h1
      · rw [E]
        refine sd_se_cg s1 (fun b j y => ?_) (by rw [sd_un (by first | decide | omega)]; omega)
        rw [o b j (by unfold pz_lb at y; first | decide | omega) (by unfold pz_lb at y; first | decide | omega), a3, pz_una (by unfold pz_lb at y; first | decide | omega)]
        rfl
      · intro k hk
        rw [E, o 45 k (by first | decide | omega) (by first | decide | omega), o1 45 k (by first | decide | omega) (by first | decide | omega), sd_un (by first | decide | omega)]
        exact h3 k hk
      · rw [E]
        exact sd_un (by unfold pz_xv at y; first | decide | omega)
      · rw [o 3 2 (by first | decide | omega) (by first | decide | omega), a3]
        exact pz_uu
      · rw [b3]
        exact pz_uu
    · exact absurd ⟨by omega, a2⟩ b1
  · rcases q2 with ⟨⟨b1, b2⟩, -, b3⟩ | ⟨b1, -, b3⟩
    · rw [a3] at b1
      exact absurd ⟨by omega, b2⟩ a1
    · rw [b3, a3]
      exact h.2
/-! TEXT, IMAGE -/
theorem pz_RZ_text {M M1 M2 : pz_M} {k v v' : Int} (hI : pz_ic M) (hI1 : pz_ic M1) (h : pz_RZ M) (q : (pq_te k (M 71 3) M M1 v ∧ M1 4 1 = 0 ∧ (∀ j : Nat, j ≠ 2 → M1 3 j = M 3 j) ∧ (M1 3 2 = M 3 2 ∨ M1 3 2 = 0)) ∧ M1 3 2 = if v ≠ -1 ∧ k = 1 then 0 else M 3 2) (z : pq_pr pq_Pt M M1) (q' : (pq_tx k M1 M2 v' ∧ M2 1 16 = 0) ∧ M2 1 4 = if v' ≠ -1 ∧ k = 1 then 0 else M1 1 4) (z' : pz_rl pz_QT M1 M2) : v = v' ∧ pz_RZ M2 := by
  obtain ⟨e, r⟩ := pz_RX_text hI hI1 h.1 q.1 z q'.1 z'
  refine ⟨e, r, ?_⟩
  obtain ⟨h1, ⟨h2, h3, h4⟩, h5, ⟨L, h6, h7⟩, h8⟩ := id h.2
  have lq := sd_LQ_text hI hI1 h.1.1 q.1.1 z q'.1.1 z' h5
  have c : ∀ b j : Nat, b ≠ 60 → b ≠ 1 → (b < 64 ∨ 66 < b) → M2 b j = M1 b j := fun b j y1 y2 y3 => z'.2 b j (by unfold pz_QT; first | decide | omega)
  have c1 : ∀ b j : Nat, ¬ pq_Pt b j → M1 b j = M b j := fun b j y => z.2 b j y
  have w : ∀ j : Nat, j ≤ 88 ∨ (93 ≤ j ∧ j ≤ 104) ∨ (241 ≤ j ∧ j ≤ 840) → M2 60 j = M 60 j := fun j y => (z'.2 60 j (by unfold pz_QT; first | decide | omega)).trans (z.2 60 j (by unfold pq_Pt; first | decide | omega))
  have n9 := h4.1
  have d : ∀ b j : Nat, b = 71 ∨ b = 72 ∨ b = 45 ∨ b = 46 ∨ b = 11 ∨ (16 ≤ b ∧ b ≤ 18) ∨ (23 ≤ b ∧ b ≤ 25) ∨ (33 ≤ b ∧ b ≤ 37) ∨ b = 61 ∨ (73 ≤ b ∧ b < 206) → M2 b j = M b j := fun b j y => (c b j (by first | decide | omega) (by first | decide | omega) (by first | decide | omega)).trans (c1 b j (by unfold pq_Pt; first | decide | omega))
  refine ⟨?_, ⟨?_, fun k hk => ?_, ?_⟩, lq, ?_, sd_im_cg h8 (fun b j y => d b j (by first | decide | omega))⟩
  · rw [d 71 0 (by first | decide | omega), d 72 0 (by first | decide | omega)]
    exact h1
  · exact sd_se_f (sd_se_cg h2 (fun b j y => d b j (by unfold pz_lb at y; first | decide | omega)) (by first | decide | omega)) (fun k hk => w k (by first | decide | omega)) (by first | decide | omega)
  · rw [d 45 k (by first | decide | omega), w _ (by first | decide | omega)]
    exact h3 k hk
  · exact sd_wf_cg h4 (fun k hk => w k (by first | decide | omega)) (by rw [w 3 (by first | decide | omega)]; exact h4.2.1)
  · have x1 := q.2
    have x2 := q'.2
    rw [← e] at x2
    by_cases y : v ≠ -1 ∧ k = 1
    · rw [if_pos y] at x1 x2
      exact ⟨[], sd_ck_0 ((c 3 2 (by first | decide | omega) (by first | decide | omega) (by first | decide | omega)).trans x1), sd_mq_0 x2⟩
    · rw [if_neg y] at x1 x2
      refine ⟨L, sd_ck_cg h6 (fun b j u => ?_), sd_mq_cg h7 (x2.trans (c1 1 4 (by unfold pq_Pt; first | decide | omega))) (fun j => (c 62 j (by first | decide | omega) (by first | decide | omega) (by first | decide | omega)).trans (c1 62 j (by unfold pq_Pt; first | decide | omega))) (fun j j1 => w j (by first | decide | omega))⟩
      · by_cases b3 : b = 3
        · rw [b3, c 3 j (by first | decide | omega) (by first | decide | omega) (by first | decide | omega)]
          by_cases j2 : j = 2
          · rw [j2]
            exact x1
          · exact q.1.2.2.1 j j2
        · exact d b j (by first | decide | omega)
theorem sd_tf_se {c o : Nat} {M N : pz_M} {F : Nat → Int} (hc : 71 ≤ c ∧ c < 80) (ho : 71 ≤ o ∧ o < 80) (hF : sd_se M o F) (h12 : F 88 ≤ 12) (e : ∀ b j : Nat, (b = c ∧ 3 ≤ j) ∨ (pz_lb c ≤ b ∧ b < pz_lb c + 12) → N b j = pz_tf c o M b j) : sd_se N c F := by
  obtain ⟨a1, a2, a3, a4, a5, a6⟩ := hF
  have k : ∀ j : Nat, 3 ≤ j → j < 8 → N c j = M o j := fun j j1 j2 => (e c j (Or.inl ⟨rfl, j1⟩)).trans (pz_tf_k hc ⟨j1, j2⟩)
  refine ⟨(k 3 (by first | decide | omega) (by first | decide | omega)).trans a1, (k 4 (by first | decide | omega) (by first | decide | omega)).trans a2, (k 5 (by first | decide | omega) (by first | decide | omega)).trans a3, (k 6 (by first | decide | omega) (by first | decide | omega)).trans a4, (k 7 (by first | decide | omega) (by first | decide | omega)).trans a5, fun i f hi hf => ?_⟩
  rw [e _ f (Or.inr ⟨by omega, by omega⟩), ← a6 i f hi hf]
  exact pz_tf_l (by first | decide | omega) hf
theorem pz_RZ_image {M M1 M2 : pz_M} {t v v' : Int} (hI : pz_ic M) (h : pz_RZ M) (q : ((t = 0 ∧ M 0 13 = 0 ∧ v = 0 ∧ M1 = M) ∨ ((t ≠ 0 ∧ v = 1 ∧ M1 0 13 = 1 ∧ pz_xi 73 71 M M1) ∧ pz_Ti 9 8 M M1) ∨ ((t = 0 ∧ M 0 13 ≠ 0 ∧ v = 1 ∧ M1 0 13 = M 0 13 ∧ M1 3 2 = 0 ∧ pz_xi 71 73 M M1) ∧ pz_Ti 8 9 M M1)) ∧ (t ≠ 0 → ∀ b j : Nat, ¬ pz_td 9 b → M1 b j = if b = 46 ∧ j < 600 then M 45 j else if b = 0 ∧ j = 13 then 1 else pz_tf 73 71 M b j) ∧ (t = 0 → M 0 13 ≠ 0 → ∀ b j : Nat, ¬ pz_td 8 b → M1 b j = if b = 45 ∧ j < 600 then M 46 j else if b = 3 ∧ j = 2 then 0 else if b = 7 ∧ j = 0 then 0 else pz_tf 71 73 M b j))
    (q' : ((t = 0 ∧ M1 1 5 = 0 ∧ v' = 0 ∧ M2 = M1) ∨ ((t ≠ 0 ∨ M1 1 5 ≠ 0) ∧ v' = 1 ∧ M2 1 5 = 1 ∧ ((t = 0 → ∀ k : Nat, (k : Int) < 1725 → M2 60 k = M1 61 k) ∧ (t = 0 → ∀ k, M2 61 k = M1 61 k) ∧ (t ≠ 0 → ∀ k : Nat, (k : Int) < 1725 → M2 61 k = M1 60 k) ∧ (t ≠ 0 → ∀ k, M2 60 k = M1 60 k)))) ∧ (t = 0 → M1 1 5 ≠ 0 → M2 1 4 = 0) ∧ (t ≠ 0 → M2 1 4 = M1 1 4)) (z' : pz_rl pz_QI M1 M2) : v = v' ∧ pz_RZ M2 := by
  obtain ⟨e, r⟩ := pz_RX_image h.1 q.1 q'.1 z'
  refine ⟨e, r, ?_⟩
  obtain ⟨h1, ⟨h2, h3, h4⟩, h5, ⟨L, h6, h7⟩, h8⟩ := id h.2
  obtain ⟨g1, g2, g3, g4⟩ := id h8
  have n9 := h4.1
  have m9 := g3.1
  have c : ∀ b j : Nat, b ≠ 60 → b ≠ 61 → b ≠ 1 → M2 b j = M1 b j := fun b j y1 y2 y3 => z'.2 b j (by unfold pz_QI; first | decide | omega)
  have hi := h.1.1.1.2.2.2.2.1
  obtain ⟨q, qa, qb⟩ := q
  obtain ⟨q', qc, qd⟩ := q'
  rcases q with ⟨a1, a2, -, a3⟩ | ⟨⟨a1, -, -, a3⟩, a4⟩ | ⟨⟨a1, a2, -, -, a5, a3⟩, a4⟩
  · rcases q' with ⟨-, -, -, b⟩ | ⟨b, -, -, -⟩
    · rw [b, a3]
      exact h.2
    · rw [a3] at b
      omega
  · have E := qa a1
    have o : ∀ b j : Nat, b ≠ 46 → ¬ (b = 0 ∧ j = 13) → ¬ pz_td 9 b → b ≠ 73 → b < 115 ∨ 127 ≤ b → M1 b j = M b j := fun b j y1 y2 y3 y4 y5 => by
      rw [E b j y3, if_neg (by first | decide | omega), if_neg y2]
      exact pz_tf_o y4 (by unfold pz_lb; first | decide | omega)
    rcases q' with ⟨b, -, -, -⟩ | ⟨-, -, -, -, -, b3, b4⟩
    · exact absurd b a1
    · have w : M2 60 = M 60 := funext fun j => (b4 a1 j).trans (o 60 j (by first | decide | omega) (by first | decide | omega) (by unfold pz_td; first | decide | omega) (by first | decide | omega) (by first | decide | omega))
      have w61 : ∀ k : Nat, k < 1725 → M2 61 k = M 60 k := fun k hk => (b3 a1 k (by first | decide | omega)).trans (o 60 k (by first | decide | omega) (by first | decide | omega) (by unfold pz_td; first | decide | omega) (by first | decide | omega) (by first | decide | omega))
      have d : ∀ b j : Nat, b = 71 ∨ b = 72 ∨ b = 45 ∨ b = 3 ∨ (74 ≤ b ∧ b < 101) ∨ (127 ≤ b ∧ b < 206) ∨ b = 62 ∨ b = 10 ∨ (13 ≤ b ∧ b ≤ 15) ∨ (20 ≤ b ∧ b ≤ 22) ∨ (27 ≤ b ∧ b ≤ 31) → M2 b j = M b j := fun b j y => (c b j (by first | decide | omega) (by first | decide | omega) (by first | decide | omega)).trans (o b j (by first | decide | omega) (by first | decide | omega) (by unfold pz_td; first | decide | omega) (by first | decide | omega) (by first | decide | omega))
      have t2 : pz_Ti 9 8 M M2 := by
        obtain ⟨q1, q2, q3, q4, q5, q6⟩ := a4
        exact ⟨fun j hj => (c _ _ (by first | decide | omega) (by first | decide | omega) (by first | decide | omega)).trans (q1 j hj), fun k j hk hj => (c _ _ (by first | decide | omega) (by first | decide | omega) (by first | decide | omega)).trans (q2 k j hk hj), fun j hj => (c _ _ (by first | decide | omega) (by first | decide | omega) (by first | decide | omega)).trans (q3 j hj), fun k hk => (c _ _ (by first | decide | omega) (by first | decide | omega) (by first | decide | omega)).trans (q4 k hk), fun k j hk hj => (c _ _ (by first | decide | omega) (by first | decide | omega) (by first | decide | omega)).trans (q5 k j hk hj), fun b j y1 y2 y3 => (c _ _ (by first | decide | omega) (by first | decide | omega) (by first | decide | omega)).trans (q6 b j y1 y2 y3)⟩
      refine ⟨?_, ⟨?_, fun k hk => ?_, by rw [w]; exact h4⟩, sd_LQ_cg h5 (fun b j y => d b j (by unfold pz_xcl at y; first | decide | omega)) (fun j y => congrFun w j), ⟨L, sd_ck_cg h6 (fun b j y => d b j (by first | decide | omega)), sd_mq_cg h7 ?_ (fun j => d 62 j (by first | decide | omega)) (fun j _ => congrFun w j)⟩, ?_, fun k hk => ?_, ?_, sd_LQ_img (t := 0) (t' := 1) rfl rfl h5 t2 w61⟩
      · rw [d 71 0 (by first | decide | omega), d 72 0 (by first | decide | omega)]
        exact h1
      · rw [w]
        exact sd_se_cg h2 (fun b j y => d b j (by unfold pz_lb at y; first | decide | omega)) (by first | decide | omega)
      · rw [w, d 45 k (by first | decide | omega)]
        exact h3 k hk
      · exact (qd a1).trans (o 1 4 (by first | decide | omega) (by first | decide | omega) (by unfold pz_td; first | decide | omega) (by first | decide | omega) (by first | decide | omega))
      · refine sd_se_f (F := M 60) (sd_tf_se (c := 73) (o := 71) (by first | decide | omega) (by first | decide | omega) h2 (by first | decide | omega) (fun b j y => ?_)) (fun k hk => w61 k (by first | decide | omega)) (by first | decide | omega)
        rw [c b j (by unfold pz_lb at y; first | decide | omega) (by unfold pz_lb at y; first | decide | omega) (by unfold pz_lb at y; first | decide | omega), E b j (by unfold pz_lb at y; unfold pz_td; omega), if_neg (by unfold pz_lb at y; first | decide | omega), if_neg (by unfold pz_lb at y; first | decide | omega)]
      · rw [w61 _ (by first | decide | omega), c 46 k (by first | decide | omega) (by first | decide | omega) (by first | decide | omega), E 46 k (by unfold pz_td; first | decide | omega), if_pos ⟨rfl, hk⟩]
        exact h3 k hk
      · exact sd_wf_cg h4 (fun k hk => w61 k (by first | decide | omega)) (by rw [w61 3 (by first | decide | omega)]; exact h4.2.1)
  · have E := qb a1 a2
    have o : ∀ b j : Nat, b ≠ 45 → ¬ (b = 3 ∧ j = 2) → b ≠ 7 → ¬ pz_td 8 b → b ≠ 71 → b < 89 ∨ 101 ≤ b → M1 b j = M b j := fun b j y1 y2 y3 y4 y5 y6 => by
      rw [E b j y4, if_neg (by first | decide | omega), if_neg y2, if_neg (by first | decide | omega)]
      exact pz_tf_o y5 (by unfold pz_lb; first | decide | omega)
    have m5 : M1 1 5 = M 1 5 := o 1 5 (by first | decide | omega) (by first | decide | omega) (by first | decide | omega) (by unfold pz_td; first | decide | omega) (by first | decide | omega) (by first | decide | omega)
    rcases q' with ⟨-, b, -, -⟩ | ⟨-, -, -, b3, b4, -, -⟩
    · omega
    · have w61 : M2 61 = M 61 := funext fun j => (b4 a1 j).trans (o 61 j (by first | decide | omega) (by first | decide | omega) (by first | decide | omega) (by unfold pz_td; first | decide | omega) (by first | decide | omega) (by first | decide | omega))
      have w60 : ∀ k : Nat, k < 1725 → M2 60 k = M 61 k := fun k hk => (b3 a1 k (by first | decide | omega)).trans (o 61 k (by first | decide | omega) (by first | decide | omega) (by first | decide | omega) (by unfold pz_td; first | decide | omega) (by first | decide | omega) (by first | decide | omega))
      have d : ∀ b j : Nat, (b = 71 ∧ j = 0) ∨ b = 72 ∨ b = 73 ∨ b = 46 ∨ b = 11 ∨ (16 ≤ b ∧ b ≤ 18) ∨ (23 ≤ b ∧ b ≤ 25) ∨ (33 ≤ b ∧ b ≤ 37) ∨ (115 ≤ b ∧ b ≤ 126) → M2 b j = M b j := fun b j y => by
        rw [c b j (by first | decide | omega) (by first | decide | omega) (by first | decide | omega)]
        by_cases x : b = 71
        · rw [E b j (by unfold pz_td; first | decide | omega), if_neg (by first | decide | omega), if_neg (by first | decide | omega), if_neg (by first | decide | omega)]
          unfold pz_tf pz_tn
          rw [if_neg (by unfold pz_lb; first | decide | omega), if_neg (by first | decide | omega)]
        · exact o b j (by first | decide | omega) (by first | decide | omega) (by first | decide | omega) (by unfold pz_td; first | decide | omega) x (by first | decide | omega)
      have t2 : pz_Ti 8 9 M M2 := by
        obtain ⟨q1, q2, q3, q4, q5, q6⟩ := a4
        exact ⟨fun j hj => (c _ _ (by first | decide | omega) (by first | decide | omega) (by first | decide | omega)).trans (q1 j hj), fun k j hk hj => (c _ _ (by first | decide | omega) (by first | decide | omega) (by first | decide | omega)).trans (q2 k j hk hj), fun j hj => (c _ _ (by first | decide | omega) (by first | decide | omega) (by first | decide | omega)).trans (q3 j hj), fun k hk => (c _ _ (by first | decide | omega) (by first | decide | omega) (by first | decide | omega)).trans (q4 k hk), fun k j hk hj => (c _ _ (by first | decide | omega) (by first | decide | omega) (by first | decide | omega)).trans (q5 k j hk hj), fun b j y1 y2 y3 => (c _ _ (by first | decide | omega) (by first | decide | omega) (by first | decide | omega)).trans (q6 b j y1 y2 y3)⟩
      refine ⟨?_, ⟨?_, fun k hk => ?_, ?_⟩, sd_LQ_img (t := 1) (t' := 0) rfl rfl g4 t2 w60, ⟨[], sd_ck_0 ((c 3 2 (by first | decide | omega) (by first | decide | omega) (by first | decide | omega)).trans a5), sd_mq_0 (qc a1 (by first | decide | omega))⟩, ?_, fun k hk => ?_, by rw [w61]; exact g3, sd_LQ_cg g4 (fun b j y => d b j (by unfold pz_xcl at y; first | decide | omega)) (fun j y => congrFun w61 j)⟩
      · rw [d 71 0 (by first | decide | omega), d 72 0 (by first | decide | omega)]
        exact h1
      · refine sd_se_f (F := M 61) (sd_tf_se (c := 71) (o := 73) (by first | decide | omega) (by first | decide | omega) g1 (by first | decide | omega) (fun b j y => ?_)) (fun k hk => w60 k (by first | decide | omega)) (by first | decide | omega)
        rw [c b j (by unfold pz_lb at y; first | decide | omega) (by unfold pz_lb at y; first | decide | omega) (by unfold pz_lb at y; first | decide | omega), E b j (by unfold pz_lb at y; unfold pz_td; omega), if_neg (by unfold pz_lb at y; first | decide | omega), if_neg (by unfold pz_lb at y; first | decide | omega), if_neg (by unfold pz_lb at y; first | decide | omega)]
      · rw [w60 _ (by first | decide | omega), c 45 k (by first | decide | omega) (by first | decide | omega) (by first | decide | omega), E 45 k (by unfold pz_td; first | decide | omega), if_pos ⟨rfl, hk⟩]
        exact g2 k hk
      · exact sd_wf_cg g3 (fun k hk => w60 k (by first | decide | omega)) (by rw [w60 3 (by first | decide | omega)]; exact g3.2.1)
      · rw [w61]
        exact sd_se_cg g1 (fun b j y => d b j (by unfold pz_lb at y; first | decide | omega)) (by first | decide | omega)
      · rw [w61, d 46 k (by first | decide | omega)]
        exact g2 k hk
/-! what only looks: BOOK, LOOK -/
theorem pz_RZ_book {M : pz_M} {i w v v' : Int} (hI : pz_ic M) (h : pz_RZ M) (q : v = if (0 ≤ i ∧ i < M 71 7) ∧ 0 ≤ w ∧ w ≤ 3 then M 45 (4 * i.toNat + w.toNat) else -1) (q' : v' = if (0 ≤ i ∧ i < M 60 3) ∧ 0 ≤ w ∧ w ≤ 3 then M 60 (241 + (4 * i.toNat + w.toNat)) else -1) : v = v' := by
  obtain ⟨h1, ⟨h2, h3, h4⟩, -⟩ := h.2
  have e := h2.2.2.2.2.1
  have b := h4.2.1
  by_cases c : (0 ≤ i ∧ i < M 60 3) ∧ 0 ≤ w ∧ w ≤ 3
  · rw [if_pos c] at q'
    rw [if_pos (by first | decide | omega)] at q
    rw [q, q']
    exact h3 _ (by first | decide | omega)
  · rw [if_neg c] at q'
    rw [if_neg (by first | decide | omega)] at q
    exact q.trans q'.symm
end
section
theorem pz_RZ_look {M : pz_M} {w v v' : Int} (hI : pz_ic M) (h : pz_RZ M) (q : (w = 0 → v = M 71 3) ∧ (w = 1 → v = M 71 4) ∧ (w = 2 → v = M 71 5) ∧ (w = 3 → sd_q M 71 (fun F => pz_zs v (sd_vn F))) ∧ (w = 4 → sd_q M 71 (fun F => pz_zs v (sd_bn F))) ∧ (w = 5 → sd_q M 71 (fun F => v = if F 88 = 0 then 0 else 1 + pz_cnt (sd_bn F) 12)) ∧ (w = 6 → v = M 71 7) ∧ (w = 7 → v = M 71 6) ∧ (w = 8 → v = M 10 0) ∧ (w = 9 → v = M 13 0) ∧ (w = 10 → v = M 14 0) ∧ (w = 11 → v = M 15 0) ∧ (w = 12 → v = M 3 2) ∧ (¬ (0 ≤ w ∧ w ≤ 12) → v = -1)) (q' : (w = 0 → v' = M 60 88) ∧ (w = 1 → v' = M 60 0) ∧ (w = 2 → v' = M 60 1) ∧ (w = 3 → pz_zs v' (sd_vn (M 60))) ∧ (w = 4 → pz_zs v' (sd_bn (M 60))) ∧ (w = 5 → v' = if M 60 88 = 0 then 0 else 1 + pz_cnt (sd_bn (M 60)) 12) ∧ (w = 6 → v' = M 60 3) ∧ (w = 7 → v' = M 60 2) ∧ (w = 8 → v' = M 60 89) ∧ (w = 9 → v' = M 60 90) ∧ (w = 10 → v' = M 60 91) ∧ (w = 11 → v' = M 60 92) ∧ (w = 12 → v' = M 1 4) ∧ (¬ (0 ≤ w ∧ w ≤ 12) → v' = -1)) : v = v' := by
  obtain ⟨-, ⟨h2, h3, h4⟩, -, ⟨L, h6, h7⟩, -⟩ := h.2
  obtain ⟨ls, l1, l2, l3, ⟨x1, x2, -⟩, ⟨p1, p2, -⟩, ⟨t1, t2, -⟩, ⟨d1, d2, -⟩⟩ := h.1.2.1
  obtain ⟨a0, a1, a2, a3, a4, a5, a6, a7, a8, a9, b0, b1, b2, b3⟩ := q
  obtain ⟨c0, c1, c2, c3, c4, c5, c6, c7, c8, c9, e0, e1, e2, e3⟩ := q'
  have hw : w = 0 ∨ w = 1 ∨ w = 2 ∨ w = 3 ∨ w = 4 ∨ w = 5 ∨ w = 6 ∨ w = 7 ∨ w = 8 ∨ w = 9 ∨ w = 10 ∨ w = 11 ∨ w = 12 ∨ ¬ (0 ≤ w ∧ w ≤ 12) := by omega
  rcases hw with hw | hw | hw | hw | hw | hw | hw | hw | hw | hw | hw | hw | hw | hw
  · exact (a0 hw).trans (h2.1.trans (c0 hw).symm)
  · exact (a1 hw).trans (h2.2.1.trans (c1 hw).symm)
  · exact (a2 hw).trans (h2.2.2.1.trans (c2 hw).symm)
  · exact pz_sb_ext (a3 hw (M 60) h2 h4) (c3 hw) (fun _ => rfl)
  · exact pz_sb_ext (a4 hw (M 60) h2 h4) (c4 hw) (fun _ => rfl)
  · exact (a5 hw (M 60) h2 h4).trans (c5 hw).symm
  · exact (a6 hw).trans (h2.2.2.2.2.1.trans (c6 hw).symm)
  · exact (a7 hw).trans (h2.2.2.2.1.trans (c7 hw).symm)
  · exact (a8 hw).trans ((x1.1.trans x2.1.symm).trans (c8 hw).symm)
  · exact (a9 hw).trans ((p1.1.trans p2.1.symm).trans (c9 hw).symm)
  · exact (b0 hw).trans ((t1.1.trans t2.1.symm).trans (e0 hw).symm)
  · exact (b1 hw).trans ((d1.1.trans d2.1.symm).trans (e1 hw).symm)
  · exact (b2 hw).trans ((h6.1.trans h7.1.symm).trans (e2 hw).symm)
  · exact (b3 hw).trans (e3 hw).symm
end
