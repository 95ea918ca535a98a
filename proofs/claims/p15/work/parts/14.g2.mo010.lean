section
theorem v_X12_puts {fr lo i : Nat} {own : String} (h1 : 0 + 1 ≤ fr) (h2 : 8 + (5 + 11) + 0 ≤ lo) (h3 : .methodLink own i yX12_puts ∈ lw_tbl) : pz_cV fr lo own i k_X12_puts :=
  pz_cVk (maxL := 5) (fr' := 0) (lo' := 0) 3 12 h_X12_puts rfl ⟨(pz_nhc_RX12 yX12_puts rfl).1, (pz_nhc_RX12 yX12_puts rfl).2, pz_ds14⟩ ⟨pz_wq1394, pz_wq1393, pz_ws35, pz_wq13⟩ (Or.inl ⟨TX12, 28, rfl⟩) (fun a M _ h => by
    have h : (match (generalizing := false) a with | [.inr (.inr (12, th)), .inl i, .inl j, .inl k] => pz_im M ∧ ((i = 90 ∧ j = 129 ∧ k = 5) ∨ (i = 92 ∧ j = 209 ∧ k = 2)) | _ => False) := h
    split at h
    · exact ⟨_, _, rfl⟩
    · exact h.elim) h1 h2 h3
noncomputable def k_X12_putsPhones : pz_C := (1, 1, fun a M => (match a with | [.inr (.inr (12, th))] => pz_im M ∧ (∀ r : Int, 0 ≤ r → r < M 1 15 → 0 ≤ M 66 (3 * r).toNat ∧ M 66 (3 * r).toNat ≤ 11) | _ => False), fun a M r M' => (match a, r with | [.inr (.inr (12, th))], some (.inl v) => (v = M 1 15 ∧ pz_phc M M') ∧ pz_rl pz_Q7 M M' | _, _ => False))
noncomputable abbrev ct_X12_putsPhones : List (Bool × Nat × pz_C) := []
set_option maxRecDepth 100000 in
set_option maxHeartbeats 4000000 in
theorem h_X12_putsPhones : pz_H yX12_putsPhones cX12_putsPhones 2 (some .int) k_X12_putsPhones 0 0 := by
  refine pz_mk (own := RX12) (tb := t_X12_putsPhones) (fl := pz_flf fl_RX12) (ci := pz_cif ci_RX12) (ct := pz_ctf ct_X12_putsPhones) (rz := false) (pz_pfc_RX12 yX12_putsPhones rfl) rfl t_X12_putsPhones_ok (pz_flk fl_RX12_ok) (pz_cik ci_RX12_ok) ?_ ?_ (Or.inl ⟨rfl, rfl⟩) ?_ ?_
  · exact fun i k' h => pz_ctk (l := ct_X12_putsPhones) (P := fun b i k => b = true → pz_cV 0 0 RX12 i k) (fun _ h => absurd h List.not_mem_nil) true i k' h rfl
  · exact fun i k' h => pz_ctk (l := ct_X12_putsPhones) (P := fun b i k => b = false → (pz_cS 0 0 RX12 i k ∨ (k = pz_kac ∧ 1 ≤ 0 ∧ 60 ≤ 0 ∧ Cond.methodLink RX12 i arraycopyName ∈ pz_tbl))) (fun _ h => absurd h List.not_mem_nil) false i k' h rfl
  · intro a M hlen hpre
    obtain ⟨th, rfl, hpre⟩ : ∃ th, a = [.inr (.inr (12, th))] ∧ (pz_im M ∧ (∀ r : Int, 0 ≤ r → r < M 1 15 → 0 ≤ M 66 (3 * r).toNat ∧ M 66 (3 * r).toNat ≤ 11)) := by
      have hpre : (match (generalizing := false) a with | [.inr (.inr (12, th))] => pz_im M ∧ (∀ r : Int, 0 ≤ r → r < M 1 15 → 0 ≤ M 66 (3 * r).toNat ∧ M 66 (3 * r).toNat ≤ 11) | _ => False) := hpre
      split at hpre
      · exact ⟨_, rfl, hpre⟩
      · exact hpre.elim
    exact Nat.le_of_ble_eq_true rfl
  · intro a M hlen hcan hM hpre Ok hgo
    obtain ⟨th, rfl, hpre⟩ : ∃ th, a = [.inr (.inr (12, th))] ∧ (pz_im M ∧ (∀ r : Int, 0 ≤ r → r < M 1 15 → 0 ≤ M 66 (3 * r).toNat ∧ M 66 (3 * r).toNat ≤ 11)) := by
      have hpre : (match (generalizing := false) a with | [.inr (.inr (12, th))] => pz_im M ∧ (∀ r : Int, 0 ≤ r → r < M 1 15 → 0 ≤ M 66 (3 * r).toNat ∧ M 66 (3 * r).toNat ≤ 11) | _ => False) := hpre
      split at hpre
      · exact ⟨_, rfl, hpre⟩
      · exact hpre.elim
    obtain ⟨k_th, hc_th⟩ := pz_tlm hcan
    have k_th : pz_kd th = 12 ∧ th < 231 := k_th
    have R_th := pz_kd12 k_th.1
    subst R_th
    clear k_th
    have hI : pz_im M := hpre.1
    have hI0 := hI
    have hS : pz_rl pz_Q7 M M := pz_rl.rf
    have I15 := hI.2.1.2.2.2.2.2.2.2.1
    obtain ⟨-, hp9⟩ := hpre
    have L55 : ∀ (fu : Nat) (x1 : Int) (N55 : pz_M), (16 - x1).toNat < fu → (pz_rl pz_Q7 M N55) → (0 ≤ x1) → (x1 ≤ 16) → (x1 ≤ M 1 15) → (∀ i : Nat, i < 12 → N55 60 (105 + 2 * i) = pz_ph (pz_mph M) i 0 1 x1.toNat ∧ N55 60 (106 + 2 * i) = pz_ph (pz_mph M) i 240 2 x1.toNat) → (N55 60 91 = M 1 15) → Ok 55 [some (.inr (.inr (12, 1))), some (.inl x1)] [] N55 := by
      intro fu
      induction fu with
      | zero => exact fun _ _ hn => absurd hn (Nat.not_lt_zero _)
      | succ fu ih55 =>
        intro x1 N55 hn55 hS g55_1 g55_2 g55_3 g55_4 g55_5
        have hI : pz_im N55 := hS.1 hI0
        have F15 := hS.2 1 15 (by unfold pz_Q7; first | decide | omega)
        have Ux := Int.toNat_of_nonneg g55_1
        have U3 : (((3 * x1).toNat : Nat) : Int) = 3 * x1 := Int.toNat_of_nonneg (by first | decide | omega)
        have U15 : (((M 1 15).toNat : Nat) : Int) = M 1 15 := Int.toNat_of_nonneg (by first | decide | omega)
        refine hgo (fun p => Nat.beq p 13 || Nat.beq p 55) 90 55 _ _ _ ?_
        intro v57 e57 a57 b57
        have I57 : 0 ≤ v57 ∧ v57 ≤ 16 := by
          rw [e57]
          exact hI.2.1.2.2.2.2.2.2.2.1
        clear a57 b57
        have N57 := hI.2.1.2.2.2.2.2.2.2.1
        refine And.intro (fun h60 => ?_) (fun h60 => ?_)
        · skip
          intro v128 e128 a128 b128
          have I128 : 0 ≤ v128 ∧ v128 ≤ 16 := by
            rw [e128]
            exact hI.2.1.2.2.2.2.2.2.2.1
          clear a128 b128
          have N128 := hI.2.1.2.2.2.2.2.2.2.1
          refine And.intro rfl ?_
          have H15 := hS.2 1 15 (by unfold pz_Q7; first | decide | omega)
          exact ⟨⟨by omega, g55_5, fun i hi => by rw [show (M 1 15).toNat = x1.toNat by omega]; exact g55_4 i hi⟩, hS⟩
        · skip
          refine pz_nrc (c := 60) rfl ?_
          refine pz_nrc (c := 66) rfl ?_
          intro v76 e76 a76 b76
          rw [pz_wi (by first | decide | omega) (by first | decide | omega)] at e76
          clear a76 b76
          have lo77 : (0 : Int) ≤ v76 := by omega
          have tn77 : (((v76).toNat : Nat) : Int) = v76 := Int.toNat_of_nonneg lo77
          refine And.intro (lo77) (And.intro (show _ < (80 : Int) from by omega) ?_)
          intro v77 e77 a77 b77
          have H77 := hp9 x1 (by first | decide | omega) (by first | decide | omega)
          rw [hS.2 66 _ (by unfold pz_Q7; first | decide | omega), show v76.toNat = (3 * x1).toNat by omega] at e77
          intro v78 e78 a78 b78
          rw [pz_wi (by first | decide | omega) (by first | decide | omega)] at e78
          clear a78 b78
          intro v79 e79 a79 b79
          rw [pz_wi (by first | decide | omega) (by first | decide | omega)] at e79
          clear a79 b79
          refine pz_nrc (c := 66) rfl ?_
          intro v86 e86 a86 b86
          rw [pz_wi (by first | decide | omega) (by first | decide | omega)] at e86
          clear a86 b86
          intro v88 e88 a88 b88
          rw [pz_wi (by first | decide | omega) (by first | decide | omega)] at e88
          clear a88 b88
          have lo89 : (0 : Int) ≤ v88 := by omega
          have tn89 : (((v88).toNat : Nat) : Int) = v88 := Int.toNat_of_nonneg lo89
          refine And.intro (lo89) (And.intro (show _ < (80 : Int) from by omega) ?_)
          intro v89 e89 a89 b89
          rw [hS.2 66 _ (by unfold pz_Q7; first | decide | omega), show v88.toNat = 3 * x1.toNat + 1 by omega] at e89
          have lo90 : (0 : Int) ≤ v79 := by omega
          have tn90 : (((v79).toNat : Nat) : Int) = v79 := Int.toNat_of_nonneg lo90
          refine And.intro (lo90) (And.intro (show _ < (1725 : Int) from by omega) ?_)
          intro M90 e90
          have hS : pz_rl pz_Q7 M M90 := by
            rw [e90]
            exact pz_rl_u hS (by unfold pz_Q7; first | decide | omega) (by first | exact pz_iom_w (by first | decide | omega) (by first | decide | omega) (by first | decide | omega) (by first | decide | omega) (by first | decide | omega) (by first | decide | omega) | (unfold pz_iom; omega))
          have hI : pz_im M90 := hS.1 hI0
          have K90 := e90
          refine pz_nrc (c := 60) rfl ?_
          refine pz_nrc (c := 66) rfl ?_
          intro v104 e104 a104 b104
          rw [pz_wi (by first | decide | omega) (by first | decide | omega)] at e104
          clear a104 b104
          have lo105 : (0 : Int) ≤ v104 := by omega
          have tn105 : (((v104).toNat : Nat) : Int) = v104 := Int.toNat_of_nonneg lo105
          refine And.intro (lo105) (And.intro (show _ < (80 : Int) from by omega) ?_)
          intro v105 e105 a105 b105
          have H105 := hp9 x1 (by first | decide | omega) (by first | decide | omega)
          rw [hS.2 66 _ (by unfold pz_Q7; first | decide | omega), show v104.toNat = (3 * x1).toNat by omega] at e105
          intro v106 e106 a106 b106
          rw [pz_wi (by first | decide | omega) (by first | decide | omega)] at e106
          clear a106 b106
          intro v107 e107 a107 b107
          rw [pz_wi (by first | decide | omega) (by first | decide | omega)] at e107
          clear a107 b107
          intro v109 e109 a109 b109
          rw [pz_wi (by first | decide | omega) (by first | decide | omega)] at e109
          clear a109 b109
          refine pz_nrc (c := 66) rfl ?_
          intro v116 e116 a116 b116
          rw [pz_wi (by first | decide | omega) (by first | decide | omega)] at e116
          clear a116 b116
          intro v118 e118 a118 b118
          rw [pz_wi (by first | decide | omega) (by first | decide | omega)] at e118
          clear a118 b118
          have lo119 : (0 : Int) ≤ v118 := by omega
          have tn119 : (((v118).toNat : Nat) : Int) = v118 := Int.toNat_of_nonneg lo119
          refine And.intro (lo119) (And.intro (show _ < (80 : Int) from by omega) ?_)
          intro v119 e119 a119 b119
          rw [hS.2 66 _ (by unfold pz_Q7; first | decide | omega), show v118.toNat = 3 * x1.toNat + 2 by omega] at e119
          have lo120 : (0 : Int) ≤ v109 := by omega
          have tn120 : (((v109).toNat : Nat) : Int) = v109 := Int.toNat_of_nonneg lo120
          refine And.intro (lo120) (And.intro (show _ < (1725 : Int) from by omega) ?_)
          intro M120 e120
          have hS : pz_rl pz_Q7 M M120 := by
            rw [e120]
            exact pz_rl_u hS (by unfold pz_Q7; first | decide | omega) (by first | exact pz_iom_w (by first | decide | omega) (by first | decide | omega) (by first | decide | omega) (by first | decide | omega) (by first | decide | omega) (by first | decide | omega) | (unfold pz_iom; omega))
          have hI : pz_im M120 := hS.1 hI0
          have K120 := e120
          intro v121 e121 a121 b121
          rw [pz_wi (by first | decide | omega) (by first | decide | omega)] at e121
          have H121 : M120 60 91 = M 1 15 := by rw [e120, pz_une (by first | decide | omega), e90, pz_une (by first | decide | omega)]; exact g55_5
          have G121 : ∀ i : Nat, i < 12 → M120 60 (105 + 2 * i) = pz_ph (pz_mph M) i 0 1 v121.toNat ∧ M120 60 (106 + 2 * i) = pz_ph (pz_mph M) i 240 2 v121.toNat := pz_ph_s (l := v77) (p1 := v79.toNat) (p2 := v109.toNat) g55_1 (by first | decide | omega) e77 (by first | decide | omega) K90 (by first | decide | omega) e89 K120 (by first | decide | omega) e119 g55_4
          exact ih55 _ _ (by first | decide | omega) hS (by first | omega | assumption) (by first | omega | assumption) (by first | omega | assumption) (by first | omega | assumption) (by first | omega | assumption)
    have L13 : ∀ (fu : Nat) (x1 : Int) (N13 : pz_M), (12 - x1).toNat < fu → (pz_rl pz_Q7 M N13) → (0 ≤ x1) → (x1 ≤ 12) → (∀ i : Nat, (i : Int) < x1 → N13 60 (105 + 2 * i) = 0 ∧ N13 60 (106 + 2 * i) = 240) → (N13 60 91 = M 1 15) → Ok 13 [some (.inr (.inr (12, 1))), some (.inl x1)] [] N13 := by
      intro fu
      induction fu with
      | zero => exact fun _ _ hn => absurd hn (Nat.not_lt_zero _)
      | succ fu ih13 =>
        intro x1 N13 hn13 hS g13_1 g13_2 g13_3 g13_4
        have hI : pz_im N13 := hS.1 hI0
        refine hgo (fun p => Nat.beq p 13 || Nat.beq p 55) 90 13 _ _ _ ?_
        refine And.intro (fun h16 => ?_) (fun h16 => ?_)
        · skip
          have G16 : ∀ i : Nat, i < 12 → N13 60 (105 + 2 * i) = pz_ph (pz_mph M) i 0 1 (0 : Int).toNat ∧ N13 60 (106 + 2 * i) = pz_ph (pz_mph M) i 240 2 (0 : Int).toNat := fun i hi => g13_3 i (by first | decide | omega)
          exact L55 _ _ _ (Nat.lt_succ_self _) hS (by first | omega | assumption) (by first | omega | assumption) (by first | omega | assumption) (by first | omega | assumption) (by first | omega | assumption)
        · skip
          skip
          refine pz_nrc (c := 60) rfl ?_
          intro v27 e27 a27 b27
          rw [pz_wi (by first | decide | omega) (by first | decide | omega)] at e27
          clear a27 b27
          intro v28 e28 a28 b28
          rw [pz_wi (by first | decide | omega) (by first | decide | omega)] at e28
          clear a28 b28
          have lo30 : (0 : Int) ≤ v28 := by omega
          have tn30 : (((v28).toNat : Nat) : Int) = v28 := Int.toNat_of_nonneg lo30
          refine And.intro (lo30) (And.intro (show _ < (1725 : Int) from by omega) ?_)
          intro M30 e30
          have hS : pz_rl pz_Q7 M M30 := by
            rw [e30]
            exact pz_rl_u hS (by unfold pz_Q7; first | decide | omega) (pz_iom_w2 (by first | decide | omega) (by first | decide | omega))
          have hI : pz_im M30 := hS.1 hI0
          have K30 := e30
          refine pz_nrc (c := 60) rfl ?_
          intro v39 e39 a39 b39
          rw [pz_wi (by first | decide | omega) (by first | decide | omega)] at e39
          clear a39 b39
          intro v40 e40 a40 b40
          rw [pz_wi (by first | decide | omega) (by first | decide | omega)] at e40
          clear a40 b40
          intro v42 e42 a42 b42
          rw [pz_wi (by first | decide | omega) (by first | decide | omega)] at e42
          clear a42 b42
          have lo46 : (0 : Int) ≤ v42 := by omega
          have tn46 : (((v42).toNat : Nat) : Int) = v42 := Int.toNat_of_nonneg lo46
          refine And.intro (lo46) (And.intro (show _ < (1725 : Int) from by omega) ?_)
          intro M46 e46
          have hS : pz_rl pz_Q7 M M46 := by
            rw [e46]
            exact pz_rl_u hS (by unfold pz_Q7; first | decide | omega) (pz_iom_w2 (by first | decide | omega) (by first | decide | omega))
          have hI : pz_im M46 := hS.1 hI0
          have K46 := e46
          intro v47 e47 a47 b47
          rw [pz_wi (by first | decide | omega) (by first | decide | omega)] at e47
          have H47 : M46 60 91 = M 1 15 := by rw [e46, pz_une (by first | decide | omega), e30, pz_une (by first | decide | omega)]; exact g13_4
          have G47 : ∀ i : Nat, (i : Int) < v47 → M46 60 (105 + 2 * i) = 0 ∧ M46 60 (106 + 2 * i) = 240 := pz_ph_z (p1 := v28.toNat) (p2 := v42.toNat) g13_1 (by first | decide | omega) K30 (by first | decide | omega) rfl K46 (by first | decide | omega) rfl g13_3
          exact ih13 _ _ (by first | decide | omega) hS (by first | omega | assumption) (by first | omega | assumption) (by first | omega | assumption) (by first | omega | assumption)
    refine hgo (fun p => Nat.beq p 13 || Nat.beq p 55) 90 0 _ [] M ?_
    refine pz_nrc (c := 60) rfl ?_
    intro v7 e7 a7 b7
    have I7 : 0 ≤ v7 ∧ v7 ≤ 16 := by
      rw [e7]
      exact hI.2.1.2.2.2.2.2.2.2.1
    clear a7 b7
    have N7 := hI.2.1.2.2.2.2.2.2.2.1
    refine And.intro (by first | decide | omega) (And.intro (show _ < (1725 : Int) from by omega) ?_)
    intro M10 e10
    have hS : pz_rl pz_Q7 M M10 := by
      rw [e10]
      exact pz_rl_u hS (by unfold pz_Q7; first | decide | omega) (by first | exact pz_iom_w (by first | decide | omega) (by first | decide | omega) (by first | decide | omega) (by first | decide | omega) (by first | decide | omega) (by first | decide | omega) | (unfold pz_iom; omega))
    have hI : pz_im M10 := hS.1 hI0
    have G10 : ∀ i : Nat, (i : Int) < (0 : Int) → M10 60 (105 + 2 * i) = 0 ∧ M10 60 (106 + 2 * i) = 240 := fun i hi => absurd hi (by first | decide | omega)
    have H10 : M10 60 91 = M 1 15 := by rw [e10]; exact (pz_ue ⟨rfl, rfl⟩).trans e7
    exact L13 _ _ _ (Nat.lt_succ_self _) hS (by first | omega | assumption) (by first | omega | assumption) (by first | omega | assumption) (by first | omega | assumption)
end
