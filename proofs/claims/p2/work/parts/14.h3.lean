def k_X12_puts : pz_C := (4, 1, fun a M => (match a with | [.inr (.inr (12, th)), .inl i, .inl j, .inl k] => pz_im M ∧ ((i = 90 ∧ j = 129 ∧ k = 5) ∨ (i = 92 ∧ j = 209 ∧ k = 2)) | _ => False), fun a M r M' => (match a, r with | [.inr (.inr (12, th)), .inl i, .inl j, .inl k], some (.inl v) => (v = M 1 15 ∧ pz_pcc i j k M M') ∧ pz_rl (pz_QP i j k) M M' | _, _ => False))
abbrev ct_X12_puts : List (Bool × Nat × pz_C) := []
set_option maxRecDepth 100000 in
set_option maxHeartbeats 4000000 in
theorem h_X12_puts : pz_H yX12_puts cX12_puts 5 (some .int) k_X12_puts 0 0 := by
  refine pz_mk (own := RX12) (tb := t_X12_puts) (fl := pz_flf fl_RX12) (ci := pz_cif ci_RX12) (ct := pz_ctf ct_X12_puts) (rz := false) (by decide +kernel) rfl t_X12_puts_ok (pz_flk fl_RX12_ok) (pz_cik ci_RX12_ok) ?_ ?_ (Or.inl ⟨rfl, rfl⟩) ?_ ?_
  · exact fun i k' h => pz_ctk (l := ct_X12_puts) (P := fun b i k => b = true → pz_cV 0 0 RX12 i k) (fun _ h => absurd h List.not_mem_nil) true i k' h rfl
  · exact fun i k' h => pz_ctk (l := ct_X12_puts) (P := fun b i k => b = false → (pz_cS 0 0 RX12 i k ∨ (k = pz_kac ∧ 1 ≤ 0 ∧ 60 ≤ 0 ∧ Cond.methodLink RX12 i arraycopyName ∈ pz_tbl))) (fun _ h => absurd h List.not_mem_nil) false i k' h rfl
  · intro a M hlen hpre
    obtain ⟨th, i, j, k, rfl, hpre⟩ : ∃ th i j k, a = [.inr (.inr (12, th)), .inl i, .inl j, .inl k] ∧ (pz_im M ∧ ((i = 90 ∧ j = 129 ∧ k = 5) ∨ (i = 92 ∧ j = 209 ∧ k = 2))) := by
      have hpre : (match (generalizing := false) a with | [.inr (.inr (12, th)), .inl i, .inl j, .inl k] => pz_im M ∧ ((i = 90 ∧ j = 129 ∧ k = 5) ∨ (i = 92 ∧ j = 209 ∧ k = 2)) | _ => False) := hpre
      split at hpre
      · exact ⟨_, _, _, _, rfl, hpre⟩
      · exact hpre.elim
    exact Nat.le_of_ble_eq_true rfl
  · intro a M hlen hcan hM hpre Ok hgo
    obtain ⟨th, i, j, k, rfl, hpre⟩ : ∃ th i j k, a = [.inr (.inr (12, th)), .inl i, .inl j, .inl k] ∧ (pz_im M ∧ ((i = 90 ∧ j = 129 ∧ k = 5) ∨ (i = 92 ∧ j = 209 ∧ k = 2))) := by
      have hpre : (match (generalizing := false) a with | [.inr (.inr (12, th)), .inl i, .inl j, .inl k] => pz_im M ∧ ((i = 90 ∧ j = 129 ∧ k = 5) ∨ (i = 92 ∧ j = 209 ∧ k = 2)) | _ => False) := hpre
      split at hpre
      · exact ⟨_, _, _, _, rfl, hpre⟩
      · exact hpre.elim
    obtain ⟨k_th, hc_th⟩ := pz_tlm hcan
    have k_th : pz_kd th = 12 ∧ th < 231 := k_th
    have R_th := pz_kd12 k_th.1
    subst R_th
    clear k_th
    obtain ⟨k_i, hc_i⟩ := pz_tlm hc_th
    have l_i : -2147483648 ≤ i := k_i.1
    have u_i : i ≤ 2147483647 := k_i.2
    obtain ⟨k_j, hc_j⟩ := pz_tlm hc_i
    have l_j : -2147483648 ≤ j := k_j.1
    have u_j : j ≤ 2147483647 := k_j.2
    obtain ⟨k_k, hc_k⟩ := pz_tlm hc_j
    have l_k : -2147483648 ≤ k := k_k.1
    have u_k : k ≤ 2147483647 := k_k.2
    have hI : pz_im M := hpre.1
    have hI0 := hI
    have hS : pz_rl (pz_QP i j k) M M := pz_rl.rf
    have I15 := hI.2.1.2.2.2.2.2.2.2.1
    obtain ⟨-, hp9⟩ := hpre
    have L13 : ∀ (fu : Nat) (x4 : Int) (N13 : pz_M), (80 - x4).toNat < fu → (pz_rl (pz_QP i j k) M N13) → (0 ≤ x4) → (N13 60 i.toNat = M 1 15) → (∀ n : Nat, (n : Int) < x4 → N13 60 (j.toNat + n) = M 66 n) → Ok 13 [some (.inr (.inr (12, 1))), some (.inl i), some (.inl j), some (.inl k), some (.inl x4)] [] N13 := by
      intro fu
      induction fu with
      | zero => exact fun _ _ hn => absurd hn (Nat.not_lt_zero _)
      | succ fu ih13 =>
        intro x4 N13 hn13 hS g13_1 g13_2 g13_3
        have hI : pz_im N13 := hS.1 hI0
        have F15 := hS.2 1 15 (by unfold pz_QP; omega)
        refine hgo (fun p => Nat.beq p 13) 31 13 _ _ _ ?_
        intro v17 e17 a17 b17
        have I17 : 0 ≤ v17 ∧ v17 ≤ 16 := by
          rw [e17]
          exact hI.2.1.2.2.2.2.2.2.2.1
        clear a17 b17
        have N17 := hI.2.1.2.2.2.2.2.2.2.1
        intro v20 e20 a20 b20
        have B20 : (k = 5 ∧ v20 = 5 * v17) ∨ (k = 2 ∧ v20 = 2 * v17) := by
          rcases hp9 with ⟨-, -, h9⟩ | ⟨-, -, h9⟩ <;> rw [h9] at e20 <;> rw [pz_wi (by omega) (by omega)] at e20 <;> omega
        refine And.intro (fun h21 => ?_) (fun h21 => ?_)
        · skip
          intro v47 e47 a47 b47
          have I47 : 0 ≤ v47 ∧ v47 ≤ 16 := by
            rw [e47]
            exact hI.2.1.2.2.2.2.2.2.2.1
          clear a47 b47
          have N47 := hI.2.1.2.2.2.2.2.2.2.1
          refine And.intro rfl ?_
          have H15 := hS.2 1 15 (by unfold pz_QP; omega)
          exact ⟨⟨by omega, g13_2, fun n hn => g13_3 n (by rcases B20 with ⟨b1, b2⟩ | ⟨b1, b2⟩ <;> rw [b1] at hn <;> omega)⟩, hS⟩
        · skip
          refine pz_nrc (c := 60) rfl ?_
          intro v31 e31 a31 b31
          rw [pz_wi (by omega) (by omega)] at e31
          clear a31 b31
          refine pz_nrc (c := 66) rfl ?_
          refine And.intro (by omega) (And.intro (show _ < (80 : Int) from by omega) ?_)
          intro v38 e38 a38 b38
          rw [hS.2 66 _ (by unfold pz_QP; omega)] at e38
          refine And.intro (by omega) (And.intro (show _ < (1725 : Int) from by omega) ?_)
          intro M39 e39
          have hS : pz_rl (pz_QP i j k) M M39 := by
            rw [e39]
            exact pz_rl_u hS (by unfold pz_QP; omega) (pz_iom_w2 (by omega) (by omega))
          have hI : pz_im M39 := hS.1 hI0
          have K39 := e39
          have G39 : M39 60 i.toNat = M 1 15 := by rw [e39, pz_une (by omega)]; exact g13_2
          intro v40 e40 a40 b40
          rw [pz_wi (by omega) (by omega)] at e40
          have G40 : ∀ n : Nat, (n : Int) < v40 → M39 60 (j.toNat + n) = M 66 n := pz_pc_s (p := v31.toNat) (by omega) g13_1 (by omega) K39 e38 (by omega) g13_3
          exact ih13 _ _ (by omega) hS (by first | omega | assumption | exact (fun n hn => absurd hn (by omega))) (by first | omega | assumption | exact (fun n hn => absurd hn (by omega))) (by first | omega | assumption | exact (fun n hn => absurd hn (by omega)))
    refine hgo (fun p => Nat.beq p 13) 31 0 _ [] M ?_
    refine pz_nrc (c := 60) rfl ?_
    intro v6 e6 a6 b6
    have I6 : 0 ≤ v6 ∧ v6 ≤ 16 := by
      rw [e6]
      exact hI.2.1.2.2.2.2.2.2.2.1
    clear a6 b6
    have N6 := hI.2.1.2.2.2.2.2.2.2.1
    refine And.intro (by omega) (And.intro (show _ < (1725 : Int) from by omega) ?_)
    intro M9 e9
    have hS : pz_rl (pz_QP i j k) M M9 := by
      rw [e9]
      exact pz_rl_u hS (by unfold pz_QP; omega) (by rcases hp9 with ⟨h9, -, -⟩ | ⟨h9, -, -⟩ <;> rw [h9] <;> first | exact pz_iom_90 (by omega) | exact pz_iom_92 (by omega))
    have hI : pz_im M9 := hS.1 hI0
    have G9 : M9 60 i.toNat = M 1 15 := by rw [e9, pz_uu]; omega
    exact L13 _ _ _ (Nat.lt_succ_self _) hS (by first | omega | assumption | exact (fun n hn => absurd hn (by omega))) (by first | omega | assumption | exact (fun n hn => absurd hn (by omega))) (by first | omega | assumption | exact (fun n hn => absurd hn (by omega)))
theorem v_X12_puts {fr lo i : Nat} {own : String} (h1 : 0 + 1 ≤ fr) (h2 : 8 + (5 + 11) + 0 ≤ lo) (h3 : .methodLink own i yX12_puts ∈ lw_tbl) : pz_cV fr lo own i k_X12_puts :=
  pz_cVk (maxL := 5) (fr' := 0) (lo' := 0) 3 12 h_X12_puts rfl ⟨by decide +kernel, by decide +kernel, by decide +kernel⟩ ⟨(pz_mt 1394 (by decide +kernel)), (pz_mt 1393 (by decide +kernel)), (pz_ms 35 (by decide +kernel)), (pz_mt 13 (by decide +kernel))⟩ (Or.inl ⟨TX12, 28, rfl⟩) (fun a M _ h => by
    have h : (match (generalizing := false) a with | [.inr (.inr (12, th)), .inl i, .inl j, .inl k] => pz_im M ∧ ((i = 90 ∧ j = 129 ∧ k = 5) ∨ (i = 92 ∧ j = 209 ∧ k = 2)) | _ => False) := h
    split at h
    · exact ⟨_, _, rfl⟩
    · exact h.elim) h1 h2 h3
def k_X12_putsPhones : pz_C := (1, 1, fun a M => (match a with | [.inr (.inr (12, th))] => pz_im M ∧ (∀ r : Int, 0 ≤ r → r < M 1 15 → 0 ≤ M 66 (3 * r).toNat ∧ M 66 (3 * r).toNat ≤ 11) | _ => False), fun a M r M' => (match a, r with | [.inr (.inr (12, th))], some (.inl v) => (v = M 1 15 ∧ pz_phc M M') ∧ pz_rl pz_Q7 M M' | _, _ => False))
abbrev ct_X12_putsPhones : List (Bool × Nat × pz_C) := []
set_option maxRecDepth 100000 in
set_option maxHeartbeats 4000000 in
theorem h_X12_putsPhones : pz_H yX12_putsPhones cX12_putsPhones 2 (some .int) k_X12_putsPhones 0 0 := by
  refine pz_mk (own := RX12) (tb := t_X12_putsPhones) (fl := pz_flf fl_RX12) (ci := pz_cif ci_RX12) (ct := pz_ctf ct_X12_putsPhones) (rz := false) (by decide +kernel) rfl t_X12_putsPhones_ok (pz_flk fl_RX12_ok) (pz_cik ci_RX12_ok) ?_ ?_ (Or.inl ⟨rfl, rfl⟩) ?_ ?_
  · exact fun i k' h => pz_ctk (l := ct_X12_putsPhones) (P := fun b i k => b = true → pz_cV 0 0 RX12 i k) (fun _ h => absurd h List.not_mem_nil) true i k' h rfl
  · exact fun i k' h => pz_ctk (l := ct_X12_putsPhones) (P := fun b i k => b = false → (pz_cS 0 0 RX12 i k ∨ (k = pz_kac ∧ 1 ≤ 0 ∧ 60 ≤ 0 ∧ Cond.methodLink RX12 i arraycopyName ∈ pz_tbl))) (fun _ h => absurd h List.not_mem_nil) false i k' h rfl
  · intro a M hlen hpre
    obtain ⟨th, rfl, hpre⟩ : ∃ th, a = [.inr (.inr (12, th))] ∧ (pz_im M ∧ (∀ r : Int, 0 ≤ r → r < M 1 15 → 0 ≤ M 66 (3 * r).toNat ∧ M 66 (3 * r).toNat ≤ 11)) := by
      have hpre : (match (generalizing := false) a with | [.inr (.inr (12, th))] => pz_im M ∧ (∀ r : Int, 0 ≤ r → r < M 1 15 → 0 ≤ M 66 (3 * r).toNat ∧ M 66 (3 * r).toNat ≤ 11) | _ => False) := hpre
      split at hpre
      · exact ⟨_, rfl, hpre⟩
      · exact hpre.elim
    exact Nat.le_of_ble_eq_true rfl
  · intro a M hlen hcan hM hpre Ok hgo
    obtain ⟨th, rfl, hpre⟩ : ∃ th, a = [.inr (.inr (12, th))] ∧ (pz_im M ∧ (∀ r : Int, 0 ≤ r → r < M 1 15 → 0 ≤ M 66 (3 * r).toNat ∧ M 66 (3 * r).toNat ≤ 11)) := by
      have hpre : (match (generalizing := false) a with | [.inr (.inr (12, th))] => pz_im M ∧ (∀ r : Int, 0 ≤ r → r < M 1 15 → 0 ≤ M 66 (3 * r).toNat ∧ M 66 (3 * r).toNat ≤ 11) | _ => False) := hpre
      split at hpre
      · exact ⟨_, rfl, hpre⟩
      · exact hpre.elim
    obtain ⟨k_th, hc_th⟩ := pz_tlm hcan
    have k_th : pz_kd th = 12 ∧ th < 231 := k_th
    have R_th := pz_kd12 k_th.1
    subst R_th
    clear k_th
    have hI : pz_im M := hpre.1
    have hI0 := hI
    have hS : pz_rl pz_Q7 M M := pz_rl.rf
    have I15 := hI.2.1.2.2.2.2.2.2.2.1
    obtain ⟨-, hp9⟩ := hpre
    have L55 : ∀ (fu : Nat) (x1 : Int) (N55 : pz_M), (16 - x1).toNat < fu → (pz_rl pz_Q7 M N55) → (0 ≤ x1) → (x1 ≤ 16) → (x1 ≤ M 1 15) → (∀ i : Nat, i < 12 → N55 60 (105 + 2 * i) = pz_ph (pz_mph M) i 0 1 x1.toNat ∧ N55 60 (106 + 2 * i) = pz_ph (pz_mph M) i 240 2 x1.toNat) → (N55 60 91 = M 1 15) → Ok 55 [some (.inr (.inr (12, 1))), some (.inl x1)] [] N55 := by
      intro fu
      induction fu with
      | zero => exact fun _ _ hn => absurd hn (Nat.not_lt_zero _)
      | succ fu ih55 =>
        intro x1 N55 hn55 hS g55_1 g55_2 g55_3 g55_4 g55_5
        have hI : pz_im N55 := hS.1 hI0
        have F15 := hS.2 1 15 (by unfold pz_Q7; omega)
        refine hgo (fun p => Nat.beq p 13 || Nat.beq p 55) 90 55 _ _ _ ?_
        intro v57 e57 a57 b57
        have I57 : 0 ≤ v57 ∧ v57 ≤ 16 := by
          rw [e57]
          exact hI.2.1.2.2.2.2.2.2.2.1
        clear a57 b57
        have N57 := hI.2.1.2.2.2.2.2.2.2.1
        refine And.intro (fun h60 => ?_) (fun h60 => ?_)
        · skip
          intro v128 e128 a128 b128
          have I128 : 0 ≤ v128 ∧ v128 ≤ 16 := by
            rw [e128]
            exact hI.2.1.2.2.2.2.2.2.2.1
          clear a128 b128
          have N128 := hI.2.1.2.2.2.2.2.2.2.1
          refine And.intro rfl ?_
          have H15 := hS.2 1 15 (by unfold pz_Q7; omega)
          exact ⟨⟨by omega, g55_5, fun i hi => by rw [show (M 1 15).toNat = x1.toNat by omega]; exact g55_4 i hi⟩, hS⟩
        · skip
          refine pz_nrc (c := 60) rfl ?_
          refine pz_nrc (c := 66) rfl ?_
          intro v76 e76 a76 b76
          rw [pz_wi (by omega) (by omega)] at e76
          clear a76 b76
          refine And.intro (by omega) (And.intro (show _ < (80 : Int) from by omega) ?_)
          intro v77 e77 a77 b77
          have H77 := hp9 x1 (by omega) (by omega)
          rw [hS.2 66 _ (by unfold pz_Q7; omega), show v76.toNat = (3 * x1).toNat by omega] at e77
          intro v78 e78 a78 b78
          rw [pz_wi (by omega) (by omega)] at e78
          clear a78 b78
          intro v79 e79 a79 b79
          rw [pz_wi (by omega) (by omega)] at e79
          clear a79 b79
          refine pz_nrc (c := 66) rfl ?_
          intro v86 e86 a86 b86
          rw [pz_wi (by omega) (by omega)] at e86
          clear a86 b86
          intro v88 e88 a88 b88
          rw [pz_wi (by omega) (by omega)] at e88
          clear a88 b88
          refine And.intro (by omega) (And.intro (show _ < (80 : Int) from by omega) ?_)
          intro v89 e89 a89 b89
          rw [hS.2 66 _ (by unfold pz_Q7; omega), show v88.toNat = 3 * x1.toNat + 1 by omega] at e89
          refine And.intro (by omega) (And.intro (show _ < (1725 : Int) from by omega) ?_)
          intro M90 e90
          have hS : pz_rl pz_Q7 M M90 := by
            rw [e90]
            exact pz_rl_u hS (by unfold pz_Q7; omega) (by first | exact pz_iom_w (by omega) (by omega) (by omega) (by omega) (by omega) (by omega) | (unfold pz_iom; omega))
          have hI : pz_im M90 := hS.1 hI0
          have K90 := e90
          refine pz_nrc (c := 60) rfl ?_
          refine pz_nrc (c := 66) rfl ?_
          intro v104 e104 a104 b104
          rw [pz_wi (by omega) (by omega)] at e104
          clear a104 b104
          refine And.intro (by omega) (And.intro (show _ < (80 : Int) from by omega) ?_)
          intro v105 e105 a105 b105
          have H105 := hp9 x1 (by omega) (by omega)
          rw [hS.2 66 _ (by unfold pz_Q7; omega), show v104.toNat = (3 * x1).toNat by omega] at e105
          intro v106 e106 a106 b106
          rw [pz_wi (by omega) (by omega)] at e106
          clear a106 b106
          intro v107 e107 a107 b107
          rw [pz_wi (by omega) (by omega)] at e107
          clear a107 b107
          intro v109 e109 a109 b109
          rw [pz_wi (by omega) (by omega)] at e109
          clear a109 b109
          refine pz_nrc (c := 66) rfl ?_
          intro v116 e116 a116 b116
          rw [pz_wi (by omega) (by omega)] at e116
          clear a116 b116
          intro v118 e118 a118 b118
          rw [pz_wi (by omega) (by omega)] at e118
          clear a118 b118
          refine And.intro (by omega) (And.intro (show _ < (80 : Int) from by omega) ?_)
          intro v119 e119 a119 b119
          rw [hS.2 66 _ (by unfold pz_Q7; omega), show v118.toNat = 3 * x1.toNat + 2 by omega] at e119
          refine And.intro (by omega) (And.intro (show _ < (1725 : Int) from by omega) ?_)
          intro M120 e120
          have hS : pz_rl pz_Q7 M M120 := by
            rw [e120]
            exact pz_rl_u hS (by unfold pz_Q7; omega) (by first | exact pz_iom_w (by omega) (by omega) (by omega) (by omega) (by omega) (by omega) | (unfold pz_iom; omega))
          have hI : pz_im M120 := hS.1 hI0
          have K120 := e120
          intro v121 e121 a121 b121
          rw [pz_wi (by omega) (by omega)] at e121
          have H121 : M120 60 91 = M 1 15 := by rw [e120, pz_une (by omega), e90, pz_une (by omega)]; exact g55_5
          have G121 : ∀ i : Nat, i < 12 → M120 60 (105 + 2 * i) = pz_ph (pz_mph M) i 0 1 v121.toNat ∧ M120 60 (106 + 2 * i) = pz_ph (pz_mph M) i 240 2 v121.toNat := pz_ph_s (l := v77) (p1 := v79.toNat) (p2 := v109.toNat) g55_1 (by omega) e77 (by omega) K90 (by omega) e89 K120 (by omega) e119 g55_4
          exact ih55 _ _ (by omega) hS (by first | omega | assumption) (by first | omega | assumption) (by first | omega | assumption) (by first | omega | assumption) (by first | omega | assumption)
    have L13 : ∀ (fu : Nat) (x1 : Int) (N13 : pz_M), (12 - x1).toNat < fu → (pz_rl pz_Q7 M N13) → (0 ≤ x1) → (x1 ≤ 12) → (∀ i : Nat, (i : Int) < x1 → N13 60 (105 + 2 * i) = 0 ∧ N13 60 (106 + 2 * i) = 240) → (N13 60 91 = M 1 15) → Ok 13 [some (.inr (.inr (12, 1))), some (.inl x1)] [] N13 := by
      intro fu
      induction fu with
      | zero => exact fun _ _ hn => absurd hn (Nat.not_lt_zero _)
      | succ fu ih13 =>
        intro x1 N13 hn13 hS g13_1 g13_2 g13_3 g13_4
        have hI : pz_im N13 := hS.1 hI0
        refine hgo (fun p => Nat.beq p 13 || Nat.beq p 55) 90 13 _ _ _ ?_
        refine And.intro (fun h16 => ?_) (fun h16 => ?_)
        · skip
          have G16 : ∀ i : Nat, i < 12 → N13 60 (105 + 2 * i) = pz_ph (pz_mph M) i 0 1 (0 : Int).toNat ∧ N13 60 (106 + 2 * i) = pz_ph (pz_mph M) i 240 2 (0 : Int).toNat := fun i hi => g13_3 i (by omega)
          exact L55 _ _ _ (Nat.lt_succ_self _) hS (by first | omega | assumption) (by first | omega | assumption) (by first | omega | assumption) (by first | omega | assumption) (by first | omega | assumption)
        · skip
          skip
          refine pz_nrc (c := 60) rfl ?_
          intro v27 e27 a27 b27
          rw [pz_wi (by omega) (by omega)] at e27
          clear a27 b27
          intro v28 e28 a28 b28
          rw [pz_wi (by omega) (by omega)] at e28
          clear a28 b28
          refine And.intro (by omega) (And.intro (show _ < (1725 : Int) from by omega) ?_)
          intro M30 e30
          have hS : pz_rl pz_Q7 M M30 := by
            rw [e30]
            exact pz_rl_u hS (by unfold pz_Q7; omega) (pz_iom_w2 (by omega) (by omega))
          have hI : pz_im M30 := hS.1 hI0
          have K30 := e30
          refine pz_nrc (c := 60) rfl ?_
          intro v39 e39 a39 b39
          rw [pz_wi (by omega) (by omega)] at e39
          clear a39 b39
          intro v40 e40 a40 b40
          rw [pz_wi (by omega) (by omega)] at e40
          clear a40 b40
          intro v42 e42 a42 b42
          rw [pz_wi (by omega) (by omega)] at e42
          clear a42 b42
          refine And.intro (by omega) (And.intro (show _ < (1725 : Int) from by omega) ?_)
          intro M46 e46
          have hS : pz_rl pz_Q7 M M46 := by
            rw [e46]
            exact pz_rl_u hS (by unfold pz_Q7; omega) (pz_iom_w2 (by omega) (by omega))
          have hI : pz_im M46 := hS.1 hI0
          have K46 := e46
          intro v47 e47 a47 b47
          rw [pz_wi (by omega) (by omega)] at e47
          have H47 : M46 60 91 = M 1 15 := by rw [e46, pz_une (by omega), e30, pz_une (by omega)]; exact g13_4
          have G47 : ∀ i : Nat, (i : Int) < v47 → M46 60 (105 + 2 * i) = 0 ∧ M46 60 (106 + 2 * i) = 240 := pz_ph_z (p1 := v28.toNat) (p2 := v42.toNat) g13_1 (by omega) K30 (by omega) rfl K46 (by omega) rfl g13_3
          exact ih13 _ _ (by omega) hS (by first | omega | assumption) (by first | omega | assumption) (by first | omega | assumption) (by first | omega | assumption)
    refine hgo (fun p => Nat.beq p 13 || Nat.beq p 55) 90 0 _ [] M ?_
    refine pz_nrc (c := 60) rfl ?_
    intro v7 e7 a7 b7
    have I7 : 0 ≤ v7 ∧ v7 ≤ 16 := by
      rw [e7]
      exact hI.2.1.2.2.2.2.2.2.2.1
    clear a7 b7
    have N7 := hI.2.1.2.2.2.2.2.2.2.1
    refine And.intro (by omega) (And.intro (show _ < (1725 : Int) from by omega) ?_)
    intro M10 e10
    have hS : pz_rl pz_Q7 M M10 := by
      rw [e10]
      exact pz_rl_u hS (by unfold pz_Q7; omega) (by first | exact pz_iom_w (by omega) (by omega) (by omega) (by omega) (by omega) (by omega) | (unfold pz_iom; omega))
    have hI : pz_im M10 := hS.1 hI0
    have G10 : ∀ i : Nat, (i : Int) < (0 : Int) → M10 60 (105 + 2 * i) = 0 ∧ M10 60 (106 + 2 * i) = 240 := fun i hi => absurd hi (by omega)
    have H10 : M10 60 91 = M 1 15 := by rw [e10]; exact (pz_ue ⟨rfl, rfl⟩).trans e7
    exact L13 _ _ _ (Nat.lt_succ_self _) hS (by first | omega | assumption) (by first | omega | assumption) (by first | omega | assumption) (by first | omega | assumption)
theorem v_X12_putsPhones {fr lo i : Nat} {own : String} (h1 : 0 + 1 ≤ fr) (h2 : 8 + (2 + 11) + 0 ≤ lo) (h3 : .methodLink own i yX12_putsPhones ∈ lw_tbl) : pz_cV fr lo own i k_X12_putsPhones :=
  pz_cVk (maxL := 2) (fr' := 0) (lo' := 0) 0 12 h_X12_putsPhones rfl ⟨by decide +kernel, by decide +kernel, by decide +kernel⟩ ⟨(pz_mt 1398 (by decide +kernel)), (pz_mt 1397 (by decide +kernel)), (pz_ms 36 (by decide +kernel)), (pz_mt 13 (by decide +kernel))⟩ (Or.inl ⟨TX12, 28, rfl⟩) (fun a M _ h => by
    have h : (match (generalizing := false) a with | [.inr (.inr (12, th))] => pz_im M ∧ (∀ r : Int, 0 ≤ r → r < M 1 15 → 0 ≤ M 66 (3 * r).toNat ∧ M 66 (3 * r).toNat ≤ 11) | _ => False) := h
    split at h
    · exact ⟨_, _, rfl⟩
    · exact h.elim) h1 h2 h3
def k_X12_putsText : pz_C := (2, 1, fun a M => (match a with | [.inr (.inr (12, th)), .inl i] => pz_im M ∧ (i = 0 → pz_wfl M) ∧ (i = 2 → ∀ r : Int, 0 ≤ r → r < M 1 15 → 0 ≤ M 66 (3 * r).toNat ∧ M 66 (3 * r).toNat ≤ 11) ∧ 0 ≤ i ∧ i ≤ 3 | _ => False), fun a M r M' => (match a, r with | [.inr (.inr (12, th)), .inl i], some (.inl v) => (pq_pt i M M' v) ∧ pz_rl pz_QU M M' | _, _ => False))
abbrev ct_X12_putsText : List (Bool × Nat × pz_C) := [(true, 260, k_X12_putsLaw), (true, 71, k_X12_forgets), (true, 263, k_X12_puts), (true, 267, k_X12_putsPhones)]
set_option maxRecDepth 100000 in
set_option maxHeartbeats 4000000 in
theorem h_X12_putsText : pz_H yX12_putsText cX12_putsText 2 (some .int) k_X12_putsText 1 24 := by
  refine pz_mk (own := RX12) (tb := t_X12_putsText) (fl := pz_flf fl_RX12) (ci := pz_cif ci_RX12) (ct := pz_ctf ct_X12_putsText) (rz := false) (by decide +kernel) rfl t_X12_putsText_ok (pz_flk fl_RX12_ok) (pz_cik ci_RX12_ok) ?_ ?_ (Or.inl ⟨rfl, rfl⟩) ?_ ?_
  · exact fun i k' h => pz_ctk (l := ct_X12_putsText) (P := fun b i k => b = true → pz_cV 1 24 RX12 i k) (List.forall_mem_cons.mpr ⟨(fun _ => v_X12_putsLaw (by decide) (by decide) (pz_mt 1387 (by decide +kernel))), List.forall_mem_cons.mpr ⟨(fun _ => v_X12_forgets (by decide) (by decide) (pz_mt 1209 (by decide +kernel))), List.forall_mem_cons.mpr ⟨(fun _ => v_X12_puts (by decide) (by decide) (pz_mt 1391 (by decide +kernel))), List.forall_mem_cons.mpr ⟨(fun _ => v_X12_putsPhones (by decide) (by decide) (pz_mt 1395 (by decide +kernel))), fun _ h => absurd h List.not_mem_nil⟩⟩⟩⟩) true i k' h rfl
  · exact fun i k' h => pz_ctk (l := ct_X12_putsText) (P := fun b i k => b = false → (pz_cS 1 24 RX12 i k ∨ (k = pz_kac ∧ 1 ≤ 1 ∧ 60 ≤ 24 ∧ Cond.methodLink RX12 i arraycopyName ∈ pz_tbl))) (List.forall_mem_cons.mpr ⟨((fun z => by cases z)), List.forall_mem_cons.mpr ⟨((fun z => by cases z)), List.forall_mem_cons.mpr ⟨((fun z => by cases z)), List.forall_mem_cons.mpr ⟨((fun z => by cases z)), fun _ h => absurd h List.not_mem_nil⟩⟩⟩⟩) false i k' h rfl
  · intro a M hlen hpre
    obtain ⟨th, i, rfl, hpre⟩ : ∃ th i, a = [.inr (.inr (12, th)), .inl i] ∧ (pz_im M ∧ (i = 0 → pz_wfl M) ∧ (i = 2 → ∀ r : Int, 0 ≤ r → r < M 1 15 → 0 ≤ M 66 (3 * r).toNat ∧ M 66 (3 * r).toNat ≤ 11) ∧ 0 ≤ i ∧ i ≤ 3) := by
      have hpre : (match (generalizing := false) a with | [.inr (.inr (12, th)), .inl i] => pz_im M ∧ (i = 0 → pz_wfl M) ∧ (i = 2 → ∀ r : Int, 0 ≤ r → r < M 1 15 → 0 ≤ M 66 (3 * r).toNat ∧ M 66 (3 * r).toNat ≤ 11) ∧ 0 ≤ i ∧ i ≤ 3 | _ => False) := hpre
      split at hpre
      · exact ⟨_, _, rfl, hpre⟩
      · exact hpre.elim
    exact Nat.le_of_ble_eq_true rfl
  · intro a M hlen hcan hM hpre Ok hgo
    obtain ⟨th, i, rfl, hpre⟩ : ∃ th i, a = [.inr (.inr (12, th)), .inl i] ∧ (pz_im M ∧ (i = 0 → pz_wfl M) ∧ (i = 2 → ∀ r : Int, 0 ≤ r → r < M 1 15 → 0 ≤ M 66 (3 * r).toNat ∧ M 66 (3 * r).toNat ≤ 11) ∧ 0 ≤ i ∧ i ≤ 3) := by
      have hpre : (match (generalizing := false) a with | [.inr (.inr (12, th)), .inl i] => pz_im M ∧ (i = 0 → pz_wfl M) ∧ (i = 2 → ∀ r : Int, 0 ≤ r → r < M 1 15 → 0 ≤ M 66 (3 * r).toNat ∧ M 66 (3 * r).toNat ≤ 11) ∧ 0 ≤ i ∧ i ≤ 3 | _ => False) := hpre
      split at hpre
      · exact ⟨_, _, rfl, hpre⟩
      · exact hpre.elim
    obtain ⟨k_th, hc_th⟩ := pz_tlm hcan
    have k_th : pz_kd th = 12 ∧ th < 231 := k_th
    have R_th := pz_kd12 k_th.1
    subst R_th
    clear k_th
    obtain ⟨k_i, hc_i⟩ := pz_tlm hc_th
    have l_i : -2147483648 ≤ i := k_i.1
    have u_i : i ≤ 2147483647 := k_i.2
    have hI : pz_im M := hpre.1
    have hI0 := hI
    have hS : pz_rl pz_QU M M := pz_rl.rf
    obtain ⟨-, hp1, hp2, hp3, hp4⟩ := hpre
    refine hgo (fun _ => false) 24 0 _ [] M ?_
    refine And.intro ?_ ?_
    · skip
      refine And.intro (fun h1 => ?_) ?_
      · skip
        refine And.intro (And.intro hI (hp1 (by omega))) ?_
        intro v29 M29 a29 b29 q29
        obtain ⟨q29, z29⟩ := q29
        have hS : pz_rl pz_QU M M29 := hS.tr (pz_rl.wk (by intro b j q; unfold pz_QL at q; unfold pz_QU; omega) z29)
        have hI : pz_im M29 := hS.1 hI0
        refine And.intro rfl ?_
        exact ⟨⟨fun _ => q29, fun y => absurd y (by omega), fun y => absurd y (by omega), fun y => absurd y (by omega), fun j y => z29.2 60 j (by unfold pq_wf at y; unfold pz_QL; omega)⟩, hS⟩
      refine And.intro (fun h1 => ?_) ?_
      · skip
        refine And.intro (hI) ?_
        intro M34 q34
        obtain ⟨q34, z34⟩ := q34
        have hS : pz_rl pz_QU M M34 := hS.tr (pz_rl_fg (by unfold pz_QU; omega) q34 z34)
        have T34a := z34.2
        have T34b := z34.1.2
        have hI : pz_im M34 := hS.1 hI0
        have A34 := hS.2 1 15 (by unfold pz_QU; omega)
        have A34b : ∀ n, M34 66 n = M 66 n := fun n => hS.2 66 n (by unfold pz_QU; omega)
        have A34c : ∀ j, M34 60 j = M 60 j := fun j => by rw [q34]; exact pz_una (by decide)
        refine And.intro (And.intro hI (by omega)) ?_
        intro v44 M44 a44 b44 q44
        obtain ⟨q44, z44⟩ := q44
        have hS : pz_rl pz_QU M M44 := hS.tr (pz_rl.wk (by intro b j q; unfold pz_QP at q; unfold pz_QU; omega) z44)
        have hI : pz_im M44 := hS.1 hI0
        refine And.intro rfl ?_
        exact ⟨⟨fun y => absurd y (by omega), fun _ => ⟨q44.1.trans A34, pz_pcc_cg q44.2 A34 A34b⟩, fun y => absurd y (by omega), fun y => absurd y (by omega), fun j y => (z44.2 60 j (by unfold pq_wf at y; unfold pz_QP; omega)).trans (A34c j)⟩, hS⟩
      refine And.intro (fun h1 => ?_) ?_
      · skip
        refine And.intro (And.intro hI (hp2 (by omega))) ?_
        intro v49 M49 a49 b49 q49
        obtain ⟨q49, z49⟩ := q49
        have hS : pz_rl pz_QU M M49 := hS.tr (pz_rl.wk (by intro b j q; unfold pz_Q7 at q; unfold pz_QU; omega) z49)
        have hI : pz_im M49 := hS.1 hI0
        refine And.intro rfl ?_
        exact ⟨⟨fun y => absurd y (by omega), fun y => absurd y (by omega), fun _ => q49, fun y => absurd y (by omega), fun j y => z49.2 60 j (by unfold pq_wf at y; unfold pz_Q7; omega)⟩, hS⟩
      exact True.intro
    · intro h1
      refine And.intro (And.intro hI (by omega)) ?_
      intro v60 M60 a60 b60 q60
      obtain ⟨q60, z60⟩ := q60
      have hS : pz_rl pz_QU M M60 := hS.tr (pz_rl.wk (by intro b j q; unfold pz_QP at q; unfold pz_QU; omega) z60)
      have hI : pz_im M60 := hS.1 hI0
      refine And.intro rfl ?_
      exact ⟨⟨fun y => absurd y (by omega), fun y => absurd y (by omega), fun y => absurd y (by omega), fun _ => q60, fun j y => z60.2 60 j (by unfold pq_wf at y; unfold pz_QP; omega)⟩, hS⟩
theorem v_X12_putsText {fr lo i : Nat} {own : String} (h1 : 1 + 1 ≤ fr) (h2 : 8 + (2 + 11) + 24 ≤ lo) (h3 : .methodLink own i yX12_putsText ∈ lw_tbl) : pz_cV fr lo own i k_X12_putsText :=
  pz_cVk (maxL := 2) (fr' := 1) (lo' := 24) 1 12 h_X12_putsText rfl ⟨by decide +kernel, by decide +kernel, by decide +kernel⟩ ⟨(pz_mt 1386 (by decide +kernel)), (pz_mt 1385 (by decide +kernel)), (pz_ms 33 (by decide +kernel)), (pz_mt 13 (by decide +kernel))⟩ (Or.inl ⟨TX12, 28, rfl⟩) (fun a M _ h => by
    have h : (match (generalizing := false) a with | [.inr (.inr (12, th)), .inl i] => pz_im M ∧ (i = 0 → pz_wfl M) ∧ (i = 2 → ∀ r : Int, 0 ≤ r → r < M 1 15 → 0 ≤ M 66 (3 * r).toNat ∧ M 66 (3 * r).toNat ≤ 11) ∧ 0 ≤ i ∧ i ≤ 3 | _ => False) := h
    split at h
    · exact ⟨_, _, rfl⟩
    · exact h.elim) h1 h2 h3
def k_X12_text : pz_C := (2, 1, fun a M => (match a with | [.inr (.inr (12, th)), .inl i] => pz_im M | _ => False), fun a M r M' => (match a, r with | [.inr (.inr (12, th)), .inl i], some (.inl v) => (pq_tx i M M' v ∧ M' 1 16 = 0) ∧ pz_rl pz_QT M M' | _, _ => False))
abbrev ct_X12_text : List (Bool × Nat × pz_C) := [(false, 54, k_X12_isIn), (true, 191, k_X12_next0), (true, 273, k_X12_readsLaw), (true, 276, k_X12_readsRows), (true, 279, k_X12_putsText)]
set_option maxRecDepth 100000 in
set_option maxHeartbeats 4000000 in
theorem h_X12_text : pz_H yX12_text cX12_text 3 (some .int) k_X12_text 41 958 := by
  refine pz_mk (own := RX12) (tb := t_X12_text) (fl := pz_flf fl_RX12) (ci := pz_cif ci_RX12) (ct := pz_ctf ct_X12_text) (rz := false) (by decide +kernel) rfl t_X12_text_ok (pz_flk fl_RX12_ok) (pz_cik ci_RX12_ok) ?_ ?_ (Or.inl ⟨rfl, rfl⟩) ?_ ?_
  · exact fun i k' h => pz_ctk (l := ct_X12_text) (P := fun b i k => b = true → pz_cV 41 958 RX12 i k) (List.forall_mem_cons.mpr ⟨((fun z => by cases z)), List.forall_mem_cons.mpr ⟨(fun _ => v_X12_next0 (by decide) (by decide) (pz_mt 1243 (by decide +kernel))), List.forall_mem_cons.mpr ⟨(fun _ => v_X12_readsLaw (by decide) (by decide) (pz_mt 1303 (by decide +kernel))), List.forall_mem_cons.mpr ⟨(fun _ => v_X12_readsRows (by decide) (by decide) (pz_mt 1351 (by decide +kernel))), List.forall_mem_cons.mpr ⟨(fun _ => v_X12_putsText (by decide) (by decide) (pz_mt 1383 (by decide +kernel))), fun _ h => absurd h List.not_mem_nil⟩⟩⟩⟩⟩) true i k' h rfl
  · exact fun i k' h => pz_ctk (l := ct_X12_text) (P := fun b i k => b = false → (pz_cS 41 958 RX12 i k ∨ (k = pz_kac ∧ 1 ≤ 41 ∧ 60 ≤ 958 ∧ Cond.methodLink RX12 i arraycopyName ∈ pz_tbl))) (List.forall_mem_cons.mpr ⟨(fun _ => Or.inl (s_X12_isIn (by decide) (by decide) (Or.inl (pz_mt 1217 (by decide +kernel))))), List.forall_mem_cons.mpr ⟨((fun z => by cases z)), List.forall_mem_cons.mpr ⟨((fun z => by cases z)), List.forall_mem_cons.mpr ⟨((fun z => by cases z)), List.forall_mem_cons.mpr ⟨((fun z => by cases z)), fun _ h => absurd h List.not_mem_nil⟩⟩⟩⟩⟩) false i k' h rfl
  · intro a M hlen hpre
    obtain ⟨th, i, rfl, hpre⟩ : ∃ th i, a = [.inr (.inr (12, th)), .inl i] ∧ (pz_im M) := by
      have hpre : (match (generalizing := false) a with | [.inr (.inr (12, th)), .inl i] => pz_im M | _ => False) := hpre
      split at hpre
      · exact ⟨_, _, rfl, hpre⟩
      · exact hpre.elim
    exact Nat.le_of_ble_eq_true rfl
  · intro a M hlen hcan hM hpre Ok hgo
    obtain ⟨th, i, rfl, hpre⟩ : ∃ th i, a = [.inr (.inr (12, th)), .inl i] ∧ (pz_im M) := by
      have hpre : (match (generalizing := false) a with | [.inr (.inr (12, th)), .inl i] => pz_im M | _ => False) := hpre
      split at hpre
      · exact ⟨_, _, rfl, hpre⟩
      · exact hpre.elim
    obtain ⟨k_th, hc_th⟩ := pz_tlm hcan
    have k_th : pz_kd th = 12 ∧ th < 231 := k_th
    have R_th := pz_kd12 k_th.1
    subst R_th
    clear k_th
    obtain ⟨k_i, hc_i⟩ := pz_tlm hc_th
    have l_i : -2147483648 ≤ i := k_i.1
    have u_i : i ≤ 2147483647 := k_i.2
    have hI : pz_im M := hpre
    have hI0 := hI
    have hS : pz_rl pz_QT M M := pz_rl.rf
    refine hgo (fun _ => false) 56 0 _ [] M ?_
    intro M2 e2
    have hS : pz_rl pz_QT M M2 := by
      rw [e2]
      exact pz_rl_u hS (by unfold pz_QT; decide) (pz_iom_f (by decide))
    have hI : pz_im M2 := hS.1 hI0
    have T2_0 : M2 1 12 = M 1 12 := by
      rw [e2]
      exact (pz_une (by decide))
    have T2_1 : M2 1 16 = M 1 16 := by
      rw [e2]
      exact (pz_une (by decide))
    have T2_2 : M2 1 17 = M 1 17 := by
      rw [e2]
      exact (pz_une (by decide))
    intro M7 e7
    have hS : pz_rl pz_QT M M7 := by
      rw [e7]
      exact pz_rl_u hS (by unfold pz_QT; decide) (pz_iom_f (by decide))
    have hI : pz_im M7 := hS.1 hI0
    have T7_0 : M7 1 12 = M 1 12 := by
      rw [e7]
      exact (pz_une (by decide)).trans T2_0
    clear T2_0
    have T7_1 : M7 1 16 = M 1 16 := by
      rw [e7]
      exact (pz_une (by decide)).trans T2_1
    clear T2_1
    have T7_2 : M7 1 17 = M 1 17 := by
      rw [e7]
      exact (pz_une (by decide)).trans T2_2
    clear T2_2
    have F7a : M7 1 23 = 0 := by rw [e7, pz_une (by omega), e2, pz_uu]
    have F7b : M7 1 25 = -1 := by rw [e7, pz_uu]
    refine And.intro (True.intro) ?_
    intro v13 M13 a13 b13 q13
    obtain ⟨q13, z13⟩ := q13
    subst z13
    clear a13 b13
    refine And.intro (fun h16 => ?_) (fun h16 => ?_)
    · skip
      replace q13 := q13.resolve_right (fun z => h16 z.1)
      clear h16
      intro M28 e28
      have hS : pz_rl pz_QT M M28 := by
        rw [e28]
        exact pz_rl_u hS (by unfold pz_QT; decide) (pz_iom_f (by decide))
      have hI : pz_im M28 := hS.1 hI0
      have T28_0 : M28 1 12 = M 1 12 := by
        rw [e28]
        exact (pz_une (by decide)).trans T7_0
      clear T7_0
      have T28_1 : M28 1 16 = M 1 16 := by
        rw [e28]
        exact (pz_une (by decide)).trans T7_1
      clear T7_1
      have T28_2 : M28 1 17 = M 1 17 := by
        rw [e28]
        exact (pz_une (by decide)).trans T7_2
      clear T7_2
      intro M33 e33
      have hS : pz_rl pz_QT M M33 := by
        rw [e33]
        exact pz_rl_u hS (by unfold pz_QT; decide) (pz_iom_17 (by omega))
      have hI : pz_im M33 := hS.1 hI0
      have T33_0 : M33 1 12 = M 1 12 := by
        rw [e33]
        exact (pz_une (by decide)).trans T28_0
      clear T28_0
      have T33_1 : M33 1 16 = M 1 16 := by
        rw [e33]
        exact (pz_une (by decide)).trans T28_1
      clear T28_1
      have T33_2 : M33 1 17 = (0) := by rw [e33]; exact pz_uu
      intro M38 e38
      have hS : pz_rl pz_QT M M38 := by
        rw [e38]
        exact pz_rl_u hS (by unfold pz_QT; decide) (pz_iom_f (by decide))
      have hI : pz_im M38 := hS.1 hI0
      have T38_0 : M38 1 12 = i := by rw [e38]; exact pz_uu
      have T38_1 : M38 1 16 = M 1 16 := by
        rw [e38]
        exact (pz_une (by decide)).trans T33_1
      clear T33_1
      have T38_2 : M38 1 17 = (0) := by
        rw [e38]
        exact (pz_une (by decide)).trans T33_2
      clear T33_2
      have U38 : ∀ b j, ¬ (b = 1 ∧ (j = 12 ∨ j = 17 ∨ j = 21)) → M38 b j = M7 b j := fun b j q => by rw [e38, pz_une (by omega), e33, pz_une (by omega), e28, pz_une (by omega)]
      have U7 : ∀ b j, ¬ (b = 1 ∧ (j = 23 ∨ j = 25)) → M7 b j = M b j := fun b j q => by rw [e7, pz_une (by omega), e2, pz_une (by omega)]
      have E38a : M38 67 = M 67 := funext fun j => (U38 67 j (by omega)).trans (U7 67 j (by omega))
      have E38b : M38 1 16 = M 1 16 := (U38 1 16 (by omega)).trans (U7 1 16 (by omega))
      have E38e : M38 60 88 = M 60 88 := (U38 60 88 (by omega)).trans (U7 60 88 (by omega))
      have E38c : M38 1 17 = 0 := by rw [e38, pz_une (by omega), e33, pz_uu]
      have E38d : M38 1 12 = i := by rw [e38, pz_uu]
      have F38c : ∀ j, M38 60 j = M 60 j := fun j => (U38 60 j (by omega)).trans (U7 60 j (by omega))
      have F38a : M38 1 23 = 0 := (U38 1 23 (by omega)).trans F7a
      have F38b : M38 1 25 = -1 := (U38 1 25 (by omega)).trans F7b
      clear U38 U7
      refine And.intro (hI) ?_
      intro M42 q42
      obtain ⟨q42, z42⟩ := q42
      have hS : pz_rl pz_QT M M42 := hS.tr (pz_rl.wk (by intro b j q; unfold pz_Q0 at q; unfold pz_QT; omega) z42)
      have hI : pz_im M42 := hS.1 hI0
      obtain ⟨q42, s42⟩ := q42
      have F42a : M42 1 23 = 0 := (z42.2 1 23 (by unfold pz_Q0; omega)).trans F38a
      have F42b : M42 1 25 = -1 := (z42.2 1 25 (by unfold pz_Q0; omega)).trans F38b
      have F42d : ∀ j, M42 60 j = M 60 j := fun j => (z42.2 60 j (by unfold pz_Q0; omega)).trans (F38c j)
      have F42c : M42 1 12 = i := (z42.2 1 12 (by unfold pz_Q0; omega)).trans E38d
      refine And.intro (fun h46 => ?_) (fun h46 => ?_)
      · skip
        replace h46 : 1 ≤ i := by omega
        refine And.intro (And.intro hI (And.intro (by omega) (by omega))) ?_
        intro v57 M57 a57 b57 q57
        obtain ⟨q57, z57⟩ := q57
        have hS : pz_rl pz_QT M M57 := hS.tr (pz_rl.wk (by intro b j q; unfold pz_Q2 at q; unfold pz_QT; omega) z57)
        have hI : pz_im M57 := hS.1 hI0
        obtain ⟨q57, s57⟩ := q57
        have F57c : ∀ j, M57 60 j = M 60 j := fun j => (z57.2 60 j (by unfold pz_Q2; omega)).trans (F42d j)
        have F57a : M57 1 23 = 0 := (z57.2 1 23 (by unfold pz_Q2; omega)).trans F42a
        have F57b : M57 1 25 = -1 := (z57.2 1 25 (by unfold pz_Q2; omega)).trans F42b
        have R57 : v57 ≠ 0 → (i = 0 → pz_wfl M57) ∧ (i = 2 → ∀ r : Int, 0 ≤ r → r < M57 1 15 → 0 ≤ M57 66 (3 * r).toNat ∧ M57 66 (3 * r).toNat ≤ 11) := fun z => ⟨fun y => absurd y (by omega), fun y => (q57.resolve_left z).2 (by have := z42.2 1 12 (by unfold pz_Q0; omega); omega)⟩
        intro M63 e63
        have hS : pz_rl pz_QT M M63 := by
          rw [e63]
          exact pz_rl_u hS (by unfold pz_QT; decide) (pz_iom_16 (by omega))
        have hI : pz_im M63 := hS.1 hI0
        have T63_0 : M63 1 12 = M57 1 12 := by
          rw [e63]
          exact (pz_une (by decide))
        have T63_1 : M63 1 16 = (0) := by rw [e63]; exact pz_uu
        have T63_2 : M63 1 17 = M57 1 17 := by
          rw [e63]
          exact (pz_une (by decide))
        have E63 : M63 64 = M57 64 ∧ M63 65 = M57 65 ∧ M63 66 = M57 66 := ⟨funext fun j => by rw [e63]; exact pz_una (by decide), funext fun j => by rw [e63]; exact pz_una (by decide), funext fun j => by rw [e63]; exact pz_una (by decide)⟩
        have E13 := pz_uve e63 1 13
        have E14 := pz_uve e63 1 14
        have E15 := pz_uve e63 1 15
        have F63c : ∀ j, M63 60 j = M 60 j := fun j => by rw [e63, pz_una (by decide)]; first | exact F50c j | exact F57c j
        have F63a : M63 1 23 = 0 := by rw [e63, pz_une (by omega)]; first | exact F50a | exact F57a
        have F63b : M63 1 25 = -1 := by rw [e63, pz_une (by omega)]; first | exact F50b | exact F57b
        refine And.intro (fun h67 => ?_) (fun h67 => ?_)
        · skip
          skip
          intro v78 e78 a78 b78
          intro M81 e81
          have hS : pz_rl pz_QT M M81 := by
            rw [e81]
            exact pz_rl_u hS (by unfold pz_QT; decide) (pz_iom_f (by decide))
          have hI : pz_im M81 := hS.1 hI0
          have T81_0 : M81 1 12 = M57 1 12 := by
            rw [e81]
            exact (pz_une (by decide)).trans T63_0
          clear T63_0
          have T81_1 : M81 1 16 = (0) := by
            rw [e81]
            exact (pz_une (by decide)).trans T63_1
          clear T63_1
          have T81_2 : M81 1 17 = M57 1 17 := by
            rw [e81]
            exact (pz_une (by decide)).trans T63_2
          clear T63_2
          intro v86 e86 a86 b86
          intro M89 e89
          have hS : pz_rl pz_QT M M89 := by
            rw [e89]
            exact pz_rl_u hS (by unfold pz_QT; decide) (pz_iom_f (by decide))
          have hI : pz_im M89 := hS.1 hI0
          have T89_0 : M89 1 12 = M57 1 12 := by
            rw [e89]
            exact (pz_une (by decide)).trans T81_0
          clear T81_0
          have T89_1 : M89 1 16 = (0) := by
            rw [e89]
            exact (pz_une (by decide)).trans T81_1
          clear T81_1
          have T89_2 : M89 1 17 = M57 1 17 := by
            rw [e89]
            exact (pz_une (by decide)).trans T81_2
          clear T81_2
          refine And.intro rfl ?_
          first
            | exact ⟨⟨pq_tx_0b (by omega) E38a E38b E38c E38d z42 s42 (s50.resolve_left (fun y => absurd y.1 (by omega))).2 rfl (fun j => by rw [e89, pz_una (by decide), e81, pz_una (by decide)]; exact F63c j) (by rw [e89, pz_une (by omega), e81, pz_uu, e78, e63, pz_une (by omega)]) (by rw [e89, pz_uu, e86, e81, pz_une (by omega), e63, pz_une (by omega)]), (by rw [e89, pz_une (by omega), e81, pz_une (by omega), e63, pz_uu])⟩, hS⟩
            | exact ⟨⟨pq_tx_rb (by omega) E38a E38b E38e E38c E38d z42 s42 (s57.resolve_left (fun y => absurd y.1 (by omega))).2 rfl (fun j => by rw [e89, pz_una (by decide), e81, pz_una (by decide)]; exact F63c j) (by rw [e89, pz_une (by omega), e81, pz_uu, e78, e63, pz_une (by omega)]) (by rw [e89, pz_uu, e86, e81, pz_une (by omega), e63, pz_une (by omega)]), (by rw [e89, pz_une (by omega), e81, pz_une (by omega), e63, pz_uu])⟩, hS⟩
        · skip
          have P1 : (i = 0 → pz_wfl M63) ∧ (i = 2 → ∀ r : Int, 0 ≤ r → r < M63 1 15 → 0 ≤ M63 66 (3 * r).toNat ∧ M63 66 (3 * r).toNat ≤ 11) := by
            first
              | have r := R50 (by omega)
                refine ⟨fun y => ?_, fun y => ?_⟩
                · have r1 := r.1 y
                  unfold pz_wfl at r1 ⊢
                  rw [E63.1, E63.2.1, show M63 1 14 = M50 1 14 by omega, show M63 1 13 = M50 1 13 by omega]
                  exact r1
                · have r1 := r.2 y
                  rw [E63.2.2, show M63 1 15 = M50 1 15 by omega]
                  exact r1
              | have r := R57 (by omega)
                refine ⟨fun y => ?_, fun y => ?_⟩
                · have r1 := r.1 y
                  unfold pz_wfl at r1 ⊢
                  rw [E63.1, E63.2.1, show M63 1 14 = M57 1 14 by omega, show M63 1 13 = M57 1 13 by omega]
                  exact r1
                · have r1 := r.2 y
                  rw [E63.2.2, show M63 1 15 = M57 1 15 by omega]
                  exact r1
          obtain ⟨P1a, P1b⟩ := P1
          refine And.intro (And.intro hI (And.intro (by assumption) (And.intro (by assumption) (And.intro (by omega) (by omega))))) ?_
          intro v72 M72 a72 b72 q72
          obtain ⟨q72, z72⟩ := q72
          have hS : pz_rl pz_QT M M72 := hS.tr (pz_rl.wk (by intro b j q; unfold pz_QU at q; unfold pz_QT; omega) z72)
          have hI : pz_im M72 := hS.1 hI0
          refine And.intro rfl ?_
          have U72a : M72 1 23 = 0 := (z72.2 1 23 (by unfold pz_QU; omega)).trans F63a
          have U72b : M72 1 25 = -1 := (z72.2 1 25 (by unfold pz_QU; omega)).trans F63b
          first
            | exact ⟨⟨pq_tx_0 (by omega) E38a E38b E38c E38d z42 s42 (s50.resolve_right (fun y => absurd y.1 (by omega))).2 (by rw [e63, pz_une (by omega)]) (by rw [e63, pz_une (by omega)]) E63.1 E63.2.1 q72 F63c U72a U72b, (by rw [z72.2 1 16 (by unfold pz_QU; omega), e63, pz_uu])⟩, hS⟩
            | exact ⟨⟨pq_tx_r (by omega) E38a E38b E38e E38c E38d z42 s42 (s57.resolve_right (fun y => absurd y.1 (by omega))).2 (by rw [e63, pz_une (by omega)]) E63.2.2 q72 F63c U72a U72b, (by rw [z72.2 1 16 (by unfold pz_QU; omega), e63, pz_uu])⟩, hS⟩
      · skip
        refine And.intro (And.intro hI (And.intro (by omega) (by omega))) ?_
        intro v50 M50 a50 b50 q50
        obtain ⟨q50, z50⟩ := q50
        have hS : pz_rl pz_QT M M50 := hS.tr (pz_rl.wk (by intro b j q; unfold pz_Q2 at q; unfold pz_QT; omega) z50)
        have hI : pz_im M50 := hS.1 hI0
        obtain ⟨q50, s50⟩ := q50
        have F50c : ∀ j, M50 60 j = M 60 j := fun j => (z50.2 60 j (by unfold pz_Q2; omega)).trans (F42d j)
        have F50a : M50 1 23 = 0 := (z50.2 1 23 (by unfold pz_Q2; omega)).trans F42a
        have F50b : M50 1 25 = -1 := (z50.2 1 25 (by unfold pz_Q2; omega)).trans F42b
        have R50 : v50 ≠ 0 → (i = 0 → pz_wfl M50) ∧ (i = 2 → ∀ r : Int, 0 ≤ r → r < M50 1 15 → 0 ≤ M50 66 (3 * r).toNat ∧ M50 66 (3 * r).toNat ≤ 11) := fun z => ⟨fun _ => (q50.resolve_left z).2, fun y => absurd y (by omega)⟩
        intro M63 e63
        have hS : pz_rl pz_QT M M63 := by
          rw [e63]
          exact pz_rl_u hS (by unfold pz_QT; decide) (pz_iom_16 (by omega))
        have hI : pz_im M63 := hS.1 hI0
        have T63_0 : M63 1 12 = M50 1 12 := by
          rw [e63]
          exact (pz_une (by decide))
        have T63_1 : M63 1 16 = (0) := by rw [e63]; exact pz_uu
        have T63_2 : M63 1 17 = M50 1 17 := by
          rw [e63]
          exact (pz_une (by decide))
        have E63 : M63 64 = M50 64 ∧ M63 65 = M50 65 ∧ M63 66 = M50 66 := ⟨funext fun j => by rw [e63]; exact pz_una (by decide), funext fun j => by rw [e63]; exact pz_una (by decide), funext fun j => by rw [e63]; exact pz_una (by decide)⟩
        have E13 := pz_uve e63 1 13
        have E14 := pz_uve e63 1 14
        have E15 := pz_uve e63 1 15
        have F63c : ∀ j, M63 60 j = M 60 j := fun j => by rw [e63, pz_una (by decide)]; first | exact F50c j | exact F57c j
        have F63a : M63 1 23 = 0 := by rw [e63, pz_une (by omega)]; first | exact F50a | exact F57a
        have F63b : M63 1 25 = -1 := by rw [e63, pz_une (by omega)]; first | exact F50b | exact F57b
        refine And.intro (fun h67 => ?_) (fun h67 => ?_)
        · skip
          skip
          intro v78 e78 a78 b78
          intro M81 e81
          have hS : pz_rl pz_QT M M81 := by
            rw [e81]
            exact pz_rl_u hS (by unfold pz_QT; decide) (pz_iom_f (by decide))
          have hI : pz_im M81 := hS.1 hI0
          have T81_0 : M81 1 12 = M50 1 12 := by
            rw [e81]
            exact (pz_une (by decide)).trans T63_0
          clear T63_0
          have T81_1 : M81 1 16 = (0) := by
            rw [e81]
            exact (pz_une (by decide)).trans T63_1
          clear T63_1
          have T81_2 : M81 1 17 = M50 1 17 := by
            rw [e81]
            exact (pz_une (by decide)).trans T63_2
          clear T63_2
          intro v86 e86 a86 b86
          intro M89 e89
          have hS : pz_rl pz_QT M M89 := by
            rw [e89]
            exact pz_rl_u hS (by unfold pz_QT; decide) (pz_iom_f (by decide))
          have hI : pz_im M89 := hS.1 hI0
          have T89_0 : M89 1 12 = M50 1 12 := by
            rw [e89]
            exact (pz_une (by decide)).trans T81_0
          clear T81_0
          have T89_1 : M89 1 16 = (0) := by
            rw [e89]
            exact (pz_une (by decide)).trans T81_1
          clear T81_1
          have T89_2 : M89 1 17 = M50 1 17 := by
            rw [e89]
            exact (pz_une (by decide)).trans T81_2
          clear T81_2
          refine And.intro rfl ?_
          first
            | exact ⟨⟨pq_tx_0b (by omega) E38a E38b E38c E38d z42 s42 (s50.resolve_left (fun y => absurd y.1 (by omega))).2 rfl (fun j => by rw [e89, pz_una (by decide), e81, pz_una (by decide)]; exact F63c j) (by rw [e89, pz_une (by omega), e81, pz_uu, e78, e63, pz_une (by omega)]) (by rw [e89, pz_uu, e86, e81, pz_une (by omega), e63, pz_une (by omega)]), (by rw [e89, pz_une (by omega), e81, pz_une (by omega), e63, pz_uu])⟩, hS⟩
            | exact ⟨⟨pq_tx_rb (by omega) E38a E38b E38e E38c E38d z42 s42 (s57.resolve_left (fun y => absurd y.1 (by omega))).2 rfl (fun j => by rw [e89, pz_una (by decide), e81, pz_una (by decide)]; exact F63c j) (by rw [e89, pz_une (by omega), e81, pz_uu, e78, e63, pz_une (by omega)]) (by rw [e89, pz_uu, e86, e81, pz_une (by omega), e63, pz_une (by omega)]), (by rw [e89, pz_une (by omega), e81, pz_une (by omega), e63, pz_uu])⟩, hS⟩
        · skip
          have P1 : (i = 0 → pz_wfl M63) ∧ (i = 2 → ∀ r : Int, 0 ≤ r → r < M63 1 15 → 0 ≤ M63 66 (3 * r).toNat ∧ M63 66 (3 * r).toNat ≤ 11) := by
            first
              | have r := R50 (by omega)
                refine ⟨fun y => ?_, fun y => ?_⟩
                · have r1 := r.1 y
                  unfold pz_wfl at r1 ⊢
                  rw [E63.1, E63.2.1, show M63 1 14 = M50 1 14 by omega, show M63 1 13 = M50 1 13 by omega]
                  exact r1
                · have r1 := r.2 y
                  rw [E63.2.2, show M63 1 15 = M50 1 15 by omega]
                  exact r1
              | have r := R57 (by omega)
                refine ⟨fun y => ?_, fun y => ?_⟩
                · have r1 := r.1 y
                  unfold pz_wfl at r1 ⊢
                  rw [E63.1, E63.2.1, show M63 1 14 = M57 1 14 by omega, show M63 1 13 = M57 1 13 by omega]
                  exact r1
                · have r1 := r.2 y
                  rw [E63.2.2, show M63 1 15 = M57 1 15 by omega]
                  exact r1
          obtain ⟨P1a, P1b⟩ := P1
          refine And.intro (And.intro hI (And.intro (by assumption) (And.intro (by assumption) (And.intro (by omega) (by omega))))) ?_
          intro v72 M72 a72 b72 q72
          obtain ⟨q72, z72⟩ := q72
          have hS : pz_rl pz_QT M M72 := hS.tr (pz_rl.wk (by intro b j q; unfold pz_QU at q; unfold pz_QT; omega) z72)
          have hI : pz_im M72 := hS.1 hI0
          refine And.intro rfl ?_
          have U72a : M72 1 23 = 0 := (z72.2 1 23 (by unfold pz_QU; omega)).trans F63a
          have U72b : M72 1 25 = -1 := (z72.2 1 25 (by unfold pz_QU; omega)).trans F63b
          first
            | exact ⟨⟨pq_tx_0 (by omega) E38a E38b E38c E38d z42 s42 (s50.resolve_right (fun y => absurd y.1 (by omega))).2 (by rw [e63, pz_une (by omega)]) (by rw [e63, pz_une (by omega)]) E63.1 E63.2.1 q72 F63c U72a U72b, (by rw [z72.2 1 16 (by unfold pz_QU; omega), e63, pz_uu])⟩, hS⟩
            | exact ⟨⟨pq_tx_r (by omega) E38a E38b E38e E38c E38d z42 s42 (s57.resolve_right (fun y => absurd y.1 (by omega))).2 (by rw [e63, pz_une (by omega)]) E63.2.2 q72 F63c U72a U72b, (by rw [z72.2 1 16 (by unfold pz_QU; omega), e63, pz_uu])⟩, hS⟩
    · skip
      replace q13 := q13.resolve_left (fun z => absurd (z.1.symm.trans h16) (by decide))
      clear h16
      intro M21 e21
      have hS : pz_rl pz_QT M M21 := by
        rw [e21]
        exact pz_rl_u hS (by unfold pz_QT; decide) (pz_iom_16 (by omega))
      have hI : pz_im M21 := hS.1 hI0
      have T21_0 : M21 1 12 = M 1 12 := by
        rw [e21]
        exact (pz_une (by decide)).trans T7_0
      clear T7_0
      have T21_1 : M21 1 16 = (0) := by rw [e21]; exact pz_uu
      have T21_2 : M21 1 17 = M 1 17 := by
        rw [e21]
        exact (pz_une (by decide)).trans T7_2
      clear T7_2
      refine And.intro rfl ?_
      exact ⟨⟨pq_tx_out (by omega) rfl (by rw [e21, pz_une (by omega)]; exact F7a) (by rw [e21, pz_une (by omega)]; exact F7b) (fun j => by rw [e21, pz_una (by decide), e7, pz_una (by decide), e2, pz_una (by decide)]), by rw [e21, pz_uu]⟩, hS⟩
theorem v_X12_text {fr lo i : Nat} {own : String} (h1 : 41 + 1 ≤ fr) (h2 : 8 + (3 + 11) + 958 ≤ lo) (h3 : .methodLink own i yX12_text ∈ lw_tbl) : pz_cV fr lo own i k_X12_text :=
  pz_cVk (maxL := 3) (fr' := 41) (lo' := 958) 1 12 h_X12_text rfl ⟨by decide +kernel, by decide +kernel, by decide +kernel⟩ ⟨(pz_mt 1242 (by decide +kernel)), (pz_mt 1240 (by decide +kernel)), (pz_mt 1241 (by decide +kernel)), (pz_mt 13 (by decide +kernel))⟩ (Or.inl ⟨TX12, 28, rfl⟩) (fun a M _ h => by
    have h : (match (generalizing := false) a with | [.inr (.inr (12, th)), .inl i] => pz_im M | _ => False) := h
    split at h
    · exact ⟨_, _, rfl⟩
    · exact h.elim) h1 h2 h3
