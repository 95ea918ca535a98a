section
theorem v_X12_putsLaw {fr lo i : Nat} {own : String} (h1 : 0 + 1 ≤ fr) (h2 : 8 + (2 + 11) + 0 ≤ lo) (h3 : .methodLink own i yX12_putsLaw ∈ lw_tbl) : pz_cV fr lo own i k_X12_putsLaw :=
  pz_cVk (maxL := 2) (fr' := 0) (lo' := 0) 0 12 h_X12_putsLaw rfl ⟨(pz_nhc_RX12 yX12_putsLaw rfl).1, (pz_nhc_RX12 yX12_putsLaw rfl).2, pz_ds1⟩ ⟨pz_wq1390, pz_wq1389, pz_ws34, pz_wq13⟩ (Or.inl ⟨TX12, 28, rfl⟩) (fun a M _ h => by
    have h : (match (generalizing := false) a with | [.inr (.inr (12, th))] => pz_im M ∧ pz_wfl M | _ => False) := h
    split at h
    · exact ⟨_, _, rfl⟩
    · exact h.elim) h1 h2 h3
end
section
noncomputable def k_X12_puts : pz_C := (4, 1, fun a M => (match a with | [.inr (.inr (12, th)), .inl i, .inl j, .inl k] => pz_im M ∧ ((i = 90 ∧ j = 129 ∧ k = 5) ∨ (i = 92 ∧ j = 209 ∧ k = 2)) | _ => False), fun a M r M' => (match a, r with | [.inr (.inr (12, th)), .inl i, .inl j, .inl k], some (.inl v) => (v = M 1 15 ∧ pz_pcc i j k M M') ∧ pz_rl (pz_QP i j k) M M' | _, _ => False))
noncomputable abbrev ct_X12_puts : List (Bool × Nat × pz_C) := []
set_option maxRecDepth 100000 in
set_option maxHeartbeats 4000000 in
theorem h_X12_puts : pz_H yX12_puts cX12_puts 5 (some .int) k_X12_puts 0 0 := by
  refine pz_mk (own := RX12) (tb := t_X12_puts) (fl := pz_flf fl_RX12) (ci := pz_cif ci_RX12) (ct := pz_ctf ct_X12_puts) (rz := false) (pz_pfc_RX12 yX12_puts rfl) rfl t_X12_puts_ok (pz_flk fl_RX12_ok) (pz_cik ci_RX12_ok) ?_ ?_ (Or.inl ⟨rfl, rfl⟩) ?_ ?_
  · exact fun i k' h => pz_ctk (l := ct_X12_puts) (P := fun b i k => b = true → pz_cV 0 0 RX12 i k) (fun _ h => absurd h List.not_mem_nil) true i k' h rfl
  · exact fun i k' h => pz_ctk (l := ct_X12_puts) (P := fun b i k => b = false → (pz_cS 0 0 RX12 i k ∨ (k = pz_kac ∧ 1 ≤ 0 ∧ 60 ≤ 0 ∧ Cond.methodLink RX12 i arraycopyName ∈ pz_tbl))) (fun _ h => absurd h List.not_mem_nil) false i k' h rfl
  · intro a M hlen hpre
    obtain ⟨th, i, j, k, rfl, hpre⟩ : ∃ th i j k, a = [.inr (.inr (12, th)), .inl i, .inl j, .inl k] ∧ (pz_im M ∧ ((i = 90 ∧ j = 129 ∧ k = 5) ∨ (i = 92 ∧ j = 209 ∧ k = 2))) := by
      have hpre : (match (generalizing := false) a with | [.inr (.inr (12, th)), .inl i, .inl j, .inl k] => pz_im M ∧ ((i = 90 ∧ j = 129 ∧ k = 5) ∨ (i = 92 ∧ j = 209 ∧ k = 2)) | _ => False) := hpre
      split at hpre
      · exact ⟨_, _, _, _, rfl, hpre⟩
      · exact hpre.elim
    exact Nat.le_of_ble_eq_true rfl
  · intro a M hlen hcan hM hpre Ok hgo
    obtain ⟨th, i, j, k, rfl, hpre⟩ : ∃ th i j k, a = [.inr (.inr (12, th)), .inl i, .inl j, .inl k] ∧ (pz_im M ∧ ((i = 90 ∧ j = 129 ∧ k = 5) ∨ (i = 92 ∧ j = 209 ∧ k = 2))) := by
      have hpre : (match (generalizing := false) a with | [.inr (.inr (12, th)), .inl i, .inl j, .inl k] => pz_im M ∧ ((i = 90 ∧ j = 129 ∧ k = 5) ∨ (i = 92 ∧ j = 209 ∧ k = 2)) | _ => False) := hpre
      split at hpre
      · exact ⟨_, _, _, _, rfl, hpre⟩
      · exact hpre.elim
    obtain ⟨k_th, hc_th⟩ := pz_tlm hcan
    have k_th : pz_kd th = 12 ∧ th < 231 := k_th
    have R_th := pz_kd12 k_th.1
    subst R_th
    clear k_th
    obtain ⟨k_i, hc_i⟩ := pz_tlm hc_th
    have l_i : -2147483648 ≤ i := k_i.1
    have u_i : i ≤ 2147483647 := k_i.2
    obtain ⟨k_j, hc_j⟩ := pz_tlm hc_i
    have l_j : -2147483648 ≤ j := k_j.1
    have u_j : j ≤ 2147483647 := k_j.2
    obtain ⟨k_k, hc_k⟩ := pz_tlm hc_j
    have l_k : -2147483648 ≤ k := k_k.1
    have u_k : k ≤ 2147483647 := k_k.2
    have hI : pz_im M := hpre.1
    have hI0 := hI
    have hS : pz_rl (pz_QP i j k) M M := pz_rl.rf
    have I15 := hI.2.1.2.2.2.2.2.2.2.1
    obtain ⟨-, hp9⟩ := hpre
    have L13 : ∀ (fu : Nat) (x4 : Int) (N13 : pz_M), (80 - x4).toNat < fu → (pz_rl (pz_QP i j k) M N13) → (0 ≤ x4) → (N13 60 i.toNat = M 1 15) → (∀ n : Nat, (n : Int) < x4 → N13 60 (j.toNat + n) = M 66 n) → Ok 13 [some (.inr (.inr (12, 1))), some (.inl i), some (.inl j), some (.inl k), some (.inl x4)] [] N13 := by
      intro fu
      induction fu with
      | zero => exact fun _ _ hn => absurd hn (Nat.not_lt_zero _)
      | succ fu ih13 =>
        intro x4 N13 hn13 hS g13_1 g13_2 g13_3
        have hI : pz_im N13 := hS.1 hI0
        have F15 := hS.2 1 15 (by unfold pz_QP; first | decide | omega)
        refine hgo (fun p => Nat.beq p 13) 31 13 _ _ _ ?_
        intro v17 e17 a17 b17
        have I17 : 0 ≤ v17 ∧ v17 ≤ 16 := by
          rw [e17]
          exact hI.2.1.2.2.2.2.2.2.2.1
        clear a17 b17
        have N17 := hI.2.1.2.2.2.2.2.2.2.1
        intro v20 e20 a20 b20
        have B20 : (k = 5 ∧ v20 = 5 * v17) ∨ (k = 2 ∧ v20 = 2 * v17) := by
          rcases hp9 with ⟨-, -, h9⟩ | ⟨-, -, h9⟩ <;> rw [h9] at e20 <;> rw [pz_wi (by first | decide | omega) (by first | decide | omega)] at e20 <;> omega
        refine And.intro (fun h21 => ?_) (fun h21 => ?_)
        · skip
          intro v47 e47 a47 b47
          have I47 : 0 ≤ v47 ∧ v47 ≤ 16 := by
            rw [e47]
            exact hI.2.1.2.2.2.2.2.2.2.1
          clear a47 b47
          have N47 := hI.2.1.2.2.2.2.2.2.2.1
          refine And.intro rfl ?_
          have H15 := hS.2 1 15 (by unfold pz_QP; first | decide | omega)
          exact ⟨⟨by omega, g13_2, fun n hn => g13_3 n (by rcases B20 with ⟨b1, b2⟩ | ⟨b1, b2⟩ <;> rw [b1] at hn <;> omega)⟩, hS⟩
        · skip
          refine pz_nrc (c := 60) rfl ?_
          intro v31 e31 a31 b31
          rw [pz_wi (by first | decide | omega) (by first | decide | omega)] at e31
          clear a31 b31
          refine pz_nrc (c := 66) rfl ?_
          have lo38 : (0 : Int) ≤ x4 := by omega
          have tn38 : (((x4).toNat : Nat) : Int) = x4 := Int.toNat_of_nonneg lo38
          refine And.intro (lo38) (And.intro (show _ < (80 : Int) from by omega) ?_)
          intro v38 e38 a38 b38
          rw [hS.2 66 _ (by unfold pz_QP; first | decide | omega)] at e38
          have lo39 : (0 : Int) ≤ v31 := by omega
          have tn39 : (((v31).toNat : Nat) : Int) = v31 := Int.toNat_of_nonneg lo39
          refine And.intro (lo39) (And.intro (show _ < (1725 : Int) from by omega) ?_)
          intro M39 e39
          have hS : pz_rl (pz_QP i j k) M M39 := by
            rw [e39]
            exact pz_rl_u hS (by unfold pz_QP; first | decide | omega) (pz_iom_w2 (by first | decide | omega) (by first | decide | omega))
          have hI : pz_im M39 := hS.1 hI0
          have K39 := e39
          have G39 : M39 60 i.toNat = M 1 15 := by rw [e39, pz_une (by first | decide | omega)]; exact g13_2
          intro v40 e40 a40 b40
          rw [pz_wi (by first | decide | omega) (by first | decide | omega)] at e40
          have G40 : ∀ n : Nat, (n : Int) < v40 → M39 60 (j.toNat + n) = M 66 n := pz_pc_s (p := v31.toNat) (by first | decide | omega) g13_1 (by first | decide | omega) K39 e38 (by first | decide | omega) g13_3
          exact ih13 _ _ (by first | decide | omega) hS (by first | omega | assumption | exact (fun n hn => absurd hn (by first | decide | omega))) (by first | omega | assumption | exact (fun n hn => absurd hn (by first | decide | omega))) (by first | omega | assumption | exact (fun n hn => absurd hn (by first | decide | omega)))
    refine hgo (fun p => Nat.beq p 13) 31 0 _ [] M ?_
    refine pz_nrc (c := 60) rfl ?_
    intro v6 e6 a6 b6
    have I6 : 0 ≤ v6 ∧ v6 ≤ 16 := by
      rw [e6]
      exact hI.2.1.2.2.2.2.2.2.2.1
    clear a6 b6
    have N6 := hI.2.1.2.2.2.2.2.2.2.1
    have lo9 : (0 : Int) ≤ i := by omega
    have tn9 : (((i).toNat : Nat) : Int) = i := Int.toNat_of_nonneg lo9
    refine And.intro (lo9) (And.intro (show _ < (1725 : Int) from by omega) ?_)
    intro M9 e9
    have hS : pz_rl (pz_QP i j k) M M9 := by
      rw [e9]
      exact pz_rl_u hS (by unfold pz_QP; first | decide | omega) (by rcases hp9 with ⟨h9, -, -⟩ | ⟨h9, -, -⟩ <;> rw [h9] <;> first | exact pz_iom_90 (by first | decide | omega) | exact pz_iom_92 (by first | decide | omega))
    have hI : pz_im M9 := hS.1 hI0
    have G9 : M9 60 i.toNat = M 1 15 := by rw [e9, pz_uu]; omega
    exact L13 _ _ _ (Nat.lt_succ_self _) hS (by first | omega | assumption | exact (fun n hn => absurd hn (by first | decide | omega))) (by first | omega | assumption | exact (fun n hn => absurd hn (by first | decide | omega))) (by first | omega | assumption | exact (fun n hn => absurd hn (by first | decide | omega)))
end
