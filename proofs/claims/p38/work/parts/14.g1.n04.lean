noncomputable def k_X12_readsRows : pz_C := (1, 1, fun a M => (match a with | [.inr (.inr (12, th))] => pz_im M ∧ 1 ≤ M 1 12 ∧ M 1 12 ≤ 3 | _ => False), fun a M r M' => (match a, r with | [.inr (.inr (12, th))], some (.inl v) => ((v = 0 ∨ (v = 1 ∧ (M 1 12 = 2 → ∀ r : Int, 0 ≤ r → r < M' 1 15 → 0 ≤ M' 66 (3 * r).toNat ∧ M' 66 (3 * r).toNat ≤ 11))) ∧ ((v = 1 ∧ pq_QE M M') ∨ (v = 0 ∧ pq_QB M M'))) ∧ pz_rl pz_Q2 M M' | _, _ => False))
noncomputable abbrev ct_X12_readsRows : List (Bool × Nat × pz_C) := [(true, 188, k_X12_bad), (true, 257, k_X12_aRow)]
theorem pz_wk_Q8_Q2 : ∀ b j, pz_Q8 b j → pz_Q2 b j := by
  intro b j q
  unfold pz_Q8 at q
  unfold pz_Q2
  omega
theorem pz_wk_Q0_Q2 : ∀ b j, pz_Q0 b j → pz_Q2 b j := by
  intro b j q
  unfold pz_Q0 at q
  unfold pz_Q2
  omega
set_option maxRecDepth 100000 in
set_option maxHeartbeats 4000000 in
theorem h_X12_readsRows : pz_H yX12_readsRows cX12_readsRows 3 (some .boolean) k_X12_readsRows 13 279 := by
  refine pz_mk (own := RX12) (tb := t_X12_readsRows) (fl := pz_flf fl_RX12) (ci := pz_cif ci_RX12) (ct := pz_ctf ct_X12_readsRows) (rz := true) (pz_pfc_RX12 yX12_readsRows rfl) rfl t_X12_readsRows_ok (pz_flk fl_RX12_ok) (pz_cik ci_RX12_ok) ?_ ?_ (Or.inr ⟨rfl, rfl⟩) ?_ ?_
  · exact fun i k' h => pz_ctk (l := ct_X12_readsRows) (P := fun b i k => b = true → pz_cV 13 279 RX12 i k) (List.forall_mem_cons.mpr ⟨(fun _ => v_X12_bad (by decide) (by decide) pz_wq1311), List.forall_mem_cons.mpr ⟨(fun _ => v_X12_aRow (by decide) (by decide) pz_wq1355), fun _ h => absurd h List.not_mem_nil⟩⟩) true i k' h rfl
  · exact fun i k' h => pz_ctk (l := ct_X12_readsRows) (P := fun b i k => b = false → (pz_cS 13 279 RX12 i k ∨ (k = pz_kac ∧ 1 ≤ 13 ∧ 60 ≤ 279 ∧ Cond.methodLink RX12 i arraycopyName ∈ pz_tbl))) (List.forall_mem_cons.mpr ⟨((fun z => by cases z)), List.forall_mem_cons.mpr ⟨((fun z => by cases z)), fun _ h => absurd h List.not_mem_nil⟩⟩) false i k' h rfl
  · intro a M hlen hpre
    obtain ⟨th, rfl, hpre⟩ : ∃ th, a = [.inr (.inr (12, th))] ∧ (pz_im M ∧ 1 ≤ M 1 12 ∧ M 1 12 ≤ 3) := by
      have hpre : (match (generalizing := false) a with | [.inr (.inr (12, th))] => pz_im M ∧ 1 ≤ M 1 12 ∧ M 1 12 ≤ 3 | _ => False) := hpre
      split at hpre
      · exact ⟨_, rfl, hpre⟩
      · exact hpre.elim
    exact Nat.le_of_ble_eq_true rfl
  · intro a M hlen hcan hM hpre Ok hgo
    obtain ⟨th, rfl, hpre⟩ : ∃ th, a = [.inr (.inr (12, th))] ∧ (pz_im M ∧ 1 ≤ M 1 12 ∧ M 1 12 ≤ 3) := by
      have hpre : (match (generalizing := false) a with | [.inr (.inr (12, th))] => pz_im M ∧ 1 ≤ M 1 12 ∧ M 1 12 ≤ 3 | _ => False) := hpre
      split at hpre
      · exact ⟨_, rfl, hpre⟩
      · exact hpre.elim
    obtain ⟨k_th, hc_th⟩ := pz_tlm hcan
    have k_th : pz_kd th = 12 ∧ th < 231 := k_th
    have R_th := pz_kd12 k_th.1
    subst R_th
    clear k_th
    have hI : pz_im M := hpre.1
    have hI0 := hI
    have hS : pz_rl pz_Q2 M M := pz_rl.rf
    obtain ⟨-, pr1, pr2⟩ := hpre
    have L36 : ∀ (fu : Nat) (x1 : Int) (x2 : Int) (N36 : pz_M), (17 - N36 1 15 + x2).toNat < fu → (pz_rl pz_Q2 M N36) → (x2 = 0 ∨ x2 = 1) → (x1 = pq_bg (M 1 12)) → (x2 = 1 → M 1 12 = 2 → ∀ r : Int, 0 ≤ r → r < N36 1 15 → 0 ≤ N36 66 (3 * r).toNat ∧ N36 66 (3 * r).toNat ≤ 11) → (x2 = 1 → pq_QN M N36) → (x2 = 0 → pq_QB M N36) → Ok 36 [some (.inr (.inr (12, 1))), some (.inl x1), some (.inl x2)] [] N36 := by
      intro fu
      induction fu with
      | zero => exact fun _ _ _ hn => absurd hn (Nat.not_lt_zero _)
      | succ fu ih36 =>
        intro x1 x2 N36 hn36 hS g36_1 g36_2 g36_3 g36_4 g36_5
        have hI : pz_im N36 := hS.1 hI0
        have I15 := hI.2.1.2.2.2.2.2.2.2.1
        have F12 : N36 1 12 = M 1 12 := hS.2 1 12 (by unfold pz_Q2; omega)
        refine hgo (fun p => Nat.beq p 36) 58 36 _ _ _ ?_
        refine And.intro (fun h37 => ?_) (fun h37 => ?_)
        · skip
          refine And.intro (by omega) ?_
          refine And.intro rfl ?_
          refine ⟨?_, hS⟩
          first
            | exact ⟨Or.inl (by omega), Or.inr ⟨by omega, g36_5 (by omega)⟩⟩
            | (have h : x2 = 1 := by omega
               exact ⟨Or.inr ⟨h, g36_3 h⟩, Or.inl ⟨h, pq_QN_z (g36_4 h) (by omega)⟩⟩)
        · skip
          intro v41 e41 a41 b41
          refine And.intro (fun h44 => ?_) (fun h44 => ?_)
          · skip
            refine And.intro (by omega) ?_
            refine And.intro rfl ?_
            refine ⟨?_, hS⟩
            first
              | exact ⟨Or.inl (by omega), Or.inr ⟨by omega, g36_5 (by omega)⟩⟩
              | (have h : x2 = 1 := by omega
                 exact ⟨Or.inr ⟨h, g36_3 h⟩, Or.inl ⟨h, pq_QN_z (g36_4 h) (by omega)⟩⟩)
          · skip
            intro v48 e48 a48 b48
            refine And.intro (fun h52 => ?_) (fun h52 => ?_)
            · skip
              intro v62 e62 a62 b62
              have I62 : 0 ≤ v62 ∧ v62 ≤ 16 := by
                rw [e62]
                exact hI.2.1.2.2.2.2.2.2.2.1
              clear a62 b62
              have N62 := hI.2.1.2.2.2.2.2.2.2.1
              refine And.intro (fun h67 => ?_) (fun h67 => ?_)
              · skip
                replace h67 : v62 ≤ 15 := by omega
                refine And.intro (And.intro hI (And.intro (by omega) (And.intro (And.intro (by omega) (by omega)) (by rw [F12]; omega)))) ?_
                intro v77 M77 a77 b77 q77
                obtain ⟨q77, z77⟩ := q77
                have hS : pz_rl pz_Q2 M M77 := hS.tr (pz_rl.wk pz_wk_Q8_Q2 z77)
                have hI : pz_im M77 := hS.1 hI0
                obtain ⟨q77, s77⟩ := q77
                have A77 := z77.2 1 15 (by unfold pz_Q8; omega)
                intro v83 e83 a83 b83
                have I83 : 0 ≤ v83 ∧ v83 ≤ 16 := by
                  rw [e83]
                  exact hI.2.1.2.2.2.2.2.2.2.1
                clear a83 b83
                have N83 := hI.2.1.2.2.2.2.2.2.2.1
                refine And.intro (fun h87 => ?_) (fun h87 => ?_)
                · skip
                  intro v95 e95 a95 b95
                  rw [pz_wi (by omega) (by omega)] at e95
                  clear a95 b95
                  intro M96 e96
                  have hS : pz_rl pz_Q2 M M96 := by
                    rw [e96]
                    exact pz_rl_u hS (by unfold pz_Q2; decide) (pz_iom_15 (by omega))
                  have hI : pz_im M96 := hS.1 hI0
                  have T96_0 : M96 1 15 = v95 := by rw [e96]; exact pz_uu
                  have G96 : v77 = 1 → M 1 12 = 2 → ∀ r : Int, 0 ≤ r → r < M96 1 15 → 0 ≤ M96 66 (3 * r).toNat ∧ M96 66 (3 * r).toNat ≤ 11 := by
                    intro a b r r0 r1
                    have E9 : ∀ j, M96 66 j = M77 66 j := fun j => by rw [e96]; exact pz_una (by decide)
                    rw [E9]
                    have q9 := q77.2 (by omega)
                    rcases Int.lt_or_le r (N36 1 15) with h9 | h9
                    · rw [q9.1 _ (by omega)]
                      exact g36_3 (by omega) b r r0 h9
                    · rw [show r = N36 1 15 by omega]
                      exact (q9.2.resolve_left (by omega)).2
                  have Q96 : v77 = 1 → pq_QN M M96 := fun a => pq_QN_s (g36_4 (by omega)) (show M 1 12 = 1 ∨ M 1 12 = 2 ∨ M 1 12 = 3 by omega) (pq_hk (show M 1 12 = 1 ∨ M 1 12 = 2 ∨ M 1 12 = 3 by omega)) (by omega) (by omega) (by omega) s77 (by omega) (pq_Q8 z77) (z77.2 60 88 (by unfold pz_Q8; omega)) e96 (by omega)
                  have B96 : v77 = 0 → pq_QB M M96 := fun a => pq_QN_b (g36_4 (by omega)) (pq_hk (show M 1 12 = 1 ∨ M 1 12 = 2 ∨ M 1 12 = 3 by omega)) (by omega) (by omega) (by omega) s77 a e96
                  exact ih36 _ _ _ (by omega) hS (by first | omega | assumption | exact (fun y => absurd y (by decide)) | exact pq_bg1 (by omega) | exact pq_bg2 (by omega) | exact pq_bg3 (by omega)) (by first | omega | assumption | exact (fun y => absurd y (by decide)) | exact pq_bg1 (by omega) | exact pq_bg2 (by omega) | exact pq_bg3 (by omega)) (by first | omega | assumption | exact (fun y => absurd y (by decide)) | exact pq_bg1 (by omega) | exact pq_bg2 (by omega) | exact pq_bg3 (by omega)) (by first | omega | assumption | exact (fun y => absurd y (by decide)) | exact pq_bg1 (by omega) | exact pq_bg2 (by omega) | exact pq_bg3 (by omega)) (by first | omega | assumption | exact (fun y => absurd y (by decide)) | exact pq_bg1 (by omega) | exact pq_bg2 (by omega) | exact pq_bg3 (by omega))
                · skip
                  intro v95 e95 a95 b95
                  rw [pz_wi (by omega) (by omega)] at e95
                  clear a95 b95
                  intro M96 e96
                  have hS : pz_rl pz_Q2 M M96 := by
                    rw [e96]
                    exact pz_rl_u hS (by unfold pz_Q2; decide) (pz_iom_15 (by omega))
                  have hI : pz_im M96 := hS.1 hI0
                  have T96_0 : M96 1 15 = v95 := by rw [e96]; exact pz_uu
                  have G96 : v77 = 1 → M 1 12 = 2 → ∀ r : Int, 0 ≤ r → r < M96 1 15 → 0 ≤ M96 66 (3 * r).toNat ∧ M96 66 (3 * r).toNat ≤ 11 := by
                    intro a b r r0 r1
                    have E9 : ∀ j, M96 66 j = M77 66 j := fun j => by rw [e96]; exact pz_una (by decide)
                    rw [E9]
                    have q9 := q77.2 (by omega)
                    rcases Int.lt_or_le r (N36 1 15) with h9 | h9
                    · rw [q9.1 _ (by omega)]
                      exact g36_3 (by omega) b r r0 h9
                    · rw [show r = N36 1 15 by omega]
                      exact (q9.2.resolve_left (by omega)).2
                  have Q96 : v77 = 1 → pq_QN M M96 := fun a => pq_QN_s (g36_4 (by omega)) (show M 1 12 = 1 ∨ M 1 12 = 2 ∨ M 1 12 = 3 by omega) (pq_hk (show M 1 12 = 1 ∨ M 1 12 = 2 ∨ M 1 12 = 3 by omega)) (by omega) (by omega) (by omega) s77 (by omega) (pq_Q8 z77) (z77.2 60 88 (by unfold pz_Q8; omega)) e96 (by omega)
                  have B96 : v77 = 0 → pq_QB M M96 := fun a => pq_QN_b (g36_4 (by omega)) (pq_hk (show M 1 12 = 1 ∨ M 1 12 = 2 ∨ M 1 12 = 3 by omega)) (by omega) (by omega) (by omega) s77 a e96
                  exact ih36 _ _ _ (by omega) hS (by first | omega | assumption | exact (fun y => absurd y (by decide)) | exact pq_bg1 (by omega) | exact pq_bg2 (by omega) | exact pq_bg3 (by omega)) (by first | omega | assumption | exact (fun y => absurd y (by decide)) | exact pq_bg1 (by omega) | exact pq_bg2 (by omega) | exact pq_bg3 (by omega)) (by first | omega | assumption | exact (fun y => absurd y (by decide)) | exact pq_bg1 (by omega) | exact pq_bg2 (by omega) | exact pq_bg3 (by omega)) (by first | omega | assumption | exact (fun y => absurd y (by decide)) | exact pq_bg1 (by omega) | exact pq_bg2 (by omega) | exact pq_bg3 (by omega)) (by first | omega | assumption | exact (fun y => absurd y (by decide)) | exact pq_bg1 (by omega) | exact pq_bg2 (by omega) | exact pq_bg3 (by omega))
              · skip
                refine And.intro (hI) ?_
                intro v72 M72 a72 b72 q72
                obtain ⟨q72, z72⟩ := q72
                have hS : pz_rl pz_Q2 M M72 := hS.tr (pz_rl.wk pz_wk_Q0_Q2 z72)
                have hI : pz_im M72 := hS.1 hI0
                clear a72 b72
                refine And.intro (by omega) ?_
                refine And.intro rfl ?_
                exact ⟨⟨Or.inl (by omega), Or.inr ⟨by omega, pq_QN_m (g36_4 (by omega)) (pq_hk (show M 1 12 = 1 ∨ M 1 12 = 2 ∨ M 1 12 = 3 by omega)) (by omega) (by omega) (by omega) q72.2.1 q72.2.2⟩⟩, hS⟩
            · skip
              refine And.intro (hI) ?_
              intro v57 M57 a57 b57 q57
              obtain ⟨q57, z57⟩ := q57
              have hS : pz_rl pz_Q2 M M57 := hS.tr (pz_rl.wk pz_wk_Q0_Q2 z57)
              have hI : pz_im M57 := hS.1 hI0
              clear a57 b57
              refine And.intro (by omega) ?_
              refine And.intro rfl ?_
              exact ⟨⟨Or.inl (by omega), Or.inr ⟨by omega, pq_QN_w (g36_4 (by omega)) (pq_hk (show M 1 12 = 1 ∨ M 1 12 = 2 ∨ M 1 12 = 3 by omega)) (by omega) (by omega) q57.2.1 q57.2.2⟩⟩, hS⟩
    refine hgo (fun p => Nat.beq p 36) 58 0 _ [] M ?_
    intro M2 e2
    have hS : pz_rl pz_Q2 M M2 := by
      rw [e2]
      exact pz_rl_u hS (by unfold pz_Q2; decide) (pz_iom_15 (by omega))
    have hI : pz_im M2 := hS.1 hI0
    have T2_0 : M2 1 15 = (0) := by rw [e2]; exact pz_uu
    have G2 : (1 : Int) = 1 → M 1 12 = 2 → ∀ r : Int, 0 ≤ r → r < M2 1 15 → 0 ≤ M2 66 (3 * r).toNat ∧ M2 66 (3 * r).toNat ≤ 11 := fun _ _ r r0 r1 => absurd r1 (by omega)
    have Q2 : (1 : Int) = 1 → pq_QN M M2 := fun _ => pq_QN_0 e2
    intro v6 e6 a6 b6
    rw [hS.2 1 12 (by unfold pz_Q2; omega)] at e6
    refine And.intro (fun h10 => ?_) (fun h10 => ?_)
    · skip
      intro v19 e19 a19 b19
      rw [hS.2 1 12 (by unfold pz_Q2; omega)] at e19
      refine And.intro (fun h23 => ?_) (fun h23 => ?_)
      · skip
        exact L36 _ _ _ _ (Nat.lt_succ_self _) hS (by first | omega | assumption | exact (fun y => absurd y (by decide)) | exact pq_bg1 (by omega) | exact pq_bg2 (by omega) | exact pq_bg3 (by omega)) (by first | omega | assumption | exact (fun y => absurd y (by decide)) | exact pq_bg1 (by omega) | exact pq_bg2 (by omega) | exact pq_bg3 (by omega)) (by first | omega | assumption | exact (fun y => absurd y (by decide)) | exact pq_bg1 (by omega) | exact pq_bg2 (by omega) | exact pq_bg3 (by omega)) (by first | omega | assumption | exact (fun y => absurd y (by decide)) | exact pq_bg1 (by omega) | exact pq_bg2 (by omega) | exact pq_bg3 (by omega)) (by first | omega | assumption | exact (fun y => absurd y (by decide)) | exact pq_bg1 (by omega) | exact pq_bg2 (by omega) | exact pq_bg3 (by omega))
      · skip
        exact L36 _ _ _ _ (Nat.lt_succ_self _) hS (by first | omega | assumption | exact (fun y => absurd y (by decide)) | exact pq_bg1 (by omega) | exact pq_bg2 (by omega) | exact pq_bg3 (by omega)) (by first | omega | assumption | exact (fun y => absurd y (by decide)) | exact pq_bg1 (by omega) | exact pq_bg2 (by omega) | exact pq_bg3 (by omega)) (by first | omega | assumption | exact (fun y => absurd y (by decide)) | exact pq_bg1 (by omega) | exact pq_bg2 (by omega) | exact pq_bg3 (by omega)) (by first | omega | assumption | exact (fun y => absurd y (by decide)) | exact pq_bg1 (by omega) | exact pq_bg2 (by omega) | exact pq_bg3 (by omega)) (by first | omega | assumption | exact (fun y => absurd y (by decide)) | exact pq_bg1 (by omega) | exact pq_bg2 (by omega) | exact pq_bg3 (by omega))
    · skip
      exact L36 _ _ _ _ (Nat.lt_succ_self _) hS (by first | omega | assumption | exact (fun y => absurd y (by decide)) | exact pq_bg1 (by omega) | exact pq_bg2 (by omega) | exact pq_bg3 (by omega)) (by first | omega | assumption | exact (fun y => absurd y (by decide)) | exact pq_bg1 (by omega) | exact pq_bg2 (by omega) | exact pq_bg3 (by omega)) (by first | omega | assumption | exact (fun y => absurd y (by decide)) | exact pq_bg1 (by omega) | exact pq_bg2 (by omega) | exact pq_bg3 (by omega)) (by first | omega | assumption | exact (fun y => absurd y (by decide)) | exact pq_bg1 (by omega) | exact pq_bg2 (by omega) | exact pq_bg3 (by omega)) (by first | omega | assumption | exact (fun y => absurd y (by decide)) | exact pq_bg1 (by omega) | exact pq_bg2 (by omega) | exact pq_bg3 (by omega))
theorem v_X12_readsRows {fr lo i : Nat} {own : String} (h1 : 13 + 1 ≤ fr) (h2 : 8 + (3 + 11) + 279 ≤ lo) (h3 : .methodLink own i yX12_readsRows ∈ lw_tbl) : pz_cV fr lo own i k_X12_readsRows :=
  pz_cVk (maxL := 3) (fr' := 13) (lo' := 279) 0 12 h_X12_readsRows rfl ⟨(pz_nhc_RX12 yX12_readsRows rfl).1, (pz_nhc_RX12 yX12_readsRows rfl).2, pz_ds3⟩ ⟨pz_wq1354, pz_wq1353, pz_ws25, pz_wq13⟩ (Or.inl ⟨TX12, 28, rfl⟩) (fun a M _ h => by
    have h : (match (generalizing := false) a with | [.inr (.inr (12, th))] => pz_im M ∧ 1 ≤ M 1 12 ∧ M 1 12 ≤ 3 | _ => False) := h
    split at h
    · exact ⟨_, _, rfl⟩
    · exact h.elim) h1 h2 h3
