section
theorem v_X12_aLine {fr lo i : Nat} {own : String} (h1 : 39 + 1 ≤ fr) (h2 : 8 + (1 + 11) + 917 ≤ lo) (h3 : .methodLink own i yX12_aLine ∈ lw_tbl) : pz_cV fr lo own i k_X12_aLine :=
  pz_cVk (maxL := 1) (fr' := 39) (lo' := 917) 0 12 h_X12_aLine rfl ⟨(pz_nhc_RX12 yX12_aLine rfl).1, (pz_nhc_RX12 yX12_aLine rfl).2, pz_ds3⟩ ⟨pz_wq1310, pz_wq1309, pz_ws14, pz_wq13⟩ (Or.inl ⟨TX12, 28, rfl⟩) (fun a M _ h => by
    have h : (match (generalizing := false) a with | [.inr (.inr (12, th))] => pz_im M ∧ M 1 19 ≤ M 1 17 ∧ (M 1 18 ≠ 0 → M 1 19 + 1 ≤ M 1 17) ∧ M 1 14 ≤ M 1 19 | _ => False) := h
    split at h
    · exact ⟨_, _, rfl⟩
    · exact h.elim) h1 h2 h3
end
section
noncomputable def k_X12_readsLaw : pz_C := (1, 1, fun a M => (match a with | [.inr (.inr (12, th))] => pz_im M ∧ M 1 19 ≤ M 1 17 ∧ (M 1 18 ≠ 0 → M 1 19 + 1 ≤ M 1 17) | _ => False), fun a M r M' => (match a, r with | [.inr (.inr (12, th))], some (.inl v) => ((v = 0 ∨ (v = 1 ∧ pz_wfl M')) ∧ ((v = 1 ∧ pq_RE M M') ∨ (v = 0 ∧ pq_RB M M'))) ∧ pz_rl pz_Q2 M M' | _, _ => False))
noncomputable abbrev ct_X12_readsLaw : List (Bool × Nat × pz_C) := [(true, 232, k_X12_aLine)]
theorem pz_wk_Q6_Q2 : ∀ b j, pz_Q6 b j → pz_Q2 b j := by
  intro b j q
  unfold pz_Q6 at q
  unfold pz_Q2
  omega
set_option maxRecDepth 100000 in
set_option maxHeartbeats 4000000 in
theorem h_X12_readsLaw : pz_H yX12_readsLaw cX12_readsLaw 2 (some .boolean) k_X12_readsLaw 40 937 := by
  refine pz_mk (own := RX12) (tb := t_X12_readsLaw) (fl := pz_flf fl_RX12) (ci := pz_cif ci_RX12) (ct := pz_ctf ct_X12_readsLaw) (rz := true) (pz_pfc_RX12 yX12_readsLaw rfl) rfl t_X12_readsLaw_ok (pz_flk fl_RX12_ok) (pz_cik ci_RX12_ok) ?_ ?_ (Or.inr ⟨rfl, rfl⟩) ?_ ?_
  · exact fun i k' h => pz_ctk (l := ct_X12_readsLaw) (P := fun b i k => b = true → pz_cV 40 937 RX12 i k) (List.forall_mem_cons.mpr ⟨(fun _ => v_X12_aLine (by decide) (by decide) pz_wq1307), fun _ h => absurd h List.not_mem_nil⟩) true i k' h rfl
  · exact fun i k' h => pz_ctk (l := ct_X12_readsLaw) (P := fun b i k => b = false → (pz_cS 40 937 RX12 i k ∨ (k = pz_kac ∧ 1 ≤ 40 ∧ 60 ≤ 937 ∧ Cond.methodLink RX12 i arraycopyName ∈ pz_tbl))) (List.forall_mem_cons.mpr ⟨((fun z => by cases z)), fun _ h => absurd h List.not_mem_nil⟩) false i k' h rfl
  · intro a M hlen hpre
    obtain ⟨th, rfl, hpre⟩ : ∃ th, a = [.inr (.inr (12, th))] ∧ (pz_im M ∧ M 1 19 ≤ M 1 17 ∧ (M 1 18 ≠ 0 → M 1 19 + 1 ≤ M 1 17)) := by
      have hpre : (match (generalizing := false) a with | [.inr (.inr (12, th))] => pz_im M ∧ M 1 19 ≤ M 1 17 ∧ (M 1 18 ≠ 0 → M 1 19 + 1 ≤ M 1 17) | _ => False) := hpre
      split at hpre
      · exact ⟨_, rfl, hpre⟩
      · exact hpre.elim
    exact Nat.le_of_ble_eq_true rfl
  · intro a M hlen hcan hM hpre Ok hgo
    obtain ⟨th, rfl, hpre⟩ : ∃ th, a = [.inr (.inr (12, th))] ∧ (pz_im M ∧ M 1 19 ≤ M 1 17 ∧ (M 1 18 ≠ 0 → M 1 19 + 1 ≤ M 1 17)) := by
      have hpre : (match (generalizing := false) a with | [.inr (.inr (12, th))] => pz_im M ∧ M 1 19 ≤ M 1 17 ∧ (M 1 18 ≠ 0 → M 1 19 + 1 ≤ M 1 17) | _ => False) := hpre
      split at hpre
      · exact ⟨_, rfl, hpre⟩
      · exact hpre.elim
    obtain ⟨k_th, hc_th⟩ := pz_tlm hcan
    have k_th : pz_kd th = 12 ∧ th < 231 := k_th
    have R_th := pz_kd12 k_th.1
    subst R_th
    clear k_th
    have hI : pz_im M := hpre.1
    have hI0 := hI
    have hS : pz_rl pz_Q2 M M := pz_rl.rf
    have I19 := hI.2.1.2.2.2.2.1
    obtain ⟨-, pr1, pr2⟩ := hpre
    have L12 : ∀ (fu : Nat) (x1 : Int) (N12 : pz_M), (17 - N12 1 13 + x1).toNat < fu → (pz_rl pz_Q2 M N12) → (x1 = 0 ∨ x1 = 1) → (x1 = 1 → pz_wfl N12 ∧ (N12 1 19 ≤ N12 1 17 ∧ (N12 1 18 ≠ 0 → N12 1 19 + 1 ≤ N12 1 17)) ∧ N12 1 14 ≤ N12 1 19) → (x1 = 1 → pq_RN M N12) → (x1 = 0 → pq_RB M N12) → Ok 12 [some (.inr (.inr (12, 1))), some (.inl x1)] [] N12 := by
      intro fu
      induction fu with
      | zero => exact fun _ _ hn => absurd hn (Nat.not_lt_zero _)
      | succ fu ih12 =>
        intro x1 N12 hn12 hS g12_1 g12_2 g12_3 g12_4
        have hI : pz_im N12 := hS.1 hI0
        have I13 := hI.2.1.2.2.2.2.2.1
        refine hgo (fun p => Nat.beq p 12) 31 12 _ _ _ ?_
        refine And.intro (fun h13 => ?_) (fun h13 => ?_)
        · skip
          skip
          refine And.intro (by first | decide | omega) ?_
          refine And.intro rfl ?_
          refine ⟨?_, hS⟩
          first
            | exact ⟨Or.inl (by first | decide | omega), Or.inr ⟨by omega, g12_4 (by first | decide | omega)⟩⟩
            | (have h : x1 = 1 := by omega
               exact ⟨Or.inr ⟨h, (g12_2 h).1⟩, Or.inl ⟨h, pq_RN_z (g12_3 h) (by first | decide | omega)⟩⟩)
        · skip
          have g9 := (g12_2 (by first | decide | omega)).2
          obtain ⟨⟨g9a, g9b⟩, g9c⟩ := g9
          intro v17 e17 a17 b17
          refine And.intro (fun h20 => ?_) (fun h20 => ?_)
          · skip
            refine And.intro (by first | decide | omega) ?_
            refine And.intro rfl ?_
            refine ⟨?_, hS⟩
            first
              | exact ⟨Or.inl (by first | decide | omega), Or.inr ⟨by omega, g12_4 (by first | decide | omega)⟩⟩
              | (have h : x1 = 1 := by omega
                 exact ⟨Or.inr ⟨h, (g12_2 h).1⟩, Or.inl ⟨h, pq_RN_z (g12_3 h) (by first | decide | omega)⟩⟩)
          · skip
            refine And.intro (And.intro hI (And.intro (by first | decide | omega) (And.intro (by first | decide | omega) (by first | decide | omega)))) ?_
            intro v24 M24 a24 b24 q24
            obtain ⟨q24, z24⟩ := q24
            have hS : pz_rl pz_Q2 M M24 := hS.tr (pz_rl.wk pz_wk_Q6_Q2 z24)
            have hI : pz_im M24 := hS.1 hI0
            obtain ⟨q24, s24⟩ := q24
            have F24 := z24.2 1 13 (by unfold pz_Q6; first | decide | omega)
            have I24 := hI.2.1.2.2.2.2.2.2.1
            intro v30 e30 a30 b30
            have I30 : 0 ≤ v30 ∧ v30 ≤ 16 := by
              rw [e30]
              exact hI.2.1.2.2.2.2.2.1
            clear a30 b30
            have N30 := hI.2.1.2.2.2.2.2.1
            refine And.intro (fun h34 => ?_) (fun h34 => ?_)
            · skip
              skip
              intro v42 e42 a42 b42
              rw [pz_wi (by first | decide | omega) (by first | decide | omega)] at e42
              clear a42 b42
              intro M43 e43
              have hS : pz_rl pz_Q2 M M43 := by
                rw [e43]
                exact pz_rl_u hS (by unfold pz_Q2; decide) (pz_iom_13 (by first | decide | omega))
              have hI : pz_im M43 := hS.1 hI0
              have T43_0 : M43 1 13 = v42 := by rw [e43]; exact pz_uu
              have T43_1 : M43 1 14 = M24 1 14 := by
                rw [e43]
                exact (pz_une (by decide))
              have T43_2 : M43 1 17 = M24 1 17 := by
                rw [e43]
                exact (pz_une (by decide))
              have T43_3 : M43 1 18 = M24 1 18 := by
                rw [e43]
                exact (pz_une (by decide))
              have T43_4 : M43 1 19 = M24 1 19 := by
                rw [e43]
                exact (pz_une (by decide))
              have G43 : v24 = 1 → pz_wfl M43 ∧ (M43 1 19 ≤ M43 1 17 ∧ (M43 1 18 ≠ 0 → M43 1 19 + 1 ≤ M43 1 17)) ∧ M43 1 14 ≤ M43 1 19 := by
                intro a
                obtain ⟨b1, ⟨b2, b3⟩, b4, b5, b6, b7, b8⟩ := (q24.resolve_left (by first | decide | omega)).2
                refine ⟨?_, ⟨by omega, by omega⟩, by omega⟩
                have E4 : M43 64 = M24 64 := funext fun j => by rw [e43]; exact pz_una (by decide)
                have E5 : M43 65 = M24 65 := funext fun j => by rw [e43]; exact pz_una (by decide)
                intro i i0 i1
                rw [E4, E5, show M43 1 14 = M24 1 14 by omega]
                rcases Int.lt_or_le i (N12 1 13) with h9 | h9
                · exact pz_ln_cg ((g12_2 (by first | decide | omega)).1 i i0 h9) i0 (fun j hj => b6 j (by first | decide | omega)) b7 b5
                · rw [show i = N12 1 13 by omega]
                  exact b8
              have Q43 : v24 = 1 → pq_RN M M43 := fun a => pq_RN_s (g12_3 (by first | decide | omega)) s24 a (by first | decide | omega) ((q24.resolve_left (by first | decide | omega)).2).2.2.2.2.1 (pq_Q6 z24.2) e43 (by first | decide | omega)
              have B43 : v24 = 0 → pq_RB M M43 := fun a => pq_RN_b (g12_3 (by first | decide | omega)) s24 a (by first | decide | omega) e43
              exact ih12 _ _ (by first | decide | omega) hS (by first | omega | assumption | exact (fun y => absurd y (by decide))) (by first | omega | assumption | exact (fun y => absurd y (by decide))) (by first | omega | assumption | exact (fun y => absurd y (by decide))) (by first | omega | assumption | exact (fun y => absurd y (by decide)))
            · skip
              have A34 : N12 1 13 < 16 := (q24.resolve_left h34).2.1
              intro v42 e42 a42 b42
              rw [pz_wi (by first | decide | omega) (by first | decide | omega)] at e42
              clear a42 b42
              intro M43 e43
              have hS : pz_rl pz_Q2 M M43 := by
                rw [e43]
                exact pz_rl_u hS (by unfold pz_Q2; decide) (pz_iom_13 (by first | decide | omega))
              have hI : pz_im M43 := hS.1 hI0
              have T43_0 : M43 1 13 = v42 := by rw [e43]; exact pz_uu
              have T43_1 : M43 1 14 = M24 1 14 := by
                rw [e43]
                exact (pz_une (by decide))
              have T43_2 : M43 1 17 = M24 1 17 := by
                rw [e43]
                exact (pz_une (by decide))
              have T43_3 : M43 1 18 = M24 1 18 := by
                rw [e43]
                exact (pz_une (by decide))
              have T43_4 : M43 1 19 = M24 1 19 := by
                rw [e43]
                exact (pz_une (by decide))
              have G43 : v24 = 1 → pz_wfl M43 ∧ (M43 1 19 ≤ M43 1 17 ∧ (M43 1 18 ≠ 0 → M43 1 19 + 1 ≤ M43 1 17)) ∧ M43 1 14 ≤ M43 1 19 := by
                intro a
                obtain ⟨b1, ⟨b2, b3⟩, b4, b5, b6, b7, b8⟩ := (q24.resolve_left (by first | decide | omega)).2
                refine ⟨?_, ⟨by omega, by omega⟩, by omega⟩
                have E4 : M43 64 = M24 64 := funext fun j => by rw [e43]; exact pz_una (by decide)
                have E5 : M43 65 = M24 65 := funext fun j => by rw [e43]; exact pz_una (by decide)
                intro i i0 i1
                rw [E4, E5, show M43 1 14 = M24 1 14 by omega]
                rcases Int.lt_or_le i (N12 1 13) with h9 | h9
                · exact pz_ln_cg ((g12_2 (by first | decide | omega)).1 i i0 h9) i0 (fun j hj => b6 j (by first | decide | omega)) b7 b5
                · rw [show i = N12 1 13 by omega]
                  exact b8
              have Q43 : v24 = 1 → pq_RN M M43 := fun a => pq_RN_s (g12_3 (by first | decide | omega)) s24 a (by first | decide | omega) ((q24.resolve_left (by first | decide | omega)).2).2.2.2.2.1 (pq_Q6 z24.2) e43 (by first | decide | omega)
              have B43 : v24 = 0 → pq_RB M M43 := fun a => pq_RN_b (g12_3 (by first | decide | omega)) s24 a (by first | decide | omega) e43
              exact ih12 _ _ (by first | decide | omega) hS (by first | omega | assumption | exact (fun y => absurd y (by decide))) (by first | omega | assumption | exact (fun y => absurd y (by decide))) (by first | omega | assumption | exact (fun y => absurd y (by decide))) (by first | omega | assumption | exact (fun y => absurd y (by decide)))
    refine hgo (fun p => Nat.beq p 12) 31 0 _ [] M ?_
    intro M2 e2
    have hS : pz_rl pz_Q2 M M2 := by
      rw [e2]
      exact pz_rl_u hS (by unfold pz_Q2; decide) (pz_iom_13 (by first | decide | omega))
    have hI : pz_im M2 := hS.1 hI0
    have T2_0 : M2 1 13 = (0) := by rw [e2]; exact pz_uu
    have T2_1 : M2 1 14 = M 1 14 := by
      rw [e2]
      exact (pz_une (by decide))
    have T2_2 : M2 1 17 = M 1 17 := by
      rw [e2]
      exact (pz_une (by decide))
    have T2_3 : M2 1 18 = M 1 18 := by
      rw [e2]
      exact (pz_une (by decide))
    have T2_4 : M2 1 19 = M 1 19 := by
      rw [e2]
      exact (pz_une (by decide))
    intro M7 e7
    have hS : pz_rl pz_Q2 M M7 := by
      rw [e7]
      exact pz_rl_u hS (by unfold pz_Q2; decide) (pz_iom_14 (by first | decide | omega))
    have hI : pz_im M7 := hS.1 hI0
    have T7_0 : M7 1 13 = (0) := by
      rw [e7]
      exact (pz_une (by decide)).trans T2_0
    clear T2_0
    have T7_1 : M7 1 14 = (0) := by rw [e7]; exact pz_uu
    have T7_2 : M7 1 17 = M 1 17 := by
      rw [e7]
      exact (pz_une (by decide)).trans T2_2
    clear T2_2
    have T7_3 : M7 1 18 = M 1 18 := by
      rw [e7]
      exact (pz_une (by decide)).trans T2_3
    clear T2_3
    have T7_4 : M7 1 19 = M 1 19 := by
      rw [e7]
      exact (pz_une (by decide)).trans T2_4
    clear T2_4
    have G7 : (1 : Int) = 1 → pz_wfl M7 ∧ (M7 1 19 ≤ M7 1 17 ∧ (M7 1 18 ≠ 0 → M7 1 19 + 1 ≤ M7 1 17)) ∧ M7 1 14 ≤ M7 1 19 := fun _ => ⟨fun i i0 i1 => absurd i1 (by first | decide | omega), ⟨by omega, by omega⟩, by omega⟩
    have Q7 : (1 : Int) = 1 → pq_RN M M7 := fun _ => pq_RN_0 e2 e7
    exact L12 _ _ _ (Nat.lt_succ_self _) hS (by first | omega | assumption | exact (fun y => absurd y (by decide))) (by first | omega | assumption | exact (fun y => absurd y (by decide))) (by first | omega | assumption | exact (fun y => absurd y (by decide))) (by first | omega | assumption | exact (fun y => absurd y (by decide)))
end
