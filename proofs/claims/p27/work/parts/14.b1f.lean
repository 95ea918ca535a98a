noncomputable def k_X12_feed : pz_C := (6, 1, fun a M => (match a with | [.inr (.inr (12, th)), .inl p, .inl q, .inl w, .inl s, .inl u] => pz_im M | _ => False), fun a M r M' => (match a, r with | [.inr (.inr (12, th)), .inl p, .inl q, .inl w, .inl s, .inl u], some (.inl v) => ((M 1 16 + 20 ≤ 400 ∧ v = M 1 16 + 20 ∧ M' 1 16 = M 1 16 + 20 ∧ pz_fm M M' 20 p q w s u) ∨ (¬ M 1 16 + 20 ≤ 400 ∧ v = -1 ∧ M' = M)) ∧ pz_rl pz_QF M M' | _, _ => False))
noncomputable abbrev ct_X12_feed : List (Bool × Nat × pz_C) := []
set_option maxRecDepth 100000 in
set_option maxHeartbeats 4000000 in
theorem h_X12_feed : pz_H yX12_feed cX12_feed 8 (some .int) k_X12_feed 0 0 := by
  refine pz_mk (own := RX12) (tb := t_X12_feed) (fl := pz_flf fl_RX12) (ci := pz_cif ci_RX12) (ct := pz_ctf ct_X12_feed) (rz := false) (by decide +kernel) rfl t_X12_feed_ok (pz_flk fl_RX12_ok) (pz_cik ci_RX12_ok) ?_ ?_ (Or.inl ⟨rfl, rfl⟩) ?_ ?_
  · exact fun i k' h => pz_ctk (l := ct_X12_feed) (P := fun b i k => b = true → pz_cV 0 0 RX12 i k) (fun _ h => absurd h List.not_mem_nil) true i k' h rfl
  · exact fun i k' h => pz_ctk (l := ct_X12_feed) (P := fun b i k => b = false → (pz_cS 0 0 RX12 i k ∨ (k = pz_kac ∧ 1 ≤ 0 ∧ 60 ≤ 0 ∧ Cond.methodLink RX12 i arraycopyName ∈ pz_tbl))) (fun _ h => absurd h List.not_mem_nil) false i k' h rfl
  · intro a M hlen hpre
    obtain ⟨th, p, q, w, s, u, rfl, hpre⟩ : ∃ th p q w s u, a = [.inr (.inr (12, th)), .inl p, .inl q, .inl w, .inl s, .inl u] ∧ (pz_im M) := by
      have hpre : (match (generalizing := false) a with | [.inr (.inr (12, th)), .inl p, .inl q, .inl w, .inl s, .inl u] => pz_im M | _ => False) := hpre
      split at hpre
      · exact ⟨_, _, _, _, _, _, rfl, hpre⟩
      · exact hpre.elim
    exact Nat.le_of_ble_eq_true rfl
  · intro a M hlen hcan hM hpre Ok hgo
    obtain ⟨th, p, q, w, s, u, rfl, hpre⟩ : ∃ th p q w s u, a = [.inr (.inr (12, th)), .inl p, .inl q, .inl w, .inl s, .inl u] ∧ (pz_im M) := by
      have hpre : (match (generalizing := false) a with | [.inr (.inr (12, th)), .inl p, .inl q, .inl w, .inl s, .inl u] => pz_im M | _ => False) := hpre
      split at hpre
      · exact ⟨_, _, _, _, _, _, rfl, hpre⟩
      · exact hpre.elim
    obtain ⟨k_th, hc_th⟩ := pz_tlm hcan
    have k_th : pz_kd th = 12 ∧ th < 231 := k_th
    have R_th := pz_kd12 k_th.1
    subst R_th
    clear k_th
    obtain ⟨k_p, hc_p⟩ := pz_tlm hc_th
    have l_p : -2147483648 ≤ p := k_p.1
    have u_p : p ≤ 2147483647 := k_p.2
    obtain ⟨k_q, hc_q⟩ := pz_tlm hc_p
    have l_q : -2147483648 ≤ q := k_q.1
    have u_q : q ≤ 2147483647 := k_q.2
    obtain ⟨k_w, hc_w⟩ := pz_tlm hc_q
    have l_w : -2147483648 ≤ w := k_w.1
    have u_w : w ≤ 2147483647 := k_w.2
    obtain ⟨k_s, hc_s⟩ := pz_tlm hc_w
    have l_s : -2147483648 ≤ s := k_s.1
    have u_s : s ≤ 2147483647 := k_s.2
    obtain ⟨k_u, hc_u⟩ := pz_tlm hc_s
    have l_u : -2147483648 ≤ u := k_u.1
    have u_u : u ≤ 2147483647 := k_u.2
    have hI : pz_im M := hpre
    have hI0 := hI
    have hS : pz_rl pz_QF M M := pz_rl.rf
    have I016 := hI.2.1.2.1
    have L18 : ∀ (fu : Nat) (x6 : Int) (d7 : Option pz_V) (N18 : pz_M), (20 - x6).toNat < fu → (pz_rl pz_QF M N18) → (0 ≤ x6) → (x6 ≤ 20) → (M 1 16 + 20 ≤ 400) → (N18 1 16 = M 1 16 + x6) → (pz_fm M N18 x6 p q w s u) → Ok 18 [some (.inr (.inr (12, 1))), some (.inl p), some (.inl q), some (.inl w), some (.inl s), some (.inl u), some (.inl x6), d7] [] N18 := by
      intro fu
      induction fu with
      | zero => exact fun _ _ _ hn => absurd hn (Nat.not_lt_zero _)
      | succ fu ih18 =>
        intro x6 d7 N18 hn18 hS g18_1 g18_2 g18_3 g18_4 g18_5
        have hI : pz_im N18 := hS.1 hI0
        have L71 : ∀ (x6 : Int) (d7 : Option pz_V) (s0 : Int) (N71 : pz_M), (pz_rl pz_QF M N71) → (0 ≤ x6) → (x6 < 20) → ((20 - x6).toNat < fu + 1) → (s0 = pz_sel x6.toNat p q w s u) → (N71 1 16 = M 1 16 + x6) → (pz_fm M N71 x6 p q w s u) → Ok 71 [some (.inr (.inr (12, 1))), some (.inl p), some (.inl q), some (.inl w), some (.inl s), some (.inl u), some (.inl x6), d7] [.inl s0] N71 := by
          intro x6 d7 s0 N71 hS g71_1 g71_2 g71_3 g71_4 g71_5 g71_6
          have hI : pz_im N71 := hS.1 hI0
          refine hgo (fun p => Nat.beq p 18 || Nat.beq p 71) 64 71 _ _ _ ?_
          refine pz_nrc (c := 67) rfl ?_
          intro v78 e78 a78 b78
          have I78 : 0 ≤ v78 ∧ v78 ≤ 400 := by
            rw [e78]
            exact hI.2.1.2.1
          clear a78 b78
          have N78 := hI.2.1.2.1
          refine And.intro (by omega) ?_
          intro v90 e90 a90 b90
          rw [Int.tmod_eq_emod_of_nonneg (by omega)] at e90
          rw [pz_wi (by omega) (by omega)] at e90
          intro v91 e91 a91 b91
          rw [pz_wi (by omega) (by omega)] at e91
          clear a91 b91
          intro v92 e92 a92 b92
          rw [pz_wi (by omega) (by omega)] at e92
          clear a92 b92
          intro v93 e93 a93 b93
          have R93 : v93 = pz_sr s0 v92 := e93
          intro v97 e97 a97 b97
          have R97 : v97 = pz_a8 v93 := e97
          refine And.intro (by omega) (And.intro (show _ < (400 : Int) from by omega) ?_)
          intro M98 e98
          have hS : pz_rl pz_QF M M98 := by
            rw [e98]
            exact pz_rl_u hS (by unfold pz_QF; omega) (pz_iom_a (by decide))
          have hI : pz_im M98 := hS.1 hI0
          have T98_0 : M98 1 16 = N71 1 16 := by
            rw [e98]
            exact (pz_une (fun h => absurd h.1 (by decide)))
          have K98 := e98
          intro v101 e101 a101 b101
          have I101 : 0 ≤ v101 ∧ v101 ≤ 400 := by
            rw [e101]
            exact hI.2.1.2.1
          clear a101 b101
          have N101 := hI.2.1.2.1
          replace e101 := e101.trans T98_0
          intro v105 e105 a105 b105
          rw [pz_wi (by omega) (by omega)] at e105
          clear a105 b105
          intro M106 e106
          have hS : pz_rl pz_QF M M106 := by
            rw [e106]
            exact pz_rl_u hS (by unfold pz_QF; decide) (pz_iom_16 (by omega))
          have hI : pz_im M106 := hS.1 hI0
          have T106_0 : M106 1 16 = v105 := by rw [e106]; exact pz_uu
          have K106 := e106
          intro v109 e109 a109 b109
          rw [pz_wi (by omega) (by omega)] at e109
          have G109 : pz_fm M M106 v109 p q w s u := pz_fm_s (k := v78.toNat) g71_6 (by omega) (by omega) (by omega) g71_4 (by omega) R93 R97 K98 K106 e109
          exact ih18 _ _ _ (by omega) hS (by first | omega | exact pz_fm_0 | exact G109) (by first | omega | exact pz_fm_0 | exact G109) (by first | omega | exact pz_fm_0 | exact G109) (by first | omega | exact pz_fm_0 | exact G109) (by first | omega | exact pz_fm_0 | exact G109)
        refine hgo (fun p => Nat.beq p 18 || Nat.beq p 71) 64 18 _ _ _ ?_
        refine And.intro (fun h22 => ?_) (fun h22 => ?_)
        · skip
          intro v116 e116 a116 b116
          have I116 : 0 ≤ v116 ∧ v116 ≤ 400 := by
            rw [e116]
            exact hI.2.1.2.1
          clear a116 b116
          have N116 := hI.2.1.2.1
          refine And.intro rfl ?_
          exact ⟨Or.inl ⟨by omega, by omega, by omega, by rw [show (20 : Int) = x6 by omega]; exact g18_5⟩, hS⟩
        · skip
          refine And.intro (fun h28 => ?_) (fun h28 => ?_)
          · skip
            refine And.intro (fun h39 => ?_) (fun h39 => ?_)
            · skip
              refine And.intro (fun h50 => ?_) (fun h50 => ?_)
              · skip
                refine And.intro (fun h61 => ?_) (fun h61 => ?_)
                · skip
                  exact L71 _ _ _ _ hS (by first | omega | assumption | exact pz_sel_1 (by omega) | exact pz_sel_2 ⟨by omega, by omega⟩ | exact pz_sel_3 ⟨by omega, by omega⟩ | exact pz_sel_4 ⟨by omega, by omega⟩ | exact pz_sel_5 (by omega)) (by first | omega | assumption | exact pz_sel_1 (by omega) | exact pz_sel_2 ⟨by omega, by omega⟩ | exact pz_sel_3 ⟨by omega, by omega⟩ | exact pz_sel_4 ⟨by omega, by omega⟩ | exact pz_sel_5 (by omega)) (by first | omega | assumption | exact pz_sel_1 (by omega) | exact pz_sel_2 ⟨by omega, by omega⟩ | exact pz_sel_3 ⟨by omega, by omega⟩ | exact pz_sel_4 ⟨by omega, by omega⟩ | exact pz_sel_5 (by omega)) (by first | omega | assumption | exact pz_sel_1 (by omega) | exact pz_sel_2 ⟨by omega, by omega⟩ | exact pz_sel_3 ⟨by omega, by omega⟩ | exact pz_sel_4 ⟨by omega, by omega⟩ | exact pz_sel_5 (by omega)) (by first | omega | assumption | exact pz_sel_1 (by omega) | exact pz_sel_2 ⟨by omega, by omega⟩ | exact pz_sel_3 ⟨by omega, by omega⟩ | exact pz_sel_4 ⟨by omega, by omega⟩ | exact pz_sel_5 (by omega)) (by first | omega | assumption | exact pz_sel_1 (by omega) | exact pz_sel_2 ⟨by omega, by omega⟩ | exact pz_sel_3 ⟨by omega, by omega⟩ | exact pz_sel_4 ⟨by omega, by omega⟩ | exact pz_sel_5 (by omega))
                · skip
                  exact L71 _ _ _ _ hS (by first | omega | assumption | exact pz_sel_1 (by omega) | exact pz_sel_2 ⟨by omega, by omega⟩ | exact pz_sel_3 ⟨by omega, by omega⟩ | exact pz_sel_4 ⟨by omega, by omega⟩ | exact pz_sel_5 (by omega)) (by first | omega | assumption | exact pz_sel_1 (by omega) | exact pz_sel_2 ⟨by omega, by omega⟩ | exact pz_sel_3 ⟨by omega, by omega⟩ | exact pz_sel_4 ⟨by omega, by omega⟩ | exact pz_sel_5 (by omega)) (by first | omega | assumption | exact pz_sel_1 (by omega) | exact pz_sel_2 ⟨by omega, by omega⟩ | exact pz_sel_3 ⟨by omega, by omega⟩ | exact pz_sel_4 ⟨by omega, by omega⟩ | exact pz_sel_5 (by omega)) (by first | omega | assumption | exact pz_sel_1 (by omega) | exact pz_sel_2 ⟨by omega, by omega⟩ | exact pz_sel_3 ⟨by omega, by omega⟩ | exact pz_sel_4 ⟨by omega, by omega⟩ | exact pz_sel_5 (by omega)) (by first | omega | assumption | exact pz_sel_1 (by omega) | exact pz_sel_2 ⟨by omega, by omega⟩ | exact pz_sel_3 ⟨by omega, by omega⟩ | exact pz_sel_4 ⟨by omega, by omega⟩ | exact pz_sel_5 (by omega)) (by first | omega | assumption | exact pz_sel_1 (by omega) | exact pz_sel_2 ⟨by omega, by omega⟩ | exact pz_sel_3 ⟨by omega, by omega⟩ | exact pz_sel_4 ⟨by omega, by omega⟩ | exact pz_sel_5 (by omega))
              · skip
                exact L71 _ _ _ _ hS (by first | omega | assumption | exact pz_sel_1 (by omega) | exact pz_sel_2 ⟨by omega, by omega⟩ | exact pz_sel_3 ⟨by omega, by omega⟩ | exact pz_sel_4 ⟨by omega, by omega⟩ | exact pz_sel_5 (by omega)) (by first | omega | assumption | exact pz_sel_1 (by omega) | exact pz_sel_2 ⟨by omega, by omega⟩ | exact pz_sel_3 ⟨by omega, by omega⟩ | exact pz_sel_4 ⟨by omega, by omega⟩ | exact pz_sel_5 (by omega)) (by first | omega | assumption | exact pz_sel_1 (by omega) | exact pz_sel_2 ⟨by omega, by omega⟩ | exact pz_sel_3 ⟨by omega, by omega⟩ | exact pz_sel_4 ⟨by omega, by omega⟩ | exact pz_sel_5 (by omega)) (by first | omega | assumption | exact pz_sel_1 (by omega) | exact pz_sel_2 ⟨by omega, by omega⟩ | exact pz_sel_3 ⟨by omega, by omega⟩ | exact pz_sel_4 ⟨by omega, by omega⟩ | exact pz_sel_5 (by omega)) (by first | omega | assumption | exact pz_sel_1 (by omega) | exact pz_sel_2 ⟨by omega, by omega⟩ | exact pz_sel_3 ⟨by omega, by omega⟩ | exact pz_sel_4 ⟨by omega, by omega⟩ | exact pz_sel_5 (by omega)) (by first | omega | assumption | exact pz_sel_1 (by omega) | exact pz_sel_2 ⟨by omega, by omega⟩ | exact pz_sel_3 ⟨by omega, by omega⟩ | exact pz_sel_4 ⟨by omega, by omega⟩ | exact pz_sel_5 (by omega))
            · skip
              exact L71 _ _ _ _ hS (by first | omega | assumption | exact pz_sel_1 (by omega) | exact pz_sel_2 ⟨by omega, by omega⟩ | exact pz_sel_3 ⟨by omega, by omega⟩ | exact pz_sel_4 ⟨by omega, by omega⟩ | exact pz_sel_5 (by omega)) (by first | omega | assumption | exact pz_sel_1 (by omega) | exact pz_sel_2 ⟨by omega, by omega⟩ | exact pz_sel_3 ⟨by omega, by omega⟩ | exact pz_sel_4 ⟨by omega, by omega⟩ | exact pz_sel_5 (by omega)) (by first | omega | assumption | exact pz_sel_1 (by omega) | exact pz_sel_2 ⟨by omega, by omega⟩ | exact pz_sel_3 ⟨by omega, by omega⟩ | exact pz_sel_4 ⟨by omega, by omega⟩ | exact pz_sel_5 (by omega)) (by first | omega | assumption | exact pz_sel_1 (by omega) | exact pz_sel_2 ⟨by omega, by omega⟩ | exact pz_sel_3 ⟨by omega, by omega⟩ | exact pz_sel_4 ⟨by omega, by omega⟩ | exact pz_sel_5 (by omega)) (by first | omega | assumption | exact pz_sel_1 (by omega) | exact pz_sel_2 ⟨by omega, by omega⟩ | exact pz_sel_3 ⟨by omega, by omega⟩ | exact pz_sel_4 ⟨by omega, by omega⟩ | exact pz_sel_5 (by omega)) (by first | omega | assumption | exact pz_sel_1 (by omega) | exact pz_sel_2 ⟨by omega, by omega⟩ | exact pz_sel_3 ⟨by omega, by omega⟩ | exact pz_sel_4 ⟨by omega, by omega⟩ | exact pz_sel_5 (by omega))
          · skip
            exact L71 _ _ _ _ hS (by first | omega | assumption | exact pz_sel_1 (by omega) | exact pz_sel_2 ⟨by omega, by omega⟩ | exact pz_sel_3 ⟨by omega, by omega⟩ | exact pz_sel_4 ⟨by omega, by omega⟩ | exact pz_sel_5 (by omega)) (by first | omega | assumption | exact pz_sel_1 (by omega) | exact pz_sel_2 ⟨by omega, by omega⟩ | exact pz_sel_3 ⟨by omega, by omega⟩ | exact pz_sel_4 ⟨by omega, by omega⟩ | exact pz_sel_5 (by omega)) (by first | omega | assumption | exact pz_sel_1 (by omega) | exact pz_sel_2 ⟨by omega, by omega⟩ | exact pz_sel_3 ⟨by omega, by omega⟩ | exact pz_sel_4 ⟨by omega, by omega⟩ | exact pz_sel_5 (by omega)) (by first | omega | assumption | exact pz_sel_1 (by omega) | exact pz_sel_2 ⟨by omega, by omega⟩ | exact pz_sel_3 ⟨by omega, by omega⟩ | exact pz_sel_4 ⟨by omega, by omega⟩ | exact pz_sel_5 (by omega)) (by first | omega | assumption | exact pz_sel_1 (by omega) | exact pz_sel_2 ⟨by omega, by omega⟩ | exact pz_sel_3 ⟨by omega, by omega⟩ | exact pz_sel_4 ⟨by omega, by omega⟩ | exact pz_sel_5 (by omega)) (by first | omega | assumption | exact pz_sel_1 (by omega) | exact pz_sel_2 ⟨by omega, by omega⟩ | exact pz_sel_3 ⟨by omega, by omega⟩ | exact pz_sel_4 ⟨by omega, by omega⟩ | exact pz_sel_5 (by omega))
    refine hgo (fun p => Nat.beq p 18 || Nat.beq p 71) 64 0 _ [] M ?_
    intro v1 e1 a1 b1
    have I1 : 0 ≤ v1 ∧ v1 ≤ 400 := by
      rw [e1]
      exact hI.2.1.2.1
    clear a1 b1
    have N1 := hI.2.1.2.1
    intro v6 e6 a6 b6
    rw [pz_wi (by omega) (by omega)] at e6
    clear a6 b6
    refine And.intro (fun h10 => ?_) (fun h10 => ?_)
    · skip
      exact L18 _ _ _ _ (Nat.lt_succ_self _) hS (by first | omega | exact pz_fm_0 | exact G109) (by first | omega | exact pz_fm_0 | exact G109) (by first | omega | exact pz_fm_0 | exact G109) (by first | omega | exact pz_fm_0 | exact G109) (by first | omega | exact pz_fm_0 | exact G109)
    · skip
      refine And.intro rfl ?_
      exact ⟨Or.inr ⟨by omega, rfl, rfl⟩, hS⟩
theorem v_X12_feed {fr lo i : Nat} {own : String} (h1 : 0 + 1 ≤ fr) (h2 : 8 + (8 + 11) + 0 ≤ lo) (h3 : .methodLink own i yX12_feed ∈ lw_tbl) : pz_cV fr lo own i k_X12_feed :=
  pz_cVk (maxL := 8) (fr' := 0) (lo' := 0) 5 12 h_X12_feed rfl ⟨by decide +kernel, by decide +kernel, by decide +kernel⟩ ⟨(pz_mt 1234 (by decide +kernel)), (pz_mt 1232 (by decide +kernel)), (pz_mt 1233 (by decide +kernel)), (pz_mt 13 (by decide +kernel))⟩ (Or.inl ⟨TX12, 28, rfl⟩) (fun a M _ h => by
    have h : (match (generalizing := false) a with | [.inr (.inr (12, th)), .inl p, .inl q, .inl w, .inl s, .inl u] => pz_im M | _ => False) := h
    split at h
    · exact ⟨_, _, rfl⟩
    · exact h.elim) h1 h2 h3

