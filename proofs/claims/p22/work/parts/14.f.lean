noncomputable def k_X12_oneTest (nn : Nat) : pz_C := (1, 1, fun a M => (match a with | [.inr (.inr (12, th))] => pz_im M ∧ M 1 19 ≤ M 1 17 ∧ (M 1 18 ≠ 0 → M 1 19 + 1 ≤ M 1 17) ∧ M 1 14 ≤ M 1 19 ∧ 0 ≤ M 1 24 ∧ M 1 24 ≤ 8 ∧ 8 - M 1 24 ≤ (nn : Int) | _ => False), fun a M r M' => (match a, r with | [.inr (.inr (12, th))], some (.inl v) => ((v = 0 ∨ (v = 1 ∧ pz_pg 0 0 M M')) ∧ pq_mg 4 (M 1 24).toNat M M' v) ∧ pz_rl pz_Q1 M M' | _, _ => False))
noncomputable def k_X12_every (nn : Nat) : pz_C := (1, 1, fun a M => (match a with | [.inr (.inr (12, th))] => pz_im M ∧ M 1 19 ≤ M 1 17 ∧ (M 1 18 ≠ 0 → M 1 19 + 1 ≤ M 1 17) ∧ M 1 14 ≤ M 1 19 ∧ 0 ≤ M 1 24 ∧ M 1 24 ≤ 8 ∧ 8 - M 1 24 ≤ (nn : Int) | _ => False), fun a M r M' => (match a, r with | [.inr (.inr (12, th))], some (.inl v) => ((v = 0 ∨ (v = 1 ∧ pz_pg 0 0 M M')) ∧ pq_mg 6 (M 1 24).toNat M M' v) ∧ pz_rl pz_Q1 M M' | _, _ => False))
noncomputable def k_X12_any (nn : Nat) : pz_C := (1, 1, fun a M => (match a with | [.inr (.inr (12, th))] => pz_im M ∧ M 1 19 ≤ M 1 17 ∧ (M 1 18 ≠ 0 → M 1 19 + 1 ≤ M 1 17) ∧ M 1 14 ≤ M 1 19 ∧ 0 ≤ M 1 24 ∧ M 1 24 ≤ 8 ∧ 8 - M 1 24 ≤ (nn : Int) | _ => False), fun a M r M' => (match a, r with | [.inr (.inr (12, th))], some (.inl v) => ((v = 0 ∨ (v = 1 ∧ pz_pg 0 0 M M')) ∧ pq_mg 8 (M 1 24).toNat M M' v) ∧ pz_rl pz_Q1 M M' | _, _ => False))
theorem pz_wk_Q5_Q1 : ∀ b j, pz_Q5 b j → pz_Q1 b j := by
  intro b j q
  unfold pz_Q5 at q
  unfold pz_Q1
  omega
set_option maxRecDepth 100000 in
set_option maxHeartbeats 4000000 in
theorem h_X12_oneTest_0  : pz_H yX12_oneTest cX12_oneTest 2 (some .boolean) (k_X12_oneTest 0) (12 + 3 * 0) (273 + 72 * 0) := by
  refine pz_mk (own := RX12) (tb := t_X12_oneTest) (fl := pz_flf fl_RX12) (ci := pz_cif ci_RX12) (ct := pz_ctf [(true, 217, k_X12_opens), (true, 204, k_X12_lay), (true, 223, k_X12_need), (true, 226, k_X12_sumUp), (true, 188, k_X12_bad), (true, 191, k_X12_next0)]) (rz := true) (by decide +kernel) rfl t_X12_oneTest_ok (pz_flk fl_RX12_ok) (pz_cik ci_RX12_ok) ?_ ?_ (Or.inr ⟨rfl, rfl⟩) ?_ ?_
  · exact fun i k' h => pz_ctk (l := [(true, 217, k_X12_opens), (true, 204, k_X12_lay), (true, 223, k_X12_need), (true, 226, k_X12_sumUp), (true, 188, k_X12_bad), (true, 191, k_X12_next0)]) (P := fun b i k => b = true → pz_cV (12 + 3 * 0) (273 + 72 * 0) RX12 i k) (List.forall_mem_cons.mpr ⟨(fun _ => v_X12_opens (by first | decide | omega) (by first | decide | omega) (by decide +kernel)), List.forall_mem_cons.mpr ⟨(fun _ => v_X12_lay (by first | decide | omega) (by first | decide | omega) (by decide +kernel)), List.forall_mem_cons.mpr ⟨(fun _ => v_X12_need (by first | decide | omega) (by first | decide | omega) (by decide +kernel)), List.forall_mem_cons.mpr ⟨(fun _ => v_X12_sumUp (by first | decide | omega) (by first | decide | omega) (by decide +kernel)), List.forall_mem_cons.mpr ⟨(fun _ => v_X12_bad (by first | decide | omega) (by first | decide | omega) (by decide +kernel)), List.forall_mem_cons.mpr ⟨(fun _ => v_X12_next0 (by first | decide | omega) (by first | decide | omega) (by decide +kernel)), fun _ h => absurd h List.not_mem_nil⟩⟩⟩⟩⟩⟩) true i k' h rfl
  · exact fun i k' h => pz_ctk (l := [(true, 217, k_X12_opens), (true, 204, k_X12_lay), (true, 223, k_X12_need), (true, 226, k_X12_sumUp), (true, 188, k_X12_bad), (true, 191, k_X12_next0)]) (P := fun b i k => b = false → (pz_cS (12 + 3 * 0) (273 + 72 * 0) RX12 i k ∨ (k = pz_kac ∧ 1 ≤ (12 + 3 * 0) ∧ 60 ≤ (273 + 72 * 0) ∧ Cond.methodLink RX12 i arraycopyName ∈ pz_tbl))) (List.forall_mem_cons.mpr ⟨(fun z => by cases z), List.forall_mem_cons.mpr ⟨(fun z => by cases z), List.forall_mem_cons.mpr ⟨(fun z => by cases z), List.forall_mem_cons.mpr ⟨(fun z => by cases z), List.forall_mem_cons.mpr ⟨(fun z => by cases z), List.forall_mem_cons.mpr ⟨(fun z => by cases z), fun _ h => absurd h List.not_mem_nil⟩⟩⟩⟩⟩⟩) false i k' h rfl
  · intro a M hlen hpre
    obtain ⟨th, rfl, hpre⟩ : ∃ th, a = [.inr (.inr (12, th))] ∧ (pz_im M ∧ M 1 19 ≤ M 1 17 ∧ (M 1 18 ≠ 0 → M 1 19 + 1 ≤ M 1 17) ∧ M 1 14 ≤ M 1 19 ∧ 0 ≤ M 1 24 ∧ M 1 24 ≤ 8 ∧ 8 - M 1 24 ≤ ((0 : Nat) : Int)) := by
      have hpre : (match (generalizing := false) a with | [.inr (.inr (12, th))] => pz_im M ∧ M 1 19 ≤ M 1 17 ∧ (M 1 18 ≠ 0 → M 1 19 + 1 ≤ M 1 17) ∧ M 1 14 ≤ M 1 19 ∧ 0 ≤ M 1 24 ∧ M 1 24 ≤ 8 ∧ 8 - M 1 24 ≤ ((0 : Nat) : Int) | _ => False) := hpre
      split at hpre
      · exact ⟨_, rfl, hpre⟩
      · exact hpre.elim
    exact Nat.le_of_ble_eq_true rfl
  · intro a M hlen hcan hM hpre Ok hgo
    obtain ⟨th, rfl, hpre⟩ : ∃ th, a = [.inr (.inr (12, th))] ∧ (pz_im M ∧ M 1 19 ≤ M 1 17 ∧ (M 1 18 ≠ 0 → M 1 19 + 1 ≤ M 1 17) ∧ M 1 14 ≤ M 1 19 ∧ 0 ≤ M 1 24 ∧ M 1 24 ≤ 8 ∧ 8 - M 1 24 ≤ ((0 : Nat) : Int)) := by
      have hpre : (match (generalizing := false) a with | [.inr (.inr (12, th))] => pz_im M ∧ M 1 19 ≤ M 1 17 ∧ (M 1 18 ≠ 0 → M 1 19 + 1 ≤ M 1 17) ∧ M 1 14 ≤ M 1 19 ∧ 0 ≤ M 1 24 ∧ M 1 24 ≤ 8 ∧ 8 - M 1 24 ≤ ((0 : Nat) : Int) | _ => False) := hpre
      split at hpre
      · exact ⟨_, rfl, hpre⟩
      · exact hpre.elim
    obtain ⟨k_th, hc_th⟩ := pz_tlm hcan
    have k_th : pz_kd th = 12 ∧ th < 231 := k_th
    have R_th := pz_kd12 k_th.1
    subst R_th
    clear k_th
    have hI : pz_im M := hpre.1
    have hI0 := hI
    have hS : pz_rl pz_Q1 M M := pz_rl.rf
    have I0 := hI.2.1.2.2.2.2.2.2.1
    have h14 := I0.1
    obtain ⟨-, pr1, pr2, pr3, pr4, pr5, pr6⟩ := hpre
    refine hgo (fun _ => false) 95 0 _ [] M ?_
    intro v1 e1 a1 b1
    refine And.intro (fun h6 => ?_) (fun h6 => ?_)
    · skip
      intro v45 e45 a45 b45
      refine And.intro (fun h51 => ?_) (fun h51 => ?_)
      · skip
        refine And.intro (And.intro hI (And.intro (by first | decide | omega) (And.intro (by first | decide | omega) (by first | decide | omega)))) ?_
        intro v93 M93 a93 b93 q93
        obtain ⟨q93, z93⟩ := q93
        have hS : pz_rl pz_Q1 M M93 := hS.tr z93
        have hI : pz_im M93 := hS.1 hI0
        obtain ⟨q93, s93⟩ := q93
        refine And.intro (fun h96 => ?_) (fun h96 => ?_)
        · skip
          have G96 := (q93.resolve_left h96).2
          have KG96 := G96
          obtain ⟨⟨G961, G962⟩, G963, G964, G965, -, -⟩ := KG96
          intro v102 e102 a102 b102
          refine And.intro (fun h108 => ?_) (fun h108 => ?_)
          · skip
            intro v117 e117 a117 b117
            refine And.intro (fun h123 => ?_) (fun h123 => ?_)
            · skip
              intro v132 e132 a132 b132
              refine And.intro (fun h138 => ?_) (fun h138 => ?_)
              · skip
                refine And.intro (fun h150 => ?_) (fun h150 => ?_)
                · skip
                  exact absurd h150 (by decide)
                · skip
                  refine And.intro (hI) ?_
                  intro v155 M155 a155 b155 q155
                  obtain ⟨q155, z155⟩ := q155
                  have hS : pz_rl pz_Q1 M M155 := hS.tr (pz_rl.wk pz_wk_Q0_Q1 z155)
                  have hI : pz_im M155 := hS.1 hI0
                  clear a155 b155
                  refine And.intro (by first | decide | omega) ?_
                  refine And.intro rfl ?_
                  exact ⟨⟨Or.inl (by first | decide | omega), by rw [show v155 = 0 from q155.1]; exact pq_on_r ⟨by omega, by omega⟩ s93 h96 (pq_Q1 z93) (by first | decide | omega) q155.2.1 q155.2.2⟩, hS⟩
              · skip
                refine And.intro (fun h150 => ?_) (fun h150 => ?_)
                · skip
                  refine And.intro (hI) ?_
                  intro M160 q160
                  obtain ⟨q160, z160⟩ := q160
                  have hS : pz_rl pz_Q1 M M160 := hS.tr (pz_rl.wk pz_wk_Q0_Q1 z160)
                  have hI : pz_im M160 := hS.1 hI0
                  obtain ⟨q160, s160⟩ := q160
                  have G160 := pz_pg_nx G96 (by first | decide | omega) z160 q160 (c' := 1) (by first | decide | omega)
                  have KG160 := G160
                  obtain ⟨⟨G1601, G1602⟩, G1603, G1604, G1605, -, -⟩ := KG160
                  refine And.intro (And.intro hI (And.intro (by first | decide | omega) (And.intro (by first | decide | omega) (by first | decide | omega)))) ?_
                  intro v164 M164 a164 b164 q164
                  obtain ⟨q164, z164⟩ := q164
                  have hS : pz_rl pz_Q1 M M164 := hS.tr z164
                  have hI : pz_im M164 := hS.1 hI0
                  obtain ⟨q164, s164⟩ := q164
                  refine And.intro (fun h167 => ?_) (fun h167 => ?_)
                  · skip
                    have H167 := (q164.resolve_left h167).2
                    have KH167 := H167
                    obtain ⟨⟨H1671, H1672⟩, H1673, H1674, H1675, -, -⟩ := KH167
                    refine And.intro (And.intro hI (by have i19 := hI.2.1.2.2.2.2.1; omega)) ?_
                    intro M175 q175
                    obtain ⟨q175, z175⟩ := q175
                    have hS : pz_rl pz_Q1 M M175 := hS.tr z175
                    have hI : pz_im M175 := hS.1 hI0
                    obtain ⟨q175, s175⟩ := q175
                    have Y175 := q175
                    obtain ⟨l175a, l175b, l175c, l175d, l175e, l175f, l175g, l175h⟩ := q175
                    have G175 := pz_pg_bi I0.1 G160 H167 Y175 (by first | decide | omega) (c' := 0) (by first | decide | omega)
                    refine And.intro (by first | decide | omega) ?_
                    refine And.intro rfl ?_
                    exact ⟨⟨Or.inr ⟨rfl, G175⟩, pq_on_q ⟨by omega, by omega⟩ s93 h96 (pq_Q1 z93) (by first | decide | omega) z160 s160 s164 h167 ⟨Y175, s175⟩ (pq_Q1 z175) h14⟩, hS⟩
                  · skip
                    skip
                    refine And.intro (by first | decide | omega) ?_
                    refine And.intro rfl ?_
                    exact ⟨⟨Or.inl (by first | decide | omega), pq_on_t ⟨by omega, by omega⟩ s93 h96 (pq_Q1 z93) (by first | decide | omega) z160 s160 s164 h167⟩, hS⟩
                · skip
                  exact absurd h150 (by decide)
            · skip
              refine And.intro (fun h150 => ?_) (fun h150 => ?_)
              · skip
                refine And.intro (hI) ?_
                intro M160 q160
                obtain ⟨q160, z160⟩ := q160
                have hS : pz_rl pz_Q1 M M160 := hS.tr (pz_rl.wk pz_wk_Q0_Q1 z160)
                have hI : pz_im M160 := hS.1 hI0
                obtain ⟨q160, s160⟩ := q160
                have G160 := pz_pg_nx G96 (by first | decide | omega) z160 q160 (c' := 1) (by first | decide | omega)
                have KG160 := G160
                obtain ⟨⟨G1601, G1602⟩, G1603, G1604, G1605, -, -⟩ := KG160
                refine And.intro (And.intro hI (And.intro (by first | decide | omega) (And.intro (by first | decide | omega) (by first | decide | omega)))) ?_
                intro v164 M164 a164 b164 q164
                obtain ⟨q164, z164⟩ := q164
                have hS : pz_rl pz_Q1 M M164 := hS.tr z164
                have hI : pz_im M164 := hS.1 hI0
                obtain ⟨q164, s164⟩ := q164
                refine And.intro (fun h167 => ?_) (fun h167 => ?_)
                · skip
                  have H167 := (q164.resolve_left h167).2
                  have KH167 := H167
                  obtain ⟨⟨H1671, H1672⟩, H1673, H1674, H1675, -, -⟩ := KH167
                  refine And.intro (And.intro hI (by have i19 := hI.2.1.2.2.2.2.1; omega)) ?_
                  intro M175 q175
                  obtain ⟨q175, z175⟩ := q175
                  have hS : pz_rl pz_Q1 M M175 := hS.tr z175
                  have hI : pz_im M175 := hS.1 hI0
                  obtain ⟨q175, s175⟩ := q175
                  have Y175 := q175
                  obtain ⟨l175a, l175b, l175c, l175d, l175e, l175f, l175g, l175h⟩ := q175
                  have G175 := pz_pg_bi I0.1 G160 H167 Y175 (by first | decide | omega) (c' := 0) (by first | decide | omega)
                  refine And.intro (by first | decide | omega) ?_
                  refine And.intro rfl ?_
                  exact ⟨⟨Or.inr ⟨rfl, G175⟩, pq_on_q ⟨by omega, by omega⟩ s93 h96 (pq_Q1 z93) (by first | decide | omega) z160 s160 s164 h167 ⟨Y175, s175⟩ (pq_Q1 z175) h14⟩, hS⟩
                · skip
                  skip
                  refine And.intro (by first | decide | omega) ?_
                  refine And.intro rfl ?_
                  exact ⟨⟨Or.inl (by first | decide | omega), pq_on_t ⟨by omega, by omega⟩ s93 h96 (pq_Q1 z93) (by first | decide | omega) z160 s160 s164 h167⟩, hS⟩
              · skip
                exact absurd h150 (by decide)
          · skip
            refine And.intro (fun h150 => ?_) (fun h150 => ?_)
            · skip
              refine And.intro (hI) ?_
              intro M160 q160
              obtain ⟨q160, z160⟩ := q160
              have hS : pz_rl pz_Q1 M M160 := hS.tr (pz_rl.wk pz_wk_Q0_Q1 z160)
              have hI : pz_im M160 := hS.1 hI0
              obtain ⟨q160, s160⟩ := q160
              have G160 := pz_pg_nx G96 (by first | decide | omega) z160 q160 (c' := 1) (by first | decide | omega)
              have KG160 := G160
              obtain ⟨⟨G1601, G1602⟩, G1603, G1604, G1605, -, -⟩ := KG160
              refine And.intro (And.intro hI (And.intro (by first | decide | omega) (And.intro (by first | decide | omega) (by first | decide | omega)))) ?_
              intro v164 M164 a164 b164 q164
              obtain ⟨q164, z164⟩ := q164
              have hS : pz_rl pz_Q1 M M164 := hS.tr z164
              have hI : pz_im M164 := hS.1 hI0
              obtain ⟨q164, s164⟩ := q164
              refine And.intro (fun h167 => ?_) (fun h167 => ?_)
              · skip
                have H167 := (q164.resolve_left h167).2
                have KH167 := H167
                obtain ⟨⟨H1671, H1672⟩, H1673, H1674, H1675, -, -⟩ := KH167
                refine And.intro (And.intro hI (by have i19 := hI.2.1.2.2.2.2.1; omega)) ?_
                intro M175 q175
                obtain ⟨q175, z175⟩ := q175
                have hS : pz_rl pz_Q1 M M175 := hS.tr z175
                have hI : pz_im M175 := hS.1 hI0
                obtain ⟨q175, s175⟩ := q175
                have Y175 := q175
                obtain ⟨l175a, l175b, l175c, l175d, l175e, l175f, l175g, l175h⟩ := q175
                have G175 := pz_pg_bi I0.1 G160 H167 Y175 (by first | decide | omega) (c' := 0) (by first | decide | omega)
                refine And.intro (by first | decide | omega) ?_
                refine And.intro rfl ?_
                exact ⟨⟨Or.inr ⟨rfl, G175⟩, pq_on_q ⟨by omega, by omega⟩ s93 h96 (pq_Q1 z93) (by first | decide | omega) z160 s160 s164 h167 ⟨Y175, s175⟩ (pq_Q1 z175) h14⟩, hS⟩
              · skip
                skip
                refine And.intro (by first | decide | omega) ?_
                refine And.intro rfl ?_
                exact ⟨⟨Or.inl (by first | decide | omega), pq_on_t ⟨by omega, by omega⟩ s93 h96 (pq_Q1 z93) (by first | decide | omega) z160 s160 s164 h167⟩, hS⟩
            · skip
              exact absurd h150 (by decide)
        · skip
          skip
          refine And.intro (by first | decide | omega) ?_
          refine And.intro rfl ?_
          exact ⟨⟨Or.inl (by first | decide | omega), pq_on_s ⟨by omega, by omega⟩ s93 h96⟩, hS⟩
      · skip
        refine And.intro (And.intro hI (And.intro (by first | decide | omega) (by first | decide | omega))) ?_
        intro v55 M55 a55 b55 q55
        obtain ⟨q55, z55⟩ := q55
        have hS : pz_rl pz_Q1 M M55 := hS.tr (pz_rl.wk pz_wk_Q5_Q1 z55)
        have hI : pz_im M55 := hS.1 hI0
        obtain ⟨q55, s55⟩ := q55
        have f55 := z55.2 1 14 (by unfold pz_Q5; first | decide | omega)
        refine And.intro (fun h58 => ?_) (fun h58 => ?_)
        · skip
          refine And.intro (by first | decide | omega) ?_
          refine And.intro rfl ?_
          first
            | exact ⟨⟨Or.inl (by first | decide | omega), pq_on_pc s55 h58 (by first | decide | omega) ⟨by omega, by omega, by omega⟩ (pq_Q5 z55) s62 h65 (pq_Q1 z62) n75.2.1 n75.2.2.1 n75.2.2.2⟩, hS⟩
            | exact ⟨⟨Or.inl (by first | decide | omega), pq_on_pb s55 h58 (by first | decide | omega) ⟨by omega, by omega, by omega⟩ (pq_Q5 z55) s62 h65⟩, hS⟩
            | exact ⟨⟨Or.inl (by first | decide | omega), pq_on_x s55 h58 (by first | decide | omega)⟩, hS⟩
        · skip
          exfalso; omega
    · skip
      refine And.intro (And.intro hI (And.intro (by first | decide | omega) (by first | decide | omega))) ?_
      intro v10 M10 a10 b10 q10
      obtain ⟨q10, z10⟩ := q10
      have hS : pz_rl pz_Q1 M M10 := hS.tr (pz_rl.wk pz_wk_Q5_Q1 z10)
      have hI : pz_im M10 := hS.1 hI0
      obtain ⟨q10, s10⟩ := q10
      have f10 := z10.2 1 14 (by unfold pz_Q5; first | decide | omega)
      refine And.intro (fun h13 => ?_) (fun h13 => ?_)
      · skip
        refine And.intro (by first | decide | omega) ?_
        refine And.intro rfl ?_
        first
          | exact ⟨⟨Or.inl (by first | decide | omega), pq_on_nb s10 h13 (by first | decide | omega) ⟨by omega, by omega, by omega⟩ (pq_Q5 z10) s17 h20⟩, hS⟩
          | exact ⟨⟨Or.inl (by first | decide | omega), pq_on_x s10 h13 (by first | decide | omega)⟩, hS⟩
      · skip
        exfalso; omega
set_option maxRecDepth 100000 in
set_option maxHeartbeats 4000000 in
theorem h_X12_oneTest_s (nn : Nat) (hC : pz_H yX12_oneTest cX12_oneTest 2 (some .boolean) (k_X12_oneTest nn) (12 + 3 * nn) (273 + 72 * nn)) (hD : pz_H yX12_any cX12_any 1 (some .boolean) (k_X12_any nn) (14 + 3 * nn) (321 + 72 * nn)) : pz_H yX12_oneTest cX12_oneTest 2 (some .boolean) (k_X12_oneTest (nn + 1)) (12 + 3 * (nn + 1)) (273 + 72 * (nn + 1)) := by
  refine pz_mk (own := RX12) (tb := t_X12_oneTest) (fl := pz_flf fl_RX12) (ci := pz_cif ci_RX12) (ct := pz_ctf [(true, 217, k_X12_opens), (true, 214, k_X12_oneTest nn), (true, 204, k_X12_lay), (true, 220, k_X12_any nn), (true, 223, k_X12_need), (true, 226, k_X12_sumUp), (true, 188, k_X12_bad), (true, 191, k_X12_next0)]) (rz := true) (by decide +kernel) rfl t_X12_oneTest_ok (pz_flk fl_RX12_ok) (pz_cik ci_RX12_ok) ?_ ?_ (Or.inr ⟨rfl, rfl⟩) ?_ ?_
  · exact fun i k' h => pz_ctk (l := [(true, 217, k_X12_opens), (true, 214, k_X12_oneTest nn), (true, 204, k_X12_lay), (true, 220, k_X12_any nn), (true, 223, k_X12_need), (true, 226, k_X12_sumUp), (true, 188, k_X12_bad), (true, 191, k_X12_next0)]) (P := fun b i k => b = true → pz_cV (12 + 3 * (nn + 1)) (273 + 72 * (nn + 1)) RX12 i k) (List.forall_mem_cons.mpr ⟨(fun _ => v_X12_opens (by first | decide | omega) (by first | decide | omega) (by decide +kernel)), List.forall_mem_cons.mpr ⟨(fun _ => pz_cVk (maxL := 2) 0 12 hC rfl ⟨by decide +kernel, by decide +kernel, by decide +kernel⟩ ⟨by decide +kernel, by decide +kernel, by decide +kernel, by decide +kernel⟩ (Or.inl ⟨TX12, 28, rfl⟩) (fun a M _ h => by
      have h : (match (generalizing := false) a with | [.inr (.inr (12, th))] => pz_im M ∧ M 1 19 ≤ M 1 17 ∧ (M 1 18 ≠ 0 → M 1 19 + 1 ≤ M 1 17) ∧ M 1 14 ≤ M 1 19 ∧ 0 ≤ M 1 24 ∧ M 1 24 ≤ 8 ∧ 8 - M 1 24 ≤ (nn : Int) | _ => False) := h
      split at h
      · exact ⟨_, _, rfl⟩
      · exact h.elim) (by first | decide | omega) (by first | decide | omega) (show Cond.methodLink RX12 214 yX12_oneTest ∈ lw_tbl by decide +kernel)), List.forall_mem_cons.mpr ⟨(fun _ => v_X12_lay (by first | decide | omega) (by first | decide | omega) (by decide +kernel)), List.forall_mem_cons.mpr ⟨(fun _ => pz_cVk (maxL := 1) 0 12 hD rfl ⟨by decide +kernel, by decide +kernel, by decide +kernel⟩ ⟨by decide +kernel, by decide +kernel, by decide +kernel, by decide +kernel⟩ (Or.inl ⟨TX12, 28, rfl⟩) (fun a M _ h => by
      have h : (match (generalizing := false) a with | [.inr (.inr (12, th))] => pz_im M ∧ M 1 19 ≤ M 1 17 ∧ (M 1 18 ≠ 0 → M 1 19 + 1 ≤ M 1 17) ∧ M 1 14 ≤ M 1 19 ∧ 0 ≤ M 1 24 ∧ M 1 24 ≤ 8 ∧ 8 - M 1 24 ≤ (nn : Int) | _ => False) := h
      split at h
      · exact ⟨_, _, rfl⟩
      · exact h.elim) (by first | decide | omega) (by first | decide | omega) (show Cond.methodLink RX12 220 yX12_any ∈ lw_tbl by decide +kernel)), List.forall_mem_cons.mpr ⟨(fun _ => v_X12_need (by first | decide | omega) (by first | decide | omega) (by decide +kernel)), List.forall_mem_cons.mpr ⟨(fun _ => v_X12_sumUp (by first | decide | omega) (by first | decide | omega) (by decide +kernel)), List.forall_mem_cons.mpr ⟨(fun _ => v_X12_bad (by first | decide | omega) (by first | decide | omega) (by decide +kernel)), List.forall_mem_cons.mpr ⟨(fun _ => v_X12_next0 (by first | decide | omega) (by first | decide | omega) (by decide +kernel)), fun _ h => absurd h List.not_mem_nil⟩⟩⟩⟩⟩⟩⟩⟩) true i k' h rfl
  · exact fun i k' h => pz_ctk (l := [(true, 217, k_X12_opens), (true, 214, k_X12_oneTest nn), (true, 204, k_X12_lay), (true, 220, k_X12_any nn), (true, 223, k_X12_need), (true, 226, k_X12_sumUp), (true, 188, k_X12_bad), (true, 191, k_X12_next0)]) (P := fun b i k => b = false → (pz_cS (12 + 3 * (nn + 1)) (273 + 72 * (nn + 1)) RX12 i k ∨ (k = pz_kac ∧ 1 ≤ (12 + 3 * (nn + 1)) ∧ 60 ≤ (273 + 72 * (nn + 1)) ∧ Cond.methodLink RX12 i arraycopyName ∈ pz_tbl))) (List.forall_mem_cons.mpr ⟨(fun z => by cases z), List.forall_mem_cons.mpr ⟨(fun z => by cases z), List.forall_mem_cons.mpr ⟨(fun z => by cases z), List.forall_mem_cons.mpr ⟨(fun z => by cases z), List.forall_mem_cons.mpr ⟨(fun z => by cases z), List.forall_mem_cons.mpr ⟨(fun z => by cases z), List.forall_mem_cons.mpr ⟨(fun z => by cases z), List.forall_mem_cons.mpr ⟨(fun z => by cases z), fun _ h => absurd h List.not_mem_nil⟩⟩⟩⟩⟩⟩⟩⟩) false i k' h rfl
  · intro a M hlen hpre
    obtain ⟨th, rfl, hpre⟩ : ∃ th, a = [.inr (.inr (12, th))] ∧ (pz_im M ∧ M 1 19 ≤ M 1 17 ∧ (M 1 18 ≠ 0 → M 1 19 + 1 ≤ M 1 17) ∧ M 1 14 ≤ M 1 19 ∧ 0 ≤ M 1 24 ∧ M 1 24 ≤ 8 ∧ 8 - M 1 24 ≤ ((nn + 1 : Nat) : Int)) := by
      have hpre : (match (generalizing := false) a with | [.inr (.inr (12, th))] => pz_im M ∧ M 1 19 ≤ M 1 17 ∧ (M 1 18 ≠ 0 → M 1 19 + 1 ≤ M 1 17) ∧ M 1 14 ≤ M 1 19 ∧ 0 ≤ M 1 24 ∧ M 1 24 ≤ 8 ∧ 8 - M 1 24 ≤ ((nn + 1 : Nat) : Int) | _ => False) := hpre
      split at hpre
      · exact ⟨_, rfl, hpre⟩
      · exact hpre.elim
    exact Nat.le_of_ble_eq_true rfl
  · intro a M hlen hcan hM hpre Ok hgo
    obtain ⟨th, rfl, hpre⟩ : ∃ th, a = [.inr (.inr (12, th))] ∧ (pz_im M ∧ M 1 19 ≤ M 1 17 ∧ (M 1 18 ≠ 0 → M 1 19 + 1 ≤ M 1 17) ∧ M 1 14 ≤ M 1 19 ∧ 0 ≤ M 1 24 ∧ M 1 24 ≤ 8 ∧ 8 - M 1 24 ≤ ((nn + 1 : Nat) : Int)) := by
      have hpre : (match (generalizing := false) a with | [.inr (.inr (12, th))] => pz_im M ∧ M 1 19 ≤ M 1 17 ∧ (M 1 18 ≠ 0 → M 1 19 + 1 ≤ M 1 17) ∧ M 1 14 ≤ M 1 19 ∧ 0 ≤ M 1 24 ∧ M 1 24 ≤ 8 ∧ 8 - M 1 24 ≤ ((nn + 1 : Nat) : Int) | _ => False) := hpre
      split at hpre
      · exact ⟨_, rfl, hpre⟩
      · exact hpre.elim
    obtain ⟨k_th, hc_th⟩ := pz_tlm hcan
    have k_th : pz_kd th = 12 ∧ th < 231 := k_th
    have R_th := pz_kd12 k_th.1
    subst R_th
    clear k_th
    have hI : pz_im M := hpre.1
    have hI0 := hI
    have hS : pz_rl pz_Q1 M M := pz_rl.rf
    have I0 := hI.2.1.2.2.2.2.2.2.1
    have h14 := I0.1
    obtain ⟨-, pr1, pr2, pr3, pr4, pr5, pr6⟩ := hpre
    refine hgo (fun _ => false) 95 0 _ [] M ?_
    intro v1 e1 a1 b1
    refine And.intro (fun h6 => ?_) (fun h6 => ?_)
    · skip
      intro v45 e45 a45 b45
      refine And.intro (fun h51 => ?_) (fun h51 => ?_)
      · skip
        refine And.intro (And.intro hI (And.intro (by first | decide | omega) (And.intro (by first | decide | omega) (by first | decide | omega)))) ?_
        intro v93 M93 a93 b93 q93
        obtain ⟨q93, z93⟩ := q93
        have hS : pz_rl pz_Q1 M M93 := hS.tr z93
        have hI : pz_im M93 := hS.1 hI0
        obtain ⟨q93, s93⟩ := q93
        refine And.intro (fun h96 => ?_) (fun h96 => ?_)
        · skip
          have G96 := (q93.resolve_left h96).2
          have KG96 := G96
          obtain ⟨⟨G961, G962⟩, G963, G964, G965, -, -⟩ := KG96
          intro v102 e102 a102 b102
          refine And.intro (fun h108 => ?_) (fun h108 => ?_)
          · skip
            intro v117 e117 a117 b117
            refine And.intro (fun h123 => ?_) (fun h123 => ?_)
            · skip
              intro v132 e132 a132 b132
              refine And.intro (fun h138 => ?_) (fun h138 => ?_)
              · skip
                refine And.intro (fun h150 => ?_) (fun h150 => ?_)
                · skip
                  exact absurd h150 (by decide)
                · skip
                  refine And.intro (hI) ?_
                  intro v155 M155 a155 b155 q155
                  obtain ⟨q155, z155⟩ := q155
                  have hS : pz_rl pz_Q1 M M155 := hS.tr (pz_rl.wk pz_wk_Q0_Q1 z155)
                  have hI : pz_im M155 := hS.1 hI0
                  clear a155 b155
                  refine And.intro (by first | decide | omega) ?_
                  refine And.intro rfl ?_
                  exact ⟨⟨Or.inl (by first | decide | omega), by rw [show v155 = 0 from q155.1]; exact pq_on_r ⟨by omega, by omega⟩ s93 h96 (pq_Q1 z93) (by first | decide | omega) q155.2.1 q155.2.2⟩, hS⟩
              · skip
                refine And.intro (fun h150 => ?_) (fun h150 => ?_)
                · skip
                  refine And.intro (hI) ?_
                  intro M160 q160
                  obtain ⟨q160, z160⟩ := q160
                  have hS : pz_rl pz_Q1 M M160 := hS.tr (pz_rl.wk pz_wk_Q0_Q1 z160)
                  have hI : pz_im M160 := hS.1 hI0
                  obtain ⟨q160, s160⟩ := q160
                  have G160 := pz_pg_nx G96 (by first | decide | omega) z160 q160 (c' := 1) (by first | decide | omega)
                  have KG160 := G160
                  obtain ⟨⟨G1601, G1602⟩, G1603, G1604, G1605, -, -⟩ := KG160
                  refine And.intro (And.intro hI (And.intro (by first | decide | omega) (And.intro (by first | decide | omega) (by first | decide | omega)))) ?_
                  intro v164 M164 a164 b164 q164
                  obtain ⟨q164, z164⟩ := q164
                  have hS : pz_rl pz_Q1 M M164 := hS.tr z164
                  have hI : pz_im M164 := hS.1 hI0
                  obtain ⟨q164, s164⟩ := q164
                  refine And.intro (fun h167 => ?_) (fun h167 => ?_)
                  · skip
                    have H167 := (q164.resolve_left h167).2
                    have KH167 := H167
                    obtain ⟨⟨H1671, H1672⟩, H1673, H1674, H1675, -, -⟩ := KH167
                    refine And.intro (And.intro hI (by have i19 := hI.2.1.2.2.2.2.1; omega)) ?_
                    intro M175 q175
                    obtain ⟨q175, z175⟩ := q175
                    have hS : pz_rl pz_Q1 M M175 := hS.tr z175
                    have hI : pz_im M175 := hS.1 hI0
                    obtain ⟨q175, s175⟩ := q175
                    have Y175 := q175
                    obtain ⟨l175a, l175b, l175c, l175d, l175e, l175f, l175g, l175h⟩ := q175
                    have G175 := pz_pg_bi I0.1 G160 H167 Y175 (by first | decide | omega) (c' := 0) (by first | decide | omega)
                    refine And.intro (by first | decide | omega) ?_
                    refine And.intro rfl ?_
                    exact ⟨⟨Or.inr ⟨rfl, G175⟩, pq_on_q ⟨by omega, by omega⟩ s93 h96 (pq_Q1 z93) (by first | decide | omega) z160 s160 s164 h167 ⟨Y175, s175⟩ (pq_Q1 z175) h14⟩, hS⟩
                  · skip
                    skip
                    refine And.intro (by first | decide | omega) ?_
                    refine And.intro rfl ?_
                    exact ⟨⟨Or.inl (by first | decide | omega), pq_on_t ⟨by omega, by omega⟩ s93 h96 (pq_Q1 z93) (by first | decide | omega) z160 s160 s164 h167⟩, hS⟩
                · skip
                  exact absurd h150 (by decide)
            · skip
              refine And.intro (fun h150 => ?_) (fun h150 => ?_)
              · skip
                refine And.intro (hI) ?_
                intro M160 q160
                obtain ⟨q160, z160⟩ := q160
                have hS : pz_rl pz_Q1 M M160 := hS.tr (pz_rl.wk pz_wk_Q0_Q1 z160)
                have hI : pz_im M160 := hS.1 hI0
                obtain ⟨q160, s160⟩ := q160
                have G160 := pz_pg_nx G96 (by first | decide | omega) z160 q160 (c' := 1) (by first | decide | omega)
                have KG160 := G160
                obtain ⟨⟨G1601, G1602⟩, G1603, G1604, G1605, -, -⟩ := KG160
                refine And.intro (And.intro hI (And.intro (by first | decide | omega) (And.intro (by first | decide | omega) (by first | decide | omega)))) ?_
                intro v164 M164 a164 b164 q164
                obtain ⟨q164, z164⟩ := q164
                have hS : pz_rl pz_Q1 M M164 := hS.tr z164
                have hI : pz_im M164 := hS.1 hI0
                obtain ⟨q164, s164⟩ := q164
                refine And.intro (fun h167 => ?_) (fun h167 => ?_)
                · skip
                  have H167 := (q164.resolve_left h167).2
                  have KH167 := H167
                  obtain ⟨⟨H1671, H1672⟩, H1673, H1674, H1675, -, -⟩ := KH167
                  refine And.intro (And.intro hI (by have i19 := hI.2.1.2.2.2.2.1; omega)) ?_
                  intro M175 q175
                  obtain ⟨q175, z175⟩ := q175
                  have hS : pz_rl pz_Q1 M M175 := hS.tr z175
                  have hI : pz_im M175 := hS.1 hI0
                  obtain ⟨q175, s175⟩ := q175
                  have Y175 := q175
                  obtain ⟨l175a, l175b, l175c, l175d, l175e, l175f, l175g, l175h⟩ := q175
                  have G175 := pz_pg_bi I0.1 G160 H167 Y175 (by first | decide | omega) (c' := 0) (by first | decide | omega)
                  refine And.intro (by first | decide | omega) ?_
                  refine And.intro rfl ?_
                  exact ⟨⟨Or.inr ⟨rfl, G175⟩, pq_on_q ⟨by omega, by omega⟩ s93 h96 (pq_Q1 z93) (by first | decide | omega) z160 s160 s164 h167 ⟨Y175, s175⟩ (pq_Q1 z175) h14⟩, hS⟩
                · skip
                  skip
                  refine And.intro (by first | decide | omega) ?_
                  refine And.intro rfl ?_
                  exact ⟨⟨Or.inl (by first | decide | omega), pq_on_t ⟨by omega, by omega⟩ s93 h96 (pq_Q1 z93) (by first | decide | omega) z160 s160 s164 h167⟩, hS⟩
              · skip
                exact absurd h150 (by decide)
          · skip
            refine And.intro (fun h150 => ?_) (fun h150 => ?_)
            · skip
              refine And.intro (hI) ?_
              intro M160 q160
              obtain ⟨q160, z160⟩ := q160
              have hS : pz_rl pz_Q1 M M160 := hS.tr (pz_rl.wk pz_wk_Q0_Q1 z160)
              have hI : pz_im M160 := hS.1 hI0
              obtain ⟨q160, s160⟩ := q160
              have G160 := pz_pg_nx G96 (by first | decide | omega) z160 q160 (c' := 1) (by first | decide | omega)
              have KG160 := G160
              obtain ⟨⟨G1601, G1602⟩, G1603, G1604, G1605, -, -⟩ := KG160
              refine And.intro (And.intro hI (And.intro (by first | decide | omega) (And.intro (by first | decide | omega) (by first | decide | omega)))) ?_
              intro v164 M164 a164 b164 q164
              obtain ⟨q164, z164⟩ := q164
              have hS : pz_rl pz_Q1 M M164 := hS.tr z164
              have hI : pz_im M164 := hS.1 hI0
              obtain ⟨q164, s164⟩ := q164
              refine And.intro (fun h167 => ?_) (fun h167 => ?_)
              · skip
                have H167 := (q164.resolve_left h167).2
                have KH167 := H167
                obtain ⟨⟨H1671, H1672⟩, H1673, H1674, H1675, -, -⟩ := KH167
                refine And.intro (And.intro hI (by have i19 := hI.2.1.2.2.2.2.1; omega)) ?_
                intro M175 q175
                obtain ⟨q175, z175⟩ := q175
                have hS : pz_rl pz_Q1 M M175 := hS.tr z175
                have hI : pz_im M175 := hS.1 hI0
                obtain ⟨q175, s175⟩ := q175
                have Y175 := q175
                obtain ⟨l175a, l175b, l175c, l175d, l175e, l175f, l175g, l175h⟩ := q175
                have G175 := pz_pg_bi I0.1 G160 H167 Y175 (by first | decide | omega) (c' := 0) (by first | decide | omega)
                refine And.intro (by first | decide | omega) ?_
                refine And.intro rfl ?_
                exact ⟨⟨Or.inr ⟨rfl, G175⟩, pq_on_q ⟨by omega, by omega⟩ s93 h96 (pq_Q1 z93) (by first | decide | omega) z160 s160 s164 h167 ⟨Y175, s175⟩ (pq_Q1 z175) h14⟩, hS⟩
              · skip
                skip
                refine And.intro (by first | decide | omega) ?_
                refine And.intro rfl ?_
                exact ⟨⟨Or.inl (by first | decide | omega), pq_on_t ⟨by omega, by omega⟩ s93 h96 (pq_Q1 z93) (by first | decide | omega) z160 s160 s164 h167⟩, hS⟩
            · skip
              exact absurd h150 (by decide)
        · skip
          skip
          refine And.intro (by first | decide | omega) ?_
          refine And.intro rfl ?_
          exact ⟨⟨Or.inl (by first | decide | omega), pq_on_s ⟨by omega, by omega⟩ s93 h96⟩, hS⟩
      · skip
        refine And.intro (And.intro hI (And.intro (by first | decide | omega) (by first | decide | omega))) ?_
        intro v55 M55 a55 b55 q55
        obtain ⟨q55, z55⟩ := q55
        have hS : pz_rl pz_Q1 M M55 := hS.tr (pz_rl.wk pz_wk_Q5_Q1 z55)
        have hI : pz_im M55 := hS.1 hI0
        obtain ⟨q55, s55⟩ := q55
        have f55 := z55.2 1 14 (by unfold pz_Q5; first | decide | omega)
        refine And.intro (fun h58 => ?_) (fun h58 => ?_)
        · skip
          refine And.intro (by first | decide | omega) ?_
          refine And.intro rfl ?_
          first
            | exact ⟨⟨Or.inl (by first | decide | omega), pq_on_pc s55 h58 (by first | decide | omega) ⟨by omega, by omega, by omega⟩ (pq_Q5 z55) s62 h65 (pq_Q1 z62) n75.2.1 n75.2.2.1 n75.2.2.2⟩, hS⟩
            | exact ⟨⟨Or.inl (by first | decide | omega), pq_on_pb s55 h58 (by first | decide | omega) ⟨by omega, by omega, by omega⟩ (pq_Q5 z55) s62 h65⟩, hS⟩
            | exact ⟨⟨Or.inl (by first | decide | omega), pq_on_x s55 h58 (by first | decide | omega)⟩, hS⟩
        · skip
          refine And.intro (And.intro hI (And.intro (by first | decide | omega) (And.intro (by first | decide | omega) (And.intro (by first | decide | omega) (And.intro (by first | decide | omega) (And.intro (by first | decide | omega) (by first | decide | omega))))))) ?_
          intro v62 M62 a62 b62 q62
          obtain ⟨q62, z62⟩ := q62
          have hS : pz_rl pz_Q1 M M62 := hS.tr z62
          have hI : pz_im M62 := hS.1 hI0
          obtain ⟨q62, s62⟩ := q62
          refine And.intro (fun h65 => ?_) (fun h65 => ?_)
          · skip
            skip
            refine And.intro (by first | decide | omega) ?_
            refine And.intro rfl ?_
            first
              | exact ⟨⟨Or.inl (by first | decide | omega), pq_on_pc s55 h58 (by first | decide | omega) ⟨by omega, by omega, by omega⟩ (pq_Q5 z55) s62 h65 (pq_Q1 z62) n75.2.1 n75.2.2.1 n75.2.2.2⟩, hS⟩
              | exact ⟨⟨Or.inl (by first | decide | omega), pq_on_pb s55 h58 (by first | decide | omega) ⟨by omega, by omega, by omega⟩ (pq_Q5 z55) s62 h65⟩, hS⟩
              | exact ⟨⟨Or.inl (by first | decide | omega), pq_on_x s55 h58 (by first | decide | omega)⟩, hS⟩
          · skip
            have T65 := (q62.resolve_left h65).2
            have G65 := pz_pg_op (c := 1) (z55.2 1 14 (by unfold pz_Q5; first | decide | omega)) (fun j => z55.2 65 j (by unfold pz_Q5; first | decide | omega)) (by first | decide | omega) (by first | decide | omega) T65
            have KG65 := G65
            obtain ⟨⟨G651, G652⟩, G653, G654, G655, -, -⟩ := KG65
            refine And.intro (hI) ?_
            intro v72 M72 a72 b72 q72
            obtain ⟨q72, z72⟩ := q72
            have hS : pz_rl pz_Q1 M M72 := hS.tr (pz_rl.wk pz_wk_Q0_Q1 z72)
            have hI : pz_im M72 := hS.1 hI0
            obtain ⟨q72, s72⟩ := q72
            have f72 := pz_q0f z72
            obtain ⟨f72a, f72b, f72c⟩ := f72
            refine And.intro (fun h75 => ?_) (fun h75 => ?_)
            · skip
              have q75 := (q72.resolve_left h75).2
              have G75 := pz_pg_nx G65 (by first | decide | omega) z72 q75.2 (c' := 2) (by first | decide | omega)
              have KG75 := G75
              obtain ⟨⟨G751, G752⟩, G753, G754, G755, -, -⟩ := KG75
              intro v82 e82 a82 b82
              intro v86 e86 a86 b86
              rw [pz_wi (by first | decide | omega) (by first | decide | omega)] at e86
              clear a86 b86
              intro M87 e87
              have hS : pz_rl pz_Q1 M M87 := by
                rw [e87]
                exact pz_rl_u hS (by unfold pz_Q1; decide) (pz_iom_f (by decide))
              have hI : pz_im M87 := hS.1 hI0
              have G87 := pz_pg_dn G75 e87 (by first | decide | omega) (e' := 0) (by first | decide | omega)
              refine And.intro (by first | decide | omega) ?_
              refine And.intro rfl ?_
              exact ⟨⟨Or.inr ⟨rfl, pz_pg_le G87 (by first | decide | omega)⟩, pq_on_p s55 h58 (by first | decide | omega) ⟨by omega, by omega, by omega⟩ z55 s62 h65 (pq_Q1 z62) q75.1 z72 (s72.resolve_right (fun y => h75 y.1)).2 e87⟩, hS⟩
            · skip
              have n75 := s72.resolve_left (fun y => absurd (y.1.symm.trans h75) (by decide))
              refine And.intro (by first | decide | omega) ?_
              refine And.intro rfl ?_
              first
                | exact ⟨⟨Or.inl (by first | decide | omega), pq_on_pc s55 h58 (by first | decide | omega) ⟨by omega, by omega, by omega⟩ (pq_Q5 z55) s62 h65 (pq_Q1 z62) n75.2.1 n75.2.2.1 n75.2.2.2⟩, hS⟩
                | exact ⟨⟨Or.inl (by first | decide | omega), pq_on_pb s55 h58 (by first | decide | omega) ⟨by omega, by omega, by omega⟩ (pq_Q5 z55) s62 h65⟩, hS⟩
                | exact ⟨⟨Or.inl (by first | decide | omega), pq_on_x s55 h58 (by first | decide | omega)⟩, hS⟩
    · skip
      refine And.intro (And.intro hI (And.intro (by first | decide | omega) (by first | decide | omega))) ?_
      intro v10 M10 a10 b10 q10
      obtain ⟨q10, z10⟩ := q10
      have hS : pz_rl pz_Q1 M M10 := hS.tr (pz_rl.wk pz_wk_Q5_Q1 z10)
      have hI : pz_im M10 := hS.1 hI0
      obtain ⟨q10, s10⟩ := q10
      have f10 := z10.2 1 14 (by unfold pz_Q5; first | decide | omega)
      refine And.intro (fun h13 => ?_) (fun h13 => ?_)
      · skip
        refine And.intro (by first | decide | omega) ?_
        refine And.intro rfl ?_
        first
          | exact ⟨⟨Or.inl (by first | decide | omega), pq_on_nb s10 h13 (by first | decide | omega) ⟨by omega, by omega, by omega⟩ (pq_Q5 z10) s17 h20⟩, hS⟩
          | exact ⟨⟨Or.inl (by first | decide | omega), pq_on_x s10 h13 (by first | decide | omega)⟩, hS⟩
      · skip
        refine And.intro (And.intro hI (And.intro (by first | decide | omega) (And.intro (by first | decide | omega) (And.intro (by first | decide | omega) (And.intro (by first | decide | omega) (And.intro (by first | decide | omega) (by first | decide | omega))))))) ?_
        intro v17 M17 a17 b17 q17
        obtain ⟨q17, z17⟩ := q17
        have hS : pz_rl pz_Q1 M M17 := hS.tr z17
        have hI : pz_im M17 := hS.1 hI0
        obtain ⟨q17, s17⟩ := q17
        refine And.intro (fun h20 => ?_) (fun h20 => ?_)
        · skip
          have T20 := (q17.resolve_left h20).2
          have G20 := pz_pg_op (c := 1) (z10.2 1 14 (by unfold pz_Q5; first | decide | omega)) (fun j => z10.2 65 j (by unfold pz_Q5; first | decide | omega)) (by first | decide | omega) (by first | decide | omega) T20
          have KG20 := G20
          obtain ⟨⟨G201, G202⟩, G203, G204, G205, -, -⟩ := KG20
          intro v27 e27 a27 b27
          intro v31 e31 a31 b31
          rw [pz_wi (by first | decide | omega) (by first | decide | omega)] at e31
          clear a31 b31
          intro M32 e32
          have hS : pz_rl pz_Q1 M M32 := by
            rw [e32]
            exact pz_rl_u hS (by unfold pz_Q1; decide) (pz_iom_f (by decide))
          have hI : pz_im M32 := hS.1 hI0
          have G32 := pz_pg_dn G20 e32 (by first | decide | omega) (e' := 0) (by first | decide | omega)
          have KG32 := G32
          obtain ⟨⟨G321, G322⟩, G323, G324, G325, -, -⟩ := KG32
          refine And.intro (And.intro hI (by have i19 := hI.2.1.2.2.2.2.1; omega)) ?_
          intro M39 q39
          obtain ⟨q39, z39⟩ := q39
          have hS : pz_rl pz_Q1 M M39 := hS.tr z39
          have hI : pz_im M39 := hS.1 hI0
          obtain ⟨q39, s39⟩ := q39
          have Y39 := q39
          obtain ⟨l39a, l39b, l39c, l39d, l39e, l39f, l39g, l39h⟩ := q39
          have G39 := pz_pg_un I0.1 G32 Y39 (Or.inr rfl) (c' := 0) (by first | decide | omega)
          refine And.intro (by first | decide | omega) ?_
          refine And.intro rfl ?_
          exact ⟨⟨Or.inr ⟨rfl, G39⟩, pq_on_n s10 h13 (by first | decide | omega) ⟨by omega, by omega, by omega⟩ z10 s17 h20 (pq_Q1 z17) e32 ⟨Y39, s39⟩ (pq_Q1 z39) h14⟩, hS⟩
        · skip
          skip
          refine And.intro (by first | decide | omega) ?_
          refine And.intro rfl ?_
          first
            | exact ⟨⟨Or.inl (by first | decide | omega), pq_on_nb s10 h13 (by first | decide | omega) ⟨by omega, by omega, by omega⟩ (pq_Q5 z10) s17 h20⟩, hS⟩
            | exact ⟨⟨Or.inl (by first | decide | omega), pq_on_x s10 h13 (by first | decide | omega)⟩, hS⟩
set_option maxRecDepth 100000 in
set_option maxHeartbeats 4000000 in
theorem h_X12_every_s (nn : Nat) (hC : pz_H yX12_oneTest cX12_oneTest 2 (some .boolean) (k_X12_oneTest nn) (12 + 3 * nn) (273 + 72 * nn)) : pz_H yX12_every cX12_every 1 (some .boolean) (k_X12_every nn) (13 + 3 * nn) (297 + 72 * nn) := by
  refine pz_mk (own := RX12) (tb := t_X12_every) (fl := pz_flf fl_RX12) (ci := pz_cif ci_RX12) (ct := pz_ctf [(true, 214, k_X12_oneTest nn), (true, 191, k_X12_next0), (true, 204, k_X12_lay)]) (rz := true) (by decide +kernel) rfl t_X12_every_ok (pz_flk fl_RX12_ok) (pz_cik ci_RX12_ok) ?_ ?_ (Or.inr ⟨rfl, rfl⟩) ?_ ?_
  · exact fun i k' h => pz_ctk (l := [(true, 214, k_X12_oneTest nn), (true, 191, k_X12_next0), (true, 204, k_X12_lay)]) (P := fun b i k => b = true → pz_cV (13 + 3 * nn) (297 + 72 * nn) RX12 i k) (List.forall_mem_cons.mpr ⟨(fun _ => pz_cVk (maxL := 2) 0 12 hC rfl ⟨by decide +kernel, by decide +kernel, by decide +kernel⟩ ⟨by decide +kernel, by decide +kernel, by decide +kernel, by decide +kernel⟩ (Or.inl ⟨TX12, 28, rfl⟩) (fun a M _ h => by
      have h : (match (generalizing := false) a with | [.inr (.inr (12, th))] => pz_im M ∧ M 1 19 ≤ M 1 17 ∧ (M 1 18 ≠ 0 → M 1 19 + 1 ≤ M 1 17) ∧ M 1 14 ≤ M 1 19 ∧ 0 ≤ M 1 24 ∧ M 1 24 ≤ 8 ∧ 8 - M 1 24 ≤ (nn : Int) | _ => False) := h
      split at h
      · exact ⟨_, _, rfl⟩
      · exact h.elim) (by first | decide | omega) (by first | decide | omega) (show Cond.methodLink RX12 214 yX12_oneTest ∈ lw_tbl by decide +kernel)), List.forall_mem_cons.mpr ⟨(fun _ => v_X12_next0 (by first | decide | omega) (by first | decide | omega) (by decide +kernel)), List.forall_mem_cons.mpr ⟨(fun _ => v_X12_lay (by first | decide | omega) (by first | decide | omega) (by decide +kernel)), fun _ h => absurd h List.not_mem_nil⟩⟩⟩) true i k' h rfl
  · exact fun i k' h => pz_ctk (l := [(true, 214, k_X12_oneTest nn), (true, 191, k_X12_next0), (true, 204, k_X12_lay)]) (P := fun b i k => b = false → (pz_cS (13 + 3 * nn) (297 + 72 * nn) RX12 i k ∨ (k = pz_kac ∧ 1 ≤ (13 + 3 * nn) ∧ 60 ≤ (297 + 72 * nn) ∧ Cond.methodLink RX12 i arraycopyName ∈ pz_tbl))) (List.forall_mem_cons.mpr ⟨(fun z => by cases z), List.forall_mem_cons.mpr ⟨(fun z => by cases z), List.forall_mem_cons.mpr ⟨(fun z => by cases z), fun _ h => absurd h List.not_mem_nil⟩⟩⟩) false i k' h rfl
  · intro a M hlen hpre
    obtain ⟨th, rfl, hpre⟩ : ∃ th, a = [.inr (.inr (12, th))] ∧ (pz_im M ∧ M 1 19 ≤ M 1 17 ∧ (M 1 18 ≠ 0 → M 1 19 + 1 ≤ M 1 17) ∧ M 1 14 ≤ M 1 19 ∧ 0 ≤ M 1 24 ∧ M 1 24 ≤ 8 ∧ 8 - M 1 24 ≤ ((nn : Nat) : Int)) := by
      have hpre : (match (generalizing := false) a with | [.inr (.inr (12, th))] => pz_im M ∧ M 1 19 ≤ M 1 17 ∧ (M 1 18 ≠ 0 → M 1 19 + 1 ≤ M 1 17) ∧ M 1 14 ≤ M 1 19 ∧ 0 ≤ M 1 24 ∧ M 1 24 ≤ 8 ∧ 8 - M 1 24 ≤ ((nn : Nat) : Int) | _ => False) := hpre
      split at hpre
      · exact ⟨_, rfl, hpre⟩
      · exact hpre.elim
    exact Nat.le_of_ble_eq_true rfl
  · intro a M hlen hcan hM hpre Ok hgo
    obtain ⟨th, rfl, hpre⟩ : ∃ th, a = [.inr (.inr (12, th))] ∧ (pz_im M ∧ M 1 19 ≤ M 1 17 ∧ (M 1 18 ≠ 0 → M 1 19 + 1 ≤ M 1 17) ∧ M 1 14 ≤ M 1 19 ∧ 0 ≤ M 1 24 ∧ M 1 24 ≤ 8 ∧ 8 - M 1 24 ≤ ((nn : Nat) : Int)) := by
      have hpre : (match (generalizing := false) a with | [.inr (.inr (12, th))] => pz_im M ∧ M 1 19 ≤ M 1 17 ∧ (M 1 18 ≠ 0 → M 1 19 + 1 ≤ M 1 17) ∧ M 1 14 ≤ M 1 19 ∧ 0 ≤ M 1 24 ∧ M 1 24 ≤ 8 ∧ 8 - M 1 24 ≤ ((nn : Nat) : Int) | _ => False) := hpre
      split at hpre
      · exact ⟨_, rfl, hpre⟩
      · exact hpre.elim
    obtain ⟨k_th, hc_th⟩ := pz_tlm hcan
    have k_th : pz_kd th = 12 ∧ th < 231 := k_th
    have R_th := pz_kd12 k_th.1
    subst R_th
    clear k_th
    have hI : pz_im M := hpre.1
    have hI0 := hI
    have hS : pz_rl pz_Q1 M M := pz_rl.rf
    have I0 := hI.2.1.2.2.2.2.2.2.1
    have h14 := I0.1
    obtain ⟨-, pr1, pr2, pr3, pr4, pr5, pr6⟩ := hpre
    have L9 : ∀ (fu : Nat) (N9 : pz_M), (401 - N9 1 19).toNat < fu → (pz_rl pz_Q1 M N9) → (pz_pg 0 0 M N9) → (pq_sG 5 6 (M 1 24).toNat M N9) → Ok 9 [some (.inr (.inr (12, 1)))] [] N9 := by
      intro fu
      induction fu with
      | zero => exact fun _ hn => absurd hn (Nat.not_lt_zero _)
      | succ fu ih9 =>
        intro N9 hn9 hS g9_1 g9_2
        have hI : pz_im N9 := hS.1 hI0
        have i19 := hI.2.1.2.2.2.2.1
        have E9 := pq_Q1 hS
        have G9 := g9_1
        have KG9 := G9
        obtain ⟨⟨G91, G92⟩, G93, G94, G95, -, -⟩ := KG9
        refine hgo (fun p => Nat.beq p 9) 25 9 _ _ _ ?_
        intro v10 e10 a10 b10
        refine And.intro (fun h14 => ?_) (fun h14 => ?_)
        · skip
          refine And.intro (by first | decide | omega) ?_
          refine And.intro rfl ?_
          exact ⟨⟨Or.inr ⟨rfl, G9⟩, pq_sG_e (fun tk => pz_gr.et0 (by have := pq_tkT tk; omega)) g9_2 E9⟩, hS⟩
        · skip
          refine And.intro (hI) ?_
          intro M18 q18
          obtain ⟨q18, z18⟩ := q18
          have hS : pz_rl pz_Q1 M M18 := hS.tr (pz_rl.wk pz_wk_Q0_Q1 z18)
          have hI : pz_im M18 := hS.1 hI0
          obtain ⟨q18, s18⟩ := q18
          have G18 := pz_pg_nx G9 (by first | decide | omega) z18 q18 (c' := 1) (by first | decide | omega)
          have KG18 := G18
          obtain ⟨⟨G181, G182⟩, G183, G184, G185, -, -⟩ := KG18
          refine And.intro (And.intro hI (And.intro (by first | decide | omega) (And.intro (by first | decide | omega) (And.intro (by first | decide | omega) (And.intro (by first | decide | omega) (And.intro (by first | decide | omega) (by first | decide | omega))))))) ?_
          intro v22 M22 a22 b22 q22
          obtain ⟨q22, z22⟩ := q22
          have hS : pz_rl pz_Q1 M M22 := hS.tr z22
          have hI : pz_im M22 := hS.1 hI0
          obtain ⟨q22, s22⟩ := q22
          rw [show (M18 1 24).toNat = (M 1 24).toNat by omega] at s22
          refine And.intro (fun h25 => ?_) (fun h25 => ?_)
          · skip
            have H25 := (q22.resolve_left h25).2
            have KH25 := H25
            obtain ⟨⟨H251, H252⟩, H253, H254, H255, -, -⟩ := KH25
            refine And.intro (And.intro hI (by have i19 := hI.2.1.2.2.2.2.1; omega)) ?_
            intro M34 q34
            obtain ⟨q34, z34⟩ := q34
            have hS : pz_rl pz_Q1 M M34 := hS.tr z34
            have hI : pz_im M34 := hS.1 hI0
            obtain ⟨q34, s34⟩ := q34
            have Y34 := q34
            obtain ⟨l34a, l34b, l34c, l34d, l34e, l34f, l34g, l34h⟩ := q34
            have G34 := pz_pg_bi I0.1 G18 H25 Y34 (by first | decide | omega) (c' := 0) (by first | decide | omega)
            have P34 := pq_sG_s (fun tk a b => pz_gr.ets (by have := pq_tkT tk; omega) a b) g9_2 E9 z18 s18 s22 h25 ⟨Y34, s34⟩ (by first | decide | omega) (pq_Q1 z34) I0.1
            exact ih9 _ (by first | decide | omega) hS (by first | assumption | omega) (by first | assumption | omega)
          · skip
            skip
            refine And.intro (by first | decide | omega) ?_
            refine And.intro rfl ?_
            exact ⟨⟨Or.inl (by first | decide | omega), pq_sG_sb (fun tk a => pz_gr.etb (by have := pq_tkT tk; omega) a) g9_2 E9 z18 s18 s22 h25⟩, hS⟩
    refine hgo (fun p => Nat.beq p 9) 25 0 _ [] M ?_
    refine And.intro (And.intro hI (And.intro (by first | decide | omega) (And.intro (by first | decide | omega) (And.intro (by first | decide | omega) (And.intro (by first | decide | omega) (And.intro (by first | decide | omega) (by first | decide | omega))))))) ?_
    intro v1 M1 a1 b1 q1
    obtain ⟨q1, z1⟩ := q1
    have hS : pz_rl pz_Q1 M M1 := hS.tr z1
    have hI : pz_im M1 := hS.1 hI0
    obtain ⟨q1, s1⟩ := q1
    refine And.intro (fun h4 => ?_) (fun h4 => ?_)
    · skip
      have G4 := (q1.resolve_left h4).2
      have KG4 := G4
      obtain ⟨⟨G41, G42⟩, G43, G44, G45, -, -⟩ := KG4
      have P4 : pq_sG 5 6 (M 1 24).toNat M M1 := pq_sG_0 (fun a b => pz_gr.evs a b) s1 h4
      exact L9 _ _ (Nat.lt_succ_self _) hS (by first | assumption | omega) (by first | assumption | omega)
    · skip
      skip
      refine And.intro (by first | decide | omega) ?_
      refine And.intro rfl ?_
      exact ⟨⟨Or.inl (by first | decide | omega), pq_sG_b (fun a => pz_gr.evb a) s1 h4⟩, hS⟩
set_option maxRecDepth 100000 in
set_option maxHeartbeats 4000000 in
theorem h_X12_any_s (nn : Nat) (hC : pz_H yX12_every cX12_every 1 (some .boolean) (k_X12_every nn) (13 + 3 * nn) (297 + 72 * nn)) : pz_H yX12_any cX12_any 1 (some .boolean) (k_X12_any nn) (14 + 3 * nn) (321 + 72 * nn) := by
  refine pz_mk (own := RX12) (tb := t_X12_any) (fl := pz_flf fl_RX12) (ci := pz_cif ci_RX12) (ct := pz_ctf [(true, 211, k_X12_every nn), (true, 191, k_X12_next0), (true, 204, k_X12_lay)]) (rz := true) (by decide +kernel) rfl t_X12_any_ok (pz_flk fl_RX12_ok) (pz_cik ci_RX12_ok) ?_ ?_ (Or.inr ⟨rfl, rfl⟩) ?_ ?_
  · exact fun i k' h => pz_ctk (l := [(true, 211, k_X12_every nn), (true, 191, k_X12_next0), (true, 204, k_X12_lay)]) (P := fun b i k => b = true → pz_cV (14 + 3 * nn) (321 + 72 * nn) RX12 i k) (List.forall_mem_cons.mpr ⟨(fun _ => pz_cVk (maxL := 1) 0 12 hC rfl ⟨by decide +kernel, by decide +kernel, by decide +kernel⟩ ⟨by decide +kernel, by decide +kernel, by decide +kernel, by decide +kernel⟩ (Or.inl ⟨TX12, 28, rfl⟩) (fun a M _ h => by
      have h : (match (generalizing := false) a with | [.inr (.inr (12, th))] => pz_im M ∧ M 1 19 ≤ M 1 17 ∧ (M 1 18 ≠ 0 → M 1 19 + 1 ≤ M 1 17) ∧ M 1 14 ≤ M 1 19 ∧ 0 ≤ M 1 24 ∧ M 1 24 ≤ 8 ∧ 8 - M 1 24 ≤ (nn : Int) | _ => False) := h
      split at h
      · exact ⟨_, _, rfl⟩
      · exact h.elim) (by first | decide | omega) (by first | decide | omega) (show Cond.methodLink RX12 211 yX12_every ∈ lw_tbl by decide +kernel)), List.forall_mem_cons.mpr ⟨(fun _ => v_X12_next0 (by first | decide | omega) (by first | decide | omega) (by decide +kernel)), List.forall_mem_cons.mpr ⟨(fun _ => v_X12_lay (by first | decide | omega) (by first | decide | omega) (by decide +kernel)), fun _ h => absurd h List.not_mem_nil⟩⟩⟩) true i k' h rfl
  · exact fun i k' h => pz_ctk (l := [(true, 211, k_X12_every nn), (true, 191, k_X12_next0), (true, 204, k_X12_lay)]) (P := fun b i k => b = false → (pz_cS (14 + 3 * nn) (321 + 72 * nn) RX12 i k ∨ (k = pz_kac ∧ 1 ≤ (14 + 3 * nn) ∧ 60 ≤ (321 + 72 * nn) ∧ Cond.methodLink RX12 i arraycopyName ∈ pz_tbl))) (List.forall_mem_cons.mpr ⟨(fun z => by cases z), List.forall_mem_cons.mpr ⟨(fun z => by cases z), List.forall_mem_cons.mpr ⟨(fun z => by cases z), fun _ h => absurd h List.not_mem_nil⟩⟩⟩) false i k' h rfl
  · intro a M hlen hpre
    obtain ⟨th, rfl, hpre⟩ : ∃ th, a = [.inr (.inr (12, th))] ∧ (pz_im M ∧ M 1 19 ≤ M 1 17 ∧ (M 1 18 ≠ 0 → M 1 19 + 1 ≤ M 1 17) ∧ M 1 14 ≤ M 1 19 ∧ 0 ≤ M 1 24 ∧ M 1 24 ≤ 8 ∧ 8 - M 1 24 ≤ ((nn : Nat) : Int)) := by
      have hpre : (match (generalizing := false) a with | [.inr (.inr (12, th))] => pz_im M ∧ M 1 19 ≤ M 1 17 ∧ (M 1 18 ≠ 0 → M 1 19 + 1 ≤ M 1 17) ∧ M 1 14 ≤ M 1 19 ∧ 0 ≤ M 1 24 ∧ M 1 24 ≤ 8 ∧ 8 - M 1 24 ≤ ((nn : Nat) : Int) | _ => False) := hpre
      split at hpre
      · exact ⟨_, rfl, hpre⟩
      · exact hpre.elim
    exact Nat.le_of_ble_eq_true rfl
  · intro a M hlen hcan hM hpre Ok hgo
    obtain ⟨th, rfl, hpre⟩ : ∃ th, a = [.inr (.inr (12, th))] ∧ (pz_im M ∧ M 1 19 ≤ M 1 17 ∧ (M 1 18 ≠ 0 → M 1 19 + 1 ≤ M 1 17) ∧ M 1 14 ≤ M 1 19 ∧ 0 ≤ M 1 24 ∧ M 1 24 ≤ 8 ∧ 8 - M 1 24 ≤ ((nn : Nat) : Int)) := by
      have hpre : (match (generalizing := false) a with | [.inr (.inr (12, th))] => pz_im M ∧ M 1 19 ≤ M 1 17 ∧ (M 1 18 ≠ 0 → M 1 19 + 1 ≤ M 1 17) ∧ M 1 14 ≤ M 1 19 ∧ 0 ≤ M 1 24 ∧ M 1 24 ≤ 8 ∧ 8 - M 1 24 ≤ ((nn : Nat) : Int) | _ => False) := hpre
      split at hpre
      · exact ⟨_, rfl, hpre⟩
      · exact hpre.elim
    obtain ⟨k_th, hc_th⟩ := pz_tlm hcan
    have k_th : pz_kd th = 12 ∧ th < 231 := k_th
    have R_th := pz_kd12 k_th.1
    subst R_th
    clear k_th
    have hI : pz_im M := hpre.1
    have hI0 := hI
    have hS : pz_rl pz_Q1 M M := pz_rl.rf
    have I0 := hI.2.1.2.2.2.2.2.2.1
    have h14 := I0.1
    obtain ⟨-, pr1, pr2, pr3, pr4, pr5, pr6⟩ := hpre
    have L9 : ∀ (fu : Nat) (N9 : pz_M), (401 - N9 1 19).toNat < fu → (pz_rl pz_Q1 M N9) → (pz_pg 0 0 M N9) → (pq_sG 7 8 (M 1 24).toNat M N9) → Ok 9 [some (.inr (.inr (12, 1)))] [] N9 := by
      intro fu
      induction fu with
      | zero => exact fun _ hn => absurd hn (Nat.not_lt_zero _)
      | succ fu ih9 =>
        intro N9 hn9 hS g9_1 g9_2
        have hI : pz_im N9 := hS.1 hI0
        have i19 := hI.2.1.2.2.2.2.1
        have E9 := pq_Q1 hS
        have G9 := g9_1
        have KG9 := G9
        obtain ⟨⟨G91, G92⟩, G93, G94, G95, -, -⟩ := KG9
        refine hgo (fun p => Nat.beq p 9) 25 9 _ _ _ ?_
        intro v10 e10 a10 b10
        refine And.intro (fun h14 => ?_) (fun h14 => ?_)
        · skip
          refine And.intro (by first | decide | omega) ?_
          refine And.intro rfl ?_
          exact ⟨⟨Or.inr ⟨rfl, G9⟩, pq_sG_e (fun tk => pz_gr.at0 (by have := pq_tkT tk; omega)) g9_2 E9⟩, hS⟩
        · skip
          refine And.intro (hI) ?_
          intro M18 q18
          obtain ⟨q18, z18⟩ := q18
          have hS : pz_rl pz_Q1 M M18 := hS.tr (pz_rl.wk pz_wk_Q0_Q1 z18)
          have hI : pz_im M18 := hS.1 hI0
          obtain ⟨q18, s18⟩ := q18
          have G18 := pz_pg_nx G9 (by first | decide | omega) z18 q18 (c' := 1) (by first | decide | omega)
          have KG18 := G18
          obtain ⟨⟨G181, G182⟩, G183, G184, G185, -, -⟩ := KG18
          refine And.intro (And.intro hI (And.intro (by first | decide | omega) (And.intro (by first | decide | omega) (And.intro (by first | decide | omega) (And.intro (by first | decide | omega) (And.intro (by first | decide | omega) (by first | decide | omega))))))) ?_
          intro v22 M22 a22 b22 q22
          obtain ⟨q22, z22⟩ := q22
          have hS : pz_rl pz_Q1 M M22 := hS.tr z22
          have hI : pz_im M22 := hS.1 hI0
          obtain ⟨q22, s22⟩ := q22
          rw [show (M18 1 24).toNat = (M 1 24).toNat by omega] at s22
          refine And.intro (fun h25 => ?_) (fun h25 => ?_)
          · skip
            have H25 := (q22.resolve_left h25).2
            have KH25 := H25
            obtain ⟨⟨H251, H252⟩, H253, H254, H255, -, -⟩ := KH25
            refine And.intro (And.intro hI (by have i19 := hI.2.1.2.2.2.2.1; omega)) ?_
            intro M34 q34
            obtain ⟨q34, z34⟩ := q34
            have hS : pz_rl pz_Q1 M M34 := hS.tr z34
            have hI : pz_im M34 := hS.1 hI0
            obtain ⟨q34, s34⟩ := q34
            have Y34 := q34
            obtain ⟨l34a, l34b, l34c, l34d, l34e, l34f, l34g, l34h⟩ := q34
            have G34 := pz_pg_bi I0.1 G18 H25 Y34 (by first | decide | omega) (c' := 0) (by first | decide | omega)
            have P34 := pq_sG_s (fun tk a b => pz_gr.ats (by have := pq_tkT tk; omega) a b) g9_2 E9 z18 s18 s22 h25 ⟨Y34, s34⟩ (by first | decide | omega) (pq_Q1 z34) I0.1
            exact ih9 _ (by first | decide | omega) hS (by first | assumption | omega) (by first | assumption | omega)
          · skip
            skip
            refine And.intro (by first | decide | omega) ?_
            refine And.intro rfl ?_
            exact ⟨⟨Or.inl (by first | decide | omega), pq_sG_sb (fun tk a => pz_gr.atb (by have := pq_tkT tk; omega) a) g9_2 E9 z18 s18 s22 h25⟩, hS⟩
    refine hgo (fun p => Nat.beq p 9) 25 0 _ [] M ?_
    refine And.intro (And.intro hI (And.intro (by first | decide | omega) (And.intro (by first | decide | omega) (And.intro (by first | decide | omega) (And.intro (by first | decide | omega) (And.intro (by first | decide | omega) (by first | decide | omega))))))) ?_
    intro v1 M1 a1 b1 q1
    obtain ⟨q1, z1⟩ := q1
    have hS : pz_rl pz_Q1 M M1 := hS.tr z1
    have hI : pz_im M1 := hS.1 hI0
    obtain ⟨q1, s1⟩ := q1
    refine And.intro (fun h4 => ?_) (fun h4 => ?_)
    · skip
      have G4 := (q1.resolve_left h4).2
      have KG4 := G4
      obtain ⟨⟨G41, G42⟩, G43, G44, G45, -, -⟩ := KG4
      have P4 : pq_sG 7 8 (M 1 24).toNat M M1 := pq_sG_0 (fun a b => pz_gr.ans a b) s1 h4
      exact L9 _ _ (Nat.lt_succ_self _) hS (by first | assumption | omega) (by first | assumption | omega)
    · skip
      skip
      refine And.intro (by first | decide | omega) ?_
      refine And.intro rfl ?_
      exact ⟨⟨Or.inl (by first | decide | omega), pq_sG_b (fun a => pz_gr.anb a) s1 h4⟩, hS⟩
theorem h_X12_rec : ∀ nn : Nat, pz_H yX12_oneTest cX12_oneTest 2 (some .boolean) (k_X12_oneTest nn) (12 + 3 * nn) (273 + 72 * nn) ∧ pz_H yX12_any cX12_any 1 (some .boolean) (k_X12_any nn) (14 + 3 * nn) (321 + 72 * nn) := by
  intro nn
  induction nn with
  | zero => exact ⟨h_X12_oneTest_0, h_X12_any_s 0 (h_X12_every_s 0 h_X12_oneTest_0)⟩
  | succ nn ih =>
    have h := h_X12_oneTest_s nn ih.1 ih.2
    exact ⟨h, h_X12_any_s (nn + 1) (h_X12_every_s (nn + 1) h)⟩
theorem v_X12_any8 {fr lo i : Nat} {own : String} (h1 : 38 + 1 ≤ fr) (h2 : 8 + (1 + 11) + 897 ≤ lo) (h3 : .methodLink own i yX12_any ∈ lw_tbl) : pz_cV fr lo own i (k_X12_any 8) :=
  pz_cVk (maxL := 1) 0 12 (h_X12_rec 8).2 rfl ⟨by decide +kernel, by decide +kernel, by decide +kernel⟩ ⟨by decide +kernel, by decide +kernel, by decide +kernel, by decide +kernel⟩ (Or.inl ⟨TX12, 28, rfl⟩) (fun a M _ h => by
      have h : (match (generalizing := false) a with | [.inr (.inr (12, th))] => pz_im M ∧ M 1 19 ≤ M 1 17 ∧ (M 1 18 ≠ 0 → M 1 19 + 1 ≤ M 1 17) ∧ M 1 14 ≤ M 1 19 ∧ 0 ≤ M 1 24 ∧ M 1 24 ≤ 8 ∧ 8 - M 1 24 ≤ (8 : Int) | _ => False) := h
      split at h
      · exact ⟨_, _, rfl⟩
      · exact h.elim) h1 h2 h3
