noncomputable def k_X12_sumUp : pz_C := (1, 1, fun a M => (match a with | [.inr (.inr (12, th))] => pz_im M ∧ M 1 19 ≤ M 1 17 ∧ (M 1 18 ≠ 0 → M 1 19 + 1 ≤ M 1 17) ∧ M 1 14 ≤ M 1 19 | _ => False), fun a M r M' => (match a, r with | [.inr (.inr (12, th))], some (.inl v) => ((v = 0 ∨ (v = 1 ∧ pz_pg 0 0 M M')) ∧ pq_mg 3 0 M M' v) ∧ pz_rl pz_Q1 M M' | _, _ => False))
noncomputable abbrev ct_X12_sumUp : List (Bool × Nat × pz_C) := [(true, 200, k_X12_product), (true, 191, k_X12_next0), (true, 204, k_X12_lay)]
set_option maxRecDepth 100000 in
set_option maxHeartbeats 4000000 in
theorem h_X12_sumUp : pz_H yX12_sumUp cX12_sumUp 2 (some .boolean) k_X12_sumUp 11 233 := by
  refine pz_mk (own := RX12) (tb := t_X12_sumUp) (fl := pz_flf fl_RX12) (ci := pz_cif ci_RX12) (ct := pz_ctf ct_X12_sumUp) (rz := true) (pz_pfc_RX12 yX12_sumUp rfl) rfl t_X12_sumUp_ok (pz_flk fl_RX12_ok) (pz_cik ci_RX12_ok) ?_ ?_ (Or.inr ⟨rfl, rfl⟩) ?_ ?_
  · exact fun i k' h => pz_ctk (l := ct_X12_sumUp) (P := fun b i k => b = true → pz_cV 11 233 RX12 i k) (List.forall_mem_cons.mpr ⟨(fun _ => v_X12_product (by decide) (by decide) pz_wq1319), List.forall_mem_cons.mpr ⟨(fun _ => v_X12_next0 (by decide) (by decide) pz_wq1243), List.forall_mem_cons.mpr ⟨(fun _ => v_X12_lay (by decide) (by decide) pz_wq1327), fun _ h => absurd h List.not_mem_nil⟩⟩⟩) true i k' h rfl
  · exact fun i k' h => pz_ctk (l := ct_X12_sumUp) (P := fun b i k => b = false → (pz_cS 11 233 RX12 i k ∨ (k = pz_kac ∧ 1 ≤ 11 ∧ 60 ≤ 233 ∧ Cond.methodLink RX12 i arraycopyName ∈ pz_tbl))) (List.forall_mem_cons.mpr ⟨((fun z => by cases z)), List.forall_mem_cons.mpr ⟨((fun z => by cases z)), List.forall_mem_cons.mpr ⟨((fun z => by cases z)), fun _ h => absurd h List.not_mem_nil⟩⟩⟩) false i k' h rfl
  · intro a M hlen hpre
    obtain ⟨th, rfl, hpre⟩ : ∃ th, a = [.inr (.inr (12, th))] ∧ (pz_im M ∧ M 1 19 ≤ M 1 17 ∧ (M 1 18 ≠ 0 → M 1 19 + 1 ≤ M 1 17) ∧ M 1 14 ≤ M 1 19) := by
      have hpre : (match (generalizing := false) a with | [.inr (.inr (12, th))] => pz_im M ∧ M 1 19 ≤ M 1 17 ∧ (M 1 18 ≠ 0 → M 1 19 + 1 ≤ M 1 17) ∧ M 1 14 ≤ M 1 19 | _ => False) := hpre
      split at hpre
      · exact ⟨_, rfl, hpre⟩
      · exact hpre.elim
    exact Nat.le_of_ble_eq_true rfl
  · intro a M hlen hcan hM hpre Ok hgo
    obtain ⟨th, rfl, hpre⟩ : ∃ th, a = [.inr (.inr (12, th))] ∧ (pz_im M ∧ M 1 19 ≤ M 1 17 ∧ (M 1 18 ≠ 0 → M 1 19 + 1 ≤ M 1 17) ∧ M 1 14 ≤ M 1 19) := by
      have hpre : (match (generalizing := false) a with | [.inr (.inr (12, th))] => pz_im M ∧ M 1 19 ≤ M 1 17 ∧ (M 1 18 ≠ 0 → M 1 19 + 1 ≤ M 1 17) ∧ M 1 14 ≤ M 1 19 | _ => False) := hpre
      split at hpre
      · exact ⟨_, rfl, hpre⟩
      · exact hpre.elim
    obtain ⟨k_th, hc_th⟩ := pz_tlm hcan
    have k_th : pz_kd th = 12 ∧ th < 231 := k_th
    have R_th := pz_kd12 k_th.1
    subst R_th
    clear k_th
    have hI : pz_im M := hpre.1
    have hI0 := hI
    have hS : pz_rl pz_Q1 M M := pz_rl.rf
    have I0 := hI.2.1.2.2.2.2.2.2.1
    have h14 := I0.1
    obtain ⟨-, pr1, pr2, pr3⟩ := hpre
    have L9 : ∀ (fu : Nat) (d1 : Option pz_V) (N9 : pz_M), (401 - N9 1 19).toNat < fu → (pz_rl pz_Q1 M N9) → (pz_pg 0 0 M N9) → (pq_sG 2 3 0 M N9) → Ok 9 [some (.inr (.inr (12, 1))), d1] [] N9 := by
      intro fu
      induction fu with
      | zero => exact fun _ _ hn => absurd hn (Nat.not_lt_zero _)
      | succ fu ih9 =>
        intro d1 N9 hn9 hS g9_1 g9_2
        have hI : pz_im N9 := hS.1 hI0
        have i19 := hI.2.1.2.2.2.2.1
        have E9 := pq_Q1 hS
        have G9 := g9_1
        have KG9 := G9
        obtain ⟨⟨G91, G92⟩, G93, G94, G95, -, -⟩ := KG9
        refine hgo (fun p => Nat.beq p 9) 37 9 _ _ _ ?_
        intro v10 e10 a10 b10
        refine And.intro (fun h16 => ?_) (fun h16 => ?_)
        · skip
          intro v30 e30 a30 b30
          refine And.intro (fun h36 => ?_) (fun h36 => ?_)
          · skip
            refine And.intro (hI) ?_
            intro M48 q48
            obtain ⟨q48, z48⟩ := q48
            have hS : pz_rl pz_Q1 M M48 := hS.tr (pz_rl.wk pz_wk_Q0_Q1 z48)
            have hI : pz_im M48 := hS.1 hI0
            obtain ⟨q48, s48⟩ := q48
            have G48 := pz_pg_nx G9 (by omega) z48 q48 (c' := 1) (by omega)
            have KG48 := G48
            obtain ⟨⟨G481, G482⟩, G483, G484, G485, -, -⟩ := KG48
            refine And.intro (And.intro hI (And.intro (by omega) (And.intro (by omega) (by omega)))) ?_
            intro v52 M52 a52 b52 q52
            obtain ⟨q52, z52⟩ := q52
            have hS : pz_rl pz_Q1 M M52 := hS.tr z52
            have hI : pz_im M52 := hS.1 hI0
            obtain ⟨q52, s52⟩ := q52
            refine And.intro (fun h55 => ?_) (fun h55 => ?_)
            · skip
              have H55 := (q52.resolve_left h55).2
              have KH55 := H55
              obtain ⟨⟨H551, H552⟩, H553, H554, H555, -, -⟩ := KH55
              refine And.intro (And.intro hI (by have i19 := hI.2.1.2.2.2.2.1; omega)) ?_
              intro M63 q63
              obtain ⟨q63, z63⟩ := q63
              have hS : pz_rl pz_Q1 M M63 := hS.tr z63
              have hI : pz_im M63 := hS.1 hI0
              obtain ⟨q63, s63⟩ := q63
              have Y63 := q63
              obtain ⟨l63a, l63b, l63c, l63d, l63e, l63f, l63g, l63h⟩ := q63
              have G63 := pz_pg_bi I0.1 G48 H55 Y63 (by omega) (c' := 0) (by omega)
              have P63 := pq_sG_s (fun tk a b => pq_st1 (by have := pq_tkT tk; omega) a b) g9_2 E9 z48 s48 s52 h55 ⟨Y63, s63⟩ (by omega) (pq_Q1 z63) h14
              exact ih9 _ _ (by omega) hS (by first | assumption | omega) (by first | assumption | omega)
            · skip
              skip
              refine And.intro (by omega) ?_
              refine And.intro rfl ?_
              exact ⟨⟨Or.inl (by omega), pq_sG_sb (fun tk a => pz_gr.stb (by have := pq_tkT tk; omega) a) g9_2 E9 z48 s48 s52 h55⟩, hS⟩
          · skip
            refine And.intro (hI) ?_
            intro M48 q48
            obtain ⟨q48, z48⟩ := q48
            have hS : pz_rl pz_Q1 M M48 := hS.tr (pz_rl.wk pz_wk_Q0_Q1 z48)
            have hI : pz_im M48 := hS.1 hI0
            obtain ⟨q48, s48⟩ := q48
            have G48 := pz_pg_nx G9 (by omega) z48 q48 (c' := 1) (by omega)
            have KG48 := G48
            obtain ⟨⟨G481, G482⟩, G483, G484, G485, -, -⟩ := KG48
            refine And.intro (And.intro hI (And.intro (by omega) (And.intro (by omega) (by omega)))) ?_
            intro v52 M52 a52 b52 q52
            obtain ⟨q52, z52⟩ := q52
            have hS : pz_rl pz_Q1 M M52 := hS.tr z52
            have hI : pz_im M52 := hS.1 hI0
            obtain ⟨q52, s52⟩ := q52
            refine And.intro (fun h55 => ?_) (fun h55 => ?_)
            · skip
              have H55 := (q52.resolve_left h55).2
              have KH55 := H55
              obtain ⟨⟨H551, H552⟩, H553, H554, H555, -, -⟩ := KH55
              refine And.intro (And.intro hI (by have i19 := hI.2.1.2.2.2.2.1; omega)) ?_
              intro M63 q63
              obtain ⟨q63, z63⟩ := q63
              have hS : pz_rl pz_Q1 M M63 := hS.tr z63
              have hI : pz_im M63 := hS.1 hI0
              obtain ⟨q63, s63⟩ := q63
              have Y63 := q63
              obtain ⟨l63a, l63b, l63c, l63d, l63e, l63f, l63g, l63h⟩ := q63
              have G63 := pz_pg_bi I0.1 G48 H55 Y63 (by omega) (c' := 0) (by omega)
              have P63 := pq_sG_s (fun tk a b => pq_st1 (by have := pq_tkT tk; omega) a b) g9_2 E9 z48 s48 s52 h55 ⟨Y63, s63⟩ (by omega) (pq_Q1 z63) h14
              exact ih9 _ _ (by omega) hS (by first | assumption | omega) (by first | assumption | omega)
            · skip
              skip
              refine And.intro (by omega) ?_
              refine And.intro rfl ?_
              exact ⟨⟨Or.inl (by omega), pq_sG_sb (fun tk a => pz_gr.stb (by have := pq_tkT tk; omega) a) g9_2 E9 z48 s48 s52 h55⟩, hS⟩
        · skip
          intro v20 e20 a20 b20
          refine And.intro (fun h26 => ?_) (fun h26 => ?_)
          · skip
            refine And.intro (by omega) ?_
            refine And.intro rfl ?_
            exact ⟨⟨Or.inr ⟨rfl, G9⟩, pq_sG_e (fun tk => pz_gr.st0 (by have := pq_tkT tk; omega) (by have := pq_tkT tk; omega)) g9_2 E9⟩, hS⟩
          · skip
            intro v30 e30 a30 b30
            refine And.intro (fun h36 => ?_) (fun h36 => ?_)
            · skip
              refine And.intro (hI) ?_
              intro M48 q48
              obtain ⟨q48, z48⟩ := q48
              have hS : pz_rl pz_Q1 M M48 := hS.tr (pz_rl.wk pz_wk_Q0_Q1 z48)
              have hI : pz_im M48 := hS.1 hI0
              obtain ⟨q48, s48⟩ := q48
              have G48 := pz_pg_nx G9 (by omega) z48 q48 (c' := 1) (by omega)
              have KG48 := G48
              obtain ⟨⟨G481, G482⟩, G483, G484, G485, -, -⟩ := KG48
              refine And.intro (And.intro hI (And.intro (by omega) (And.intro (by omega) (by omega)))) ?_
              intro v52 M52 a52 b52 q52
              obtain ⟨q52, z52⟩ := q52
              have hS : pz_rl pz_Q1 M M52 := hS.tr z52
              have hI : pz_im M52 := hS.1 hI0
              obtain ⟨q52, s52⟩ := q52
              refine And.intro (fun h55 => ?_) (fun h55 => ?_)
              · skip
                have H55 := (q52.resolve_left h55).2
                have KH55 := H55
                obtain ⟨⟨H551, H552⟩, H553, H554, H555, -, -⟩ := KH55
                refine And.intro (And.intro hI (by have i19 := hI.2.1.2.2.2.2.1; omega)) ?_
                intro M63 q63
                obtain ⟨q63, z63⟩ := q63
                have hS : pz_rl pz_Q1 M M63 := hS.tr z63
                have hI : pz_im M63 := hS.1 hI0
                obtain ⟨q63, s63⟩ := q63
                have Y63 := q63
                obtain ⟨l63a, l63b, l63c, l63d, l63e, l63f, l63g, l63h⟩ := q63
                have G63 := pz_pg_bi I0.1 G48 H55 Y63 (by omega) (c' := 0) (by omega)
                have P63 := pq_sG_s (fun tk a b => pq_st1 (by have := pq_tkT tk; omega) a b) g9_2 E9 z48 s48 s52 h55 ⟨Y63, s63⟩ (by omega) (pq_Q1 z63) h14
                exact ih9 _ _ (by omega) hS (by first | assumption | omega) (by first | assumption | omega)
              · skip
                skip
                refine And.intro (by omega) ?_
                refine And.intro rfl ?_
                exact ⟨⟨Or.inl (by omega), pq_sG_sb (fun tk a => pz_gr.stb (by have := pq_tkT tk; omega) a) g9_2 E9 z48 s48 s52 h55⟩, hS⟩
            · skip
              refine And.intro (hI) ?_
              intro M48 q48
              obtain ⟨q48, z48⟩ := q48
              have hS : pz_rl pz_Q1 M M48 := hS.tr (pz_rl.wk pz_wk_Q0_Q1 z48)
              have hI : pz_im M48 := hS.1 hI0
              obtain ⟨q48, s48⟩ := q48
              have G48 := pz_pg_nx G9 (by omega) z48 q48 (c' := 1) (by omega)
              have KG48 := G48
              obtain ⟨⟨G481, G482⟩, G483, G484, G485, -, -⟩ := KG48
              refine And.intro (And.intro hI (And.intro (by omega) (And.intro (by omega) (by omega)))) ?_
              intro v52 M52 a52 b52 q52
              obtain ⟨q52, z52⟩ := q52
              have hS : pz_rl pz_Q1 M M52 := hS.tr z52
              have hI : pz_im M52 := hS.1 hI0
              obtain ⟨q52, s52⟩ := q52
              refine And.intro (fun h55 => ?_) (fun h55 => ?_)
              · skip
                have H55 := (q52.resolve_left h55).2
                have KH55 := H55
                obtain ⟨⟨H551, H552⟩, H553, H554, H555, -, -⟩ := KH55
                refine And.intro (And.intro hI (by have i19 := hI.2.1.2.2.2.2.1; omega)) ?_
                intro M63 q63
                obtain ⟨q63, z63⟩ := q63
                have hS : pz_rl pz_Q1 M M63 := hS.tr z63
                have hI : pz_im M63 := hS.1 hI0
                obtain ⟨q63, s63⟩ := q63
                have Y63 := q63
                obtain ⟨l63a, l63b, l63c, l63d, l63e, l63f, l63g, l63h⟩ := q63
                have G63 := pz_pg_bi I0.1 G48 H55 Y63 (by omega) (c' := 0) (by omega)
                have P63 := pq_sG_s (fun tk a b => pq_st1 (by have := pq_tkT tk; omega) a b) g9_2 E9 z48 s48 s52 h55 ⟨Y63, s63⟩ (by omega) (pq_Q1 z63) h14
                exact ih9 _ _ (by omega) hS (by first | assumption | omega) (by first | assumption | omega)
              · skip
                skip
                refine And.intro (by omega) ?_
                refine And.intro rfl ?_
                exact ⟨⟨Or.inl (by omega), pq_sG_sb (fun tk a => pz_gr.stb (by have := pq_tkT tk; omega) a) g9_2 E9 z48 s48 s52 h55⟩, hS⟩
    refine hgo (fun p => Nat.beq p 9) 37 0 _ [] M ?_
    refine And.intro (And.intro hI (And.intro (by omega) (And.intro (by omega) (by omega)))) ?_
    intro v1 M1 a1 b1 q1
    obtain ⟨q1, z1⟩ := q1
    have hS : pz_rl pz_Q1 M M1 := hS.tr z1
    have hI : pz_im M1 := hS.1 hI0
    obtain ⟨q1, s1⟩ := q1
    refine And.intro (fun h4 => ?_) (fun h4 => ?_)
    · skip
      have G4 := (q1.resolve_left h4).2
      have KG4 := G4
      obtain ⟨⟨G41, G42⟩, G43, G44, G45, -, -⟩ := KG4
      have P4 : pq_sG 2 3 0 M M1 := pq_sG_0 (fun a b => pz_gr.sms a b) s1 h4
      exact L9 _ _ _ (Nat.lt_succ_self _) hS (by first | assumption | omega) (by first | assumption | omega)
    · skip
      skip
      refine And.intro (by omega) ?_
      refine And.intro rfl ?_
      exact ⟨⟨Or.inl (by omega), pq_sG_b (fun a => pz_gr.smb a) s1 h4⟩, hS⟩
theorem v_X12_sumUp {fr lo i : Nat} {own : String} (h1 : 11 + 1 ≤ fr) (h2 : 8 + (2 + 11) + 233 ≤ lo) (h3 : .methodLink own i yX12_sumUp ∈ lw_tbl) : pz_cV fr lo own i k_X12_sumUp :=
  pz_cVk (maxL := 2) (fr' := 11) (lo' := 233) 0 12 h_X12_sumUp rfl ⟨(pz_nhc_RX12 yX12_sumUp rfl).1, (pz_nhc_RX12 yX12_sumUp rfl).2, pz_ds3⟩ ⟨pz_wq1318, pz_wq1317, pz_ws16, pz_wq13⟩ (Or.inl ⟨TX12, 28, rfl⟩) (fun a M _ h => by
    have h : (match (generalizing := false) a with | [.inr (.inr (12, th))] => pz_im M ∧ M 1 19 ≤ M 1 17 ∧ (M 1 18 ≠ 0 → M 1 19 + 1 ≤ M 1 17) ∧ M 1 14 ≤ M 1 19 | _ => False) := h
    split at h
    · exact ⟨_, _, rfl⟩
    · exact h.elim) h1 h2 h3
