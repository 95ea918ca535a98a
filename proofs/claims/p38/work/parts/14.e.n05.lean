noncomputable def k_X12_unit : pz_C := (1, 1, fun a M => (match a with | [.inr (.inr (12, th))] => pz_im M ∧ M 1 19 ≤ M 1 17 ∧ (M 1 18 ≠ 0 → M 1 19 + 1 ≤ M 1 17) ∧ M 1 14 ≤ M 1 19 | _ => False), fun a M r M' => (match a, r with | [.inr (.inr (12, th))], some (.inl v) => ((v = 0 ∨ (v = 1 ∧ pz_pg 0 0 M M')) ∧ pq_mu M M' v) ∧ pz_rl pz_Q1 M M' | _, _ => False))
noncomputable abbrev ct_X12_unit : List (Bool × Nat × pz_C) := [(false, 54, k_X12_isIn), (true, 188, k_X12_bad), (true, 204, k_X12_lay), (true, 191, k_X12_next0)]
theorem pz_wk_Q0_Q1 : ∀ b j, pz_Q0 b j → pz_Q1 b j := by
  intro b j q
  unfold pz_Q0 at q
  unfold pz_Q1
  omega
set_option maxRecDepth 100000 in
set_option maxHeartbeats 4000000 in
theorem h_X12_unit : pz_H yX12_unit cX12_unit 2 (some .boolean) k_X12_unit 9 190 := by
  refine pz_mk (own := RX12) (tb := t_X12_unit) (fl := pz_flf fl_RX12) (ci := pz_cif ci_RX12) (ct := pz_ctf ct_X12_unit) (rz := true) (pz_pfc_RX12 yX12_unit rfl) rfl t_X12_unit_ok (pz_flk fl_RX12_ok) (pz_cik ci_RX12_ok) ?_ ?_ (Or.inr ⟨rfl, rfl⟩) ?_ ?_
  · exact fun i k' h => pz_ctk (l := ct_X12_unit) (P := fun b i k => b = true → pz_cV 9 190 RX12 i k) (List.forall_mem_cons.mpr ⟨((fun z => by cases z)), List.forall_mem_cons.mpr ⟨(fun _ => v_X12_bad (by decide) (by decide) pz_wq1311), List.forall_mem_cons.mpr ⟨(fun _ => v_X12_lay (by decide) (by decide) pz_wq1327), List.forall_mem_cons.mpr ⟨(fun _ => v_X12_next0 (by decide) (by decide) pz_wq1243), fun _ h => absurd h List.not_mem_nil⟩⟩⟩⟩) true i k' h rfl
  · exact fun i k' h => pz_ctk (l := ct_X12_unit) (P := fun b i k => b = false → (pz_cS 9 190 RX12 i k ∨ (k = pz_kac ∧ 1 ≤ 9 ∧ 60 ≤ 190 ∧ Cond.methodLink RX12 i arraycopyName ∈ pz_tbl))) (List.forall_mem_cons.mpr ⟨(fun _ => Or.inl (s_X12_isIn (by decide) (by decide) (Or.inl pz_wq1217))), List.forall_mem_cons.mpr ⟨((fun z => by cases z)), List.forall_mem_cons.mpr ⟨((fun z => by cases z)), List.forall_mem_cons.mpr ⟨((fun z => by cases z)), fun _ h => absurd h List.not_mem_nil⟩⟩⟩⟩) false i k' h rfl
  · intro a M hlen hpre
    obtain ⟨th, rfl, hpre⟩ : ∃ th, a = [.inr (.inr (12, th))] ∧ (pz_im M ∧ M 1 19 ≤ M 1 17 ∧ (M 1 18 ≠ 0 → M 1 19 + 1 ≤ M 1 17) ∧ M 1 14 ≤ M 1 19) := by
      have hpre : (match (generalizing := false) a with | [.inr (.inr (12, th))] => pz_im M ∧ M 1 19 ≤ M 1 17 ∧ (M 1 18 ≠ 0 → M 1 19 + 1 ≤ M 1 17) ∧ M 1 14 ≤ M 1 19 | _ => False) := hpre
      split at hpre
      · exact ⟨_, rfl, hpre⟩
      · exact hpre.elim
    exact Nat.le_of_ble_eq_true rfl
  · intro a M hlen hcan hM hpre Ok hgo
    obtain ⟨th, rfl, hpre⟩ : ∃ th, a = [.inr (.inr (12, th))] ∧ (pz_im M ∧ M 1 19 ≤ M 1 17 ∧ (M 1 18 ≠ 0 → M 1 19 + 1 ≤ M 1 17) ∧ M 1 14 ≤ M 1 19) := by
      have hpre : (match (generalizing := false) a with | [.inr (.inr (12, th))] => pz_im M ∧ M 1 19 ≤ M 1 17 ∧ (M 1 18 ≠ 0 → M 1 19 + 1 ≤ M 1 17) ∧ M 1 14 ≤ M 1 19 | _ => False) := hpre
      split at hpre
      · exact ⟨_, rfl, hpre⟩
      · exact hpre.elim
    obtain ⟨k_th, hc_th⟩ := pz_tlm hcan
    have k_th : pz_kd th = 12 ∧ th < 231 := k_th
    have R_th := pz_kd12 k_th.1
    subst R_th
    clear k_th
    have hI : pz_im M := hpre.1
    have hI0 := hI
    have hS : pz_rl pz_Q1 M M := pz_rl.rf
    have I0 := hI.2.1.2.2.2.2.2.2.1
    have h14 := I0.1
    obtain ⟨-, pr1, pr2, pr3⟩ := hpre
    refine hgo (fun _ => false) 34 0 _ [] M ?_
    intro v1 e1 a1 b1
    refine And.intro (True.intro) ?_
    intro v8 M8 a8 b8 q8
    obtain ⟨q8, z8⟩ := q8
    subst z8
    clear a8 b8
    intro v13 e13 a13 b13
    refine And.intro (fun h17 => ?_) (fun h17 => ?_)
    · skip
      refine And.intro (fun h32 => ?_) (fun h32 => ?_)
      · skip
        replace q8 := q8.resolve_left (fun z => absurd (z.1.symm.trans h32) (by decide))
        intro v47 e47 a47 b47
        refine And.intro (And.intro hI (by have i19 := hI.2.1.2.2.2.2.1; omega)) ?_
        intro M50 q50
        obtain ⟨q50, z50⟩ := q50
        have hS : pz_rl pz_Q1 M M50 := hS.tr z50
        have hI : pz_im M50 := hS.1 hI0
        obtain ⟨q50, s50⟩ := q50
        have Y50 := q50
        obtain ⟨l50a, l50b, l50c, l50d, l50e, l50f, l50g, l50h⟩ := q50
        refine And.intro (hI) ?_
        intro M54 q54
        obtain ⟨q54, z54⟩ := q54
        have hS : pz_rl pz_Q1 M M54 := hS.tr (pz_rl.wk pz_wk_Q0_Q1 z54)
        have hI : pz_im M54 := hS.1 hI0
        obtain ⟨q54, s54⟩ := q54
        have f54 := pz_q0f z54
        obtain ⟨f54a, f54b, f54c⟩ := f54
        refine And.intro (by omega) ?_
        refine And.intro rfl ?_
        first
          | exact ⟨⟨Or.inr ⟨rfl, pz_pg_one Y50 (by omega) (by omega) z54 q54⟩, pq_mu_n ⟨Y50, s50⟩ (by omega) (by omega) h14 (pq_Q1 z50) z54 s54⟩, hS⟩
          | exact ⟨⟨Or.inr ⟨rfl, pz_pg_one Y50 (by omega) (by omega) z54 q54⟩, pq_mu_w ⟨Y50, s50⟩ (by omega) (by omega) h14 (pq_Q1 z50) z54 s54⟩, hS⟩
      · skip
        replace q8 := q8.resolve_right (fun z => h32 z.1)
        replace h32 : 1 ≤ v8 := by omega
        intro v36 e36 a36 b36
        intro v41 e41 a41 b41
        rw [pz_wi (by omega) (by omega)] at e41
        clear a41 b41
        intro v47 e47 a47 b47
        refine And.intro (And.intro hI (by have i19 := hI.2.1.2.2.2.2.1; omega)) ?_
        intro M50 q50
        obtain ⟨q50, z50⟩ := q50
        have hS : pz_rl pz_Q1 M M50 := hS.tr z50
        have hI : pz_im M50 := hS.1 hI0
        obtain ⟨q50, s50⟩ := q50
        have Y50 := q50
        obtain ⟨l50a, l50b, l50c, l50d, l50e, l50f, l50g, l50h⟩ := q50
        refine And.intro (hI) ?_
        intro M54 q54
        obtain ⟨q54, z54⟩ := q54
        have hS : pz_rl pz_Q1 M M54 := hS.tr (pz_rl.wk pz_wk_Q0_Q1 z54)
        have hI : pz_im M54 := hS.1 hI0
        obtain ⟨q54, s54⟩ := q54
        have f54 := pz_q0f z54
        obtain ⟨f54a, f54b, f54c⟩ := f54
        refine And.intro (by omega) ?_
        refine And.intro rfl ?_
        first
          | exact ⟨⟨Or.inr ⟨rfl, pz_pg_one Y50 (by omega) (by omega) z54 q54⟩, pq_mu_n ⟨Y50, s50⟩ (by omega) (by omega) h14 (pq_Q1 z50) z54 s54⟩, hS⟩
          | exact ⟨⟨Or.inr ⟨rfl, pz_pg_one Y50 (by omega) (by omega) z54 q54⟩, pq_mu_w ⟨Y50, s50⟩ (by omega) (by omega) h14 (pq_Q1 z50) z54 s54⟩, hS⟩
    · skip
      refine And.intro (fun h21 => ?_) (fun h21 => ?_)
      · skip
        replace q8 := q8.resolve_right (fun z => h21 z.1)
        replace h21 : 1 ≤ v8 := by omega
        refine And.intro (fun h32 => ?_) (fun h32 => ?_)
        · skip
          intro v47 e47 a47 b47
          refine And.intro (And.intro hI (by have i19 := hI.2.1.2.2.2.2.1; omega)) ?_
          intro M50 q50
          obtain ⟨q50, z50⟩ := q50
          have hS : pz_rl pz_Q1 M M50 := hS.tr z50
          have hI : pz_im M50 := hS.1 hI0
          obtain ⟨q50, s50⟩ := q50
          have Y50 := q50
          obtain ⟨l50a, l50b, l50c, l50d, l50e, l50f, l50g, l50h⟩ := q50
          refine And.intro (hI) ?_
          intro M54 q54
          obtain ⟨q54, z54⟩ := q54
          have hS : pz_rl pz_Q1 M M54 := hS.tr (pz_rl.wk pz_wk_Q0_Q1 z54)
          have hI : pz_im M54 := hS.1 hI0
          obtain ⟨q54, s54⟩ := q54
          have f54 := pz_q0f z54
          obtain ⟨f54a, f54b, f54c⟩ := f54
          refine And.intro (by omega) ?_
          refine And.intro rfl ?_
          first
            | exact ⟨⟨Or.inr ⟨rfl, pz_pg_one Y50 (by omega) (by omega) z54 q54⟩, pq_mu_n ⟨Y50, s50⟩ (by omega) (by omega) h14 (pq_Q1 z50) z54 s54⟩, hS⟩
            | exact ⟨⟨Or.inr ⟨rfl, pz_pg_one Y50 (by omega) (by omega) z54 q54⟩, pq_mu_w ⟨Y50, s50⟩ (by omega) (by omega) h14 (pq_Q1 z50) z54 s54⟩, hS⟩
        · skip
          intro v36 e36 a36 b36
          intro v41 e41 a41 b41
          rw [pz_wi (by omega) (by omega)] at e41
          clear a41 b41
          intro v47 e47 a47 b47
          refine And.intro (And.intro hI (by have i19 := hI.2.1.2.2.2.2.1; omega)) ?_
          intro M50 q50
          obtain ⟨q50, z50⟩ := q50
          have hS : pz_rl pz_Q1 M M50 := hS.tr z50
          have hI : pz_im M50 := hS.1 hI0
          obtain ⟨q50, s50⟩ := q50
          have Y50 := q50
          obtain ⟨l50a, l50b, l50c, l50d, l50e, l50f, l50g, l50h⟩ := q50
          refine And.intro (hI) ?_
          intro M54 q54
          obtain ⟨q54, z54⟩ := q54
          have hS : pz_rl pz_Q1 M M54 := hS.tr (pz_rl.wk pz_wk_Q0_Q1 z54)
          have hI : pz_im M54 := hS.1 hI0
          obtain ⟨q54, s54⟩ := q54
          have f54 := pz_q0f z54
          obtain ⟨f54a, f54b, f54c⟩ := f54
          refine And.intro (by omega) ?_
          refine And.intro rfl ?_
          first
            | exact ⟨⟨Or.inr ⟨rfl, pz_pg_one Y50 (by omega) (by omega) z54 q54⟩, pq_mu_n ⟨Y50, s50⟩ (by omega) (by omega) h14 (pq_Q1 z50) z54 s54⟩, hS⟩
            | exact ⟨⟨Or.inr ⟨rfl, pz_pg_one Y50 (by omega) (by omega) z54 q54⟩, pq_mu_w ⟨Y50, s50⟩ (by omega) (by omega) h14 (pq_Q1 z50) z54 s54⟩, hS⟩
      · skip
        replace q8 := q8.resolve_left (fun z => absurd (z.1.symm.trans h21) (by decide))
        refine And.intro (hI) ?_
        intro v26 M26 a26 b26 q26
        obtain ⟨q26, z26⟩ := q26
        have hS : pz_rl pz_Q1 M M26 := hS.tr (pz_rl.wk pz_wk_Q0_Q1 z26)
        have hI : pz_im M26 := hS.1 hI0
        clear a26 b26
        refine And.intro (by omega) ?_
        refine And.intro rfl ?_
        exact ⟨⟨Or.inl (by omega), pq_mu_b (by omega) (by omega) (by omega) (by omega)⟩, hS⟩
theorem v_X12_unit {fr lo i : Nat} {own : String} (h1 : 9 + 1 ≤ fr) (h2 : 8 + (2 + 11) + 190 ≤ lo) (h3 : .methodLink own i yX12_unit ∈ lw_tbl) : pz_cV fr lo own i k_X12_unit :=
  pz_cVk (maxL := 2) (fr' := 9) (lo' := 190) 0 12 h_X12_unit rfl ⟨(pz_nhc_RX12 yX12_unit rfl).1, (pz_nhc_RX12 yX12_unit rfl).2, pz_ds3⟩ ⟨pz_wq1326, pz_wq1325, pz_ws18, pz_wq13⟩ (Or.inl ⟨TX12, 28, rfl⟩) (fun a M _ h => by
    have h : (match (generalizing := false) a with | [.inr (.inr (12, th))] => pz_im M ∧ M 1 19 ≤ M 1 17 ∧ (M 1 18 ≠ 0 → M 1 19 + 1 ≤ M 1 17) ∧ M 1 14 ≤ M 1 19 | _ => False) := h
    split at h
    · exact ⟨_, _, rfl⟩
    · exact h.elim) h1 h2 h3
noncomputable def k_X12_product : pz_C := (1, 1, fun a M => (match a with | [.inr (.inr (12, th))] => pz_im M ∧ M 1 19 ≤ M 1 17 ∧ (M 1 18 ≠ 0 → M 1 19 + 1 ≤ M 1 17) ∧ M 1 14 ≤ M 1 19 | _ => False), fun a M r M' => (match a, r with | [.inr (.inr (12, th))], some (.inl v) => ((v = 0 ∨ (v = 1 ∧ pz_pg 0 0 M M')) ∧ pq_mg 1 0 M M' v) ∧ pz_rl pz_Q1 M M' | _, _ => False))
noncomputable abbrev ct_X12_product : List (Bool × Nat × pz_C) := [(true, 208, k_X12_unit), (true, 191, k_X12_next0), (true, 188, k_X12_bad), (true, 204, k_X12_lay)]
set_option maxRecDepth 100000 in
set_option maxHeartbeats 4000000 in
theorem h_X12_product : pz_H yX12_product cX12_product 3 (some .boolean) k_X12_product 10 211 := by
  refine pz_mk (own := RX12) (tb := t_X12_product) (fl := pz_flf fl_RX12) (ci := pz_cif ci_RX12) (ct := pz_ctf ct_X12_product) (rz := true) (pz_pfc_RX12 yX12_product rfl) rfl t_X12_product_ok (pz_flk fl_RX12_ok) (pz_cik ci_RX12_ok) ?_ ?_ (Or.inr ⟨rfl, rfl⟩) ?_ ?_
  · exact fun i k' h => pz_ctk (l := ct_X12_product) (P := fun b i k => b = true → pz_cV 10 211 RX12 i k) (List.forall_mem_cons.mpr ⟨(fun _ => v_X12_unit (by decide) (by decide) pz_wq1323), List.forall_mem_cons.mpr ⟨(fun _ => v_X12_next0 (by decide) (by decide) pz_wq1243), List.forall_mem_cons.mpr ⟨(fun _ => v_X12_bad (by decide) (by decide) pz_wq1311), List.forall_mem_cons.mpr ⟨(fun _ => v_X12_lay (by decide) (by decide) pz_wq1327), fun _ h => absurd h List.not_mem_nil⟩⟩⟩⟩) true i k' h rfl
  · exact fun i k' h => pz_ctk (l := ct_X12_product) (P := fun b i k => b = false → (pz_cS 10 211 RX12 i k ∨ (k = pz_kac ∧ 1 ≤ 10 ∧ 60 ≤ 211 ∧ Cond.methodLink RX12 i arraycopyName ∈ pz_tbl))) (List.forall_mem_cons.mpr ⟨((fun z => by cases z)), List.forall_mem_cons.mpr ⟨((fun z => by cases z)), List.forall_mem_cons.mpr ⟨((fun z => by cases z)), List.forall_mem_cons.mpr ⟨((fun z => by cases z)), fun _ h => absurd h List.not_mem_nil⟩⟩⟩⟩) false i k' h rfl
  · intro a M hlen hpre
    obtain ⟨th, rfl, hpre⟩ : ∃ th, a = [.inr (.inr (12, th))] ∧ (pz_im M ∧ M 1 19 ≤ M 1 17 ∧ (M 1 18 ≠ 0 → M 1 19 + 1 ≤ M 1 17) ∧ M 1 14 ≤ M 1 19) := by
      have hpre : (match (generalizing := false) a with | [.inr (.inr (12, th))] => pz_im M ∧ M 1 19 ≤ M 1 17 ∧ (M 1 18 ≠ 0 → M 1 19 + 1 ≤ M 1 17) ∧ M 1 14 ≤ M 1 19 | _ => False) := hpre
      split at hpre
      · exact ⟨_, rfl, hpre⟩
      · exact hpre.elim
    exact Nat.le_of_ble_eq_true rfl
  · intro a M hlen hcan hM hpre Ok hgo
    obtain ⟨th, rfl, hpre⟩ : ∃ th, a = [.inr (.inr (12, th))] ∧ (pz_im M ∧ M 1 19 ≤ M 1 17 ∧ (M 1 18 ≠ 0 → M 1 19 + 1 ≤ M 1 17) ∧ M 1 14 ≤ M 1 19) := by
      have hpre : (match (generalizing := false) a with | [.inr (.inr (12, th))] => pz_im M ∧ M 1 19 ≤ M 1 17 ∧ (M 1 18 ≠ 0 → M 1 19 + 1 ≤ M 1 17) ∧ M 1 14 ≤ M 1 19 | _ => False) := hpre
      split at hpre
      · exact ⟨_, rfl, hpre⟩
      · exact hpre.elim
    obtain ⟨k_th, hc_th⟩ := pz_tlm hcan
    have k_th : pz_kd th = 12 ∧ th < 231 := k_th
    have R_th := pz_kd12 k_th.1
    subst R_th
    clear k_th
    have hI : pz_im M := hpre.1
    have hI0 := hI
    have hS : pz_rl pz_Q1 M M := pz_rl.rf
    have I0 := hI.2.1.2.2.2.2.2.2.1
    have h14 := I0.1
    obtain ⟨-, pr1, pr2, pr3⟩ := hpre
    have L9 : ∀ (fu : Nat) (d1 : Option pz_V) (d2 : Option pz_V) (N9 : pz_M), (401 - N9 1 19).toNat < fu → (pz_rl pz_Q1 M N9) → (pz_pg 0 0 M N9) → (pq_sP M N9) → Ok 9 [some (.inr (.inr (12, 1))), d1, d2] [] N9 := by
      intro fu
      induction fu with
      | zero => exact fun _ _ _ hn => absurd hn (Nat.not_lt_zero _)
      | succ fu ih9 =>
        intro d1 d2 N9 hn9 hS g9_1 g9_2
        have hI : pz_im N9 := hS.1 hI0
        have i19 := hI.2.1.2.2.2.2.1
        have E9 := pq_Q1 hS
        have G9 := g9_1
        have KG9 := G9
        obtain ⟨⟨G91, G92⟩, G93, G94, G95, -, -⟩ := KG9
        refine hgo (fun p => Nat.beq p 9) 63 9 _ _ _ ?_
        intro v10 e10 a10 b10
        refine And.intro (fun h16 => ?_) (fun h16 => ?_)
        · skip
          intro v30 e30 a30 b30
          refine And.intro (fun h36 => ?_) (fun h36 => ?_)
          · skip
            refine And.intro (hI) ?_
            intro M46 q46
            obtain ⟨q46, z46⟩ := q46
            have hS : pz_rl pz_Q1 M M46 := hS.tr (pz_rl.wk pz_wk_Q0_Q1 z46)
            have hI : pz_im M46 := hS.1 hI0
            obtain ⟨q46, s46⟩ := q46
            have G46 := pz_pg_nx G9 (by omega) z46 q46 (c' := 1) (by omega)
            have KG46 := G46
            obtain ⟨⟨G461, G462⟩, G463, G464, G465, -, -⟩ := KG46
            refine And.intro (fun h50 => ?_) (fun h50 => ?_)
            · skip
              refine And.intro (And.intro hI (And.intro (by omega) (And.intro (by omega) (by omega)))) ?_
              intro v97 M97 a97 b97 q97
              obtain ⟨q97, z97⟩ := q97
              have hS : pz_rl pz_Q1 M M97 := hS.tr z97
              have hI : pz_im M97 := hS.1 hI0
              obtain ⟨q97, s97⟩ := q97
              refine And.intro (fun h100 => ?_) (fun h100 => ?_)
              · skip
                have H100 := (q97.resolve_left h100).2
                have KH100 := H100
                obtain ⟨⟨H1001, H1002⟩, H1003, H1004, H1005, -, -⟩ := KH100
                refine And.intro (And.intro hI (by have i19 := hI.2.1.2.2.2.2.1; omega)) ?_
                intro M109 q109
                obtain ⟨q109, z109⟩ := q109
                have hS : pz_rl pz_Q1 M M109 := hS.tr z109
                have hI : pz_im M109 := hS.1 hI0
                obtain ⟨q109, s109⟩ := q109
                have Y109 := q109
                obtain ⟨l109a, l109b, l109c, l109d, l109e, l109f, l109g, l109h⟩ := q109
                have G109 := pz_pg_bi I0.1 G46 H100 Y109 (by omega) (c' := 0) (by omega)
                have P109 := pq_sP_m g9_2 E9 (by omega) z46 s46 s97 h100 (pq_Q1 z97) ⟨Y109, s109⟩ (pq_Q1 z109) h14
                exact ih9 _ _ _ (by omega) hS (by first | assumption | omega) (by first | assumption | omega)
              · skip
                skip
                refine And.intro (by omega) ?_
                refine And.intro rfl ?_
                exact ⟨⟨Or.inl (by omega), pq_sP_mb g9_2 E9 (by omega) z46 s46 s97 h100⟩, hS⟩
            · skip
              exact absurd h50 (by decide)
          · skip
            refine And.intro (hI) ?_
            intro M46 q46
            obtain ⟨q46, z46⟩ := q46
            have hS : pz_rl pz_Q1 M M46 := hS.tr (pz_rl.wk pz_wk_Q0_Q1 z46)
            have hI : pz_im M46 := hS.1 hI0
            obtain ⟨q46, s46⟩ := q46
            have G46 := pz_pg_nx G9 (by omega) z46 q46 (c' := 1) (by omega)
            have KG46 := G46
            obtain ⟨⟨G461, G462⟩, G463, G464, G465, -, -⟩ := KG46
            refine And.intro (fun h50 => ?_) (fun h50 => ?_)
            · skip
              exact absurd h50 (by decide)
            · skip
              intro v54 e54 a54 b54
              intro v59 e59 a59 b59
              refine And.intro (fun h63 => ?_) (fun h63 => ?_)
              · skip
                refine And.intro (fun h73 => ?_) (fun h73 => ?_)
                · skip
                  refine And.intro (hI) ?_
                  intro M83 q83
                  obtain ⟨q83, z83⟩ := q83
                  have hS : pz_rl pz_Q1 M M83 := hS.tr (pz_rl.wk pz_wk_Q0_Q1 z83)
                  have hI : pz_im M83 := hS.1 hI0
                  obtain ⟨q83, s83⟩ := q83
                  have G83 := pz_pg_nx G46 (by omega) z83 q83 (c' := 2) (by omega)
                  have KG83 := G83
                  obtain ⟨⟨G831, G832⟩, G833, G834, G835, -, -⟩ := KG83
                  refine And.intro (And.intro hI (by have i19 := hI.2.1.2.2.2.2.1; omega)) ?_
                  intro M90 q90
                  obtain ⟨q90, z90⟩ := q90
                  have hS : pz_rl pz_Q1 M M90 := hS.tr z90
                  have hI : pz_im M90 := hS.1 hI0
                  obtain ⟨q90, s90⟩ := q90
                  have Y90 := q90
                  obtain ⟨l90a, l90b, l90c, l90d, l90e, l90f, l90g, l90h⟩ := q90
                  have G90 := pz_pg_un I0.1 G83 Y90 (Or.inl ⟨rfl, by omega⟩) (c' := 0) (by omega)
                  have P90 := pq_sP_d g9_2 E9 (by omega) z46 s46 (by omega) (by omega) z83 s83 ⟨Y90, s90⟩ (by omega) (pq_Q1 z90) h14
                  exact ih9 _ _ _ (by omega) hS (by first | assumption | omega) (by first | assumption | omega)
                · skip
                  refine And.intro (hI) ?_
                  intro v78 M78 a78 b78 q78
                  obtain ⟨q78, z78⟩ := q78
                  have hS : pz_rl pz_Q1 M M78 := hS.tr (pz_rl.wk pz_wk_Q0_Q1 z78)
                  have hI : pz_im M78 := hS.1 hI0
                  clear a78 b78
                  refine And.intro (by omega) ?_
                  refine And.intro rfl ?_
                  exact ⟨⟨Or.inl (by omega), by rw [show v78 = 0 from q78.1]; exact pq_sP_w g9_2 E9 (by omega) z46 s46 (by omega) q78.2.1 q78.2.2⟩, hS⟩
              · skip
                refine And.intro (hI) ?_
                intro v68 M68 a68 b68 q68
                obtain ⟨q68, z68⟩ := q68
                have hS : pz_rl pz_Q1 M M68 := hS.tr (pz_rl.wk pz_wk_Q0_Q1 z68)
                have hI : pz_im M68 := hS.1 hI0
                clear a68 b68
                refine And.intro (by omega) ?_
                refine And.intro rfl ?_
                exact ⟨⟨Or.inl (by omega), by rw [show v68 = 0 from q68.1]; exact pq_sP_w g9_2 E9 (by omega) z46 s46 (by omega) q68.2.1 q68.2.2⟩, hS⟩
        · skip
          intro v20 e20 a20 b20
          refine And.intro (fun h26 => ?_) (fun h26 => ?_)
          · skip
            refine And.intro (by omega) ?_
            refine And.intro rfl ?_
            exact ⟨⟨Or.inr ⟨rfl, G9⟩, pq_sP_e g9_2 E9 (by omega)⟩, hS⟩
          · skip
            intro v30 e30 a30 b30
            refine And.intro (fun h36 => ?_) (fun h36 => ?_)
            · skip
              refine And.intro (hI) ?_
              intro M46 q46
              obtain ⟨q46, z46⟩ := q46
              have hS : pz_rl pz_Q1 M M46 := hS.tr (pz_rl.wk pz_wk_Q0_Q1 z46)
              have hI : pz_im M46 := hS.1 hI0
              obtain ⟨q46, s46⟩ := q46
              have G46 := pz_pg_nx G9 (by omega) z46 q46 (c' := 1) (by omega)
              have KG46 := G46
              obtain ⟨⟨G461, G462⟩, G463, G464, G465, -, -⟩ := KG46
              refine And.intro (fun h50 => ?_) (fun h50 => ?_)
              · skip
                refine And.intro (And.intro hI (And.intro (by omega) (And.intro (by omega) (by omega)))) ?_
                intro v97 M97 a97 b97 q97
                obtain ⟨q97, z97⟩ := q97
                have hS : pz_rl pz_Q1 M M97 := hS.tr z97
                have hI : pz_im M97 := hS.1 hI0
                obtain ⟨q97, s97⟩ := q97
                refine And.intro (fun h100 => ?_) (fun h100 => ?_)
                · skip
                  have H100 := (q97.resolve_left h100).2
                  have KH100 := H100
                  obtain ⟨⟨H1001, H1002⟩, H1003, H1004, H1005, -, -⟩ := KH100
                  refine And.intro (And.intro hI (by have i19 := hI.2.1.2.2.2.2.1; omega)) ?_
                  intro M109 q109
                  obtain ⟨q109, z109⟩ := q109
                  have hS : pz_rl pz_Q1 M M109 := hS.tr z109
                  have hI : pz_im M109 := hS.1 hI0
                  obtain ⟨q109, s109⟩ := q109
                  have Y109 := q109
                  obtain ⟨l109a, l109b, l109c, l109d, l109e, l109f, l109g, l109h⟩ := q109
                  have G109 := pz_pg_bi I0.1 G46 H100 Y109 (by omega) (c' := 0) (by omega)
                  have P109 := pq_sP_m g9_2 E9 (by omega) z46 s46 s97 h100 (pq_Q1 z97) ⟨Y109, s109⟩ (pq_Q1 z109) h14
                  exact ih9 _ _ _ (by omega) hS (by first | assumption | omega) (by first | assumption | omega)
                · skip
                  skip
                  refine And.intro (by omega) ?_
                  refine And.intro rfl ?_
                  exact ⟨⟨Or.inl (by omega), pq_sP_mb g9_2 E9 (by omega) z46 s46 s97 h100⟩, hS⟩
              · skip
                exact absurd h50 (by decide)
            · skip
              refine And.intro (hI) ?_
              intro M46 q46
              obtain ⟨q46, z46⟩ := q46
              have hS : pz_rl pz_Q1 M M46 := hS.tr (pz_rl.wk pz_wk_Q0_Q1 z46)
              have hI : pz_im M46 := hS.1 hI0
              obtain ⟨q46, s46⟩ := q46
              have G46 := pz_pg_nx G9 (by omega) z46 q46 (c' := 1) (by omega)
              have KG46 := G46
              obtain ⟨⟨G461, G462⟩, G463, G464, G465, -, -⟩ := KG46
              refine And.intro (fun h50 => ?_) (fun h50 => ?_)
              · skip
                exact absurd h50 (by decide)
              · skip
                intro v54 e54 a54 b54
                intro v59 e59 a59 b59
                refine And.intro (fun h63 => ?_) (fun h63 => ?_)
                · skip
                  refine And.intro (fun h73 => ?_) (fun h73 => ?_)
                  · skip
                    refine And.intro (hI) ?_
                    intro M83 q83
                    obtain ⟨q83, z83⟩ := q83
                    have hS : pz_rl pz_Q1 M M83 := hS.tr (pz_rl.wk pz_wk_Q0_Q1 z83)
                    have hI : pz_im M83 := hS.1 hI0
                    obtain ⟨q83, s83⟩ := q83
                    have G83 := pz_pg_nx G46 (by omega) z83 q83 (c' := 2) (by omega)
                    have KG83 := G83
                    obtain ⟨⟨G831, G832⟩, G833, G834, G835, -, -⟩ := KG83
                    refine And.intro (And.intro hI (by have i19 := hI.2.1.2.2.2.2.1; omega)) ?_
                    intro M90 q90
                    obtain ⟨q90, z90⟩ := q90
                    have hS : pz_rl pz_Q1 M M90 := hS.tr z90
                    have hI : pz_im M90 := hS.1 hI0
                    obtain ⟨q90, s90⟩ := q90
                    have Y90 := q90
                    obtain ⟨l90a, l90b, l90c, l90d, l90e, l90f, l90g, l90h⟩ := q90
                    have G90 := pz_pg_un I0.1 G83 Y90 (Or.inl ⟨rfl, by omega⟩) (c' := 0) (by omega)
                    have P90 := pq_sP_d g9_2 E9 (by omega) z46 s46 (by omega) (by omega) z83 s83 ⟨Y90, s90⟩ (by omega) (pq_Q1 z90) h14
                    exact ih9 _ _ _ (by omega) hS (by first | assumption | omega) (by first | assumption | omega)
                  · skip
                    refine And.intro (hI) ?_
                    intro v78 M78 a78 b78 q78
                    obtain ⟨q78, z78⟩ := q78
                    have hS : pz_rl pz_Q1 M M78 := hS.tr (pz_rl.wk pz_wk_Q0_Q1 z78)
                    have hI : pz_im M78 := hS.1 hI0
                    clear a78 b78
                    refine And.intro (by omega) ?_
                    refine And.intro rfl ?_
                    exact ⟨⟨Or.inl (by omega), by rw [show v78 = 0 from q78.1]; exact pq_sP_w g9_2 E9 (by omega) z46 s46 (by omega) q78.2.1 q78.2.2⟩, hS⟩
                · skip
                  refine And.intro (hI) ?_
                  intro v68 M68 a68 b68 q68
                  obtain ⟨q68, z68⟩ := q68
                  have hS : pz_rl pz_Q1 M M68 := hS.tr (pz_rl.wk pz_wk_Q0_Q1 z68)
                  have hI : pz_im M68 := hS.1 hI0
                  clear a68 b68
                  refine And.intro (by omega) ?_
                  refine And.intro rfl ?_
                  exact ⟨⟨Or.inl (by omega), by rw [show v68 = 0 from q68.1]; exact pq_sP_w g9_2 E9 (by omega) z46 s46 (by omega) q68.2.1 q68.2.2⟩, hS⟩
    refine hgo (fun p => Nat.beq p 9) 63 0 _ [] M ?_
    refine And.intro (And.intro hI (And.intro (by omega) (And.intro (by omega) (by omega)))) ?_
    intro v1 M1 a1 b1 q1
    obtain ⟨q1, z1⟩ := q1
    have hS : pz_rl pz_Q1 M M1 := hS.tr z1
    have hI : pz_im M1 := hS.1 hI0
    obtain ⟨q1, s1⟩ := q1
    refine And.intro (fun h4 => ?_) (fun h4 => ?_)
    · skip
      have G4 := (q1.resolve_left h4).2
      have KG4 := G4
      obtain ⟨⟨G41, G42⟩, G43, G44, G45, -, -⟩ := KG4
      have P4 := pq_sP_0 s1 h4
      exact L9 _ _ _ _ (Nat.lt_succ_self _) hS (by first | assumption | omega) (by first | assumption | omega)
    · skip
      skip
      refine And.intro (by omega) ?_
      refine And.intro rfl ?_
      exact ⟨⟨Or.inl (by omega), pq_sP_b s1 h4⟩, hS⟩
theorem v_X12_product {fr lo i : Nat} {own : String} (h1 : 10 + 1 ≤ fr) (h2 : 8 + (3 + 11) + 211 ≤ lo) (h3 : .methodLink own i yX12_product ∈ lw_tbl) : pz_cV fr lo own i k_X12_product :=
  pz_cVk (maxL := 3) (fr' := 10) (lo' := 211) 0 12 h_X12_product rfl ⟨(pz_nhc_RX12 yX12_product rfl).1, (pz_nhc_RX12 yX12_product rfl).2, pz_ds3⟩ ⟨pz_wq1322, pz_wq1321, pz_ws17, pz_wq13⟩ (Or.inl ⟨TX12, 28, rfl⟩) (fun a M _ h => by
    have h : (match (generalizing := false) a with | [.inr (.inr (12, th))] => pz_im M ∧ M 1 19 ≤ M 1 17 ∧ (M 1 18 ≠ 0 → M 1 19 + 1 ≤ M 1 17) ∧ M 1 14 ≤ M 1 19 | _ => False) := h
    split at h
    · exact ⟨_, _, rfl⟩
    · exact h.elim) h1 h2 h3
