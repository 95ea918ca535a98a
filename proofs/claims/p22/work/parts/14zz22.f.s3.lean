section
noncomputable def k3_X11_text : pz_C := (2, 1, fun a M => (match a with | [.inr (.inr (11, th)), .inl k] => pz_ic M | _ => False), fun a M r M' => (match a, r with | [.inr (.inr (11, th)), .inl k], some (.inl v) => ((pq_te k (M 71 3) M M' v ∧ M' 4 1 = 0 ∧ (∀ j : Nat, j ≠ 2 → M' 3 j = M 3 j) ∧ (M' 3 2 = M 3 2 ∨ M' 3 2 = 0)) ∧ M' 3 2 = if v ≠ -1 ∧ k = 1 then 0 else M 3 2) ∧ pq_pr pq_Pt M M' | _, _ => False))
noncomputable abbrev ct3_X11_text : List (Bool × Nat × pz_C) := [(true, 195, k_X9_tell), (true, 97, k_X2_forgetAll), (true, 117, k_X8_forgetAll)]
set_option maxRecDepth 100000 in
set_option maxHeartbeats 4000000 in
theorem h3_X11_text : pz_H yX11_text cX11_text 3 (some .int) k3_X11_text 23 526 := by
  refine pz_mk (own := RX11) (tb := t_X11_text) (fl := pz_flf fl_RX11) (ci := pz_cif ci_RX11) (ct := pz_ctf ct3_X11_text) (rz := false) (pz_pfc_RX11 yX11_text rfl) rfl t_X11_text_ok (pz_flk fl_RX11_ok) (pz_cik ci_RX11_ok) ?_ ?_ (Or.inl ⟨rfl, rfl⟩) ?_ ?_
  · exact fun i k' h => pz_ctk (l := ct3_X11_text) (P := fun b i k => b = true → pz_cV 23 526 RX11 i k) (List.forall_mem_cons.mpr ⟨(fun _ => v_X9_tell (by decide) (by decide) pz_wq659), List.forall_mem_cons.mpr ⟨(fun _ => v_X2_forgetAll (by decide) (by decide) pz_wq414), List.forall_mem_cons.mpr ⟨(fun _ => v_X8_forgetAll (by decide) (by decide) pz_wq436), fun _ h => absurd h List.not_mem_nil⟩⟩⟩) true i k' h rfl
  · exact fun i k' h => pz_ctk (l := ct3_X11_text) (P := fun b i k => b = false → (pz_cS 23 526 RX11 i k ∨ (k = pz_kac ∧ 1 ≤ 23 ∧ 60 ≤ 526 ∧ Cond.methodLink RX11 i arraycopyName ∈ pz_tbl))) (List.forall_mem_cons.mpr ⟨((fun z => by cases z)), List.forall_mem_cons.mpr ⟨((fun z => by cases z)), List.forall_mem_cons.mpr ⟨((fun z => by cases z)), fun _ h => absurd h List.not_mem_nil⟩⟩⟩) false i k' h rfl
  · intro a M hlen hpre
    obtain ⟨th, k, rfl, hpre⟩ : ∃ th k, a = [.inr (.inr (11, th)), .inl k] ∧ (pz_ic M) := by
      have hpre : (match (generalizing := false) a with | [.inr (.inr (11, th)), .inl k] => pz_ic M | _ => False) := hpre
      split at hpre
      · exact ⟨_, _, rfl, hpre⟩
      · exact hpre.elim
    exact Nat.le_of_ble_eq_true rfl
  · intro a M hlen hcan hM hpre Ok hgo
    obtain ⟨th, k, rfl, hpre⟩ : ∃ th k, a = [.inr (.inr (11, th)), .inl k] ∧ (pz_ic M) := by
      have hpre : (match (generalizing := false) a with | [.inr (.inr (11, th)), .inl k] => pz_ic M | _ => False) := hpre
      split at hpre
      · exact ⟨_, _, rfl, hpre⟩
      · exact hpre.elim
    obtain ⟨k_th, hc_th⟩ := pz_tlm hcan
    have k_th : pz_kd th = 11 ∧ th < 231 := k_th
    have R_th := pz_kd11 k_th.1
    subst R_th
    obtain ⟨k_k, hc_k⟩ := pz_tlm hc_th
    have l_k : -2147483648 ≤ k := k_k.1
    have u_k : k ≤ 2147483647 := k_k.2
    have hI : pz_ic M := hpre
    have hI0 := hI
    have hS : pq_pr pq_Pt M M := pq_pr.rf
    refine hgo (fun _ => false) 32 0 _ [] M ?_
    refine pz_nrc (c := 5) rfl ?_
    refine pz_nrc (c := 8) rfl ?_
    refine pz_nrc (c := 71) rfl ?_
    intro v13 e13 a13 b13
    have I13 := hI.1 71 (by first | decide | omega) (by first | decide | omega)
    refine And.intro (And.intro hI (And.intro rfl (And.intro (by first | decide | omega) (by first | decide | omega)))) ?_
    intro v16 M16 a16 b16 q16
    obtain ⟨q16, z16⟩ := q16
    have hS : pq_pr pq_Pt M M16 := hS.tr z16
    have hI : pz_ic M16 := hS.1 hI0
    rw [e13] at q16
    refine And.intro (fun h22 => ?_) (fun h22 => ?_)
    · skip
      refine And.intro (fun h39 => ?_) (fun h39 => ?_)
      · skip
        refine And.intro rfl ?_
        first
          | exact ⟨⟨⟨q16.1, q16.2.1, fun j _ => q16.2.2 j, Or.inl (q16.2.2 2)⟩, by rw [if_neg (by first | decide | omega)]; exact q16.2.2 2⟩, hS⟩
          | exact ⟨⟨⟨pq_te_cg q16.1 (fun b j y y2 => by rw [q34]; exact pz_una y), by rw [q34, pz_una (by decide)]; exact q16.2.1, fun j y => by rw [q34, pz_une (by first | decide | omega)]; exact q16.2.2 j, Or.inr (by rw [q34]; exact pz_uu)⟩, by rw [if_pos (by first | decide | omega), q34]; exact pz_uu⟩, hS⟩
          | exact ⟨⟨⟨pq_te_cg q16.1 (fun b j y y2 => by rw [q51]; exact pz_una y2), by rw [q51, pz_una (by decide)]; exact q16.2.1, fun j y => by rw [q51, pz_una (by decide)]; exact q16.2.2 j, Or.inl (by rw [q51, pz_una (by decide)]; exact q16.2.2 2)⟩, by rw [if_neg (by first | decide | omega), q51, pz_una (by decide)]; exact q16.2.2 2⟩, hS⟩
          | (exfalso; omega)
      · skip
        refine And.intro (fun h44 => ?_) (fun h44 => ?_)
        · skip
          refine And.intro rfl ?_
          first
            | exact ⟨⟨⟨q16.1, q16.2.1, fun j _ => q16.2.2 j, Or.inl (q16.2.2 2)⟩, by rw [if_neg (by first | decide | omega)]; exact q16.2.2 2⟩, hS⟩
            | exact ⟨⟨⟨pq_te_cg q16.1 (fun b j y y2 => by rw [q34]; exact pz_una y), by rw [q34, pz_una (by decide)]; exact q16.2.1, fun j y => by rw [q34, pz_une (by first | decide | omega)]; exact q16.2.2 j, Or.inr (by rw [q34]; exact pz_uu)⟩, by rw [if_pos (by first | decide | omega), q34]; exact pz_uu⟩, hS⟩
            | exact ⟨⟨⟨pq_te_cg q16.1 (fun b j y y2 => by rw [q51]; exact pz_una y2), by rw [q51, pz_una (by decide)]; exact q16.2.1, fun j y => by rw [q51, pz_una (by decide)]; exact q16.2.2 j, Or.inl (by rw [q51, pz_una (by decide)]; exact q16.2.2 2)⟩, by rw [if_neg (by first | decide | omega), q51, pz_una (by decide)]; exact q16.2.2 2⟩, hS⟩
            | (exfalso; omega)
        · skip
          refine pz_nrc (c := 7) rfl ?_
          refine And.intro (hI) ?_
          intro M51 q51
          obtain ⟨q51, z51⟩ := q51
          have hS : pq_pr pq_Pt M M51 := hS.tr ⟨z51.1.1, fun b j y => by rw [q51]; exact pz_une (by unfold pq_Pt at y; first | decide | omega)⟩
          have hI : pz_ic M51 := hS.1 hI0
          refine And.intro rfl ?_
          first
            | exact ⟨⟨⟨q16.1, q16.2.1, fun j _ => q16.2.2 j, Or.inl (q16.2.2 2)⟩, by rw [if_neg (by first | decide | omega)]; exact q16.2.2 2⟩, hS⟩
            | exact ⟨⟨⟨pq_te_cg q16.1 (fun b j y y2 => by rw [q34]; exact pz_una y), by rw [q34, pz_una (by decide)]; exact q16.2.1, fun j y => by rw [q34, pz_une (by first | decide | omega)]; exact q16.2.2 j, Or.inr (by rw [q34]; exact pz_uu)⟩, by rw [if_pos (by first | decide | omega), q34]; exact pz_uu⟩, hS⟩
            | exact ⟨⟨⟨pq_te_cg q16.1 (fun b j y y2 => by rw [q51]; exact pz_una y2), by rw [q51, pz_una (by decide)]; exact q16.2.1, fun j y => by rw [q51, pz_una (by decide)]; exact q16.2.2 j, Or.inl (by rw [q51, pz_una (by decide)]; exact q16.2.2 2)⟩, by rw [if_neg (by first | decide | omega), q51, pz_una (by decide)]; exact q16.2.2 2⟩, hS⟩
            | (exfalso; omega)
    · skip
      refine And.intro (fun h27 => ?_) (fun h27 => ?_)
      · skip
        refine And.intro (fun h39 => ?_) (fun h39 => ?_)
        · skip
          refine And.intro rfl ?_
          first
            | exact ⟨⟨⟨q16.1, q16.2.1, fun j _ => q16.2.2 j, Or.inl (q16.2.2 2)⟩, by rw [if_neg (by first | decide | omega)]; exact q16.2.2 2⟩, hS⟩
            | exact ⟨⟨⟨pq_te_cg q16.1 (fun b j y y2 => by rw [q34]; exact pz_una y), by rw [q34, pz_una (by decide)]; exact q16.2.1, fun j y => by rw [q34, pz_une (by first | decide | omega)]; exact q16.2.2 j, Or.inr (by rw [q34]; exact pz_uu)⟩, by rw [if_pos (by first | decide | omega), q34]; exact pz_uu⟩, hS⟩
            | exact ⟨⟨⟨pq_te_cg q16.1 (fun b j y y2 => by rw [q51]; exact pz_una y2), by rw [q51, pz_una (by decide)]; exact q16.2.1, fun j y => by rw [q51, pz_una (by decide)]; exact q16.2.2 j, Or.inl (by rw [q51, pz_una (by decide)]; exact q16.2.2 2)⟩, by rw [if_neg (by first | decide | omega), q51, pz_una (by decide)]; exact q16.2.2 2⟩, hS⟩
            | (exfalso; omega)
        · skip
          refine And.intro (fun h44 => ?_) (fun h44 => ?_)
          · skip
            refine And.intro rfl ?_
            first
              | exact ⟨⟨⟨q16.1, q16.2.1, fun j _ => q16.2.2 j, Or.inl (q16.2.2 2)⟩, by rw [if_neg (by first | decide | omega)]; exact q16.2.2 2⟩, hS⟩
              | exact ⟨⟨⟨pq_te_cg q16.1 (fun b j y y2 => by rw [q34]; exact pz_una y), by rw [q34, pz_una (by decide)]; exact q16.2.1, fun j y => by rw [q34, pz_une (by first | decide | omega)]; exact q16.2.2 j, Or.inr (by rw [q34]; exact pz_uu)⟩, by rw [if_pos (by first | decide | omega), q34]; exact pz_uu⟩, hS⟩
              | exact ⟨⟨⟨pq_te_cg q16.1 (fun b j y y2 => by rw [q51]; exact pz_una y2), by rw [q51, pz_una (by decide)]; exact q16.2.1, fun j y => by rw [q51, pz_una (by decide)]; exact q16.2.2 j, Or.inl (by rw [q51, pz_una (by decide)]; exact q16.2.2 2)⟩, by rw [if_neg (by first | decide | omega), q51, pz_una (by decide)]; exact q16.2.2 2⟩, hS⟩
              | (exfalso; omega)
          · skip
            refine pz_nrc (c := 7) rfl ?_
            refine And.intro (hI) ?_
            intro M51 q51
            obtain ⟨q51, z51⟩ := q51
            have hS : pq_pr pq_Pt M M51 := hS.tr ⟨z51.1.1, fun b j y => by rw [q51]; exact pz_une (by unfold pq_Pt at y; first | decide | omega)⟩
            have hI : pz_ic M51 := hS.1 hI0
            refine And.intro rfl ?_
            first
              | exact ⟨⟨⟨q16.1, q16.2.1, fun j _ => q16.2.2 j, Or.inl (q16.2.2 2)⟩, by rw [if_neg (by first | decide | omega)]; exact q16.2.2 2⟩, hS⟩
              | exact ⟨⟨⟨pq_te_cg q16.1 (fun b j y y2 => by rw [q34]; exact pz_una y), by rw [q34, pz_una (by decide)]; exact q16.2.1, fun j y => by rw [q34, pz_une (by first | decide | omega)]; exact q16.2.2 j, Or.inr (by rw [q34]; exact pz_uu)⟩, by rw [if_pos (by first | decide | omega), q34]; exact pz_uu⟩, hS⟩
              | exact ⟨⟨⟨pq_te_cg q16.1 (fun b j y y2 => by rw [q51]; exact pz_una y2), by rw [q51, pz_una (by decide)]; exact q16.2.1, fun j y => by rw [q51, pz_una (by decide)]; exact q16.2.2 j, Or.inl (by rw [q51, pz_una (by decide)]; exact q16.2.2 2)⟩, by rw [if_neg (by first | decide | omega), q51, pz_una (by decide)]; exact q16.2.2 2⟩, hS⟩
              | (exfalso; omega)
      · skip
        refine pz_nrc (c := 3) rfl ?_
        refine And.intro (hI) ?_
        intro M34 q34
        obtain ⟨q34, z34⟩ := q34
        have hS : pq_pr pq_Pt M M34 := hS.tr ⟨z34.rt, fun b j y => by rw [q34]; exact pz_une (by unfold pq_Pt at y; first | decide | omega)⟩
        have hI : pz_ic M34 := hS.1 hI0
        refine And.intro (fun h39 => ?_) (fun h39 => ?_)
        · skip
          refine And.intro rfl ?_
          first
            | exact ⟨⟨⟨q16.1, q16.2.1, fun j _ => q16.2.2 j, Or.inl (q16.2.2 2)⟩, by rw [if_neg (by first | decide | omega)]; exact q16.2.2 2⟩, hS⟩
            | exact ⟨⟨⟨pq_te_cg q16.1 (fun b j y y2 => by rw [q34]; exact pz_una y), by rw [q34, pz_una (by decide)]; exact q16.2.1, fun j y => by rw [q34, pz_une (by first | decide | omega)]; exact q16.2.2 j, Or.inr (by rw [q34]; exact pz_uu)⟩, by rw [if_pos (by first | decide | omega), q34]; exact pz_uu⟩, hS⟩
            | exact ⟨⟨⟨pq_te_cg q16.1 (fun b j y y2 => by rw [q51]; exact pz_una y2), by rw [q51, pz_una (by decide)]; exact q16.2.1, fun j y => by rw [q51, pz_una (by decide)]; exact q16.2.2 j, Or.inl (by rw [q51, pz_una (by decide)]; exact q16.2.2 2)⟩, by rw [if_neg (by first | decide | omega), q51, pz_una (by decide)]; exact q16.2.2 2⟩, hS⟩
            | (exfalso; omega)
        · skip
          refine And.intro (fun h44 => ?_) (fun h44 => ?_)
          · skip
            refine And.intro rfl ?_
            first
              | exact ⟨⟨⟨q16.1, q16.2.1, fun j _ => q16.2.2 j, Or.inl (q16.2.2 2)⟩, by rw [if_neg (by first | decide | omega)]; exact q16.2.2 2⟩, hS⟩
              | exact ⟨⟨⟨pq_te_cg q16.1 (fun b j y y2 => by rw [q34]; exact pz_una y), by rw [q34, pz_una (by decide)]; exact q16.2.1, fun j y => by rw [q34, pz_une (by first | decide | omega)]; exact q16.2.2 j, Or.inr (by rw [q34]; exact pz_uu)⟩, by rw [if_pos (by first | decide | omega), q34]; exact pz_uu⟩, hS⟩
              | exact ⟨⟨⟨pq_te_cg q16.1 (fun b j y y2 => by rw [q51]; exact pz_una y2), by rw [q51, pz_una (by decide)]; exact q16.2.1, fun j y => by rw [q51, pz_una (by decide)]; exact q16.2.2 j, Or.inl (by rw [q51, pz_una (by decide)]; exact q16.2.2 2)⟩, by rw [if_neg (by first | decide | omega), q51, pz_una (by decide)]; exact q16.2.2 2⟩, hS⟩
              | (exfalso; omega)
          · skip
            refine pz_nrc (c := 7) rfl ?_
            refine And.intro (hI) ?_
            intro M51 q51
            obtain ⟨q51, z51⟩ := q51
            have hS : pq_pr pq_Pt M M51 := hS.tr ⟨z51.1.1, fun b j y => by rw [q51]; exact pz_une (by unfold pq_Pt at y; first | decide | omega)⟩
            have hI : pz_ic M51 := hS.1 hI0
            refine And.intro rfl ?_
            first
              | exact ⟨⟨⟨q16.1, q16.2.1, fun j _ => q16.2.2 j, Or.inl (q16.2.2 2)⟩, by rw [if_neg (by first | decide | omega)]; exact q16.2.2 2⟩, hS⟩
              | exact ⟨⟨⟨pq_te_cg q16.1 (fun b j y y2 => by rw [q34]; exact pz_una y), by rw [q34, pz_una (by decide)]; exact q16.2.1, fun j y => by rw [q34, pz_une (by first | decide | omega)]; exact q16.2.2 j, Or.inr (by rw [q34]; exact pz_uu)⟩, by rw [if_pos (by first | decide | omega), q34]; exact pz_uu⟩, hS⟩
              | exact ⟨⟨⟨pq_te_cg q16.1 (fun b j y y2 => by rw [q51]; exact pz_una y2), by rw [q51, pz_una (by decide)]; exact q16.2.1, fun j y => by rw [q51, pz_una (by decide)]; exact q16.2.2 j, Or.inl (by rw [q51, pz_una (by decide)]; exact q16.2.2 2)⟩, by rw [if_neg (by first | decide | omega), q51, pz_una (by decide)]; exact q16.2.2 2⟩, hS⟩
              | (exfalso; omega)
theorem v3_X11_text {fr lo i : Nat} {own : String} (h1 : 23 + 1 ≤ fr) (h2 : 8 + (3 + 11) + 526 ≤ lo) (h3 : .methodLink own i yX11_text ∈ lw_tbl) : pz_cV fr lo own i k3_X11_text :=
  pz_cVk (maxL := 3) (fr' := 23) (lo' := 526) 1 11 h3_X11_text rfl ⟨(pz_nhc_RX11 yX11_text rfl).1, (pz_nhc_RX11 yX11_text rfl).2, pz_ds5⟩ ⟨pz_wq658, pz_wq656, pz_wq657, pz_wq1⟩ (Or.inl ⟨TX11, 14, rfl⟩) (fun a M _ h => by
    have h : (match (generalizing := false) a with | [.inr (.inr (11, th)), .inl k] => pz_ic M | _ => False) := h
    split at h
    · exact ⟨_, _, rfl⟩
    · exact h.elim) h1 h2 h3
noncomputable def k3_X12_putsText : pz_C := (2, 1, fun a M => (match a with | [.inr (.inr (12, th)), .inl i] => pz_im M ∧ (i = 0 → pz_wfl M) ∧ (i = 2 → ∀ r : Int, 0 ≤ r → r < M 1 15 → 0 ≤ M 66 (3 * r).toNat ∧ M 66 (3 * r).toNat ≤ 11) ∧ 0 ≤ i ∧ i ≤ 3 | _ => False), fun a M r M' => (match a, r with | [.inr (.inr (12, th)), .inl i], some (.inl v) => ((pq_pt i M M' v) ∧ M' 1 4 = if i = 1 then 0 else M 1 4) ∧ pz_rl pz_QU M M' | _, _ => False))
noncomputable abbrev ct3_X12_putsText : List (Bool × Nat × pz_C) := [(true, 260, k_X12_putsLaw), (true, 71, k_X12_forgets), (true, 263, k_X12_puts), (true, 267, k_X12_putsPhones)]
theorem pz_wk_QL_QU : ∀ b j, pz_QL b j → pz_QU b j := by
  intro b j q
  unfold pz_QL at q
  unfold pz_QU
  omega
theorem pz_wk_Q7_QU : ∀ b j, pz_Q7 b j → pz_QU b j := by
  intro b j q
  unfold pz_Q7 at q
  unfold pz_QU
  omega
set_option maxRecDepth 100000 in
set_option maxHeartbeats 4000000 in
theorem h3_X12_putsText : pz_H yX12_putsText cX12_putsText 2 (some .int) k3_X12_putsText 1 24 := by
  refine pz_mk (own := RX12) (tb := t_X12_putsText) (fl := pz_flf fl_RX12) (ci := pz_cif ci_RX12) (ct := pz_ctf ct3_X12_putsText) (rz := false) (pz_pfc_RX12 yX12_putsText rfl) rfl t_X12_putsText_ok (pz_flk fl_RX12_ok) (pz_cik ci_RX12_ok) ?_ ?_ (Or.inl ⟨rfl, rfl⟩) ?_ ?_
  · exact fun i k' h => pz_ctk (l := ct3_X12_putsText) (P := fun b i k => b = true → pz_cV 1 24 RX12 i k) (List.forall_mem_cons.mpr ⟨(fun _ => v_X12_putsLaw (by decide) (by decide) pz_wq1387), List.forall_mem_cons.mpr ⟨(fun _ => v_X12_forgets (by decide) (by decide) pz_wq1209), List.forall_mem_cons.mpr ⟨(fun _ => v_X12_puts (by decide) (by decide) pz_wq1391), List.forall_mem_cons.mpr ⟨(fun _ => v_X12_putsPhones (by decide) (by decide) pz_wq1395), fun _ h => absurd h List.not_mem_nil⟩⟩⟩⟩) true i k' h rfl
  · exact fun i k' h => pz_ctk (l := ct3_X12_putsText) (P := fun b i k => b = false → (pz_cS 1 24 RX12 i k ∨ (k = pz_kac ∧ 1 ≤ 1 ∧ 60 ≤ 24 ∧ Cond.methodLink RX12 i arraycopyName ∈ pz_tbl))) (List.forall_mem_cons.mpr ⟨((fun z => by cases z)), List.forall_mem_cons.mpr ⟨((fun z => by cases z)), List.forall_mem_cons.mpr ⟨((fun z => by cases z)), List.forall_mem_cons.mpr ⟨((fun z => by cases z)), fun _ h => absurd h List.not_mem_nil⟩⟩⟩⟩) false i k' h rfl
  · intro a M hlen hpre
    obtain ⟨th, i, rfl, hpre⟩ : ∃ th i, a = [.inr (.inr (12, th)), .inl i] ∧ (pz_im M ∧ (i = 0 → pz_wfl M) ∧ (i = 2 → ∀ r : Int, 0 ≤ r → r < M 1 15 → 0 ≤ M 66 (3 * r).toNat ∧ M 66 (3 * r).toNat ≤ 11) ∧ 0 ≤ i ∧ i ≤ 3) := by
      have hpre : (match (generalizing := false) a with | [.inr (.inr (12, th)), .inl i] => pz_im M ∧ (i = 0 → pz_wfl M) ∧ (i = 2 → ∀ r : Int, 0 ≤ r → r < M 1 15 → 0 ≤ M 66 (3 * r).toNat ∧ M 66 (3 * r).toNat ≤ 11) ∧ 0 ≤ i ∧ i ≤ 3 | _ => False) := hpre
      split at hpre
      · exact ⟨_, _, rfl, hpre⟩
      · exact hpre.elim
    exact Nat.le_of_ble_eq_true rfl
  · intro a M hlen hcan hM hpre Ok hgo
    obtain ⟨th, i, rfl, hpre⟩ : ∃ th i, a = [.inr (.inr (12, th)), .inl i] ∧ (pz_im M ∧ (i = 0 → pz_wfl M) ∧ (i = 2 → ∀ r : Int, 0 ≤ r → r < M 1 15 → 0 ≤ M 66 (3 * r).toNat ∧ M 66 (3 * r).toNat ≤ 11) ∧ 0 ≤ i ∧ i ≤ 3) := by
      have hpre : (match (generalizing := false) a with | [.inr (.inr (12, th)), .inl i] => pz_im M ∧ (i = 0 → pz_wfl M) ∧ (i = 2 → ∀ r : Int, 0 ≤ r → r < M 1 15 → 0 ≤ M 66 (3 * r).toNat ∧ M 66 (3 * r).toNat ≤ 11) ∧ 0 ≤ i ∧ i ≤ 3 | _ => False) := hpre
      split at hpre
      · exact ⟨_, _, rfl, hpre⟩
      · exact hpre.elim
    obtain ⟨k_th, hc_th⟩ := pz_tlm hcan
    have k_th : pz_kd th = 12 ∧ th < 231 := k_th
    have R_th := pz_kd12 k_th.1
    subst R_th
    clear k_th
    obtain ⟨k_i, hc_i⟩ := pz_tlm hc_th
    have l_i : -2147483648 ≤ i := k_i.1
    have u_i : i ≤ 2147483647 := k_i.2
    have hI : pz_im M := hpre.1
    have hI0 := hI
    have hS : pz_rl pz_QU M M := pz_rl.rf
    obtain ⟨-, hp1, hp2, hp3, hp4⟩ := hpre
    refine hgo (fun _ => false) 24 0 _ [] M ?_
    refine And.intro ?_ ?_
    · skip
      refine And.intro (fun h1 => ?_) ?_
      · skip
        refine And.intro (And.intro hI (hp1 (by first | decide | omega))) ?_
        intro v29 M29 a29 b29 q29
        obtain ⟨q29, z29⟩ := q29
        have hS : pz_rl pz_QU M M29 := hS.tr (pz_rl.wk pz_wk_QL_QU z29)
        have hI : pz_im M29 := hS.1 hI0
        refine And.intro rfl ?_
        exact ⟨⟨⟨fun _ => q29, fun y => absurd y (by first | decide | omega), fun y => absurd y (by first | decide | omega), fun y => absurd y (by first | decide | omega), fun j y => z29.2 60 j (by unfold pq_wf at y; unfold pz_QL; omega)⟩, (z29.2 1 4 (by unfold pz_QL; first | decide | omega)).trans (if_neg (by first | decide | omega)).symm⟩, hS⟩
      refine And.intro (fun h1 => ?_) ?_
      · skip
        refine And.intro (hI) ?_
        intro M34 q34
        obtain ⟨q34, z34⟩ := q34
        have hS : pz_rl pz_QU M M34 := hS.tr (pz_rl_fg (by unfold pz_QU; first | decide | omega) q34 z34)
        have T34a := z34.2
        have T34b := z34.1.2
        have hI : pz_im M34 := hS.1 hI0
        have A34 := hS.2 1 15 (by unfold pz_QU; first | decide | omega)
        have A34b : ∀ n, M34 66 n = M 66 n := fun n => hS.2 66 n (by unfold pz_QU; first | decide | omega)
        have A34c : ∀ j, M34 60 j = M 60 j := fun j => by rw [q34]; exact pz_una (by decide)
        refine And.intro (And.intro hI (by first | decide | omega)) ?_
        intro v44 M44 a44 b44 q44
        obtain ⟨q44, z44⟩ := q44
        have hS : pz_rl pz_QU M M44 := hS.tr (pz_rl.wk (by intro b j q; unfold pz_QP at q; unfold pz_QU; omega) z44)
        have hI : pz_im M44 := hS.1 hI0
        refine And.intro rfl ?_
        exact ⟨⟨⟨fun y => absurd y (by first | decide | omega), fun _ => ⟨q44.1.trans A34, pz_pcc_cg q44.2 A34 A34b⟩, fun y => absurd y (by first | decide | omega), fun y => absurd y (by first | decide | omega), fun j y => (z44.2 60 j (by unfold pq_wf at y; unfold pz_QP; omega)).trans (A34c j)⟩, ((z44.2 1 4 (by unfold pz_QP; first | decide | omega)).trans (by rw [q34]; exact pz_uu)).trans (if_pos (by first | decide | omega)).symm⟩, hS⟩
      refine And.intro (fun h1 => ?_) ?_
      · skip
        refine And.intro (And.intro hI (hp2 (by first | decide | omega))) ?_
        intro v49 M49 a49 b49 q49
        obtain ⟨q49, z49⟩ := q49
        have hS : pz_rl pz_QU M M49 := hS.tr (pz_rl.wk pz_wk_Q7_QU z49)
        have hI : pz_im M49 := hS.1 hI0
        refine And.intro rfl ?_
        exact ⟨⟨⟨fun y => absurd y (by first | decide | omega), fun y => absurd y (by first | decide | omega), fun _ => q49, fun y => absurd y (by first | decide | omega), fun j y => z49.2 60 j (by unfold pq_wf at y; unfold pz_Q7; omega)⟩, (z49.2 1 4 (by unfold pz_Q7; first | decide | omega)).trans (if_neg (by first | decide | omega)).symm⟩, hS⟩
      exact True.intro
    · intro h1
      refine And.intro (And.intro hI (by first | decide | omega)) ?_
      intro v60 M60 a60 b60 q60
      obtain ⟨q60, z60⟩ := q60
      have hS : pz_rl pz_QU M M60 := hS.tr (pz_rl.wk (by intro b j q; unfold pz_QP at q; unfold pz_QU; omega) z60)
      have hI : pz_im M60 := hS.1 hI0
      refine And.intro rfl ?_
      exact ⟨⟨⟨fun y => absurd y (by first | decide | omega), fun y => absurd y (by first | decide | omega), fun y => absurd y (by first | decide | omega), fun _ => q60, fun j y => z60.2 60 j (by unfold pq_wf at y; unfold pz_QP; omega)⟩, (z60.2 1 4 (by unfold pz_QP; first | decide | omega)).trans (if_neg (by first | decide | omega)).symm⟩, hS⟩
theorem v3_X12_putsText {fr lo i : Nat} {own : String} (h1 : 1 + 1 ≤ fr) (h2 : 8 + (2 + 11) + 24 ≤ lo) (h3 : .methodLink own i yX12_putsText ∈ lw_tbl) : pz_cV fr lo own i k3_X12_putsText :=
  pz_cVk (maxL := 2) (fr' := 1) (lo' := 24) 1 12 h3_X12_putsText rfl ⟨(pz_nhc_RX12 yX12_putsText rfl).1, (pz_nhc_RX12 yX12_putsText rfl).2, pz_ds5⟩ ⟨pz_wq1386, pz_wq1385, pz_ws33, pz_wq13⟩ (Or.inl ⟨TX12, 28, rfl⟩) (fun a M _ h => by
    have h : (match (generalizing := false) a with | [.inr (.inr (12, th)), .inl i] => pz_im M ∧ (i = 0 → pz_wfl M) ∧ (i = 2 → ∀ r : Int, 0 ≤ r → r < M 1 15 → 0 ≤ M 66 (3 * r).toNat ∧ M 66 (3 * r).toNat ≤ 11) ∧ 0 ≤ i ∧ i ≤ 3 | _ => False) := h
    split at h
    · exact ⟨_, _, rfl⟩
    · exact h.elim) h1 h2 h3
noncomputable def k3_X12_text : pz_C := (2, 1, fun a M => (match a with | [.inr (.inr (12, th)), .inl i] => pz_im M | _ => False), fun a M r M' => (match a, r with | [.inr (.inr (12, th)), .inl i], some (.inl v) => ((pq_tx i M M' v ∧ M' 1 16 = 0) ∧ M' 1 4 = if v ≠ -1 ∧ i = 1 then 0 else M 1 4) ∧ pz_rl pz_QT M M' | _, _ => False))
noncomputable abbrev ct3_X12_text : List (Bool × Nat × pz_C) := [(false, 54, k_X12_isIn), (true, 191, k_X12_next0), (true, 273, k_X12_readsLaw), (true, 276, k_X12_readsRows), (true, 279, k3_X12_putsText)]
theorem pz_wk_Q0_QT : ∀ b j, pz_Q0 b j → pz_QT b j := by
  intro b j q
  unfold pz_Q0 at q
  unfold pz_QT
  omega
theorem pz_wk_Q2_QT : ∀ b j, pz_Q2 b j → pz_QT b j := by
  intro b j q
  unfold pz_Q2 at q
  unfold pz_QT
  omega
theorem pz_wk_QU_QT : ∀ b j, pz_QU b j → pz_QT b j := by
  intro b j q
  unfold pz_QU at q
  unfold pz_QT
  omega
set_option maxRecDepth 100000 in
set_option maxHeartbeats 4000000 in
theorem h3_X12_text : pz_H yX12_text cX12_text 3 (some .int) k3_X12_text 41 958 := by
  refine pz_mk (own := RX12) (tb := t_X12_text) (fl := pz_flf fl_RX12) (ci := pz_cif ci_RX12) (ct := pz_ctf ct3_X12_text) (rz := false) (pz_pfc_RX12 yX12_text rfl) rfl t_X12_text_ok (pz_flk fl_RX12_ok) (pz_cik ci_RX12_ok) ?_ ?_ (Or.inl ⟨rfl, rfl⟩) ?_ ?_
  · exact fun i k' h => pz_ctk (l := ct3_X12_text) (P := fun b i k => b = true → pz_cV 41 958 RX12 i k) (List.forall_mem_cons.mpr ⟨((fun z => by cases z)), List.forall_mem_cons.mpr ⟨(fun _ => v_X12_next0 (by decide) (by decide) pz_wq1243), List.forall_mem_cons.mpr ⟨(fun _ => v_X12_readsLaw (by decide) (by decide) pz_wq1303), List.forall_mem_cons.mpr ⟨(fun _ => v_X12_readsRows (by decide) (by decide) pz_wq1351), List.forall_mem_cons.mpr ⟨(fun _ => v3_X12_putsText (by decide) (by decide) pz_wq1383), fun _ h => absurd h List.not_mem_nil⟩⟩⟩⟩⟩) true i k' h rfl
  · exact fun i k' h => pz_ctk (l := ct3_X12_text) (P := fun b i k => b = false → (pz_cS 41 958 RX12 i k ∨ (k = pz_kac ∧ 1 ≤ 41 ∧ 60 ≤ 958 ∧ Cond.methodLink RX12 i arraycopyName ∈ pz_tbl))) (List.forall_mem_cons.mpr ⟨(fun _ => Or.inl (s_X12_isIn (by decide) (by decide) (Or.inl pz_wq1217))), List.forall_mem_cons.mpr ⟨((fun z => by cases z)), List.forall_mem_cons.mpr ⟨((fun z => by cases z)), List.forall_mem_cons.mpr ⟨((fun z => by cases z)), List.forall_mem_cons.mpr ⟨((fun z => by cases z)), fun _ h => absurd h List.not_mem_nil⟩⟩⟩⟩⟩) false i k' h rfl
  · intro a M hlen hpre
    obtain ⟨th, i, rfl, hpre⟩ : ∃ th i, a = [.inr (.inr (12, th)), .inl i] ∧ (pz_im M) := by
      have hpre : (match (generalizing := false) a with | [.inr (.inr (12, th)), .inl i] => pz_im M | _ => False) := hpre
      split at hpre
      · exact ⟨_, _, rfl, hpre⟩
      · exact hpre.elim
    exact Nat.le_of_ble_eq_true rfl
  · intro a M hlen hcan hM hpre Ok hgo
    obtain ⟨th, i, rfl, hpre⟩ : ∃ th i, a = [.inr (.inr (12, th)), .inl i] ∧ (pz_im M) := by
      have hpre : (match (generalizing := false) a with | [.inr (.inr (12, th)), .inl i] => pz_im M | _ => False) := hpre
      split at hpre
      · exact ⟨_, _, rfl, hpre⟩
      · exact hpre.elim
    obtain ⟨k_th, hc_th⟩ := pz_tlm hcan
    have k_th : pz_kd th = 12 ∧ th < 231 := k_th
    have R_th := pz_kd12 k_th.1
    subst R_th
    clear k_th
    obtain ⟨k_i, hc_i⟩ := pz_tlm hc_th
    have l_i : -2147483648 ≤ i := k_i.1
    have u_i : i ≤ 2147483647 := k_i.2
    have hI : pz_im M := hpre
    have hI0 := hI
    have hS : pz_rl pz_QT M M := pz_rl.rf
    refine hgo (fun _ => false) 56 0 _ [] M ?_
    intro M2 e2
    have hS : pz_rl pz_QT M M2 := by
      rw [e2]
      exact pz_rl_u hS (by unfold pz_QT; decide) (pz_iom_f (by decide))
    have hI : pz_im M2 := hS.1 hI0
    have T2_0 : M2 1 12 = M 1 12 := by
      rw [e2]
      exact (pz_une (by decide))
    have T2_1 : M2 1 16 = M 1 16 := by
      rw [e2]
      exact (pz_une (by decide))
    have T2_2 : M2 1 17 = M 1 17 := by
      rw [e2]
      exact (pz_une (by decide))
    intro M7 e7
    have hS : pz_rl pz_QT M M7 := by
      rw [e7]
      exact pz_rl_u hS (by unfold pz_QT; decide) (pz_iom_f (by decide))
    have hI : pz_im M7 := hS.1 hI0
    have T7_0 : M7 1 12 = M 1 12 := by
      rw [e7]
      exact (pz_une (by decide)).trans T2_0
    clear T2_0
    have T7_1 : M7 1 16 = M 1 16 := by
      rw [e7]
      exact (pz_une (by decide)).trans T2_1
    clear T2_1
    have T7_2 : M7 1 17 = M 1 17 := by
      rw [e7]
      exact (pz_une (by decide)).trans T2_2
    clear T2_2
    have F7a : M7 1 23 = 0 := by rw [e7, pz_une (by first | decide | omega), e2, pz_uu]
    have F7b : M7 1 25 = -1 := by rw [e7, pz_uu]
    refine And.intro (True.intro) ?_
    intro v13 M13 a13 b13 q13
    obtain ⟨q13, z13⟩ := q13
    subst z13
    clear a13 b13
    refine And.intro (fun h16 => ?_) (fun h16 => ?_)
    · skip
      replace q13 := q13.resolve_right (fun z => h16 z.1)
      clear h16
      intro M28 e28
      have hS : pz_rl pz_QT M M28 := by
        rw [e28]
        exact pz_rl_u hS (by unfold pz_QT; decide) (pz_iom_f (by decide))
      have hI : pz_im M28 := hS.1 hI0
      have T28_0 : M28 1 12 = M 1 12 := by
        rw [e28]
        exact (pz_une (by decide)).trans T7_0
      clear T7_0
      have T28_1 : M28 1 16 = M 1 16 := by
        rw [e28]
        exact (pz_une (by decide)).trans T7_1
      clear T7_1
      have T28_2 : M28 1 17 = M 1 17 := by
        rw [e28]
        exact (pz_une (by decide)).trans T7_2
      clear T7_2
      intro M33 e33
      have hS : pz_rl pz_QT M M33 := by
        rw [e33]
        exact pz_rl_u hS (by unfold pz_QT; decide) (pz_iom_17 (by first | decide | omega))
      have hI : pz_im M33 := hS.1 hI0
      have T33_0 : M33 1 12 = M 1 12 := by
        rw [e33]
        exact (pz_une (by decide)).trans T28_0
      clear T28_0
      have T33_1 : M33 1 16 = M 1 16 := by
        rw [e33]
        exact (pz_une (by decide)).trans T28_1
      clear T28_1
      have T33_2 : M33 1 17 = (0) := by rw [e33]; exact pz_uu
      intro M38 e38
      have hS : pz_rl pz_QT M M38 := by
        rw [e38]
        exact pz_rl_u hS (by unfold pz_QT; decide) (pz_iom_f (by decide))
      have hI : pz_im M38 := hS.1 hI0
      have T38_0 : M38 1 12 = i := by rw [e38]; exact pz_uu
      have T38_1 : M38 1 16 = M 1 16 := by
        rw [e38]
        exact (pz_une (by decide)).trans T33_1
      clear T33_1
      have T38_2 : M38 1 17 = (0) := by
        rw [e38]
        exact (pz_une (by decide)).trans T33_2
      clear T33_2
      have U38 : ∀ b j, ¬ (b = 1 ∧ (j = 12 ∨ j = 17 ∨ j = 21)) → M38 b j = M7 b j := fun b j q => by rw [e38, pz_une (by first | decide | omega), e33, pz_une (by first | decide | omega), e28, pz_une (by first | decide | omega)]
      have U7 : ∀ b j, ¬ (b = 1 ∧ (j = 23 ∨ j = 25)) → M7 b j = M b j := fun b j q => by rw [e7, pz_une (by first | decide | omega), e2, pz_une (by first | decide | omega)]
      have E38a : M38 67 = M 67 := funext fun j => (U38 67 j (by first | decide | omega)).trans (U7 67 j (by first | decide | omega))
      have E38b : M38 1 16 = M 1 16 := (U38 1 16 (by first | decide | omega)).trans (U7 1 16 (by first | decide | omega))
      have E38e : M38 60 88 = M 60 88 := (U38 60 88 (by first | decide | omega)).trans (U7 60 88 (by first | decide | omega))
      have E38c : M38 1 17 = 0 := by rw [e38, pz_une (by first | decide | omega), e33, pz_uu]
      have E38d : M38 1 12 = i := by rw [e38, pz_uu]
      have F38c : ∀ j, M38 60 j = M 60 j := fun j => (U38 60 j (by first | decide | omega)).trans (U7 60 j (by first | decide | omega))
      have F38a : M38 1 23 = 0 := (U38 1 23 (by first | decide | omega)).trans F7a
      have F38b : M38 1 25 = -1 := (U38 1 25 (by first | decide | omega)).trans F7b
      have F38x : M38 1 4 = M 1 4 := (U38 1 4 (by first | decide | omega)).trans (U7 1 4 (by first | decide | omega))
      clear U38 U7
      refine And.intro (hI) ?_
      intro M42 q42
      obtain ⟨q42, z42⟩ := q42
      have hS : pz_rl pz_QT M M42 := hS.tr (pz_rl.wk pz_wk_Q0_QT z42)
      have hI : pz_im M42 := hS.1 hI0
      obtain ⟨q42, s42⟩ := q42
      have F42a : M42 1 23 = 0 := (z42.2 1 23 (by unfold pz_Q0; first | decide | omega)).trans F38a
      have F42b : M42 1 25 = -1 := (z42.2 1 25 (by unfold pz_Q0; first | decide | omega)).trans F38b
      have F42d : ∀ j, M42 60 j = M 60 j := fun j => (z42.2 60 j (by unfold pz_Q0; first | decide | omega)).trans (F38c j)
      have F42c : M42 1 12 = i := (z42.2 1 12 (by unfold pz_Q0; first | decide | omega)).trans E38d
      have F42x : M42 1 4 = M 1 4 := (z42.2 1 4 (by unfold pz_Q0; first | decide | omega)).trans F38x
      refine And.intro (fun h46 => ?_) (fun h46 => ?_)
      · skip
        replace h46 : 1 ≤ i := by omega
        refine And.intro (And.intro hI (And.intro (by first | decide | omega) (by first | decide | omega))) ?_
        intro v57 M57 a57 b57 q57
        obtain ⟨q57, z57⟩ := q57
        have hS : pz_rl pz_QT M M57 := hS.tr (pz_rl.wk pz_wk_Q2_QT z57)
        have hI : pz_im M57 := hS.1 hI0
        obtain ⟨q57, s57⟩ := q57
        have F57c : ∀ j, M57 60 j = M 60 j := fun j => (z57.2 60 j (by unfold pz_Q2; first | decide | omega)).trans (F42d j)
        have F57a : M57 1 23 = 0 := (z57.2 1 23 (by unfold pz_Q2; first | decide | omega)).trans F42a
        have F57b : M57 1 25 = -1 := (z57.2 1 25 (by unfold pz_Q2; first | decide | omega)).trans F42b
        have R57 : v57 ≠ 0 → (i = 0 → pz_wfl M57) ∧ (i = 2 → ∀ r : Int, 0 ≤ r → r < M57 1 15 → 0 ≤ M57 66 (3 * r).toNat ∧ M57 66 (3 * r).toNat ≤ 11) := fun z => ⟨fun y => absurd y (by first | decide | omega), fun y => (q57.resolve_left z).2 (by have := z42.2 1 12 (by unfold pz_Q0; first | decide | omega); omega)⟩
        have F57x : M57 1 4 = M 1 4 := (z57.2 1 4 (by unfold pz_Q2; first | decide | omega)).trans F42x
        intro M63 e63
        have hS : pz_rl pz_QT M M63 := by
          rw [e63]
          exact pz_rl_u hS (by unfold pz_QT; decide) (pz_iom_16 (by first | decide | omega))
        have hI : pz_im M63 := hS.1 hI0
        have T63_0 : M63 1 12 = M57 1 12 := by
          rw [e63]
          exact (pz_une (by decide))
        have T63_1 : M63 1 16 = (0) := by rw [e63]; exact pz_uu
        have T63_2 : M63 1 17 = M57 1 17 := by
          rw [e63]
          exact (pz_une (by decide))
        have E63 : M63 64 = M57 64 ∧ M63 65 = M57 65 ∧ M63 66 = M57 66 := ⟨funext fun j => by rw [e63]; exact pz_una (by decide), funext fun j => by rw [e63]; exact pz_una (by decide), funext fun j => by rw [e63]; exact pz_una (by decide)⟩
        have E13 := pz_uve e63 1 13
        have E14 := pz_uve e63 1 14
        have E15 := pz_uve e63 1 15
        have F63c : ∀ j, M63 60 j = M 60 j := fun j => by rw [e63, pz_una (by decide)]; first | exact F50c j | exact F57c j
        have F63a : M63 1 23 = 0 := by rw [e63, pz_une (by first | decide | omega)]; first | exact F50a | exact F57a
        have F63b : M63 1 25 = -1 := by rw [e63, pz_une (by first | decide | omega)]; first | exact F50b | exact F57b
        have F63x : M63 1 4 = M 1 4 := by rw [e63, pz_une (by first | decide | omega)]; first | exact F50x | exact F57x
        refine And.intro (fun h67 => ?_) (fun h67 => ?_)
        · skip
          skip
          intro v78 e78 a78 b78
          intro M81 e81
          have hS : pz_rl pz_QT M M81 := by
            rw [e81]
            exact pz_rl_u hS (by unfold pz_QT; decide) (pz_iom_f (by decide))
          have hI : pz_im M81 := hS.1 hI0
          have T81_0 : M81 1 12 = M57 1 12 := by
            rw [e81]
            exact (pz_une (by decide)).trans T63_0
          clear T63_0
          have T81_1 : M81 1 16 = (0) := by
            rw [e81]
            exact (pz_une (by decide)).trans T63_1
          clear T63_1
          have T81_2 : M81 1 17 = M57 1 17 := by
            rw [e81]
            exact (pz_une (by decide)).trans T63_2
          clear T63_2
          intro v86 e86 a86 b86
          intro M89 e89
          have hS : pz_rl pz_QT M M89 := by
            rw [e89]
            exact pz_rl_u hS (by unfold pz_QT; decide) (pz_iom_f (by decide))
          have hI : pz_im M89 := hS.1 hI0
          have T89_0 : M89 1 12 = M57 1 12 := by
            rw [e89]
            exact (pz_une (by decide)).trans T81_0
          clear T81_0
          have T89_1 : M89 1 16 = (0) := by
            rw [e89]
            exact (pz_une (by decide)).trans T81_1
          clear T81_1
          have T89_2 : M89 1 17 = M57 1 17 := by
            rw [e89]
            exact (pz_une (by decide)).trans T81_2
          clear T81_2
          refine And.intro rfl ?_
          first
            | exact ⟨⟨⟨pq_tx_0b (by first | decide | omega) E38a E38b E38c E38d z42 s42 (s50.resolve_left (fun y => absurd y.1 (by first | decide | omega))).2 rfl (fun j => by rw [e89, pz_una (by decide), e81, pz_una (by decide)]; exact F63c j) (by rw [e89, pz_une (by first | decide | omega), e81, pz_uu, e78, e63, pz_une (by first | decide | omega)]) (by rw [e89, pz_uu, e86, e81, pz_une (by first | decide | omega), e63, pz_une (by first | decide | omega)]), (by rw [e89, pz_une (by first | decide | omega), e81, pz_une (by first | decide | omega), e63, pz_uu])⟩, by rw [if_neg (by first | decide | omega), e89, pz_une (by first | decide | omega), e81, pz_une (by first | decide | omega)]; exact F63x⟩, hS⟩
            | exact ⟨⟨⟨pq_tx_rb (by first | decide | omega) E38a E38b E38e E38c E38d z42 s42 (s57.resolve_left (fun y => absurd y.1 (by first | decide | omega))).2 rfl (fun j => by rw [e89, pz_una (by decide), e81, pz_una (by decide)]; exact F63c j) (by rw [e89, pz_une (by first | decide | omega), e81, pz_uu, e78, e63, pz_une (by first | decide | omega)]) (by rw [e89, pz_uu, e86, e81, pz_une (by first | decide | omega), e63, pz_une (by first | decide | omega)]), (by rw [e89, pz_une (by first | decide | omega), e81, pz_une (by first | decide | omega), e63, pz_uu])⟩, by rw [if_neg (by first | decide | omega), e89, pz_une (by first | decide | omega), e81, pz_une (by first | decide | omega)]; exact F63x⟩, hS⟩
        · skip
          have P1 : (i = 0 → pz_wfl M63) ∧ (i = 2 → ∀ r : Int, 0 ≤ r → r < M63 1 15 → 0 ≤ M63 66 (3 * r).toNat ∧ M63 66 (3 * r).toNat ≤ 11) := by
            first
              | have r := R50 (by first | decide | omega)
                refine ⟨fun y => ?_, fun y => ?_⟩
                · have r1 := r.1 y
                  unfold pz_wfl at r1 ⊢
                  rw [E63.1, E63.2.1, show M63 1 14 = M50 1 14 by omega, show M63 1 13 = M50 1 13 by omega]
                  exact r1
                · have r1 := r.2 y
                  rw [E63.2.2, show M63 1 15 = M50 1 15 by omega]
                  exact r1
              | have r := R57 (by first | decide | omega)
                refine ⟨fun y => ?_, fun y => ?_⟩
                · have r1 := r.1 y
                  unfold pz_wfl at r1 ⊢
                  rw [E63.1, E63.2.1, show M63 1 14 = M57 1 14 by omega, show M63 1 13 = M57 1 13 by omega]
                  exact r1
                · have r1 := r.2 y
                  rw [E63.2.2, show M63 1 15 = M57 1 15 by omega]
                  exact r1
          obtain ⟨P1a, P1b⟩ := P1
          refine And.intro (And.intro hI (And.intro (by assumption) (And.intro (by assumption) (And.intro (by first | decide | omega) (by first | decide | omega))))) ?_
          intro v72 M72 a72 b72 q72
          obtain ⟨q72, z72⟩ := q72
          have hS : pz_rl pz_QT M M72 := hS.tr (pz_rl.wk pz_wk_QU_QT z72)
          have hI : pz_im M72 := hS.1 hI0
          refine And.intro rfl ?_
          have X75 : M72 1 4 = if v72 ≠ -1 ∧ i = 1 then 0 else M 1 4 := by
            rw [q72.2, F63x]
            by_cases y : i = 1
            · have z := (q72.1.2.1 y).1
              have z2 := z72.2 1 15 (by unfold pz_QU; first | decide | omega)
              have z3 := hI.2.1.2.2.2.2.2.2.2.1
              rw [if_pos y, if_pos ⟨by omega, y⟩]
            · rw [if_neg y, if_neg (fun z => y z.2)]
          have U72a : M72 1 23 = 0 := (z72.2 1 23 (by unfold pz_QU; first | decide | omega)).trans F63a
          have U72b : M72 1 25 = -1 := (z72.2 1 25 (by unfold pz_QU; first | decide | omega)).trans F63b
          first
            | exact ⟨⟨⟨pq_tx_0 (by first | decide | omega) E38a E38b E38c E38d z42 s42 (s50.resolve_right (fun y => absurd y.1 (by first | decide | omega))).2 (by rw [e63, pz_une (by first | decide | omega)]) (by rw [e63, pz_une (by first | decide | omega)]) E63.1 E63.2.1 q72.1 F63c U72a U72b, (by rw [z72.2 1 16 (by unfold pz_QU; first | decide | omega), e63, pz_uu])⟩, X75⟩, hS⟩
            | exact ⟨⟨⟨pq_tx_r (by first | decide | omega) E38a E38b E38e E38c E38d z42 s42 (s57.resolve_right (fun y => absurd y.1 (by first | decide | omega))).2 (by rw [e63, pz_une (by first | decide | omega)]) E63.2.2 q72.1 F63c U72a U72b, (by rw [z72.2 1 16 (by unfold pz_QU; first | decide | omega), e63, pz_uu])⟩, X75⟩, hS⟩
      · skip
        refine And.intro (And.intro hI (And.intro (by first | decide | omega) (by first | decide | omega))) ?_
        intro v50 M50 a50 b50 q50
        obtain ⟨q50, z50⟩ := q50
        have hS : pz_rl pz_QT M M50 := hS.tr (pz_rl.wk pz_wk_Q2_QT z50)
        have hI : pz_im M50 := hS.1 hI0
        obtain ⟨q50, s50⟩ := q50
        have F50c : ∀ j, M50 60 j = M 60 j := fun j => (z50.2 60 j (by unfold pz_Q2; first | decide | omega)).trans (F42d j)
        have F50a : M50 1 23 = 0 := (z50.2 1 23 (by unfold pz_Q2; first | decide | omega)).trans F42a
        have F50b : M50 1 25 = -1 := (z50.2 1 25 (by unfold pz_Q2; first | decide | omega)).trans F42b
        have R50 : v50 ≠ 0 → (i = 0 → pz_wfl M50) ∧ (i = 2 → ∀ r : Int, 0 ≤ r → r < M50 1 15 → 0 ≤ M50 66 (3 * r).toNat ∧ M50 66 (3 * r).toNat ≤ 11) := fun z => ⟨fun _ => (q50.resolve_left z).2, fun y => absurd y (by first | decide | omega)⟩
        have F50x : M50 1 4 = M 1 4 := (z50.2 1 4 (by unfold pz_Q2; first | decide | omega)).trans F42x
        intro M63 e63
        have hS : pz_rl pz_QT M M63 := by
          rw [e63]
          exact pz_rl_u hS (by unfold pz_QT; decide) (pz_iom_16 (by first | decide | omega))
        have hI : pz_im M63 := hS.1 hI0
        have T63_0 : M63 1 12 = M50 1 12 := by
          rw [e63]
          exact (pz_une (by decide))
        have T63_1 : M63 1 16 = (0) := by rw [e63]; exact pz_uu
        have T63_2 : M63 1 17 = M50 1 17 := by
          rw [e63]
          exact (pz_une (by decide))
        have E63 : M63 64 = M50 64 ∧ M63 65 = M50 65 ∧ M63 66 = M50 66 := ⟨funext fun j => by rw [e63]; exact pz_una (by decide), funext fun j => by rw [e63]; exact pz_una (by decide), funext fun j => by rw [e63]; exact pz_una (by decide)⟩
        have E13 := pz_uve e63 1 13
        have E14 := pz_uve e63 1 14
        have E15 := pz_uve e63 1 15
        have F63c : ∀ j, M63 60 j = M 60 j := fun j => by rw [e63, pz_una (by decide)]; first | exact F50c j | exact F57c j
        have F63a : M63 1 23 = 0 := by rw [e63, pz_une (by first | decide | omega)]; first | exact F50a | exact F57a
        have F63b : M63 1 25 = -1 := by rw [e63, pz_une (by first | decide | omega)]; first | exact F50b | exact F57b
        have F63x : M63 1 4 = M 1 4 := by rw [e63, pz_une (by first | decide | omega)]; first | exact F50x | exact F57x
        refine And.intro (fun h67 => ?_) (fun h67 => ?_)
        · skip
          skip
          intro v78 e78 a78 b78
          intro M81 e81
          have hS : pz_rl pz_QT M M81 := by
            rw [e81]
            exact pz_rl_u hS (by unfold pz_QT; decide) (pz_iom_f (by decide))
          have hI : pz_im M81 := hS.1 hI0
          have T81_0 : M81 1 12 = M50 1 12 := by
            rw [e81]
            exact (pz_une (by decide)).trans T63_0
          clear T63_0
          have T81_1 : M81 1 16 = (0) := by
            rw [e81]
            exact (pz_une (by decide)).trans T63_1
          clear T63_1
          have T81_2 : M81 1 17 = M50 1 17 := by
            rw [e81]
            exact (pz_une (by decide)).trans T63_2
          clear T63_2
          intro v86 e86 a86 b86
          intro M89 e89
          have hS : pz_rl pz_QT M M89 := by
            rw [e89]
            exact pz_rl_u hS (by unfold pz_QT; decide) (pz_iom_f (by decide))
          have hI : pz_im M89 := hS.1 hI0
          have T89_0 : M89 1 12 = M50 1 12 := by
            rw [e89]
            exact (pz_une (by decide)).trans T81_0
          clear T81_0
          have T89_1 : M89 1 16 = (0) := by
            rw [e89]
            exact (pz_une (by decide)).trans T81_1
          clear T81_1
          have T89_2 : M89 1 17 = M50 1 17 := by
            rw [e89]
            exact (pz_une (by decide)).trans T81_2
          clear T81_2
          refine And.intro rfl ?_
          first
            | exact ⟨⟨⟨pq_tx_0b (by first | decide | omega) E38a E38b E38c E38d z42 s42 (s50.resolve_left (fun y => absurd y.1 (by first | decide | omega))).2 rfl (fun j => by rw [e89, pz_una (by decide), e81, pz_una (by decide)]; exact F63c j) (by rw [e89, pz_une (by first | decide | omega), e81, pz_uu, e78, e63, pz_une (by first | decide | omega)]) (by rw [e89, pz_uu, e86, e81, pz_une (by first | decide | omega), e63, pz_une (by first | decide | omega)]), (by rw [e89, pz_une (by first | decide | omega), e81, pz_une (by first | decide | omega), e63, pz_uu])⟩, by rw [if_neg (by first | decide | omega), e89, pz_une (by first | decide | omega), e81, pz_une (by first | decide | omega)]; exact F63x⟩, hS⟩
            | exact ⟨⟨⟨pq_tx_rb (by first | decide | omega) E38a E38b E38e E38c E38d z42 s42 (s57.resolve_left (fun y => absurd y.1 (by first | decide | omega))).2 rfl (fun j => by rw [e89, pz_una (by decide), e81, pz_una (by decide)]; exact F63c j) (by rw [e89, pz_une (by first | decide | omega), e81, pz_uu, e78, e63, pz_une (by first | decide | omega)]) (by rw [e89, pz_uu, e86, e81, pz_une (by first | decide | omega), e63, pz_une (by first | decide | omega)]), (by rw [e89, pz_une (by first | decide | omega), e81, pz_une (by first | decide | omega), e63, pz_uu])⟩, by rw [if_neg (by first | decide | omega), e89, pz_une (by first | decide | omega), e81, pz_une (by first | decide | omega)]; exact F63x⟩, hS⟩
        · skip
          have P1 : (i = 0 → pz_wfl M63) ∧ (i = 2 → ∀ r : Int, 0 ≤ r → r < M63 1 15 → 0 ≤ M63 66 (3 * r).toNat ∧ M63 66 (3 * r).toNat ≤ 11) := by
            first
              | have r := R50 (by first | decide | omega)
                refine ⟨fun y => ?_, fun y => ?_⟩
                · have r1 := r.1 y
                  unfold pz_wfl at r1 ⊢
                  rw [E63.1, E63.2.1, show M63 1 14 = M50 1 14 by omega, show M63 1 13 = M50 1 13 by omega]
                  exact r1
                · have r1 := r.2 y
                  rw [E63.2.2, show M63 1 15 = M50 1 15 by omega]
                  exact r1
              | have r := R57 (by first | decide | omega)
                refine ⟨fun y => ?_, fun y => ?_⟩
                · have r1 := r.1 y
                  unfold pz_wfl at r1 ⊢
                  rw [E63.1, E63.2.1, show M63 1 14 = M57 1 14 by omega, show M63 1 13 = M57 1 13 by omega]
                  exact r1
                · have r1 := r.2 y
                  rw [E63.2.2, show M63 1 15 = M57 1 15 by omega]
                  exact r1
          obtain ⟨P1a, P1b⟩ := P1
          refine And.intro (And.intro hI (And.intro (by assumption) (And.intro (by assumption) (And.intro (by first | decide | omega) (by first | decide | omega))))) ?_
          intro v72 M72 a72 b72 q72
          obtain ⟨q72, z72⟩ := q72
          have hS : pz_rl pz_QT M M72 := hS.tr (pz_rl.wk pz_wk_QU_QT z72)
          have hI : pz_im M72 := hS.1 hI0
          refine And.intro rfl ?_
          have X75 : M72 1 4 = if v72 ≠ -1 ∧ i = 1 then 0 else M 1 4 := by
            rw [q72.2, F63x]
            by_cases y : i = 1
            · have z := (q72.1.2.1 y).1
              have z2 := z72.2 1 15 (by unfold pz_QU; first | decide | omega)
              have z3 := hI.2.1.2.2.2.2.2.2.2.1
              rw [if_pos y, if_pos ⟨by omega, y⟩]
            · rw [if_neg y, if_neg (fun z => y z.2)]
          have U72a : M72 1 23 = 0 := (z72.2 1 23 (by unfold pz_QU; first | decide | omega)).trans F63a
          have U72b : M72 1 25 = -1 := (z72.2 1 25 (by unfold pz_QU; first | decide | omega)).trans F63b
          first
            | exact ⟨⟨⟨pq_tx_0 (by first | decide | omega) E38a E38b E38c E38d z42 s42 (s50.resolve_right (fun y => absurd y.1 (by first | decide | omega))).2 (by rw [e63, pz_une (by first | decide | omega)]) (by rw [e63, pz_une (by first | decide | omega)]) E63.1 E63.2.1 q72.1 F63c U72a U72b, (by rw [z72.2 1 16 (by unfold pz_QU; first | decide | omega), e63, pz_uu])⟩, X75⟩, hS⟩
            | exact ⟨⟨⟨pq_tx_r (by first | decide | omega) E38a E38b E38e E38c E38d z42 s42 (s57.resolve_right (fun y => absurd y.1 (by first | decide | omega))).2 (by rw [e63, pz_une (by first | decide | omega)]) E63.2.2 q72.1 F63c U72a U72b, (by rw [z72.2 1 16 (by unfold pz_QU; first | decide | omega), e63, pz_uu])⟩, X75⟩, hS⟩
    · skip
      replace q13 := q13.resolve_left (fun z => absurd (z.1.symm.trans h16) (by decide))
      clear h16
      intro M21 e21
      have hS : pz_rl pz_QT M M21 := by
        rw [e21]
        exact pz_rl_u hS (by unfold pz_QT; decide) (pz_iom_16 (by first | decide | omega))
      have hI : pz_im M21 := hS.1 hI0
      have T21_0 : M21 1 12 = M 1 12 := by
        rw [e21]
        exact (pz_une (by decide)).trans T7_0
      clear T7_0
      have T21_1 : M21 1 16 = (0) := by rw [e21]; exact pz_uu
      have T21_2 : M21 1 17 = M 1 17 := by
        rw [e21]
        exact (pz_une (by decide)).trans T7_2
      clear T7_2
      refine And.intro rfl ?_
      exact ⟨⟨⟨pq_tx_out (by first | decide | omega) rfl (by rw [e21, pz_une (by first | decide | omega)]; exact F7a) (by rw [e21, pz_une (by first | decide | omega)]; exact F7b) (fun j => by rw [e21, pz_una (by decide), e7, pz_una (by decide), e2, pz_una (by decide)]), by rw [e21, pz_uu]⟩, by rw [if_neg (by first | decide | omega), e21, pz_une (by first | decide | omega), e7, pz_une (by first | decide | omega), e2, pz_une (by first | decide | omega)]⟩, hS⟩
theorem v3_X12_text {fr lo i : Nat} {own : String} (h1 : 41 + 1 ≤ fr) (h2 : 8 + (3 + 11) + 958 ≤ lo) (h3 : .methodLink own i yX12_text ∈ lw_tbl) : pz_cV fr lo own i k3_X12_text :=
  pz_cVk (maxL := 3) (fr' := 41) (lo' := 958) 1 12 h3_X12_text rfl ⟨(pz_nhc_RX12 yX12_text rfl).1, (pz_nhc_RX12 yX12_text rfl).2, pz_ds5⟩ ⟨pz_wq1242, pz_wq1240, pz_wq1241, pz_wq13⟩ (Or.inl ⟨TX12, 28, rfl⟩) (fun a M _ h => by
    have h : (match (generalizing := false) a with | [.inr (.inr (12, th)), .inl i] => pz_im M | _ => False) := h
    split at h
    · exact ⟨_, _, rfl⟩
    · exact h.elim) h1 h2 h3
noncomputable def k3_X12_image : pz_C := (2, 1, fun a M => (match a with | [.inr (.inr (12, th)), .inl x] => pz_im M | _ => False), fun a M r M' => (match a, r with | [.inr (.inr (12, th)), .inl x], some (.inl v) => (((x = 0 ∧ M 1 5 = 0 ∧ v = 0 ∧ M' = M) ∨ ((x ≠ 0 ∨ M 1 5 ≠ 0) ∧ v = 1 ∧ M' 1 5 = 1 ∧ ((x = 0 → ∀ k : Nat, (k : Int) < (1725 : Int) → M' 60 k = M 61 k) ∧ (x = 0 → ∀ k, M' 61 k = M 61 k) ∧ (x ≠ 0 → ∀ k : Nat, (k : Int) < (1725 : Int) → M' 61 k = M 60 k) ∧ (x ≠ 0 → ∀ k, M' 60 k = M 60 k)))) ∧ (x = 0 → M 1 5 ≠ 0 → M' 1 4 = 0) ∧ (x ≠ 0 → M' 1 4 = M 1 4)) ∧ pz_rl pz_QI M M' | _, _ => False))
noncomputable abbrev ct3_X12_image : List (Bool × Nat × pz_C) := [(true, 71, k_X12_forgets)]
set_option maxRecDepth 100000 in
set_option maxHeartbeats 4000000 in
theorem h3_X12_image : pz_H yX12_image cX12_image 3 (some .boolean) k3_X12_image 1 20 := by
  refine pz_mk (own := RX12) (tb := t_X12_image) (fl := pz_flf fl_RX12) (ci := pz_cif ci_RX12) (ct := pz_ctf ct3_X12_image) (rz := true) (pz_pfc_RX12 yX12_image rfl) rfl t_X12_image_ok (pz_flk fl_RX12_ok) (pz_cik ci_RX12_ok) ?_ ?_ (Or.inr ⟨rfl, rfl⟩) ?_ ?_
  · exact fun i k' h => pz_ctk (l := ct3_X12_image) (P := fun b i k => b = true → pz_cV 1 20 RX12 i k) (List.forall_mem_cons.mpr ⟨(fun _ => v_X12_forgets (by decide) (by decide) pz_wq1209), fun _ h => absurd h List.not_mem_nil⟩) true i k' h rfl
  · exact fun i k' h => pz_ctk (l := ct3_X12_image) (P := fun b i k => b = false → (pz_cS 1 20 RX12 i k ∨ (k = pz_kac ∧ 1 ≤ 1 ∧ 60 ≤ 20 ∧ Cond.methodLink RX12 i arraycopyName ∈ pz_tbl))) (List.forall_mem_cons.mpr ⟨((fun z => by cases z)), fun _ h => absurd h List.not_mem_nil⟩) false i k' h rfl
  · intro a M hlen hpre
    obtain ⟨th, x, rfl, hpre⟩ : ∃ th x, a = [.inr (.inr (12, th)), .inl x] ∧ (pz_im M) := by
      have hpre : (match (generalizing := false) a with | [.inr (.inr (12, th)), .inl x] => pz_im M | _ => False) := hpre
      split at hpre
      · exact ⟨_, _, rfl, hpre⟩
      · exact hpre.elim
    exact Nat.le_of_ble_eq_true rfl
  · intro a M hlen hcan hM hpre Ok hgo
    obtain ⟨th, x, rfl, hpre⟩ : ∃ th x, a = [.inr (.inr (12, th)), .inl x] ∧ (pz_im M) := by
      have hpre : (match (generalizing := false) a with | [.inr (.inr (12, th)), .inl x] => pz_im M | _ => False) := hpre
      split at hpre
      · exact ⟨_, _, rfl, hpre⟩
      · exact hpre.elim
    obtain ⟨k_th, hc_th⟩ := pz_tlm hcan
    have k_th : pz_kd th = 12 ∧ th < 231 := k_th
    have R_th := pz_kd12 k_th.1
    subst R_th
    clear k_th
    obtain ⟨k_x, hc_x⟩ := pz_tlm hc_th
    have l_x : -2147483648 ≤ x := k_x.1
    have u_x : x ≤ 2147483647 := k_x.2
    have hI : pz_im M := hpre
    have hI0 := hI
    have hS : pz_r0 pz_W2 M M := pz_r0.rf
    have G0 : (x = 0 → ∀ k : Nat, (k : Int) < (0 : Int) → M 60 k = M 61 k) ∧ (x = 0 → ∀ k, M 61 k = M 61 k) ∧ (x ≠ 0 → ∀ k : Nat, (k : Int) < (0 : Int) → M 61 k = M 60 k) ∧ (x ≠ 0 → ∀ k, M 60 k = M 60 k) := ⟨fun _ k hk => absurd hk (by first | decide | omega), fun _ _ => rfl, fun _ k hk => absurd hk (by first | decide | omega), fun _ _ => rfl⟩
    have L15 : ∀ (fu : Nat) (x2 : Int) (N15 : pz_M), (1725 - x2).toNat < fu → (pz_r0 pz_W2 M N15) → (0 ≤ x2) → (x2 ≤ 1725) → ((x = 0 → ∀ k : Nat, (k : Int) < x2 → N15 60 k = M 61 k) ∧ (x = 0 → ∀ k, N15 61 k = M 61 k) ∧ (x ≠ 0 → ∀ k : Nat, (k : Int) < x2 → N15 61 k = M 60 k) ∧ (x ≠ 0 → ∀ k, N15 60 k = M 60 k)) → (N15 1 4 = M 1 4) → (x ≠ 0 ∨ M 1 5 ≠ 0) → Ok 15 [some (.inr (.inr (12, 1))), some (.inl x), some (.inl x2)] [] N15 := by
      intro fu
      induction fu with
      | zero => exact fun _ _ hn => absurd hn (Nat.not_lt_zero _)
      | succ fu ih15 =>
        intro x2 N15 hn15 hS g15_1 g15_2 g15_3 g15_4 g15_5
        have L53 : ∀ (x2 : Int) (N53 : pz_M), (pz_r0 pz_W2 M N53) → (0 ≤ x2) → (x2 < 1725) → ((1725 - x2).toNat < fu + 1) → ((x = 0 → ∀ k : Nat, (k : Int) < x2 + 1 → N53 60 k = M 61 k) ∧ (x = 0 → ∀ k, N53 61 k = M 61 k) ∧ (x ≠ 0 → ∀ k : Nat, (k : Int) < x2 + 1 → N53 61 k = M 60 k) ∧ (x ≠ 0 → ∀ k, N53 60 k = M 60 k)) → (N53 1 4 = M 1 4) → (x ≠ 0 ∨ M 1 5 ≠ 0) → Ok 53 [some (.inr (.inr (12, 1))), some (.inl x), some (.inl x2)] [] N53 := by
          intro x2 N53 hS g53_1 g53_2 g53_3 g53_4 g53_5 g53_6
          refine hgo (fun p => Nat.beq p 15 || Nat.beq p 53) 44 53 _ _ _ ?_
          intro v53 e53 a53 b53
          try rw [pz_wi (by first | decide | omega) (by first | decide | omega)] at e53
          have G53 : (x = 0 → ∀ k : Nat, (k : Int) < v53 → N53 60 k = M 61 k) ∧ (x = 0 → ∀ k, N53 61 k = M 61 k) ∧ (x ≠ 0 → ∀ k : Nat, (k : Int) < v53 → N53 61 k = M 60 k) ∧ (x ≠ 0 → ∀ k, N53 60 k = M 60 k) := by rw [e53]; exact g53_4
          exact ih15 _ _ (by first | decide | omega) hS (by first | omega | assumption) (by first | omega | assumption) (by first | omega | assumption) (by first | omega | assumption) (by first | omega | assumption)
        refine hgo (fun p => Nat.beq p 15 || Nat.beq p 53) 44 15 _ _ _ ?_
        refine And.intro (fun h19 => ?_) (fun h19 => ?_)
        · skip
          refine And.intro (fun h60 => ?_) (fun h60 => ?_)
          · skip
            have X60 : (x = 0 → ∀ k : Nat, (k : Int) < (1725 : Int) → N15 60 k = M 61 k) ∧ (x = 0 → ∀ k, N15 61 k = M 61 k) ∧ (x ≠ 0 → ∀ k : Nat, (k : Int) < (1725 : Int) → N15 61 k = M 60 k) ∧ (x ≠ 0 → ∀ k, N15 60 k = M 60 k) := ⟨fun q k hk => g15_3.1 q k (by first | decide | omega), g15_3.2.1, fun q k hk => g15_3.2.2.1 q k (by first | decide | omega), g15_3.2.2.2⟩
            have hI : pz_im N15 := pz_img hI0 hS g15_4 X60
            have hS : pz_rl pz_QI M N15 := ⟨fun _ => hI, fun b j hb => hS b j (by unfold pz_QI at hb; unfold pz_W2; omega)⟩
            refine And.intro (by first | decide | omega) ?_
            intro M69 e69
            have hS : pz_rl pz_QI M M69 := by
              rw [e69]
              exact pz_rl_u hS (by unfold pz_QI; first | decide | omega) (pz_iom_f (by decide))
            have hI : pz_im M69 := hS.1 hI0
            have T69_0 : M69 1 4 = N15 1 4 := by
              rw [e69]
              exact (pz_une (by decide))
            have T69_1 : M69 1 5 = (1) := by rw [e69]; exact pz_uu
            refine And.intro (by first | decide | omega) ?_
            refine And.intro rfl ?_
            have Z61 : ∀ k, M69 60 k = N15 60 k := fun k => by
              first
                | (rw [e69]; exact pz_una (by decide))
                | (rw [e69, pz_una (by decide), q64]; exact pz_una (by decide))
            have Z62 : ∀ k, M69 61 k = N15 61 k := fun k => by
              first
                | (rw [e69]; exact pz_una (by decide))
                | (rw [e69, pz_una (by decide), q64]; exact pz_una (by decide))
            have G14 : N15 1 4 = M 1 4 := by assumption
            have E4 : (x = 0 → M 1 5 ≠ 0 → M69 1 4 = 0) ∧ (x ≠ 0 → M69 1 4 = M 1 4) := ⟨fun y _ => (by
              first
                | (exfalso; omega)
                | (rw [e69, pz_une (by first | decide | omega), q64]; exact pz_uu)), fun y => (by
              first
                | (exfalso; omega)
                | (rw [e69, pz_une (by first | decide | omega)]; exact G14))⟩
            exact ⟨⟨Or.inr ⟨by omega, rfl, by rw [e69]; exact pz_uu, fun q k hk => (Z61 k).trans (X60.1 q k hk), fun q k => (Z62 k).trans (X60.2.1 q k), fun q k hk => (Z62 k).trans (X60.2.2.1 q k hk), fun q k => (Z61 k).trans (X60.2.2.2 q k)⟩, E4⟩, hS⟩
          · skip
            have X60 : (x = 0 → ∀ k : Nat, (k : Int) < (1725 : Int) → N15 60 k = M 61 k) ∧ (x = 0 → ∀ k, N15 61 k = M 61 k) ∧ (x ≠ 0 → ∀ k : Nat, (k : Int) < (1725 : Int) → N15 61 k = M 60 k) ∧ (x ≠ 0 → ∀ k, N15 60 k = M 60 k) := ⟨fun q k hk => g15_3.1 q k (by first | decide | omega), g15_3.2.1, fun q k hk => g15_3.2.2.1 q k (by first | decide | omega), g15_3.2.2.2⟩
            have hI : pz_im N15 := pz_img hI0 hS g15_4 X60
            have hS : pz_rl pz_QI M N15 := ⟨fun _ => hI, fun b j hb => hS b j (by unfold pz_QI at hb; unfold pz_W2; omega)⟩
            refine And.intro (hI) ?_
            intro M64 q64
            obtain ⟨q64, z64⟩ := q64
            have hS : pz_rl pz_QI M M64 := hS.tr (pz_rl_fg (by unfold pz_QI; first | decide | omega) q64 z64)
            have T64a := z64.2
            have T64b := z64.1.2
            have hI : pz_im M64 := hS.1 hI0
            refine And.intro (by first | decide | omega) ?_
            intro M69 e69
            have hS : pz_rl pz_QI M M69 := by
              rw [e69]
              exact pz_rl_u hS (by unfold pz_QI; first | decide | omega) (pz_iom_f (by decide))
            have hI : pz_im M69 := hS.1 hI0
            have T69_0 : M69 1 4 = M64 1 4 := by
              rw [e69]
              exact (pz_une (by decide))
            have T69_1 : M69 1 5 = (1) := by rw [e69]; exact pz_uu
            refine And.intro (by first | decide | omega) ?_
            refine And.intro rfl ?_
            have Z61 : ∀ k, M69 60 k = N15 60 k := fun k => by
              first
                | (rw [e69]; exact pz_una (by decide))
                | (rw [e69, pz_una (by decide), q64]; exact pz_una (by decide))
            have Z62 : ∀ k, M69 61 k = N15 61 k := fun k => by
              first
                | (rw [e69]; exact pz_una (by decide))
                | (rw [e69, pz_una (by decide), q64]; exact pz_una (by decide))
            have G14 : N15 1 4 = M 1 4 := by assumption
            have E4 : (x = 0 → M 1 5 ≠ 0 → M69 1 4 = 0) ∧ (x ≠ 0 → M69 1 4 = M 1 4) := ⟨fun y _ => (by
              first
                | (exfalso; omega)
                | (rw [e69, pz_une (by first | decide | omega), q64]; exact pz_uu)), fun y => (by
              first
                | (exfalso; omega)
                | (rw [e69, pz_une (by first | decide | omega)]; exact G14))⟩
            exact ⟨⟨Or.inr ⟨by omega, rfl, by rw [e69]; exact pz_uu, fun q k hk => (Z61 k).trans (X60.1 q k hk), fun q k => (Z62 k).trans (X60.2.1 q k), fun q k hk => (Z62 k).trans (X60.2.2.1 q k hk), fun q k => (Z61 k).trans (X60.2.2.2 q k)⟩, E4⟩, hS⟩
        · skip
          refine And.intro (fun h23 => ?_) (fun h23 => ?_)
          · skip
            refine pz_nrc (c := 60) rfl ?_
            refine pz_nrc (c := 61) rfl ?_
            have lo51 : (0 : Int) ≤ x2 := by omega
            have tn51 : (((x2).toNat : Nat) : Int) = x2 := Int.toNat_of_nonneg lo51
            refine And.intro (lo51) (And.intro (show _ < (1725 : Int) from by omega) ?_)
            intro v51 e51 a51 b51
            refine And.intro (lo51) (And.intro (show _ < (1725 : Int) from by omega) ?_)
            intro M52 e52
            have hS : pz_r0 pz_W2 M M52 := by
              rw [e52]
              exact pz_r0_u hS (by unfold pz_W2; first | decide | omega)
            have T52_0 : M52 1 4 = N15 1 4 := by
              rw [e52]
              exact (pz_une (fun h => absurd h.1 (by decide)))
            have T52_1 : M52 1 5 = N15 1 5 := by
              rw [e52]
              exact (pz_une (fun h => absurd h.1 (by decide)))
            have K52 := e52
            have G52 : (x = 0 → ∀ k : Nat, (k : Int) < x2 + 1 → M52 60 k = M 61 k) ∧ (x = 0 → ∀ k, M52 61 k = M 61 k) ∧ (x ≠ 0 → ∀ k : Nat, (k : Int) < x2 + 1 → M52 61 k = M 60 k) ∧ (x ≠ 0 → ∀ k, M52 60 k = M 60 k) := pz_img2 (k := x2.toNat) (by first | decide | omega) (by first | decide | omega) e52 e51 g15_3
            exact L53 _ _ hS (by first | omega | assumption) (by first | omega | assumption) (by first | omega | assumption) (by first | omega | assumption) (by first | omega | assumption) (by first | omega | assumption)
          · skip
            refine pz_nrc (c := 61) rfl ?_
            refine pz_nrc (c := 60) rfl ?_
            have lo36 : (0 : Int) ≤ x2 := by omega
            have tn36 : (((x2).toNat : Nat) : Int) = x2 := Int.toNat_of_nonneg lo36
            refine And.intro (lo36) (And.intro (show _ < (1725 : Int) from by omega) ?_)
            intro v36 e36 a36 b36
            refine And.intro (lo36) (And.intro (show _ < (1725 : Int) from by omega) ?_)
            intro M37 e37
            have hS : pz_r0 pz_W2 M M37 := by
              rw [e37]
              exact pz_r0_u hS (by unfold pz_W2; first | decide | omega)
            have T37_0 : M37 1 4 = N15 1 4 := by
              rw [e37]
              exact (pz_une (fun h => absurd h.1 (by decide)))
            have T37_1 : M37 1 5 = N15 1 5 := by
              rw [e37]
              exact (pz_une (fun h => absurd h.1 (by decide)))
            have K37 := e37
            have G37 : (x = 0 → ∀ k : Nat, (k : Int) < x2 + 1 → M37 60 k = M 61 k) ∧ (x = 0 → ∀ k, M37 61 k = M 61 k) ∧ (x ≠ 0 → ∀ k : Nat, (k : Int) < x2 + 1 → M37 61 k = M 60 k) ∧ (x ≠ 0 → ∀ k, M37 60 k = M 60 k) := pz_img1 (k := x2.toNat) (by first | decide | omega) (by first | decide | omega) e37 e36 g15_3
            exact L53 _ _ hS (by first | omega | assumption) (by first | omega | assumption) (by first | omega | assumption) (by first | omega | assumption) (by first | omega | assumption) (by first | omega | assumption)
    refine hgo (fun p => Nat.beq p 15 || Nat.beq p 53) 44 0 _ [] M ?_
    refine And.intro (fun h1 => ?_) (fun h1 => ?_)
    · skip
      exact L15 _ _ _ (Nat.lt_succ_self _) hS (by first | omega | assumption) (by first | omega | assumption) (by first | omega | assumption) (by first | omega | assumption) (by first | omega | assumption)
    · skip
      intro v5 e5 a5 b5
      refine And.intro (fun h8 => ?_) (fun h8 => ?_)
      · skip
        exact L15 _ _ _ (Nat.lt_succ_self _) hS (by first | omega | assumption) (by first | omega | assumption) (by first | omega | assumption) (by first | omega | assumption) (by first | omega | assumption)
      · skip
        refine And.intro (by first | decide | omega) ?_
        refine And.intro rfl ?_
        exact ⟨⟨Or.inl ⟨by omega, by omega, rfl, rfl⟩, fun _ y => absurd (by first | decide | omega) y, fun y => absurd (by first | decide | omega) y⟩, pz_rl.rf⟩
theorem v3_X12_image {fr lo i : Nat} {own : String} (h1 : 1 + 1 ≤ fr) (h2 : 8 + (3 + 11) + 20 ≤ lo) (h3 : .methodLink own i yX12_image ∈ lw_tbl) : pz_cV fr lo own i k3_X12_image :=
  pz_cVk (maxL := 3) (fr' := 1) (lo' := 20) 1 12 h3_X12_image rfl ⟨(pz_nhc_RX12 yX12_image rfl).1, (pz_nhc_RX12 yX12_image rfl).2, pz_ds48⟩ ⟨pz_wq1760, pz_wq1758, pz_wq1759, pz_wq13⟩ (Or.inl ⟨TX12, 28, rfl⟩) (fun a M _ h => by
    have h : (match (generalizing := false) a with | [.inr (.inr (12, th)), .inl x] => pz_im M | _ => False) := h
    split at h
    · exact ⟨_, _, rfl⟩
    · exact h.elim) h1 h2 h3
noncomputable def k3_X11_image : pz_C := (2, 1, fun a M => (match a with | [.inr (.inr (11, th)), .inl t] => pz_ic M | _ => False), fun a M r M' => (match a, r with | [.inr (.inr (11, th)), .inl t], some (.inl v) => (((t = 0 ∧ M 0 13 = 0 ∧ v = 0 ∧ M' = M) ∨ ((t ≠ 0 ∧ v = 1 ∧ M' 0 13 = 1 ∧ pz_xi 73 71 M M') ∧ pz_Ti 9 8 M M') ∨ ((t = 0 ∧ M 0 13 ≠ 0 ∧ v = 1 ∧ M' 0 13 = M 0 13 ∧ M' 3 2 = 0 ∧ pz_xi 71 73 M M') ∧ pz_Ti 8 9 M M')) ∧ (t ≠ 0 → ∀ b j : Nat, ¬ pz_td 9 b → M' b j = if b = 46 ∧ j < 600 then M 45 j else if b = 0 ∧ j = 13 then 1 else pz_tf 73 71 M b j) ∧ (t = 0 → M 0 13 ≠ 0 → ∀ b j : Nat, ¬ pz_td 8 b → M' b j = if b = 45 ∧ j < 600 then M 46 j else if b = 3 ∧ j = 2 then 0 else if b = 7 ∧ j = 0 then 0 else pz_tf 71 73 M b j)) ∧ pz_rt M M' | _, _ => False))
noncomputable abbrev ct3_X11_image : List (Bool × Nat × pz_C) := [(true, 237, k_X0_take), (true, 353, k_X10_take), (false, 356, pz_kac), (true, 97, k_X2_forgetAll), (true, 117, k_X8_forgetAll)]
set_option maxRecDepth 100000 in
set_option maxHeartbeats 4000000 in
theorem h3_X11_image : pz_H yX11_image cX11_image 2 (some .boolean) k3_X11_image 3 102 := by
  refine pz_mk (own := RX11) (tb := t_X11_image) (fl := pz_flf fl_RX11) (ci := pz_cif ci_RX11) (ct := pz_ctf ct3_X11_image) (rz := true) (pz_pfc_RX11 yX11_image rfl) rfl t_X11_image_ok (pz_flk fl_RX11_ok) (pz_cik ci_RX11_ok) ?_ ?_ (Or.inr ⟨rfl, rfl⟩) ?_ ?_
  · exact fun i k' h => pz_ctk (l := ct3_X11_image) (P := fun b i k => b = true → pz_cV 3 102 RX11 i k) (List.forall_mem_cons.mpr ⟨(fun _ => v_X0_take (by decide) (by decide) pz_wq870), List.forall_mem_cons.mpr ⟨(fun _ => v_X10_take (by decide) (by decide) pz_wq1102), List.forall_mem_cons.mpr ⟨((fun z => by cases z)), List.forall_mem_cons.mpr ⟨(fun _ => v_X2_forgetAll (by decide) (by decide) pz_wq414), List.forall_mem_cons.mpr ⟨(fun _ => v_X8_forgetAll (by decide) (by decide) pz_wq436), fun _ h => absurd h List.not_mem_nil⟩⟩⟩⟩⟩) true i k' h rfl
  · exact fun i k' h => pz_ctk (l := ct3_X11_image) (P := fun b i k => b = false → (pz_cS 3 102 RX11 i k ∨ (k = pz_kac ∧ 1 ≤ 3 ∧ 60 ≤ 102 ∧ Cond.methodLink RX11 i arraycopyName ∈ pz_tbl))) (List.forall_mem_cons.mpr ⟨((fun z => by cases z)), List.forall_mem_cons.mpr ⟨((fun z => by cases z)), List.forall_mem_cons.mpr ⟨(fun _ => Or.inr ⟨rfl, by decide, by decide, pz_tbl_in (by decide +kernel) rfl⟩), List.forall_mem_cons.mpr ⟨((fun z => by cases z)), List.forall_mem_cons.mpr ⟨((fun z => by cases z)), fun _ h => absurd h List.not_mem_nil⟩⟩⟩⟩⟩) false i k' h rfl
  · intro a M hlen hpre
    obtain ⟨th, t, rfl, hpre⟩ : ∃ th t, a = [.inr (.inr (11, th)), .inl t] ∧ (pz_ic M) := by
      have hpre : (match (generalizing := false) a with | [.inr (.inr (11, th)), .inl t] => pz_ic M | _ => False) := hpre
      split at hpre
      · exact ⟨_, _, rfl, hpre⟩
      · exact hpre.elim
    exact Nat.le_of_ble_eq_true rfl
  · intro a M hlen hcan hM hpre Ok hgo
    obtain ⟨th, t, rfl, hpre⟩ : ∃ th t, a = [.inr (.inr (11, th)), .inl t] ∧ (pz_ic M) := by
      have hpre : (match (generalizing := false) a with | [.inr (.inr (11, th)), .inl t] => pz_ic M | _ => False) := hpre
      split at hpre
      · exact ⟨_, _, rfl, hpre⟩
      · exact hpre.elim
    obtain ⟨k_th, hc_th⟩ := pz_tlm hcan
    have k_th : pz_kd th = 11 ∧ th < 231 := k_th
    have R_th := pz_kd11 k_th.1
    subst R_th
    obtain ⟨k_t, hc_t⟩ := pz_tlm hc_th
    have l_t : -2147483648 ≤ t := k_t.1
    have u_t : t ≤ 2147483647 := k_t.2
    have hI : pz_ic M := hpre
    have hI0 := hI
    have hS : pz_st M M := pz_st.rf
    refine hgo (fun _ => false) 62 0 _ [] M ?_
    refine And.intro (fun h1 => ?_) (fun h1 => ?_)
    · skip
      intro v52 e52 a52 b52
      refine And.intro (fun h55 => ?_) (fun h55 => ?_)
      · skip
        refine pz_nrc (c := 71) rfl ?_
        refine pz_nrc (c := 73) rfl ?_
        refine And.intro (hI) ?_
        intro M68 q68
        obtain ⟨q68, z68⟩ := q68
        have hS : pz_xi 71 73 M M68 := pz_xi_0 (by first | decide | omega) q68 z68
        have hI : pz_ic M68 := hS.1 hI0
        refine pz_nrc (c := 8) rfl ?_
        refine pz_nrc (c := 9) rfl ?_
        refine And.intro (And.intro hI (by first | decide | omega)) ?_
        intro M79 q79
        obtain ⟨q79, z79⟩ := q79
        have hS : pz_xi 71 73 M M79 := pz_xi.trf hS z79 (fun b j y => q79.2.2.2.2.2 b j (by unfold pz_mq0 pz_ko pz_mid at y; unfold pz_td; omega))
        have hI : pz_ic M79 := hS.1 hI0
        refine pz_nrc (c := 46) rfl ?_
        refine pz_nrc (c := 45) rfl ?_
        refine pz_nrc (c := 45) rfl ?_
        have Z96 : (((pz_ak 13).2 : Nat) : Int) = 600 := rfl
        refine And.intro ⟨_, _, _, _, _, _, _, rfl, rfl, rfl, by decide, by decide, by decide, by decide, by decide⟩ ?_
        intro M97 q97
        obtain ⟨k197, a197, k297, a297, sp97, dp97, n97, z197, -, z297⟩ := q97
        cases z197
        have hS : pz_xi 71 73 M M97 := hS.tr (by
          rw [z297]
          exact pz_st_c pz_st.rf (by first | decide | omega) (by first | decide | omega))
        have hI : pz_ic M97 := hS.1 hI0
        refine pz_nrc (c := 3) rfl ?_
        refine And.intro (hI) ?_
        intro M104 q104
        obtain ⟨q104, z104⟩ := q104
        have hS : pz_xi 71 73 M M104 := pz_xi.fg hS q104 z104.rt
        have hI : pz_ic M104 := hS.1 hI0
        refine pz_nrc (c := 7) rfl ?_
        refine And.intro (hI) ?_
        intro M111 q111
        obtain ⟨q111, z111⟩ := q111
        have hS : pz_xi 71 73 M M111 := hS.tr z111
        have hI : pz_ic M111 := hS.1 hI0
        refine And.intro (by first | decide | omega) ?_
        refine And.intro rfl ?_
        have F9 := (hS.2.1 0 13 (Or.inr (Or.inl ⟨rfl, rfl⟩)) (by first | decide | omega) (by first | decide | omega)).trans (pz_tf_o (by first | decide | omega) (by unfold pz_lb; first | decide | omega))
        have F8 := pz_Ti_of (Or.inl ⟨rfl, rfl⟩) q79 (M := M) (N := M111) (fun b j y y2 => by rw [q68]; exact pz_tf_o (by first | decide | omega) (by unfold pz_lb; first | decide | omega)) (fun b j y y2 => by rw [q111, pz_una (by first | decide | omega), q104, pz_una (by first | decide | omega), z297]; exact pz_cpy_o (by first | decide | omega))
        have X115 : ∀ b j : Nat, ¬ pz_td 8 b → M111 b j = if b = 45 ∧ j < 600 then M 46 j else if b = 3 ∧ j = 2 then 0 else if b = 7 ∧ j = 0 then 0 else pz_tf 71 73 M b j := fun b j y => by
          have f79 : ∀ b j : Nat, ¬ pz_td 8 b → M79 b j = pz_tf 71 73 M b j := fun b j z => by rw [q79.2.2.2.2.2 b j z, q68]
          rw [q111]
          by_cases u : b = 7 ∧ j = 0
          · rw [if_neg (by first | decide | omega), if_neg (by first | decide | omega), if_pos u]
            exact pz_ue u
          · rw [pz_une u, if_neg u, q104]
            by_cases u2 : b = 3 ∧ j = 2
            · rw [if_neg (by first | decide | omega), if_pos u2]
              exact pz_ue u2
            · rw [pz_une u2, if_neg u2, z297]
              show (if b = 45 ∧ 0 ≤ j ∧ j < 0 + 600 then M79 46 (0 + (j - 0)) else M79 b j) = _
              by_cases x : b = 45 ∧ j < 600
              · rw [if_pos x, if_pos ⟨x.1, Nat.zero_le _, by omega⟩, Nat.zero_add, Nat.sub_zero, f79 46 j (by unfold pz_td; first | decide | omega)]
                exact pz_tf_o (by first | decide | omega) (by unfold pz_lb; first | decide | omega)
              · rw [if_neg x, if_neg (fun z => x ⟨z.1, by have := z.2.2; omega⟩)]
                exact f79 b j y
        exact ⟨⟨Or.inr (Or.inr ⟨⟨by omega, by omega, rfl, F9, by rw [q111, pz_una (by decide), q104]; exact pz_uu, hS⟩, F8⟩), fun y => absurd (by first | decide | omega) y, fun _ _ => X115⟩, hS.1⟩
      · skip
        refine And.intro (by first | decide | omega) ?_
        refine And.intro rfl ?_
        exact ⟨⟨Or.inl ⟨by omega, by omega, rfl, rfl⟩, fun y => absurd (by first | decide | omega) y, fun _ y => absurd (by first | decide | omega) y⟩, hS.rt⟩
    · skip
      refine pz_nrc (c := 73) rfl ?_
      refine pz_nrc (c := 71) rfl ?_
      refine And.intro (hI) ?_
      intro M12 q12
      obtain ⟨q12, z12⟩ := q12
      have hS : pz_xi 73 71 M M12 := pz_xi_0 (by first | decide | omega) q12 z12
      have hI : pz_ic M12 := hS.1 hI0
      refine pz_nrc (c := 9) rfl ?_
      refine pz_nrc (c := 8) rfl ?_
      refine And.intro (And.intro hI (by first | decide | omega)) ?_
      intro M23 q23
      obtain ⟨q23, z23⟩ := q23
      have hS : pz_xi 73 71 M M23 := pz_xi.trf hS z23 (fun b j y => q23.2.2.2.2.2 b j (by unfold pz_mq0 pz_ko pz_mid at y; unfold pz_td; omega))
      have hI : pz_ic M23 := hS.1 hI0
      refine pz_nrc (c := 45) rfl ?_
      refine pz_nrc (c := 46) rfl ?_
      refine pz_nrc (c := 45) rfl ?_
      have Z40 : (((pz_ak 13).2 : Nat) : Int) = 600 := rfl
      refine And.intro ⟨_, _, _, _, _, _, _, rfl, rfl, rfl, by decide, by decide, by decide, by decide, by decide⟩ ?_
      intro M41 q41
      obtain ⟨k141, a141, k241, a241, sp41, dp41, n41, z141, -, z241⟩ := q41
      cases z141
      have hS : pz_xi 73 71 M M41 := hS.tr (by
        rw [z241]
        exact pz_st_c pz_st.rf (by first | decide | omega) (by first | decide | omega))
      have hI : pz_ic M41 := hS.1 hI0
      refine And.intro (by first | decide | omega) ?_
      intro M46 e46
      have hS : pz_xi 73 71 M M46 := by
        rw [e46]
        exact pz_xi_u hS ⟨rfl, rfl⟩ (by unfold pz_iok; first | decide | omega)
      have hI : pz_ic M46 := hS.1 hI0
      refine And.intro (by first | decide | omega) ?_
      refine And.intro rfl ?_
      have F9 := pz_Ti_of (Or.inr ⟨rfl, rfl⟩) q23 (M := M) (N := M46) (fun b j y y2 => by rw [q12]; exact pz_tf_o (by first | decide | omega) (by unfold pz_lb; first | decide | omega)) (fun b j y y2 => by rw [e46, pz_una (by first | decide | omega), z241]; exact pz_cpy_o (by first | decide | omega))
      have X50 : ∀ b j : Nat, ¬ pz_td 9 b → M46 b j = if b = 46 ∧ j < 600 then M 45 j else if b = 0 ∧ j = 13 then 1 else pz_tf 73 71 M b j := fun b j y => by
        have f23 : ∀ b j : Nat, ¬ pz_td 9 b → M23 b j = pz_tf 73 71 M b j := fun b j z => by rw [q23.2.2.2.2.2 b j z, q12]
        rw [e46]
        by_cases u : b = 0 ∧ j = 13
        · rw [if_neg (by first | decide | omega), if_pos u]
          exact pz_ue u
        · rw [pz_une u, if_neg u, z241]
          show (if b = 46 ∧ 0 ≤ j ∧ j < 0 + 600 then M23 45 (0 + (j - 0)) else M23 b j) = _
          by_cases x : b = 46 ∧ j < 600
          · rw [if_pos x, if_pos ⟨x.1, Nat.zero_le _, by omega⟩, Nat.zero_add, Nat.sub_zero, f23 45 j (by unfold pz_td; first | decide | omega)]
            exact pz_tf_o (by first | decide | omega) (by unfold pz_lb; first | decide | omega)
          · rw [if_neg x, if_neg (fun z => x ⟨z.1, by have := z.2.2; omega⟩)]
            exact f23 b j y
      exact ⟨⟨Or.inr (Or.inl ⟨⟨by omega, rfl, by rw [e46]; exact pz_uu, hS⟩, F9⟩), fun _ => X50, fun y => absurd y (by first | decide | omega)⟩, hS.1⟩
theorem v3_X11_image {fr lo i : Nat} {own : String} (h1 : 3 + 1 ≤ fr) (h2 : 8 + (2 + 11) + 102 ≤ lo) (h3 : .methodLink own i yX11_image ∈ lw_tbl) : pz_cV fr lo own i k3_X11_image :=
  pz_cVk (maxL := 2) (fr' := 3) (lo' := 102) 1 11 h3_X11_image rfl ⟨(pz_nhc_RX11 yX11_image rfl).1, (pz_nhc_RX11 yX11_image rfl).2, pz_ds48⟩ ⟨pz_wq1101, pz_wq1099, pz_wq1100, pz_wq1⟩ (Or.inl ⟨TX11, 14, rfl⟩) (fun a M _ h => by
    have h : (match (generalizing := false) a with | [.inr (.inr (11, th)), .inl t] => pz_ic M | _ => False) := h
    split at h
    · exact ⟨_, _, rfl⟩
    · exact h.elim) h1 h2 h3
noncomputable def k3_X11_book : pz_C := (3, 1, fun a M => (match a with | [.inr (.inr (11, th)), .inl i, .inl w] => pz_ic M | _ => False), fun a M r M' => (match a, r with | [.inr (.inr (11, th)), .inl i, .inl w], some (.inl v) => (v = if (0 ≤ i ∧ i < M 71 7) ∧ 0 ≤ w ∧ w ≤ 3 then M 45 (4 * i.toNat + w.toNat) else -1) ∧ M = M' | _, _ => False))
noncomputable abbrev ct3_X11_book : List (Bool × Nat × pz_C) := [(false, 137, k_X11_within)]
set_option maxRecDepth 100000 in
set_option maxHeartbeats 4000000 in
theorem h3_X11_book : pz_H yX11_book cX11_book 4 (some .int) k3_X11_book 1 22 := by
  refine pz_mk (own := RX11) (tb := t_X11_book) (fl := pz_flf fl_RX11) (ci := pz_cif ci_RX11) (ct := pz_ctf ct3_X11_book) (rz := false) (pz_pfc_RX11 yX11_book rfl) rfl t_X11_book_ok (pz_flk fl_RX11_ok) (pz_cik ci_RX11_ok) ?_ ?_ (Or.inl ⟨rfl, rfl⟩) ?_ ?_
  · exact fun i k' h => pz_ctk (l := ct3_X11_book) (P := fun b i k => b = true → pz_cV 1 22 RX11 i k) (List.forall_mem_cons.mpr ⟨((fun z => by cases z)), fun _ h => absurd h List.not_mem_nil⟩) true i k' h rfl
  · exact fun i k' h => pz_ctk (l := ct3_X11_book) (P := fun b i k => b = false → (pz_cS 1 22 RX11 i k ∨ (k = pz_kac ∧ 1 ≤ 1 ∧ 60 ≤ 22 ∧ Cond.methodLink RX11 i arraycopyName ∈ pz_tbl))) (List.forall_mem_cons.mpr ⟨(fun _ => Or.inl (s_X11_within (by decide) (by decide) (Or.inl pz_wq425))), fun _ h => absurd h List.not_mem_nil⟩) false i k' h rfl
  · intro a M hlen hpre
    obtain ⟨th, i, w, rfl, hpre⟩ : ∃ th i w, a = [.inr (.inr (11, th)), .inl i, .inl w] ∧ (pz_ic M) := by
      have hpre : (match (generalizing := false) a with | [.inr (.inr (11, th)), .inl i, .inl w] => pz_ic M | _ => False) := hpre
      split at hpre
      · exact ⟨_, _, _, rfl, hpre⟩
      · exact hpre.elim
    exact Nat.le_of_ble_eq_true rfl
  · intro a M hlen hcan hM hpre Ok hgo
    obtain ⟨th, i, w, rfl, hpre⟩ : ∃ th i w, a = [.inr (.inr (11, th)), .inl i, .inl w] ∧ (pz_ic M) := by
      have hpre : (match (generalizing := false) a with | [.inr (.inr (11, th)), .inl i, .inl w] => pz_ic M | _ => False) := hpre
      split at hpre
      · exact ⟨_, _, _, rfl, hpre⟩
      · exact hpre.elim
    obtain ⟨k_th, hc_th⟩ := pz_tlm hcan
    have k_th : pz_kd th = 11 ∧ th < 231 := k_th
    have R_th := pz_kd11 k_th.1
    subst R_th
    obtain ⟨k_i, hc_i⟩ := pz_tlm hc_th
    have l_i : -2147483648 ≤ i := k_i.1
    have u_i : i ≤ 2147483647 := k_i.2
    obtain ⟨k_w, hc_w⟩ := pz_tlm hc_i
    have l_w : -2147483648 ≤ w := k_w.1
    have u_w : w ≤ 2147483647 := k_w.2
    have hI : pz_ic M := hpre
    have I7 := hI.1 71 (by first | decide | omega) (by first | decide | omega)
    refine hgo (fun _ => false) 36 0 _ [] M ?_
    refine pz_nrc (c := 71) rfl ?_
    intro v6 e6 a6 b6
    have I6 := hI.1 71 (by first | decide | omega) (by first | decide | omega)
    intro v10 e10 a10 b10
    rw [pz_wi (by first | decide | omega) (by first | decide | omega)] at e10
    refine And.intro (True.intro) ?_
    intro v11 M11 a11 b11 q11
    obtain ⟨q11, z11⟩ := q11
    subst z11
    refine And.intro (fun h14 => ?_) (fun h14 => ?_)
    · skip
      refine And.intro rfl ?_
      refine ⟨?_, rfl⟩
      first
        | (rw [if_neg (fun z => by split at q11 <;> omega)])
        | (rw [if_neg (fun z => by split at q11 <;> split at q20 <;> omega)])
    · skip
      refine And.intro (True.intro) ?_
      intro v20 M20 a20 b20 q20
      obtain ⟨q20, z20⟩ := q20
      subst z20
      refine And.intro (fun h23 => ?_) (fun h23 => ?_)
      · skip
        have C : (0 ≤ i ∧ i < M 71 7) ∧ 0 ≤ w ∧ w ≤ 3 := by
          split at q11 <;> split at q20 <;> omega
        intro v30 e30 a30 b30
        rw [pz_wi (by first | decide | omega) (by first | decide | omega)] at e30
        intro v32 e32 a32 b32
        rw [pz_wi (by first | decide | omega) (by first | decide | omega)] at e32
        refine pz_nrc (c := 45) rfl ?_
        have Z39 : (((pz_ak 13).2 : Nat) : Int) = 600 := rfl
        refine And.intro (fun h40 => ?_) (fun h40 => ?_)
        · skip
          refine And.intro rfl ?_
          refine ⟨?_, rfl⟩
          rw [if_pos C]
          first
            | (rw [e48]
               congr 1
               omega)
            | omega
        · skip
          refine pz_nrc (c := 45) rfl ?_
          have lo48 : (0 : Int) ≤ v32 := by omega
          have tn48 : (((v32).toNat : Nat) : Int) = v32 := Int.toNat_of_nonneg lo48
          refine And.intro (lo48) (And.intro (show _ < (600 : Int) from by omega) ?_)
          intro v48 e48 a48 b48
          refine And.intro rfl ?_
          refine ⟨?_, rfl⟩
          rw [if_pos C]
          first
            | (rw [e48]
               congr 1
               omega)
            | omega
      · skip
        skip
        refine And.intro rfl ?_
        refine ⟨?_, rfl⟩
        first
          | (rw [if_neg (fun z => by split at q11 <;> omega)])
          | (rw [if_neg (fun z => by split at q11 <;> split at q20 <;> omega)])
theorem v3_X11_book {fr lo i : Nat} {own : String} (h1 : 1 + 1 ≤ fr) (h2 : 8 + (4 + 11) + 22 ≤ lo) (h3 : .methodLink own i yX11_book ∈ lw_tbl) : pz_cV fr lo own i k3_X11_book :=
  pz_cVk (maxL := 4) (fr' := 1) (lo' := 22) 2 11 h3_X11_book rfl ⟨(pz_nhc_RX11 yX11_book rfl).1, (pz_nhc_RX11 yX11_book rfl).2, pz_ds10⟩ ⟨pz_wq865, pz_wq863, pz_wq864, pz_wq1⟩ (Or.inl ⟨TX11, 14, rfl⟩) (fun a M _ h => by
    have h : (match (generalizing := false) a with | [.inr (.inr (11, th)), .inl i, .inl w] => pz_ic M | _ => False) := h
    split at h
    · exact ⟨_, _, rfl⟩
    · exact h.elim) h1 h2 h3
noncomputable def k3_X12_book : pz_C := (3, 1, fun a M => (match a with | [.inr (.inr (12, th)), .inl i, .inl n] => pz_im M | _ => False), fun a M r M' => (match a, r with | [.inr (.inr (12, th)), .inl i, .inl n], some (.inl v) => (v = if (0 ≤ i ∧ i < M 60 3) ∧ 0 ≤ n ∧ n ≤ 3 then M 60 (241 + (4 * i.toNat + n.toNat)) else -1) ∧ M = M' | _, _ => False))
noncomputable abbrev ct3_X12_book : List (Bool × Nat × pz_C) := [(false, 54, k_X12_isIn)]
set_option maxRecDepth 100000 in
set_option maxHeartbeats 4000000 in
theorem h3_X12_book : pz_H yX12_book cX12_book 3 (some .int) k3_X12_book 1 22 := by
  refine pz_mk (own := RX12) (tb := t_X12_book) (fl := pz_flf fl_RX12) (ci := pz_cif ci_RX12) (ct := pz_ctf ct3_X12_book) (rz := false) (pz_pfc_RX12 yX12_book rfl) rfl t_X12_book_ok (pz_flk fl_RX12_ok) (pz_cik ci_RX12_ok) ?_ ?_ (Or.inl ⟨rfl, rfl⟩) ?_ ?_
  · exact fun i k' h => pz_ctk (l := ct3_X12_book) (P := fun b i k => b = true → pz_cV 1 22 RX12 i k) (List.forall_mem_cons.mpr ⟨((fun z => by cases z)), fun _ h => absurd h List.not_mem_nil⟩) true i k' h rfl
  · exact fun i k' h => pz_ctk (l := ct3_X12_book) (P := fun b i k => b = false → (pz_cS 1 22 RX12 i k ∨ (k = pz_kac ∧ 1 ≤ 1 ∧ 60 ≤ 22 ∧ Cond.methodLink RX12 i arraycopyName ∈ pz_tbl))) (List.forall_mem_cons.mpr ⟨(fun _ => Or.inl (s_X12_isIn (by decide) (by decide) (Or.inl pz_wq1217))), fun _ h => absurd h List.not_mem_nil⟩) false i k' h rfl
  · intro a M hlen hpre
    obtain ⟨th, i, n, rfl, hpre⟩ : ∃ th i n, a = [.inr (.inr (12, th)), .inl i, .inl n] ∧ (pz_im M) := by
      have hpre : (match (generalizing := false) a with | [.inr (.inr (12, th)), .inl i, .inl n] => pz_im M | _ => False) := hpre
      split at hpre
      · exact ⟨_, _, _, rfl, hpre⟩
      · exact hpre.elim
    exact Nat.le_of_ble_eq_true rfl
  · intro a M hlen hcan hM hpre Ok hgo
    obtain ⟨th, i, n, rfl, hpre⟩ : ∃ th i n, a = [.inr (.inr (12, th)), .inl i, .inl n] ∧ (pz_im M) := by
      have hpre : (match (generalizing := false) a with | [.inr (.inr (12, th)), .inl i, .inl n] => pz_im M | _ => False) := hpre
      split at hpre
      · exact ⟨_, _, _, rfl, hpre⟩
      · exact hpre.elim
    obtain ⟨k_th, hc_th⟩ := pz_tlm hcan
    have k_th : pz_kd th = 12 ∧ th < 231 := k_th
    have R_th := pz_kd12 k_th.1
    subst R_th
    clear k_th
    obtain ⟨k_i, hc_i⟩ := pz_tlm hc_th
    have l_i : -2147483648 ≤ i := k_i.1
    have u_i : i ≤ 2147483647 := k_i.2
    obtain ⟨k_n, hc_n⟩ := pz_tlm hc_i
    have l_n : -2147483648 ≤ n := k_n.1
    have u_n : n ≤ 2147483647 := k_n.2
    have hI : pz_im M := hpre
    have I3 := hI.1.2.2.2.2
    refine hgo (fun _ => false) 30 0 _ [] M ?_
    refine pz_nrc (c := 60) rfl ?_
    refine And.intro (by first | decide | omega) (And.intro (show _ < (1725 : Int) from by omega) ?_)
    intro v7 e7 a7 b7
    replace e7 : v7 = M 60 3 := e7
    have I7 : 0 ≤ v7 ∧ v7 ≤ 150 := by
      rw [e7]
      exact hI.1.2.2.2.2
    clear a7 b7
    intro v9 e9 a9 b9
    rw [pz_wi (by first | decide | omega) (by first | decide | omega)] at e9
    clear a9 b9
    refine And.intro (True.intro) ?_
    intro v10 M10 a10 b10 q10
    obtain ⟨q10, z10⟩ := q10
    subst z10
    clear a10 b10
    refine And.intro (fun h13 => ?_) (fun h13 => ?_)
    · skip
      replace q10 := q10.resolve_left (fun z => absurd (z.1.symm.trans h13) (by decide))
      clear h13
      refine And.intro rfl ?_
      refine ⟨?_, rfl⟩
      first
        | (rw [if_neg (fun z => by omega)])
        | (rw [if_pos (by first | decide | omega), e38]
           congr 1
           omega)
    · skip
      replace q10 := q10.resolve_right (fun z => h13 z.1)
      clear h13
      refine And.intro (True.intro) ?_
      intro v19 M19 a19 b19 q19
      obtain ⟨q19, z19⟩ := q19
      subst z19
      clear a19 b19
      refine And.intro (fun h22 => ?_) (fun h22 => ?_)
      · skip
        replace q19 := q19.resolve_left (fun z => absurd (z.1.symm.trans h22) (by decide))
        clear h22
        refine And.intro rfl ?_
        refine ⟨?_, rfl⟩
        first
          | (rw [if_neg (fun z => by omega)])
          | (rw [if_pos (by first | decide | omega), e38]
             congr 1
             omega)
      · skip
        replace q19 := q19.resolve_right (fun z => h22 z.1)
        clear h22
        refine pz_nrc (c := 60) rfl ?_
        intro v34 e34 a34 b34
        rw [pz_wi (by first | decide | omega) (by first | decide | omega)] at e34
        clear a34 b34
        intro v35 e35 a35 b35
        rw [pz_wi (by first | decide | omega) (by first | decide | omega)] at e35
        clear a35 b35
        intro v37 e37 a37 b37
        rw [pz_wi (by first | decide | omega) (by first | decide | omega)] at e37
        clear a37 b37
        have lo38 : (0 : Int) ≤ v37 := by omega
        have tn38 : (((v37).toNat : Nat) : Int) = v37 := Int.toNat_of_nonneg lo38
        refine And.intro (lo38) (And.intro (show _ < (1725 : Int) from by omega) ?_)
        intro v38 e38 a38 b38
        refine And.intro rfl ?_
        refine ⟨?_, rfl⟩
        first
          | (rw [if_neg (fun z => by omega)])
          | (rw [if_pos (by first | decide | omega), e38]
             congr 1
             omega)
theorem v3_X12_book {fr lo i : Nat} {own : String} (h1 : 1 + 1 ≤ fr) (h2 : 8 + (3 + 11) + 22 ≤ lo) (h3 : .methodLink own i yX12_book ∈ lw_tbl) : pz_cV fr lo own i k3_X12_book :=
  pz_cVk (maxL := 3) (fr' := 1) (lo' := 22) 2 12 h3_X12_book rfl ⟨(pz_nhc_RX12 yX12_book rfl).1, (pz_nhc_RX12 yX12_book rfl).2, pz_ds10⟩ ⟨pz_wq1597, pz_wq1595, pz_wq1596, pz_wq13⟩ (Or.inl ⟨TX12, 28, rfl⟩) (fun a M _ h => by
    have h : (match (generalizing := false) a with | [.inr (.inr (12, th)), .inl i, .inl n] => pz_im M | _ => False) := h
    split at h
    · exact ⟨_, _, rfl⟩
    · exact h.elim) h1 h2 h3
noncomputable def k3_X11_look : pz_C := (2, 1, fun a M => (match a with | [.inr (.inr (11, th)), .inl w] => pz_ic M | _ => False), fun a M r M' => (match a, r with | [.inr (.inr (11, th)), .inl w], some (.inl v) => ((w = 0 → v = M 71 3) ∧ (w = 1 → v = M 71 4) ∧ (w = 2 → v = M 71 5) ∧ (w = 3 → sd_q M 71 (fun F => pz_zs v (sd_vn F))) ∧ (w = 4 → sd_q M 71 (fun F => pz_zs v (sd_bn F))) ∧ (w = 5 → sd_q M 71 (fun F => v = if F 88 = 0 then 0 else 1 + pz_cnt (sd_bn F) 12)) ∧ (w = 6 → v = M 71 7) ∧ (w = 7 → v = M 71 6) ∧ (w = 8 → v = M 10 0) ∧ (w = 9 → v = M 13 0) ∧ (w = 10 → v = M 14 0) ∧ (w = 11 → v = M 15 0) ∧ (w = 12 → v = M 3 2) ∧ (¬ (0 ≤ w ∧ w ≤ 12) → v = -1)) ∧ M = M' | _, _ => False))
noncomputable abbrev ct3_X11_look : List (Bool × Nat × pz_C) := [(true, 240, k3_X0_movedOnes), (true, 337, k3_X0_bridgedOnes), (true, 366, k3_X0_parts)]
set_option maxRecDepth 100000 in
set_option maxHeartbeats 4000000 in
theorem h3_X11_look : pz_H yX11_look cX11_look 2 (some .int) k3_X11_look 3 63 := by
  refine pz_mk (own := RX11) (tb := t_X11_look) (fl := pz_flf fl_RX11) (ci := pz_cif ci_RX11) (ct := pz_ctf ct3_X11_look) (rz := false) (pz_pfc_RX11 yX11_look rfl) rfl t_X11_look_ok (pz_flk fl_RX11_ok) (pz_cik ci_RX11_ok) ?_ ?_ (Or.inl ⟨rfl, rfl⟩) ?_ ?_
  · exact fun i k' h => pz_ctk (l := ct3_X11_look) (P := fun b i k => b = true → pz_cV 3 63 RX11 i k) (List.forall_mem_cons.mpr ⟨(fun _ => v3_X0_movedOnes (by decide) (by decide) pz_wq871), List.forall_mem_cons.mpr ⟨(fun _ => v3_X0_bridgedOnes (by decide) (by decide) pz_wq1078), List.forall_mem_cons.mpr ⟨(fun _ => v3_X0_parts (by decide) (by decide) pz_wq1113), fun _ h => absurd h List.not_mem_nil⟩⟩⟩) true i k' h rfl
  · exact fun i k' h => pz_ctk (l := ct3_X11_look) (P := fun b i k => b = false → (pz_cS 3 63 RX11 i k ∨ (k = pz_kac ∧ 1 ≤ 3 ∧ 60 ≤ 63 ∧ Cond.methodLink RX11 i arraycopyName ∈ pz_tbl))) (List.forall_mem_cons.mpr ⟨((fun z => by cases z)), List.forall_mem_cons.mpr ⟨((fun z => by cases z)), List.forall_mem_cons.mpr ⟨((fun z => by cases z)), fun _ h => absurd h List.not_mem_nil⟩⟩⟩) false i k' h rfl
  · intro a M hlen hpre
    obtain ⟨th, w, rfl, hpre⟩ : ∃ th w, a = [.inr (.inr (11, th)), .inl w] ∧ (pz_ic M) := by
      have hpre : (match (generalizing := false) a with | [.inr (.inr (11, th)), .inl w] => pz_ic M | _ => False) := hpre
      split at hpre
      · exact ⟨_, _, rfl, hpre⟩
      · exact hpre.elim
    exact Nat.le_of_ble_eq_true rfl
  · intro a M hlen hcan hM hpre Ok hgo
    obtain ⟨th, w, rfl, hpre⟩ : ∃ th w, a = [.inr (.inr (11, th)), .inl w] ∧ (pz_ic M) := by
      have hpre : (match (generalizing := false) a with | [.inr (.inr (11, th)), .inl w] => pz_ic M | _ => False) := hpre
      split at hpre
      · exact ⟨_, _, rfl, hpre⟩
      · exact hpre.elim
    obtain ⟨k_th, hc_th⟩ := pz_tlm hcan
    have k_th : pz_kd th = 11 ∧ th < 231 := k_th
    have R_th := pz_kd11 k_th.1
    subst R_th
    obtain ⟨k_w, hc_w⟩ := pz_tlm hc_th
    have l_w : -2147483648 ≤ w := k_w.1
    have u_w : w ≤ 2147483647 := k_w.2
    have hI : pz_ic M := hpre
    refine hgo (fun _ => false) 62 0 _ [] M ?_
    refine And.intro ?_ ?_
    · skip
      refine And.intro (fun h1 => ?_) ?_
      · skip
        refine pz_nrc (c := 71) rfl ?_
        intro v72 e72 a72 b72
        have I72 := hI.1 71 (by first | decide | omega) (by first | decide | omega)
        refine And.intro rfl ?_
        exact ⟨⟨fun _ => e72, fun y => absurd y (by first | decide | omega), fun y => absurd y (by first | decide | omega), fun y => absurd y (by first | decide | omega), fun y => absurd y (by first | decide | omega), fun y => absurd y (by first | decide | omega), fun y => absurd y (by first | decide | omega), fun y => absurd y (by first | decide | omega), fun y => absurd y (by first | decide | omega), fun y => absurd y (by first | decide | omega), fun y => absurd y (by first | decide | omega), fun y => absurd y (by first | decide | omega), fun y => absurd y (by first | decide | omega), fun y => absurd ⟨by omega, by omega⟩ y⟩, rfl⟩
      refine And.intro (fun h1 => ?_) ?_
      · skip
        refine pz_nrc (c := 71) rfl ?_
        intro v80 e80 a80 b80
        refine And.intro rfl ?_
        exact ⟨⟨fun y => absurd y (by first | decide | omega), fun _ => e80, fun y => absurd y (by first | decide | omega), fun y => absurd y (by first | decide | omega), fun y => absurd y (by first | decide | omega), fun y => absurd y (by first | decide | omega), fun y => absurd y (by first | decide | omega), fun y => absurd y (by first | decide | omega), fun y => absurd y (by first | decide | omega), fun y => absurd y (by first | decide | omega), fun y => absurd y (by first | decide | omega), fun y => absurd y (by first | decide | omega), fun y => absurd y (by first | decide | omega), fun y => absurd ⟨by omega, by omega⟩ y⟩, rfl⟩
      refine And.intro (fun h1 => ?_) ?_
      · skip
        refine pz_nrc (c := 71) rfl ?_
        intro v88 e88 a88 b88
        refine And.intro rfl ?_
        exact ⟨⟨fun y => absurd y (by first | decide | omega), fun y => absurd y (by first | decide | omega), fun _ => e88, fun y => absurd y (by first | decide | omega), fun y => absurd y (by first | decide | omega), fun y => absurd y (by first | decide | omega), fun y => absurd y (by first | decide | omega), fun y => absurd y (by first | decide | omega), fun y => absurd y (by first | decide | omega), fun y => absurd y (by first | decide | omega), fun y => absurd y (by first | decide | omega), fun y => absurd y (by first | decide | omega), fun y => absurd y (by first | decide | omega), fun y => absurd ⟨by omega, by omega⟩ y⟩, rfl⟩
      refine And.intro (fun h1 => ?_) ?_
      · skip
        refine pz_nrc (c := 71) rfl ?_
        refine And.intro (hI) ?_
        intro v96 M96 a96 b96 q96
        obtain ⟨q96, z96⟩ := q96
        subst z96
        refine And.intro rfl ?_
        exact ⟨⟨fun y => absurd y (by first | decide | omega), fun y => absurd y (by first | decide | omega), fun y => absurd y (by first | decide | omega), fun _ => q96, fun y => absurd y (by first | decide | omega), fun y => absurd y (by first | decide | omega), fun y => absurd y (by first | decide | omega), fun y => absurd y (by first | decide | omega), fun y => absurd y (by first | decide | omega), fun y => absurd y (by first | decide | omega), fun y => absurd y (by first | decide | omega), fun y => absurd y (by first | decide | omega), fun y => absurd y (by first | decide | omega), fun y => absurd ⟨by omega, by omega⟩ y⟩, rfl⟩
      refine And.intro (fun h1 => ?_) ?_
      · skip
        refine pz_nrc (c := 71) rfl ?_
        refine And.intro (hI) ?_
        intro v104 M104 a104 b104 q104
        obtain ⟨q104, z104⟩ := q104
        subst z104
        refine And.intro rfl ?_
        exact ⟨⟨fun y => absurd y (by first | decide | omega), fun y => absurd y (by first | decide | omega), fun y => absurd y (by first | decide | omega), fun y => absurd y (by first | decide | omega), fun _ => q104, fun y => absurd y (by first | decide | omega), fun y => absurd y (by first | decide | omega), fun y => absurd y (by first | decide | omega), fun y => absurd y (by first | decide | omega), fun y => absurd y (by first | decide | omega), fun y => absurd y (by first | decide | omega), fun y => absurd y (by first | decide | omega), fun y => absurd y (by first | decide | omega), fun y => absurd ⟨by omega, by omega⟩ y⟩, rfl⟩
      refine And.intro (fun h1 => ?_) ?_
      · skip
        refine pz_nrc (c := 71) rfl ?_
        refine And.intro (hI) ?_
        intro v112 M112 a112 b112 q112
        obtain ⟨q112, z112⟩ := q112
        subst z112
        refine And.intro rfl ?_
        exact ⟨⟨fun y => absurd y (by first | decide | omega), fun y => absurd y (by first | decide | omega), fun y => absurd y (by first | decide | omega), fun y => absurd y (by first | decide | omega), fun y => absurd y (by first | decide | omega), fun _ => q112, fun y => absurd y (by first | decide | omega), fun y => absurd y (by first | decide | omega), fun y => absurd y (by first | decide | omega), fun y => absurd y (by first | decide | omega), fun y => absurd y (by first | decide | omega), fun y => absurd y (by first | decide | omega), fun y => absurd y (by first | decide | omega), fun y => absurd ⟨by omega, by omega⟩ y⟩, rfl⟩
      refine And.intro (fun h1 => ?_) ?_
      · skip
        refine pz_nrc (c := 71) rfl ?_
        intro v120 e120 a120 b120
        have I120 := hI.1 71 (by first | decide | omega) (by first | decide | omega)
        refine And.intro rfl ?_
        exact ⟨⟨fun y => absurd y (by first | decide | omega), fun y => absurd y (by first | decide | omega), fun y => absurd y (by first | decide | omega), fun y => absurd y (by first | decide | omega), fun y => absurd y (by first | decide | omega), fun y => absurd y (by first | decide | omega), fun _ => e120, fun y => absurd y (by first | decide | omega), fun y => absurd y (by first | decide | omega), fun y => absurd y (by first | decide | omega), fun y => absurd y (by first | decide | omega), fun y => absurd y (by first | decide | omega), fun y => absurd y (by first | decide | omega), fun y => absurd ⟨by omega, by omega⟩ y⟩, rfl⟩
      refine And.intro (fun h1 => ?_) ?_
      · skip
        refine pz_nrc (c := 71) rfl ?_
        intro v128 e128 a128 b128
        refine And.intro rfl ?_
        exact ⟨⟨fun y => absurd y (by first | decide | omega), fun y => absurd y (by first | decide | omega), fun y => absurd y (by first | decide | omega), fun y => absurd y (by first | decide | omega), fun y => absurd y (by first | decide | omega), fun y => absurd y (by first | decide | omega), fun y => absurd y (by first | decide | omega), fun _ => e128, fun y => absurd y (by first | decide | omega), fun y => absurd y (by first | decide | omega), fun y => absurd y (by first | decide | omega), fun y => absurd y (by first | decide | omega), fun y => absurd y (by first | decide | omega), fun y => absurd ⟨by omega, by omega⟩ y⟩, rfl⟩
      refine And.intro (fun h1 => ?_) ?_
      · skip
        refine pz_nrc (c := 8) rfl ?_
        intro r136 e136 k136
        have R136 := pz_kd3 k136
        intro v139 e139 a139 b139
        have I139 := hI.2.2.2.1 r136 (by first | decide | omega) (by first | decide | omega)
        refine And.intro rfl ?_
        exact ⟨⟨fun y => absurd y (by first | decide | omega), fun y => absurd y (by first | decide | omega), fun y => absurd y (by first | decide | omega), fun y => absurd y (by first | decide | omega), fun y => absurd y (by first | decide | omega), fun y => absurd y (by first | decide | omega), fun y => absurd y (by first | decide | omega), fun y => absurd y (by first | decide | omega), fun _ => (by rw [e139, e136]; rfl), fun y => absurd y (by first | decide | omega), fun y => absurd y (by first | decide | omega), fun y => absurd y (by first | decide | omega), fun y => absurd y (by first | decide | omega), fun y => absurd ⟨by omega, by omega⟩ y⟩, rfl⟩
      refine And.intro (fun h1 => ?_) ?_
      · skip
        refine pz_nrc (c := 8) rfl ?_
        intro r147 e147 k147
        have R147 := pz_kd6 k147
        intro v150 e150 a150 b150
        have I150 := hI.2.2.1 r147 (by first | decide | omega) (by first | decide | omega)
        refine And.intro rfl ?_
        exact ⟨⟨fun y => absurd y (by first | decide | omega), fun y => absurd y (by first | decide | omega), fun y => absurd y (by first | decide | omega), fun y => absurd y (by first | decide | omega), fun y => absurd y (by first | decide | omega), fun y => absurd y (by first | decide | omega), fun y => absurd y (by first | decide | omega), fun y => absurd y (by first | decide | omega), fun y => absurd y (by first | decide | omega), fun _ => (by rw [e150, e147]; rfl), fun y => absurd y (by first | decide | omega), fun y => absurd y (by first | decide | omega), fun y => absurd y (by first | decide | omega), fun y => absurd ⟨by omega, by omega⟩ y⟩, rfl⟩
      refine And.intro (fun h1 => ?_) ?_
      · skip
        refine pz_nrc (c := 8) rfl ?_
        intro r158 e158 k158
        have R158 := pz_kd6 k158
        intro v161 e161 a161 b161
        have I161 := hI.2.2.1 r158 (by first | decide | omega) (by first | decide | omega)
        refine And.intro rfl ?_
        exact ⟨⟨fun y => absurd y (by first | decide | omega), fun y => absurd y (by first | decide | omega), fun y => absurd y (by first | decide | omega), fun y => absurd y (by first | decide | omega), fun y => absurd y (by first | decide | omega), fun y => absurd y (by first | decide | omega), fun y => absurd y (by first | decide | omega), fun y => absurd y (by first | decide | omega), fun y => absurd y (by first | decide | omega), fun y => absurd y (by first | decide | omega), fun _ => (by rw [e161, e158]; rfl), fun y => absurd y (by first | decide | omega), fun y => absurd y (by first | decide | omega), fun y => absurd ⟨by omega, by omega⟩ y⟩, rfl⟩
      refine And.intro (fun h1 => ?_) ?_
      · skip
        refine pz_nrc (c := 8) rfl ?_
        intro r169 e169 k169
        have R169 := pz_kd6 k169
        intro v172 e172 a172 b172
        have I172 := hI.2.2.1 r169 (by first | decide | omega) (by first | decide | omega)
        refine And.intro rfl ?_
        exact ⟨⟨fun y => absurd y (by first | decide | omega), fun y => absurd y (by first | decide | omega), fun y => absurd y (by first | decide | omega), fun y => absurd y (by first | decide | omega), fun y => absurd y (by first | decide | omega), fun y => absurd y (by first | decide | omega), fun y => absurd y (by first | decide | omega), fun y => absurd y (by first | decide | omega), fun y => absurd y (by first | decide | omega), fun y => absurd y (by first | decide | omega), fun y => absurd y (by first | decide | omega), fun _ => (by rw [e172, e169]; rfl), fun y => absurd y (by first | decide | omega), fun y => absurd ⟨by omega, by omega⟩ y⟩, rfl⟩
      refine And.intro (fun h1 => ?_) ?_
      · skip
        refine pz_nrc (c := 3) rfl ?_
        intro v180 e180 a180 b180
        refine And.intro rfl ?_
        exact ⟨⟨fun y => absurd y (by first | decide | omega), fun y => absurd y (by first | decide | omega), fun y => absurd y (by first | decide | omega), fun y => absurd y (by first | decide | omega), fun y => absurd y (by first | decide | omega), fun y => absurd y (by first | decide | omega), fun y => absurd y (by first | decide | omega), fun y => absurd y (by first | decide | omega), fun y => absurd y (by first | decide | omega), fun y => absurd y (by first | decide | omega), fun y => absurd y (by first | decide | omega), fun y => absurd y (by first | decide | omega), fun _ => e180, fun y => absurd ⟨by omega, by omega⟩ y⟩, rfl⟩
      exact True.intro
    · intro h1
      refine And.intro rfl ?_
      exact ⟨⟨fun y => absurd y (by first | decide | omega), fun y => absurd y (by first | decide | omega), fun y => absurd y (by first | decide | omega), fun y => absurd y (by first | decide | omega), fun y => absurd y (by first | decide | omega), fun y => absurd y (by first | decide | omega), fun y => absurd y (by first | decide | omega), fun y => absurd y (by first | decide | omega), fun y => absurd y (by first | decide | omega), fun y => absurd y (by first | decide | omega), fun y => absurd y (by first | decide | omega), fun y => absurd y (by first | decide | omega), fun y => absurd y (by first | decide | omega), fun _ => rfl⟩, rfl⟩
theorem v3_X11_look {fr lo i : Nat} {own : String} (h1 : 3 + 1 ≤ fr) (h2 : 8 + (2 + 11) + 63 ≤ lo) (h3 : .methodLink own i yX11_look ∈ lw_tbl) : pz_cV fr lo own i k3_X11_look :=
  pz_cVk (maxL := 2) (fr' := 3) (lo' := 63) 1 11 h3_X11_look rfl ⟨(pz_nhc_RX11 yX11_look rfl).1, (pz_nhc_RX11 yX11_look rfl).2, pz_ds5⟩ ⟨pz_wq1112, pz_wq1110, pz_wq1111, pz_wq1⟩ (Or.inl ⟨TX11, 14, rfl⟩) (fun a M _ h => by
    have h : (match (generalizing := false) a with | [.inr (.inr (11, th)), .inl w] => pz_ic M | _ => False) := h
    split at h
    · exact ⟨_, _, rfl⟩
    · exact h.elim) h1 h2 h3
noncomputable def k3_X12_look : pz_C := (2, 1, fun a M => (match a with | [.inr (.inr (12, th)), .inl w] => pz_im M | _ => False), fun a M r M' => (match a, r with | [.inr (.inr (12, th)), .inl w], some (.inl v) => ((w = 0 → v = M 60 88) ∧ (w = 1 → v = M 60 0) ∧ (w = 2 → v = M 60 1) ∧ (w = 3 → pz_zs v (sd_vn (M 60))) ∧ (w = 4 → pz_zs v (sd_bn (M 60))) ∧ (w = 5 → v = if M 60 88 = 0 then 0 else 1 + pz_cnt (sd_bn (M 60)) 12) ∧ (w = 6 → v = M 60 3) ∧ (w = 7 → v = M 60 2) ∧ (w = 8 → v = M 60 89) ∧ (w = 9 → v = M 60 90) ∧ (w = 10 → v = M 60 91) ∧ (w = 11 → v = M 60 92) ∧ (w = 12 → v = M 1 4) ∧ (¬ (0 ≤ w ∧ w ≤ 12) → v = -1)) ∧ M = M' | _, _ => False))
noncomputable abbrev ct3_X12_look : List (Bool × Nat × pz_C) := [(true, 395, k3_X12_movedOnes), (true, 291, k3_X12_bridgedOnes), (false, 398, k3_X12_count)]
set_option maxRecDepth 100000 in
set_option maxHeartbeats 4000000 in
theorem h3_X12_look : pz_H yX12_look cX12_look 2 (some .int) k3_X12_look 2 43 := by
  refine pz_mk (own := RX12) (tb := t_X12_look) (fl := pz_flf fl_RX12) (ci := pz_cif ci_RX12) (ct := pz_ctf ct3_X12_look) (rz := false) (pz_pfc_RX12 yX12_look rfl) rfl t_X12_look_ok (pz_flk fl_RX12_ok) (pz_cik ci_RX12_ok) ?_ ?_ (Or.inl ⟨rfl, rfl⟩) ?_ ?_
  · exact fun i k' h => pz_ctk (l := ct3_X12_look) (P := fun b i k => b = true → pz_cV 2 43 RX12 i k) (List.forall_mem_cons.mpr ⟨(fun _ => v3_X12_movedOnes (by decide) (by decide) pz_wq1602), List.forall_mem_cons.mpr ⟨(fun _ => v3_X12_bridgedOnes (by decide) (by decide) pz_wq1454), List.forall_mem_cons.mpr ⟨((fun z => by cases z)), fun _ h => absurd h List.not_mem_nil⟩⟩⟩) true i k' h rfl
  · exact fun i k' h => pz_ctk (l := ct3_X12_look) (P := fun b i k => b = false → (pz_cS 2 43 RX12 i k ∨ (k = pz_kac ∧ 1 ≤ 2 ∧ 60 ≤ 43 ∧ Cond.methodLink RX12 i arraycopyName ∈ pz_tbl))) (List.forall_mem_cons.mpr ⟨((fun z => by cases z)), List.forall_mem_cons.mpr ⟨((fun z => by cases z)), List.forall_mem_cons.mpr ⟨(fun _ => Or.inl (s3_X12_count (by decide) (by decide) (Or.inl pz_wq1606))), fun _ h => absurd h List.not_mem_nil⟩⟩⟩) false i k' h rfl
  · intro a M hlen hpre
    obtain ⟨th, w, rfl, hpre⟩ : ∃ th w, a = [.inr (.inr (12, th)), .inl w] ∧ (pz_im M) := by
      have hpre : (match (generalizing := false) a with | [.inr (.inr (12, th)), .inl w] => pz_im M | _ => False) := hpre
      split at hpre
      · exact ⟨_, _, rfl, hpre⟩
      · exact hpre.elim
    exact Nat.le_of_ble_eq_true rfl
  · intro a M hlen hcan hM hpre Ok hgo
    obtain ⟨th, w, rfl, hpre⟩ : ∃ th w, a = [.inr (.inr (12, th)), .inl w] ∧ (pz_im M) := by
      have hpre : (match (generalizing := false) a with | [.inr (.inr (12, th)), .inl w] => pz_im M | _ => False) := hpre
      split at hpre
      · exact ⟨_, _, rfl, hpre⟩
      · exact hpre.elim
    obtain ⟨k_th, hc_th⟩ := pz_tlm hcan
    have k_th : pz_kd th = 12 ∧ th < 231 := k_th
    have R_th := pz_kd12 k_th.1
    subst R_th
    clear k_th
    obtain ⟨k_w, hc_w⟩ := pz_tlm hc_th
    have l_w : -2147483648 ≤ w := k_w.1
    have u_w : w ≤ 2147483647 := k_w.2
    have hI : pz_im M := hpre
    refine hgo (fun _ => false) 73 0 _ [] M ?_
    refine And.intro ?_ ?_
    · skip
      refine And.intro (fun h1 => ?_) ?_
      · skip
        refine pz_nrc (c := 60) rfl ?_
        refine And.intro (by first | decide | omega) (And.intro (show _ < (1725 : Int) from by omega) ?_)
        intro v74 e74 a74 b74
        replace e74 : v74 = M 60 88 := e74
        have I74 : 0 ≤ v74 ∧ v74 ≤ 12 := by
          rw [e74]
          exact hI.1.1
        clear a74 b74
        refine And.intro rfl ?_
        exact ⟨⟨fun _ => e74, fun y => absurd y (by first | decide | omega), fun y => absurd y (by first | decide | omega), fun y => absurd y (by first | decide | omega), fun y => absurd y (by first | decide | omega), fun y => absurd y (by first | decide | omega), fun y => absurd y (by first | decide | omega), fun y => absurd y (by first | decide | omega), fun y => absurd y (by first | decide | omega), fun y => absurd y (by first | decide | omega), fun y => absurd y (by first | decide | omega), fun y => absurd y (by first | decide | omega), fun y => absurd y (by first | decide | omega), fun y => absurd ⟨by omega, by omega⟩ y⟩, rfl⟩
      refine And.intro (fun h1 => ?_) ?_
      · skip
        refine pz_nrc (c := 60) rfl ?_
        refine And.intro (by first | decide | omega) (And.intro (show _ < (1725 : Int) from by omega) ?_)
        intro v81 e81 a81 b81
        replace e81 : v81 = M 60 0 := e81
        refine And.intro rfl ?_
        exact ⟨⟨fun y => absurd y (by first | decide | omega), fun _ => e81, fun y => absurd y (by first | decide | omega), fun y => absurd y (by first | decide | omega), fun y => absurd y (by first | decide | omega), fun y => absurd y (by first | decide | omega), fun y => absurd y (by first | decide | omega), fun y => absurd y (by first | decide | omega), fun y => absurd y (by first | decide | omega), fun y => absurd y (by first | decide | omega), fun y => absurd y (by first | decide | omega), fun y => absurd y (by first | decide | omega), fun y => absurd y (by first | decide | omega), fun y => absurd ⟨by omega, by omega⟩ y⟩, rfl⟩
      refine And.intro (fun h1 => ?_) ?_
      · skip
        refine pz_nrc (c := 60) rfl ?_
        refine And.intro (by first | decide | omega) (And.intro (show _ < (1725 : Int) from by omega) ?_)
        intro v88 e88 a88 b88
        replace e88 : v88 = M 60 1 := e88
        refine And.intro rfl ?_
        exact ⟨⟨fun y => absurd y (by first | decide | omega), fun y => absurd y (by first | decide | omega), fun _ => e88, fun y => absurd y (by first | decide | omega), fun y => absurd y (by first | decide | omega), fun y => absurd y (by first | decide | omega), fun y => absurd y (by first | decide | omega), fun y => absurd y (by first | decide | omega), fun y => absurd y (by first | decide | omega), fun y => absurd y (by first | decide | omega), fun y => absurd y (by first | decide | omega), fun y => absurd y (by first | decide | omega), fun y => absurd y (by first | decide | omega), fun y => absurd ⟨by omega, by omega⟩ y⟩, rfl⟩
      refine And.intro (fun h1 => ?_) ?_
      · skip
        refine And.intro (hI) ?_
        intro v91 M91 a91 b91 q91
        obtain ⟨q91, z91⟩ := q91
        subst z91
        refine And.intro rfl ?_
        exact ⟨⟨fun y => absurd y (by first | decide | omega), fun y => absurd y (by first | decide | omega), fun y => absurd y (by first | decide | omega), fun _ => q91, fun y => absurd y (by first | decide | omega), fun y => absurd y (by first | decide | omega), fun y => absurd y (by first | decide | omega), fun y => absurd y (by first | decide | omega), fun y => absurd y (by first | decide | omega), fun y => absurd y (by first | decide | omega), fun y => absurd y (by first | decide | omega), fun y => absurd y (by first | decide | omega), fun y => absurd y (by first | decide | omega), fun y => absurd ⟨by omega, by omega⟩ y⟩, rfl⟩
      refine And.intro (fun h1 => ?_) ?_
      · skip
        refine And.intro (hI) ?_
        intro v96 M96 a96 b96 q96
        obtain ⟨q96, z96⟩ := q96
        subst z96
        refine And.intro rfl ?_
        exact ⟨⟨fun y => absurd y (by first | decide | omega), fun y => absurd y (by first | decide | omega), fun y => absurd y (by first | decide | omega), fun y => absurd y (by first | decide | omega), fun _ => q96, fun y => absurd y (by first | decide | omega), fun y => absurd y (by first | decide | omega), fun y => absurd y (by first | decide | omega), fun y => absurd y (by first | decide | omega), fun y => absurd y (by first | decide | omega), fun y => absurd y (by first | decide | omega), fun y => absurd y (by first | decide | omega), fun y => absurd y (by first | decide | omega), fun y => absurd ⟨by omega, by omega⟩ y⟩, rfl⟩
      refine And.intro (fun h1 => ?_) ?_
      · skip
        refine pz_nrc (c := 60) rfl ?_
        refine And.intro (by first | decide | omega) (And.intro (show _ < (1725 : Int) from by omega) ?_)
        intro v106 e106 a106 b106
        replace e106 : v106 = M 60 88 := e106
        have I106 : 0 ≤ v106 ∧ v106 ≤ 12 := by
          rw [e106]
          exact hI.1.1
        clear a106 b106
        refine And.intro (fun h107 => ?_) (fun h107 => ?_)
        · skip
          replace h107 : 1 ≤ v106 := by omega
          refine And.intro (hI) ?_
          intro v116 M116 a116 b116 q116
          obtain ⟨q116, z116⟩ := q116
          subst z116
          skip
          refine And.intro (True.intro) ?_
          intro v119 M119 a119 b119 q119
          obtain ⟨q119, z119⟩ := q119
          subst z119
          intro v122 e122 a122 b122
          refine And.intro rfl ?_
          first
            | exact ⟨⟨fun y => absurd y (by first | decide | omega), fun y => absurd y (by first | decide | omega), fun y => absurd y (by first | decide | omega), fun y => absurd y (by first | decide | omega), fun y => absurd y (by first | decide | omega), fun _ => (by rw [if_pos (by first | decide | omega)]), fun y => absurd y (by first | decide | omega), fun y => absurd y (by first | decide | omega), fun y => absurd y (by first | decide | omega), fun y => absurd y (by first | decide | omega), fun y => absurd y (by first | decide | omega), fun y => absurd y (by first | decide | omega), fun y => absurd y (by first | decide | omega), fun y => absurd ⟨by omega, by omega⟩ y⟩, rfl⟩
            | (have z := q119 _ q116
               have b := pz_cnt_b (f := sd_bn (M 60)) 12
               rw [pz_wi (by first | decide | omega) (by first | decide | omega)] at e122
               exact ⟨⟨fun y => absurd y (by first | decide | omega), fun y => absurd y (by first | decide | omega), fun y => absurd y (by first | decide | omega), fun y => absurd y (by first | decide | omega), fun y => absurd y (by first | decide | omega), fun _ => (by rw [if_neg (by first | decide | omega)]; omega), fun y => absurd y (by first | decide | omega), fun y => absurd y (by first | decide | omega), fun y => absurd y (by first | decide | omega), fun y => absurd y (by first | decide | omega), fun y => absurd y (by first | decide | omega), fun y => absurd y (by first | decide | omega), fun y => absurd y (by first | decide | omega), fun y => absurd ⟨by omega, by omega⟩ y⟩, rfl⟩)
        · skip
          refine And.intro rfl ?_
          first
            | exact ⟨⟨fun y => absurd y (by first | decide | omega), fun y => absurd y (by first | decide | omega), fun y => absurd y (by first | decide | omega), fun y => absurd y (by first | decide | omega), fun y => absurd y (by first | decide | omega), fun _ => (by rw [if_pos (by first | decide | omega)]), fun y => absurd y (by first | decide | omega), fun y => absurd y (by first | decide | omega), fun y => absurd y (by first | decide | omega), fun y => absurd y (by first | decide | omega), fun y => absurd y (by first | decide | omega), fun y => absurd y (by first | decide | omega), fun y => absurd y (by first | decide | omega), fun y => absurd ⟨by omega, by omega⟩ y⟩, rfl⟩
            | (have z := q119 _ q116
               have b := pz_cnt_b (f := sd_bn (M 60)) 12
               rw [pz_wi (by first | decide | omega) (by first | decide | omega)] at e122
               exact ⟨⟨fun y => absurd y (by first | decide | omega), fun y => absurd y (by first | decide | omega), fun y => absurd y (by first | decide | omega), fun y => absurd y (by first | decide | omega), fun y => absurd y (by first | decide | omega), fun _ => (by rw [if_neg (by first | decide | omega)]; omega), fun y => absurd y (by first | decide | omega), fun y => absurd y (by first | decide | omega), fun y => absurd y (by first | decide | omega), fun y => absurd y (by first | decide | omega), fun y => absurd y (by first | decide | omega), fun y => absurd y (by first | decide | omega), fun y => absurd y (by first | decide | omega), fun y => absurd ⟨by omega, by omega⟩ y⟩, rfl⟩)
      refine And.intro (fun h1 => ?_) ?_
      · skip
        refine pz_nrc (c := 60) rfl ?_
        refine And.intro (by first | decide | omega) (And.intro (show _ < (1725 : Int) from by omega) ?_)
        intro v129 e129 a129 b129
        replace e129 : v129 = M 60 3 := e129
        have I129 : 0 ≤ v129 ∧ v129 ≤ 150 := by
          rw [e129]
          exact hI.1.2.2.2.2
        clear a129 b129
        refine And.intro rfl ?_
        exact ⟨⟨fun y => absurd y (by first | decide | omega), fun y => absurd y (by first | decide | omega), fun y => absurd y (by first | decide | omega), fun y => absurd y (by first | decide | omega), fun y => absurd y (by first | decide | omega), fun y => absurd y (by first | decide | omega), fun _ => e129, fun y => absurd y (by first | decide | omega), fun y => absurd y (by first | decide | omega), fun y => absurd y (by first | decide | omega), fun y => absurd y (by first | decide | omega), fun y => absurd y (by first | decide | omega), fun y => absurd y (by first | decide | omega), fun y => absurd ⟨by omega, by omega⟩ y⟩, rfl⟩
      refine And.intro (fun h1 => ?_) ?_
      · skip
        refine pz_nrc (c := 60) rfl ?_
        refine And.intro (by first | decide | omega) (And.intro (show _ < (1725 : Int) from by omega) ?_)
        intro v136 e136 a136 b136
        replace e136 : v136 = M 60 2 := e136
        refine And.intro rfl ?_
        exact ⟨⟨fun y => absurd y (by first | decide | omega), fun y => absurd y (by first | decide | omega), fun y => absurd y (by first | decide | omega), fun y => absurd y (by first | decide | omega), fun y => absurd y (by first | decide | omega), fun y => absurd y (by first | decide | omega), fun y => absurd y (by first | decide | omega), fun _ => e136, fun y => absurd y (by first | decide | omega), fun y => absurd y (by first | decide | omega), fun y => absurd y (by first | decide | omega), fun y => absurd y (by first | decide | omega), fun y => absurd y (by first | decide | omega), fun y => absurd ⟨by omega, by omega⟩ y⟩, rfl⟩
      refine And.intro (fun h1 => ?_) ?_
      · skip
        refine pz_nrc (c := 60) rfl ?_
        refine And.intro (by first | decide | omega) (And.intro (show _ < (1725 : Int) from by omega) ?_)
        intro v144 e144 a144 b144
        replace e144 : v144 = M 60 89 := e144
        have I144 : 0 ≤ v144 ∧ v144 ≤ 16 := by
          rw [e144]
          exact hI.1.2.1
        clear a144 b144
        refine And.intro rfl ?_
        exact ⟨⟨fun y => absurd y (by first | decide | omega), fun y => absurd y (by first | decide | omega), fun y => absurd y (by first | decide | omega), fun y => absurd y (by first | decide | omega), fun y => absurd y (by first | decide | omega), fun y => absurd y (by first | decide | omega), fun y => absurd y (by first | decide | omega), fun y => absurd y (by first | decide | omega), fun _ => e144, fun y => absurd y (by first | decide | omega), fun y => absurd y (by first | decide | omega), fun y => absurd y (by first | decide | omega), fun y => absurd y (by first | decide | omega), fun y => absurd ⟨by omega, by omega⟩ y⟩, rfl⟩
      refine And.intro (fun h1 => ?_) ?_
      · skip
        refine pz_nrc (c := 60) rfl ?_
        refine And.intro (by first | decide | omega) (And.intro (show _ < (1725 : Int) from by omega) ?_)
        intro v152 e152 a152 b152
        replace e152 : v152 = M 60 90 := e152
        have I152 : 0 ≤ v152 ∧ v152 ≤ 16 := by
          rw [e152]
          exact hI.1.2.2.1
        clear a152 b152
        refine And.intro rfl ?_
        exact ⟨⟨fun y => absurd y (by first | decide | omega), fun y => absurd y (by first | decide | omega), fun y => absurd y (by first | decide | omega), fun y => absurd y (by first | decide | omega), fun y => absurd y (by first | decide | omega), fun y => absurd y (by first | decide | omega), fun y => absurd y (by first | decide | omega), fun y => absurd y (by first | decide | omega), fun y => absurd y (by first | decide | omega), fun _ => e152, fun y => absurd y (by first | decide | omega), fun y => absurd y (by first | decide | omega), fun y => absurd y (by first | decide | omega), fun y => absurd ⟨by omega, by omega⟩ y⟩, rfl⟩
      refine And.intro (fun h1 => ?_) ?_
      · skip
        refine pz_nrc (c := 60) rfl ?_
        refine And.intro (by first | decide | omega) (And.intro (show _ < (1725 : Int) from by omega) ?_)
        intro v160 e160 a160 b160
        replace e160 : v160 = M 60 91 := e160
        refine And.intro rfl ?_
        exact ⟨⟨fun y => absurd y (by first | decide | omega), fun y => absurd y (by first | decide | omega), fun y => absurd y (by first | decide | omega), fun y => absurd y (by first | decide | omega), fun y => absurd y (by first | decide | omega), fun y => absurd y (by first | decide | omega), fun y => absurd y (by first | decide | omega), fun y => absurd y (by first | decide | omega), fun y => absurd y (by first | decide | omega), fun y => absurd y (by first | decide | omega), fun _ => e160, fun y => absurd y (by first | decide | omega), fun y => absurd y (by first | decide | omega), fun y => absurd ⟨by omega, by omega⟩ y⟩, rfl⟩
      refine And.intro (fun h1 => ?_) ?_
      · skip
        refine pz_nrc (c := 60) rfl ?_
        refine And.intro (by first | decide | omega) (And.intro (show _ < (1725 : Int) from by omega) ?_)
        intro v168 e168 a168 b168
        replace e168 : v168 = M 60 92 := e168
        have I168 : 0 ≤ v168 ∧ v168 ≤ 16 := by
          rw [e168]
          exact hI.1.2.2.2.1
        clear a168 b168
        refine And.intro rfl ?_
        exact ⟨⟨fun y => absurd y (by first | decide | omega), fun y => absurd y (by first | decide | omega), fun y => absurd y (by first | decide | omega), fun y => absurd y (by first | decide | omega), fun y => absurd y (by first | decide | omega), fun y => absurd y (by first | decide | omega), fun y => absurd y (by first | decide | omega), fun y => absurd y (by first | decide | omega), fun y => absurd y (by first | decide | omega), fun y => absurd y (by first | decide | omega), fun y => absurd y (by first | decide | omega), fun _ => e168, fun y => absurd y (by first | decide | omega), fun y => absurd ⟨by omega, by omega⟩ y⟩, rfl⟩
      refine And.intro (fun h1 => ?_) ?_
      · skip
        intro v171 e171 a171 b171
        have I171 : 0 ≤ v171 ∧ v171 ≤ 6 := by
          rw [e171]
          exact hI.2.1.1
        clear a171 b171
        have N171 := hI.2.1.1
        refine And.intro rfl ?_
        exact ⟨⟨fun y => absurd y (by first | decide | omega), fun y => absurd y (by first | decide | omega), fun y => absurd y (by first | decide | omega), fun y => absurd y (by first | decide | omega), fun y => absurd y (by first | decide | omega), fun y => absurd y (by first | decide | omega), fun y => absurd y (by first | decide | omega), fun y => absurd y (by first | decide | omega), fun y => absurd y (by first | decide | omega), fun y => absurd y (by first | decide | omega), fun y => absurd y (by first | decide | omega), fun y => absurd y (by first | decide | omega), fun _ => e171, fun y => absurd ⟨by omega, by omega⟩ y⟩, rfl⟩
      exact True.intro
    · intro h1
      refine And.intro rfl ?_
      exact ⟨⟨fun y => absurd y (by first | decide | omega), fun y => absurd y (by first | decide | omega), fun y => absurd y (by first | decide | omega), fun y => absurd y (by first | decide | omega), fun y => absurd y (by first | decide | omega), fun y => absurd y (by first | decide | omega), fun y => absurd y (by first | decide | omega), fun y => absurd y (by first | decide | omega), fun y => absurd y (by first | decide | omega), fun y => absurd y (by first | decide | omega), fun y => absurd y (by first | decide | omega), fun y => absurd y (by first | decide | omega), fun y => absurd y (by first | decide | omega), fun _ => rfl⟩, rfl⟩
theorem v3_X12_look {fr lo i : Nat} {own : String} (h1 : 2 + 1 ≤ fr) (h2 : 8 + (2 + 11) + 43 ≤ lo) (h3 : .methodLink own i yX12_look ∈ lw_tbl) : pz_cV fr lo own i k3_X12_look :=
  pz_cVk (maxL := 2) (fr' := 2) (lo' := 43) 1 12 h3_X12_look rfl ⟨(pz_nhc_RX12 yX12_look rfl).1, (pz_nhc_RX12 yX12_look rfl).2, pz_ds5⟩ ⟨pz_wq1764, pz_wq1762, pz_wq1763, pz_wq13⟩ (Or.inl ⟨TX12, 28, rfl⟩) (fun a M _ h => by
    have h : (match (generalizing := false) a with | [.inr (.inr (12, th)), .inl w] => pz_im M | _ => False) := h
    split at h
    · exact ⟨_, _, rfl⟩
    · exact h.elim) h1 h2 h3
end
section
/-! what only looks -/
def sd_wc (M : pz_M) (v : Int) (f : List pz_lne → (Nat → Int) → Int) : Prop := ∀ (ls : List pz_lne) (l1 : List (List Int)) (F : Nat → Int), sd_tx M ls l1 → sd_se M 71 F → sd_wf F → v = f ls F
def sd_wm (M : pz_M) (v : Int) (f : List pz_lne → (Nat → Int) → Int) : Prop := ∀ ls : List pz_lne, pq_wlw ls (M 60) → (∀ q ∈ ls, pv_ln q) → sd_wf (M 60) → v = f ls (M 60)
theorem pz_RZ_w {M M1 : pz_M} {v v' : Int} {f : List pz_lne → (Nat → Int) → Int} (h : pz_RZ M) (z : pq_pr pq_Pk M M1) (q : sd_wc M v f) (q' : sd_wm M1 v' f) : v = v' := by
  obtain ⟨-, ⟨h2, -, h4⟩, h5, -⟩ := h.2
  obtain ⟨ls, l1, t1, t2⟩ := sd_LQ_x h5
  have w : M1 60 = M 60 := funext fun j => z.2 60 j (by unfold pq_Pk pq_Pw; first | decide | omega)
  have b := q' ls (by rw [w]; exact t2.1) t2.2.1 (by rw [w]; exact h4)
  rw [w] at b
  exact (q ls l1 (M 60) t1 h2 h4).trans b.symm
theorem pz_RZ_w0 {M : pz_M} {v v' : Int} {f : List pz_lne → (Nat → Int) → Int} (h : pz_RZ M) (q : sd_wc M v f) (q' : sd_wm M v' f) : v = v' := pz_RZ_w h ⟨id, fun _ _ _ => rfl⟩ q q'
theorem sd_tx_k {ls : List pz_lne} {l1 : List (List Int)} {M N : pz_M} (h : sd_tx M ls l1) (hs : pq_pr pq_Pk M N) : sd_tx N ls l1 := sd_tx_cg h (fun b j q => hs.2 b j (by unfold pq_Pk pq_Pw; first | decide | omega))
theorem sd_se_k {M N : pz_M} {F : Nat → Int} (h : sd_se M 71 F) (hW : sd_wf F) (hs : pq_pr pq_Pk M N) : sd_se N 71 F := sd_se_cg h (fun b j q => hs.2 b j (by unfold pz_lb at q; unfold pq_Pk pq_Pw; omega)) (by have := hW.1; omega)
def sd_of (ls : List pz_lne) (F : Nat → Int) (i w : Int) : Int := if 0 ≤ i ∧ i < F 88 then (if w = 0 then F (4 + i.toNat) else if w = 1 then F (16 + i.toNat) else if w = 2 then F (28 + i.toNat) else if w = 3 then F (93 + i.toNat) else if w = 4 then F (40 + i.toNat) else if w = 5 then F (52 + i.toNat) else if w = 6 then F (64 + i.toNat) else if w = 7 then F (76 + i.toNat) else if w = 8 then sd_rd ls F i.toNat else if w = 9 then sd_le ls F i.toNat else if w = 10 then sd_gv ls F i.toNat else if w = 11 then sd_co ls F i.toNat else if w = 12 then (if sd_py F i.toNat then 1 else 0) else if w = 13 then sd_lk F i.toNat else -100000) else -100000
def sd_gap (F : Nat → Int) (i : Int) : Int := if 0 ≤ i ∧ i < F 88 then sd_lm F i.toNat else -1
/-- SLOWEST -/
def sd_slo (ls : List pz_lne) (F : Nat → Int) : Nat → Nat → Int → Int
  | 0, _, b => b
  | m + 1, i, b => sd_slo ls F m (i + 1) (if F (76 + i) = -1 ∧ (b = -1 ∨ sd_rd ls F i < sd_rd ls F b.toNat) then (i : Int) else b)
def sd_slI (M : pz_M) (b l x : Int) : Prop := ∀ (ls : List pz_lne) (l1 : List (List Int)) (F : Nat → Int), sd_tx M ls l1 → sd_se M 71 F → sd_wf F → x ≤ F 88 ∧ (b = -1 ∨ (0 ≤ b ∧ b < F 88 ∧ l = sd_rd ls F b.toNat)) ∧ sd_slo ls F (sd_n F - x.toNat) x.toNat b = sd_slo ls F (sd_n F) 0 (-1)
theorem sd_slI_0 {M : pz_M} : sd_slI M (-1) 0 0 := fun ls l1 F _ _ w => ⟨w.1.1, Or.inl rfl, rfl⟩
theorem sd_slI_s {M : pz_M} {b l x y b' l' : Int} (h : sd_slI M b l x) (h0 : 0 ≤ x) (hx : x < M 71 3) (hy : y = x + 1) (u : ∀ (ls : List pz_lne) (l1 : List (List Int)) (F : Nat → Int), sd_tx M ls l1 → sd_se M 71 F → sd_wf F → (F (76 + x.toNat) = -1 ∧ (b = -1 ∨ sd_rd ls F x.toNat < l) ∧ b' = x ∧ l' = sd_rd ls F x.toNat) ∨ (¬ (F (76 + x.toNat) = -1 ∧ (b = -1 ∨ sd_rd ls F x.toNat < l)) ∧ b' = b ∧ l' = l)) : sd_slI M b' l' y := fun ls l1 F t s w => by
  obtain ⟨h1, h2, h3⟩ := h ls l1 F t s w
  have n9 := s.1
  have k9 := sd_n_i w
  rw [show sd_n F - x.toNat = (sd_n F - y.toNat) + 1 by omega] at h3
  have h3 : sd_slo ls F (sd_n F - y.toNat) (x.toNat + 1) (if F (76 + x.toNat) = -1 ∧ (b = -1 ∨ sd_rd ls F x.toNat < sd_rd ls F b.toNat) then (x.toNat : Int) else b) = _ := h3
  rw [show x.toNat + 1 = y.toNat by omega] at h3
  rcases u ls l1 F t s w with ⟨u1, u2, u3, u4⟩ | ⟨u1, u2, u3⟩
  · rw [if_pos ⟨u1, by rcases h2 with z | ⟨z1, z2, z3⟩ <;> omega⟩] at h3
    exact ⟨by omega, Or.inr ⟨by omega, by omega, by rw [u4, u3]⟩, by rw [u3, ← h3, show ((x.toNat : Nat) : Int) = x by omega]⟩
  · rw [if_neg (fun z => u1 ⟨z.1, by rcases h2 with q | ⟨q1, q2, q3⟩ <;> omega⟩)] at h3
    exact ⟨by omega, by rw [u2, u3]; exact h2, by rw [u2]; exact h3⟩
theorem sd_slI_z {M : pz_M} {b l x : Int} (h : sd_slI M b l x) (h0 : 0 ≤ x) (hx : ¬ x < M 71 3) : sd_wc M b (fun ls F => sd_slo ls F (sd_n F) 0 (-1)) := fun ls l1 F t s w => by
  obtain ⟨h1, h2, h3⟩ := h ls l1 F t s w
  have n9 := s.1
  have k9 := sd_n_i w
  rw [show sd_n F - x.toNat = 0 by omega] at h3
  exact h3
def sd_slM (M : pz_M) (b x : Int) : Prop := ∀ ls : List pz_lne, pq_wlw ls (M 60) → (∀ q ∈ ls, pv_ln q) → sd_wf (M 60) → sd_slo ls (M 60) (sd_n (M 60) - x.toNat) x.toNat b = sd_slo ls (M 60) (sd_n (M 60)) 0 (-1)
theorem sd_slM_s {M : pz_M} {b x y b' : Int} (h : sd_slM M b x) (h0 : 0 ≤ x) (hx : x < M 60 88) (hy : y = x + 1) (u : ∀ ls : List pz_lne, pq_wlw ls (M 60) → (∀ q ∈ ls, pv_ln q) → (M 60 (76 + x.toNat) = -1 ∧ (b = -1 ∨ sd_rd ls (M 60) x.toNat < sd_rd ls (M 60) b.toNat) ∧ b' = x) ∨ (¬ (M 60 (76 + x.toNat) = -1 ∧ (b = -1 ∨ sd_rd ls (M 60) x.toNat < sd_rd ls (M 60) b.toNat)) ∧ b' = b)) : sd_slM M b' y := fun ls hl hq w => by
  have h3 := h ls hl hq w
  have k9 := sd_n_i w
  rw [show sd_n (M 60) - x.toNat = (sd_n (M 60) - y.toNat) + 1 by omega] at h3
  have h3 : sd_slo ls (M 60) (sd_n (M 60) - y.toNat) (x.toNat + 1) (if M 60 (76 + x.toNat) = -1 ∧ (b = -1 ∨ sd_rd ls (M 60) x.toNat < sd_rd ls (M 60) b.toNat) then (x.toNat : Int) else b) = _ := h3
  rw [show x.toNat + 1 = y.toNat by omega] at h3
  rcases u ls hl hq with ⟨u1, u2, u3⟩ | ⟨u1, u2⟩
  · rw [if_pos ⟨u1, u2⟩] at h3
    rw [u3, ← h3, show ((x.toNat : Nat) : Int) = x by omega]
  · rw [if_neg u1] at h3
    rw [u2]
    exact h3
theorem sd_slM_z {M : pz_M} {b x : Int} (h : sd_slM M b x) (h0 : 0 ≤ x) (hx : ¬ x < M 60 88) : sd_wm M b (fun ls F => sd_slo ls F (sd_n F) 0 (-1)) := fun ls hl hq w => by
  have h3 := h ls hl hq w
  have k9 := sd_n_i w
  rw [show sd_n (M 60) - x.toNat = 0 by omega] at h3
  exact h3
/-- ALONG -/
def sd_alx (ls : List pz_lne) (F : Nat → Int) (i : Nat) (l : Int) : Int := if sd_in F i then min l (sd_gv ls F i) else 0
def sd_alo (ls : List pz_lne) (F : Nat → Int) : Nat → Nat → Int → Int → Int × Int
  | 0, _, l, g => (l, g)
  | m + 1, i, l, g => sd_alo ls F m (i + 1) (l - sd_alx ls F i l) (if 0 < sd_alx ls F i l then g + 1 else g)
def sd_alv (ls : List pz_lne) (F : Nat → Int) (i n w : Int) : Int := if (0 ≤ i ∧ i < F 88) ∧ (0 ≤ n ∧ n ≤ 999) ∧ 0 ≤ w ∧ w ≤ 1 then (if w = 0 then (sd_alo ls F (sd_n F - i.toNat) i.toNat n 0).1 else (sd_alo ls F (sd_n F - i.toNat) i.toNat n 0).2) else -1
def sd_alE (ls : List pz_lne) (F : Nat → Int) (i n l g x : Int) : Prop := i ≤ x ∧ x ≤ F 88 ∧ sd_alo ls F (sd_n F - x.toNat) x.toNat l g = sd_alo ls F (sd_n F - i.toNat) i.toNat n 0
theorem sd_alE_s {ls : List pz_lne} {F : Nat → Int} {i n l g x y l' g' : Int} (h : sd_alE ls F i n l g x) (w : sd_wf F) (h0 : 0 ≤ i) (hx : x < F 88) (hy : y = x + 1) (hl : l' = l - sd_alx ls F x.toNat l) (hg : g' = if 0 < sd_alx ls F x.toNat l then g + 1 else g) : sd_alE ls F i n l' g' y := by
  obtain ⟨h1, h2, h3⟩ := h
  have k9 := sd_n_i w
  rw [show sd_n F - x.toNat = (sd_n F - y.toNat) + 1 by omega] at h3
  have h3 : sd_alo ls F (sd_n F - y.toNat) (x.toNat + 1) (l - sd_alx ls F x.toNat l) (if 0 < sd_alx ls F x.toNat l then g + 1 else g) = _ := h3
  rw [show x.toNat + 1 = y.toNat by omega, ← hl, ← hg] at h3
  exact ⟨by omega, by omega, h3⟩
theorem sd_alE_z {ls : List pz_lne} {F : Nat → Int} {i n l g x : Int} (h : sd_alE ls F i n l g x) (w : sd_wf F) (hx : ¬ x < F 88) : (l, g) = sd_alo ls F (sd_n F - i.toNat) i.toNat n 0 := by
  obtain ⟨h1, h2, h3⟩ := h
  have k9 := sd_n_i w
  rw [show sd_n F - x.toNat = 0 by omega] at h3
  exact h3
def sd_alI (M : pz_M) (i n l g x : Int) : Prop := ∀ (ls : List pz_lne) (l1 : List (List Int)) (F : Nat → Int), sd_tx M ls l1 → sd_se M 71 F → sd_wf F → sd_alE ls F i n l g x
def sd_alM (M : pz_M) (i n l g x : Int) : Prop := ∀ ls : List pz_lne, pq_wlw ls (M 60) → (∀ q ∈ ls, pv_ln q) → sd_wf (M 60) → sd_alE ls (M 60) i n l g x
/-- CHOICE -/
def sd_chp (ls : List pz_lne) (F : Nat → Int) (i : Nat) (n p : Int) : Int := pz_w (pz_w (pz_w (p * F (28 + i)) + pz_w ((1000 - p) * max 0 (F (28 + i) - n))) / 1000 - sd_co ls F i)
def sd_chw (ls : List pz_lne) (F : Nat → Int) (i : Nat) (n p : Int) : Int × Int := if (if F (28 + i) - n < sd_chp ls F i n p then sd_chp ls F i n p else F (28 + i) - n) < 0 then (2, 0) else if F (28 + i) - n < sd_chp ls F i n p then (1, sd_chp ls F i n p) else (0, F (28 + i) - n)
def sd_chv (ls : List pz_lne) (F : Nat → Int) (i n p w : Int) : Int := if (0 ≤ i ∧ i < F 88) ∧ (0 ≤ n ∧ n ≤ 999) ∧ (0 ≤ p ∧ p ≤ 1000) ∧ 0 ≤ w ∧ w ≤ 1 then (if w = 0 then (sd_chw ls F i.toNat n p).1 else (sd_chw ls F i.toNat n p).2) else -100000
theorem sd_dw {x q : Int} (hx : -2147483648 ≤ x ∧ x ≤ 2147483647) (h : (0 ≤ x ∧ q = pz_w (x.tdiv 1000)) ∨ (pz_w (x.tmod 1000) = 0 ∧ q = pz_w (x.tdiv 1000)) ∨ (x < 0 ∧ pz_w (x.tmod 1000) ≠ 0 ∧ q = pz_w (pz_w (x.tdiv 1000) - 1))) : q = x / 1000 := by
  have t := @Int.tdiv_eq_ediv x 1000
  have m := Int.tmod_def x 1000
  by_cases d : 0 ≤ x ∨ (1000 : Int) ∣ x
  · rw [if_pos d] at t
    rw [t] at m
    have dm : 0 ≤ x ∨ x % 1000 = 0 := d.imp id (fun z => Int.emod_eq_zero_of_dvd z)
    rw [m, t, pz_wi (z := x / 1000 + 0) (by first | decide | omega) (by first | decide | omega), pz_wi (z := x - 1000 * (x / 1000 + 0)) (by first | decide | omega) (by first | decide | omega)] at h
    rcases h with ⟨a, b⟩ | ⟨a, b⟩ | ⟨a, b, c⟩
    · omega
    · omega
    · omega
  · rw [if_neg d] at t
    have s : (1000 : Int).sign = 1 := rfl
    rw [s] at t
    rw [t] at m
    have d1 : x < 0 := Int.not_le.mp (fun z => d (Or.inl z))
    have d2 : x % 1000 ≠ 0 := fun z => d (Or.inr (Int.dvd_of_emod_eq_zero z))
    rw [m, t, pz_wi (z := x / 1000 + 1) (by first | decide | omega) (by first | decide | omega), pz_wi (z := x - 1000 * (x / 1000 + 1)) (by first | decide | omega) (by first | decide | omega)] at h
    rcases h with ⟨a, b⟩ | ⟨a, b⟩ | ⟨a, b, c⟩
    · omega
    · omega
    · rw [pz_wi (by first | decide | omega) (by first | decide | omega)] at c
      omega
/-- RUNS -/
abbrev sd_fi (F : Nat → Int) (i : Nat) : Prop := sd_in F i ∧ sd_py F i
def sd_rns (F : Nat → Int) : Nat → Nat → Int → Int → Int → Int → Int × Int × Int
  | 0, _, _, lo, fi, po => (lo, fi, po)
  | m + 1, i, r, lo, fi, po => sd_rns F m (i + 1) (if sd_fi F i then r + 1 else 0) (if lo < (if sd_fi F i then r + 1 else 0) then (if sd_fi F i then r + 1 else 0) else lo) (if lo < (if sd_fi F i then r + 1 else 0) then (i : Int) - (if sd_fi F i then r + 1 else 0) + 1 else fi) (if sd_fi F i ∧ (po = -1 ∨ F (16 + i) < F (16 + po.toNat)) then (i : Int) else po)
def sd_rnv (F : Nat → Int) (w : Int) : Int := if w = 0 then (sd_rns F (sd_n F) 0 0 0 (-1) (-1)).1 else if w = 1 then (sd_rns F (sd_n F) 0 0 0 (-1) (-1)).2.1 else if w = 2 then (sd_rns F (sd_n F) 0 0 0 (-1) (-1)).2.2 else -1
def sd_rnE (F : Nat → Int) (r lo fi po x : Int) : Prop := (0 ≤ r ∧ x ≤ F 88) ∧ (po = -1 ∨ (0 ≤ po ∧ po < F 88)) ∧ sd_rns F (sd_n F - x.toNat) x.toNat r lo fi po = sd_rns F (sd_n F) 0 0 0 (-1) (-1)
theorem sd_rnE_s {F : Nat → Int} {r lo fi po x y r' lo' fi' po' : Int} (h : sd_rnE F r lo fi po x) (w : sd_wf F) (h0 : 0 ≤ x) (hx : x < F 88) (hy : y = x + 1) (hr : r' = if sd_fi F x.toNat then r + 1 else 0) (hl : (lo < r' ∧ lo' = r' ∧ fi' = x - r' + 1) ∨ (¬ lo < r' ∧ lo' = lo ∧ fi' = fi)) (hp : (sd_fi F x.toNat ∧ (po = -1 ∨ F (16 + x.toNat) < F (16 + po.toNat)) ∧ po' = x) ∨ (¬ (sd_fi F x.toNat ∧ (po = -1 ∨ F (16 + x.toNat) < F (16 + po.toNat))) ∧ po' = po)) : sd_rnE F r' lo' fi' po' y := by
  obtain ⟨h1, h2, h3⟩ := h
  have k9 := sd_n_i w
  rw [show sd_n F - x.toNat = (sd_n F - y.toNat) + 1 by omega] at h3
  have h3 : sd_rns F (sd_n F - y.toNat) (x.toNat + 1) (if sd_fi F x.toNat then r + 1 else 0) (if lo < (if sd_fi F x.toNat then r + 1 else 0) then (if sd_fi F x.toNat then r + 1 else 0) else lo) (if lo < (if sd_fi F x.toNat then r + 1 else 0) then ((x.toNat : Nat) : Int) - (if sd_fi F x.toNat then r + 1 else 0) + 1 else fi) (if sd_fi F x.toNat ∧ (po = -1 ∨ F (16 + x.toNat) < F (16 + po.toNat)) then ((x.toNat : Nat) : Int) else po) = _ := h3
  rw [show x.toNat + 1 = y.toNat by omega, ← hr] at h3
  have hx9 : ((x.toNat : Nat) : Int) = x := by omega
  have a : (if lo < r' then r' else lo) = lo' ∧ (if lo < r' then ((x.toNat : Nat) : Int) - r' + 1 else fi) = fi' := by
    rcases hl with ⟨q1, q2, q3⟩ | ⟨q1, q2, q3⟩
    · rw [if_pos q1, if_pos q1, q2, q3]
      exact ⟨rfl, by omega⟩
    · rw [if_neg q1, if_neg q1, q2, q3]
      exact ⟨rfl, rfl⟩
  have b : (if sd_fi F x.toNat ∧ (po = -1 ∨ F (16 + x.toNat) < F (16 + po.toNat)) then ((x.toNat : Nat) : Int) else po) = po' := by
    rcases hp with ⟨q1, q2, q3⟩ | ⟨q1, q2⟩
    · rw [if_pos ⟨q1, q2⟩, q3]
      exact hx9
    · rw [if_neg q1, q2]
  rw [a.1, a.2, b] at h3
  have r0 : 0 ≤ r' := by
    rw [hr]
    split <;> omega
  exact ⟨⟨r0, by omega⟩, by omega, h3⟩
theorem sd_rnE_z {F : Nat → Int} {r lo fi po x : Int} (h : sd_rnE F r lo fi po x) (w : sd_wf F) (hx : ¬ x < F 88) : (lo, fi, po) = sd_rns F (sd_n F) 0 0 0 (-1) (-1) := by
  obtain ⟨h1, h2, h3⟩ := h
  have k9 := sd_n_i w
  rw [show sd_n F - x.toNat = 0 by omega] at h3
  exact h3
def sd_rnP (F : Nat → Int) (r' lo' fi' po x : Int) : Prop := ∃ r lo fi : Int, sd_rnE F r lo fi po x ∧ r' = (if sd_fi F x.toNat then r + 1 else 0) ∧ ((lo < r' ∧ lo' = r' ∧ fi' = x - r' + 1) ∨ (¬ lo < r' ∧ lo' = lo ∧ fi' = fi))
theorem sd_rnP_s {F : Nat → Int} {r' lo' fi' po x y po' : Int} (h : sd_rnP F r' lo' fi' po x) (w : sd_wf F) (h0 : 0 ≤ x) (hx : x < F 88) (hy : y = x + 1) (hp : (sd_fi F x.toNat ∧ (po = -1 ∨ F (16 + x.toNat) < F (16 + po.toNat)) ∧ po' = x) ∨ (¬ (sd_fi F x.toNat ∧ (po = -1 ∨ F (16 + x.toNat) < F (16 + po.toNat))) ∧ po' = po)) : sd_rnE F r' lo' fi' po' y := by
  obtain ⟨r, lo, fi, h1, h2, h3⟩ := h
  exact sd_rnE_s h1 w h0 hx hy h2 h3 hp
theorem sd_rnP_p {F : Nat → Int} {r' lo' fi' po x : Int} (h : sd_rnP F r' lo' fi' po x) : (po = -1 ∨ (0 ≤ po ∧ po < F 88)) ∧ (0 < r' ↔ sd_fi F x.toNat) := by
  obtain ⟨r, lo, fi, ⟨⟨h1, -⟩, h2, -⟩, h3, -⟩ := h
  refine ⟨h2, ?_⟩
  by_cases q : sd_fi F x.toNat
  · rw [if_pos q] at h3
    exact ⟨fun _ => q, fun _ => by omega⟩
  · rw [if_neg q] at h3
    exact ⟨fun z => by omega, fun z => absurd z q⟩
end
