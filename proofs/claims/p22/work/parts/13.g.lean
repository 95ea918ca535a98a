noncomputable def k_X9_condition (nn : Nat) : pz_C := (1, 1, fun a M => (match a with | [.inr (.inr (9, th))] => pz_ic M ∧ pq_cq M ∧ 0 ≤ M 5 9 ∧ M 5 9 ≤ 8 ∧ 8 - M 5 9 ≤ (nn : Int) | _ => False), fun a M r M' => (match a, r with | [.inr (.inr (9, th))], some (.inl v) => (pq_cg 4 (M 5 9).toNat M M' v) ∧ pq_pr pq_Pp M M' | _, _ => False))
noncomputable def k_X9_conditions (nn : Nat) : pz_C := (1, 1, fun a M => (match a with | [.inr (.inr (9, th))] => pz_ic M ∧ pq_cq M ∧ 0 ≤ M 5 9 ∧ M 5 9 ≤ 8 ∧ 8 - M 5 9 ≤ (nn : Int) | _ => False), fun a M r M' => (match a, r with | [.inr (.inr (9, th))], some (.inl v) => (pq_cg 8 (M 5 9).toNat M M' v) ∧ pq_pr pq_Pp M M' | _, _ => False))
set_option maxRecDepth 100000 in
set_option maxHeartbeats 4000000 in
theorem h_X9_condition_0  : pz_H yX9_condition cX9_condition 4 (some .boolean) (k_X9_condition 0) (3 + 2 * 0) (65 + 46 * 0) := by
  refine pz_mk (own := RX9) (tb := t_X9_condition) (fl := pz_flf fl_RX9) (ci := fun _ => none) (ct := pz_ctf [(true, 100, k_X9_wrong), (true, 50, k_X9_lookAt), (true, 119, k_X9_accept), (true, 125, k_X3_put), (true, 109, k_X9_sum)]) (rz := true) (by decide +kernel) rfl t_X9_condition_ok (pz_flk fl_RX9_ok) (fun i v h => by cases h) ?_ ?_ (Or.inr ⟨rfl, rfl⟩) ?_ ?_
  · exact fun i k' h => pz_ctk (l := [(true, 100, k_X9_wrong), (true, 50, k_X9_lookAt), (true, 119, k_X9_accept), (true, 125, k_X3_put), (true, 109, k_X9_sum)]) (P := fun b i k => b = true → pz_cV (3 + 2 * 0) (65 + 46 * 0) RX9 i k) (List.forall_mem_cons.mpr ⟨(fun _ => v_X9_wrong (by first | decide | omega) (by first | decide | omega) (by decide +kernel)), List.forall_mem_cons.mpr ⟨(fun _ => v_X9_lookAt (by first | decide | omega) (by first | decide | omega) (by decide +kernel)), List.forall_mem_cons.mpr ⟨(fun _ => v_X9_accept (by first | decide | omega) (by first | decide | omega) (by decide +kernel)), List.forall_mem_cons.mpr ⟨(fun _ => v_X3_put (by first | decide | omega) (by first | decide | omega) (by decide +kernel)), List.forall_mem_cons.mpr ⟨(fun _ => v_X9_sum (by first | decide | omega) (by first | decide | omega) (by decide +kernel)), fun _ h => absurd h List.not_mem_nil⟩⟩⟩⟩⟩) true i k' h rfl
  · exact fun i k' h => pz_ctk (l := [(true, 100, k_X9_wrong), (true, 50, k_X9_lookAt), (true, 119, k_X9_accept), (true, 125, k_X3_put), (true, 109, k_X9_sum)]) (P := fun b i k => b = false → (pz_cS (3 + 2 * 0) (65 + 46 * 0) RX9 i k ∨ (k = pz_kac ∧ 1 ≤ (3 + 2 * 0) ∧ 60 ≤ (65 + 46 * 0) ∧ Cond.methodLink RX9 i arraycopyName ∈ pz_tbl))) (List.forall_mem_cons.mpr ⟨(fun z => by cases z), List.forall_mem_cons.mpr ⟨(fun z => by cases z), List.forall_mem_cons.mpr ⟨(fun z => by cases z), List.forall_mem_cons.mpr ⟨(fun z => by cases z), List.forall_mem_cons.mpr ⟨(fun z => by cases z), fun _ h => absurd h List.not_mem_nil⟩⟩⟩⟩⟩) false i k' h rfl
  · intro a M hlen hpre
    obtain ⟨th, rfl, hpre⟩ : ∃ th, a = [.inr (.inr (9, th))] ∧ (pz_ic M ∧ pq_cq M ∧ 0 ≤ M 5 9 ∧ M 5 9 ≤ 8 ∧ 8 - M 5 9 ≤ ((0 : Nat) : Int)) := by
      have hpre : (match (generalizing := false) a with | [.inr (.inr (9, th))] => pz_ic M ∧ pq_cq M ∧ 0 ≤ M 5 9 ∧ M 5 9 ≤ 8 ∧ 8 - M 5 9 ≤ ((0 : Nat) : Int) | _ => False) := hpre
      split at hpre
      · exact ⟨_, rfl, hpre⟩
      · exact hpre.elim
    exact Nat.le_of_ble_eq_true rfl
  · intro a M hlen hcan hM hpre Ok hgo
    obtain ⟨th, rfl, hpre⟩ : ∃ th, a = [.inr (.inr (9, th))] ∧ (pz_ic M ∧ pq_cq M ∧ 0 ≤ M 5 9 ∧ M 5 9 ≤ 8 ∧ 8 - M 5 9 ≤ ((0 : Nat) : Int)) := by
      have hpre : (match (generalizing := false) a with | [.inr (.inr (9, th))] => pz_ic M ∧ pq_cq M ∧ 0 ≤ M 5 9 ∧ M 5 9 ≤ 8 ∧ 8 - M 5 9 ≤ ((0 : Nat) : Int) | _ => False) := hpre
      split at hpre
      · exact ⟨_, rfl, hpre⟩
      · exact hpre.elim
    obtain ⟨k_th, hcan⟩ := pz_tlm hcan
    have k_th : pz_kd th = 9 ∧ th < 231 := k_th
    have R_th := pz_kd9 k_th.1
    subst R_th
    have hI : pz_ic M := hpre.1
    have hI0 := hI
    have hS : pq_pr pq_Po M M := pq_pr.rf
    obtain ⟨-, hq, pd1, pd2, pd3⟩ := hpre
    have B9 := pq_cu_b hq.1
    have hC := hq
    have h12 := hq.2.1
    refine hgo (fun _ => false) 103 0 _ [] M ?_
    intro v1 e1 a1 b1
    refine And.intro (fun h8 => ?_) (fun h8 => ?_)
    · skip
      intro v18 e18 a18 b18
      refine And.intro (fun h23 => ?_) (fun h23 => ?_)
      · skip
        exfalso; omega
      · skip
        refine And.intro (hI) ?_
        intro v28 M28 a28 b28 q28
        obtain ⟨q28, z28⟩ := q28
        have hS : pq_pr pq_Po M M28 := hS.tr z28.po
        have hI : pz_ic M28 := hS.1 hI0
        have D28 := z28.2 5 9 (by unfold pq_Pp; first | decide | omega)
        refine And.intro (by first | omega | exact pq_cg_01 q59 | exact pq_cg_01 q167 | exact Or.inl q28.1 | exact Or.inl q152.1) ?_
        refine And.intro rfl ?_
        exact ⟨by rw [q28.1]; exact pq_con_x hq.1 (by first | decide | omega) (by first | decide | omega) q28.2, hS.pp (by first | decide | omega)⟩
    · skip
      refine And.intro (fun h14 => ?_) (fun h14 => ?_)
      · skip
        refine And.intro (And.intro hI hC) ?_
        intro v119 M119 a119 b119 q119
        obtain ⟨q119, z119⟩ := q119
        have hS : pq_pr pq_Po M M119 := hS.tr z119.po
        have hI : pz_ic M119 := hS.1 hI0
        have D119 := z119.2 5 9 (by unfold pq_Pp; first | decide | omega)
        have T119 := pq_T3_po hS
        refine And.intro (fun h122 => ?_) (fun h122 => ?_)
        · skip
          have c119 := pq_cg_cu q119 h122
          have B119 := pq_cu_b c119
          have hC : pq_cq M119 := pq_cg_cq hq q119 h122
          intro v128 e128 a128 b128
          refine And.intro (fun h135 => ?_) (fun h135 => ?_)
          · skip
            intro v158 e158 a158 b158
            intro v162 e162 a162 b162
            try rw [pz_wi (by first | decide | omega) (by first | decide | omega)] at e162
            refine And.intro (hI) ?_
            intro M163 q163
            obtain ⟨q163, z163⟩ := q163
            have hS : pq_pr pq_Po M M163 := hS.tr z163.po
            have hI : pz_ic M163 := hS.1 hI0
            have C163 : pq_nx M119 M163 := pq_cu_la c119 (by first | decide | omega) (by first | decide | omega) q163
            have hC : pq_cq M163 := C163.cq hC
            have T163 := pq_T3_po hS
            have D163 := z163.2 5 9 (by unfold pq_Pp; first | decide | omega)
            refine And.intro (And.intro hI hC) ?_
            intro v167 M167 a167 b167 q167
            obtain ⟨q167, z167⟩ := q167
            have hS : pq_pr pq_Po M M167 := hS.tr z167.po
            have hI : pz_ic M167 := hS.1 hI0
            have D167 := z167.2 5 9 (by unfold pq_Pp; first | decide | omega)
            refine pz_nrc (c := 12) rfl ?_
            intro v177 e177 a177 b177
            rw [pz_not (by first | decide | omega) (by first | decide | omega)] at e177
            refine And.intro (And.intro hI rfl) ?_
            intro M178 q178
            obtain ⟨q178, z178⟩ := q178
            have hS : pq_pr pq_Po M M178 := hS.tr z178.po
            have hI : pz_ic M178 := hS.1 hI0
            have D178 := z178.2 5 9 (by unfold pq_Pp; first | decide | omega)
            refine And.intro (by first | omega | exact pq_cg_01 q59 | exact pq_cg_01 q167 | exact Or.inl q28.1 | exact Or.inl q152.1) ?_
            refine And.intro rfl ?_
            exact ⟨pq_con_q hq ⟨by omega, by omega⟩ q119 h122 T119 (by first | decide | omega) C163 T163 q167 (by first | decide | omega) q178, hS.pp (by first | decide | omega)⟩
          · skip
            refine And.intro (fun h141 => ?_) (fun h141 => ?_)
            · skip
              intro v158 e158 a158 b158
              intro v162 e162 a162 b162
              try rw [pz_wi (by first | decide | omega) (by first | decide | omega)] at e162
              refine And.intro (hI) ?_
              intro M163 q163
              obtain ⟨q163, z163⟩ := q163
              have hS : pq_pr pq_Po M M163 := hS.tr z163.po
              have hI : pz_ic M163 := hS.1 hI0
              have C163 : pq_nx M119 M163 := pq_cu_la c119 (by first | decide | omega) (by first | decide | omega) q163
              have hC : pq_cq M163 := C163.cq hC
              have T163 := pq_T3_po hS
              have D163 := z163.2 5 9 (by unfold pq_Pp; first | decide | omega)
              refine And.intro (And.intro hI hC) ?_
              intro v167 M167 a167 b167 q167
              obtain ⟨q167, z167⟩ := q167
              have hS : pq_pr pq_Po M M167 := hS.tr z167.po
              have hI : pz_ic M167 := hS.1 hI0
              have D167 := z167.2 5 9 (by unfold pq_Pp; first | decide | omega)
              refine pz_nrc (c := 12) rfl ?_
              intro v177 e177 a177 b177
              rw [pz_not (by first | decide | omega) (by first | decide | omega)] at e177
              refine And.intro (And.intro hI rfl) ?_
              intro M178 q178
              obtain ⟨q178, z178⟩ := q178
              have hS : pq_pr pq_Po M M178 := hS.tr z178.po
              have hI : pz_ic M178 := hS.1 hI0
              have D178 := z178.2 5 9 (by unfold pq_Pp; first | decide | omega)
              refine And.intro (by first | omega | exact pq_cg_01 q59 | exact pq_cg_01 q167 | exact Or.inl q28.1 | exact Or.inl q152.1) ?_
              refine And.intro rfl ?_
              exact ⟨pq_con_q hq ⟨by omega, by omega⟩ q119 h122 T119 (by first | decide | omega) C163 T163 q167 (by first | decide | omega) q178, hS.pp (by first | decide | omega)⟩
            · skip
              refine And.intro (fun h147 => ?_) (fun h147 => ?_)
              · skip
                intro v158 e158 a158 b158
                intro v162 e162 a162 b162
                try rw [pz_wi (by first | decide | omega) (by first | decide | omega)] at e162
                refine And.intro (hI) ?_
                intro M163 q163
                obtain ⟨q163, z163⟩ := q163
                have hS : pq_pr pq_Po M M163 := hS.tr z163.po
                have hI : pz_ic M163 := hS.1 hI0
                have C163 : pq_nx M119 M163 := pq_cu_la c119 (by first | decide | omega) (by first | decide | omega) q163
                have hC : pq_cq M163 := C163.cq hC
                have T163 := pq_T3_po hS
                have D163 := z163.2 5 9 (by unfold pq_Pp; first | decide | omega)
                refine And.intro (And.intro hI hC) ?_
                intro v167 M167 a167 b167 q167
                obtain ⟨q167, z167⟩ := q167
                have hS : pq_pr pq_Po M M167 := hS.tr z167.po
                have hI : pz_ic M167 := hS.1 hI0
                have D167 := z167.2 5 9 (by unfold pq_Pp; first | decide | omega)
                refine pz_nrc (c := 12) rfl ?_
                intro v177 e177 a177 b177
                rw [pz_not (by first | decide | omega) (by first | decide | omega)] at e177
                refine And.intro (And.intro hI rfl) ?_
                intro M178 q178
                obtain ⟨q178, z178⟩ := q178
                have hS : pq_pr pq_Po M M178 := hS.tr z178.po
                have hI : pz_ic M178 := hS.1 hI0
                have D178 := z178.2 5 9 (by unfold pq_Pp; first | decide | omega)
                refine And.intro (by first | omega | exact pq_cg_01 q59 | exact pq_cg_01 q167 | exact Or.inl q28.1 | exact Or.inl q152.1) ?_
                refine And.intro rfl ?_
                exact ⟨pq_con_q hq ⟨by omega, by omega⟩ q119 h122 T119 (by first | decide | omega) C163 T163 q167 (by first | decide | omega) q178, hS.pp (by first | decide | omega)⟩
              · skip
                refine And.intro (hI) ?_
                intro v152 M152 a152 b152 q152
                obtain ⟨q152, z152⟩ := q152
                have hS : pq_pr pq_Po M M152 := hS.tr z152.po
                have hI : pz_ic M152 := hS.1 hI0
                have D152 := z152.2 5 9 (by unfold pq_Pp; first | decide | omega)
                refine And.intro (by first | omega | exact pq_cg_01 q59 | exact pq_cg_01 q167 | exact Or.inl q28.1 | exact Or.inl q152.1) ?_
                refine And.intro rfl ?_
                exact ⟨by rw [q152.1]; exact pq_con_r hq.1 ⟨by omega, by omega⟩ q119 h122 T119 (by first | decide | omega) q152.2, hS.pp (by first | decide | omega)⟩
        · skip
          skip
          refine And.intro (by first | omega | exact pq_cg_01 q59 | exact pq_cg_01 q167 | exact Or.inl q28.1 | exact Or.inl q152.1) ?_
          refine And.intro rfl ?_
          exact ⟨pq_con_s hq.1 ⟨by omega, by omega⟩ q119 h122, hS.pp (by first | decide | omega)⟩
      · skip
        intro v18 e18 a18 b18
        refine And.intro (fun h23 => ?_) (fun h23 => ?_)
        · skip
          exfalso; omega
        · skip
          refine And.intro (hI) ?_
          intro v28 M28 a28 b28 q28
          obtain ⟨q28, z28⟩ := q28
          have hS : pq_pr pq_Po M M28 := hS.tr z28.po
          have hI : pz_ic M28 := hS.1 hI0
          have D28 := z28.2 5 9 (by unfold pq_Pp; first | decide | omega)
          refine And.intro (by first | omega | exact pq_cg_01 q59 | exact pq_cg_01 q167 | exact Or.inl q28.1 | exact Or.inl q152.1) ?_
          refine And.intro rfl ?_
          exact ⟨by rw [q28.1]; exact pq_con_x hq.1 (by first | decide | omega) (by first | decide | omega) q28.2, hS.pp (by first | decide | omega)⟩
set_option maxRecDepth 100000 in
set_option maxHeartbeats 4000000 in
theorem h_X9_condition_s (nn : Nat) (hC : pz_H yX9_condition cX9_condition 4 (some .boolean) (k_X9_condition nn) (3 + 2 * nn) (65 + 46 * nn)) (hD : pz_H yX9_conditions cX9_conditions 4 (some .boolean) (k_X9_conditions nn) (4 + 2 * nn) (88 + 46 * nn)) : pz_H yX9_condition cX9_condition 4 (some .boolean) (k_X9_condition (nn + 1)) (3 + 2 * (nn + 1)) (65 + 46 * (nn + 1)) := by
  refine pz_mk (own := RX9) (tb := t_X9_condition) (fl := pz_flf fl_RX9) (ci := fun _ => none) (ct := pz_ctf [(true, 100, k_X9_wrong), (true, 50, k_X9_lookAt), (true, 122, k_X9_condition nn), (true, 112, k_X9_conditions nn), (true, 119, k_X9_accept), (true, 125, k_X3_put), (true, 109, k_X9_sum)]) (rz := true) (by decide +kernel) rfl t_X9_condition_ok (pz_flk fl_RX9_ok) (fun i v h => by cases h) ?_ ?_ (Or.inr ⟨rfl, rfl⟩) ?_ ?_
  · exact fun i k' h => pz_ctk (l := [(true, 100, k_X9_wrong), (true, 50, k_X9_lookAt), (true, 122, k_X9_condition nn), (true, 112, k_X9_conditions nn), (true, 119, k_X9_accept), (true, 125, k_X3_put), (true, 109, k_X9_sum)]) (P := fun b i k => b = true → pz_cV (3 + 2 * (nn + 1)) (65 + 46 * (nn + 1)) RX9 i k) (List.forall_mem_cons.mpr ⟨(fun _ => v_X9_wrong (by first | decide | omega) (by first | decide | omega) (by decide +kernel)), List.forall_mem_cons.mpr ⟨(fun _ => v_X9_lookAt (by first | decide | omega) (by first | decide | omega) (by decide +kernel)), List.forall_mem_cons.mpr ⟨(fun _ => pz_cVk (maxL := 4) 0 9 hC rfl ⟨by decide +kernel, by decide +kernel, by decide +kernel⟩ ⟨by decide +kernel, by decide +kernel, by decide +kernel, by decide +kernel⟩ (Or.inl ⟨TX9, 10, rfl⟩) (fun a M _ h => by
      have h : (match (generalizing := false) a with | [.inr (.inr (9, th))] => pz_ic M ∧ pq_cq M ∧ 0 ≤ M 5 9 ∧ M 5 9 ≤ 8 ∧ 8 - M 5 9 ≤ (nn : Int) | _ => False) := h
      split at h
      · exact ⟨_, _, rfl⟩
      · exact h.elim) (by first | decide | omega) (by first | decide | omega) (show Cond.methodLink RX9 122 yX9_condition ∈ lw_tbl by decide +kernel)), List.forall_mem_cons.mpr ⟨(fun _ => pz_cVk (maxL := 4) 0 9 hD rfl ⟨by decide +kernel, by decide +kernel, by decide +kernel⟩ ⟨by decide +kernel, by decide +kernel, by decide +kernel, by decide +kernel⟩ (Or.inl ⟨TX9, 10, rfl⟩) (fun a M _ h => by
      have h : (match (generalizing := false) a with | [.inr (.inr (9, th))] => pz_ic M ∧ pq_cq M ∧ 0 ≤ M 5 9 ∧ M 5 9 ≤ 8 ∧ 8 - M 5 9 ≤ (nn : Int) | _ => False) := h
      split at h
      · exact ⟨_, _, rfl⟩
      · exact h.elim) (by first | decide | omega) (by first | decide | omega) (show Cond.methodLink RX9 112 yX9_conditions ∈ lw_tbl by decide +kernel)), List.forall_mem_cons.mpr ⟨(fun _ => v_X9_accept (by first | decide | omega) (by first | decide | omega) (by decide +kernel)), List.forall_mem_cons.mpr ⟨(fun _ => v_X3_put (by first | decide | omega) (by first | decide | omega) (by decide +kernel)), List.forall_mem_cons.mpr ⟨(fun _ => v_X9_sum (by first | decide | omega) (by first | decide | omega) (by decide +kernel)), fun _ h => absurd h List.not_mem_nil⟩⟩⟩⟩⟩⟩⟩) true i k' h rfl
  · exact fun i k' h => pz_ctk (l := [(true, 100, k_X9_wrong), (true, 50, k_X9_lookAt), (true, 122, k_X9_condition nn), (true, 112, k_X9_conditions nn), (true, 119, k_X9_accept), (true, 125, k_X3_put), (true, 109, k_X9_sum)]) (P := fun b i k => b = false → (pz_cS (3 + 2 * (nn + 1)) (65 + 46 * (nn + 1)) RX9 i k ∨ (k = pz_kac ∧ 1 ≤ (3 + 2 * (nn + 1)) ∧ 60 ≤ (65 + 46 * (nn + 1)) ∧ Cond.methodLink RX9 i arraycopyName ∈ pz_tbl))) (List.forall_mem_cons.mpr ⟨(fun z => by cases z), List.forall_mem_cons.mpr ⟨(fun z => by cases z), List.forall_mem_cons.mpr ⟨(fun z => by cases z), List.forall_mem_cons.mpr ⟨(fun z => by cases z), List.forall_mem_cons.mpr ⟨(fun z => by cases z), List.forall_mem_cons.mpr ⟨(fun z => by cases z), List.forall_mem_cons.mpr ⟨(fun z => by cases z), fun _ h => absurd h List.not_mem_nil⟩⟩⟩⟩⟩⟩⟩) false i k' h rfl
  · intro a M hlen hpre
    obtain ⟨th, rfl, hpre⟩ : ∃ th, a = [.inr (.inr (9, th))] ∧ (pz_ic M ∧ pq_cq M ∧ 0 ≤ M 5 9 ∧ M 5 9 ≤ 8 ∧ 8 - M 5 9 ≤ ((nn + 1 : Nat) : Int)) := by
      have hpre : (match (generalizing := false) a with | [.inr (.inr (9, th))] => pz_ic M ∧ pq_cq M ∧ 0 ≤ M 5 9 ∧ M 5 9 ≤ 8 ∧ 8 - M 5 9 ≤ ((nn + 1 : Nat) : Int) | _ => False) := hpre
      split at hpre
      · exact ⟨_, rfl, hpre⟩
      · exact hpre.elim
    exact Nat.le_of_ble_eq_true rfl
  · intro a M hlen hcan hM hpre Ok hgo
    obtain ⟨th, rfl, hpre⟩ : ∃ th, a = [.inr (.inr (9, th))] ∧ (pz_ic M ∧ pq_cq M ∧ 0 ≤ M 5 9 ∧ M 5 9 ≤ 8 ∧ 8 - M 5 9 ≤ ((nn + 1 : Nat) : Int)) := by
      have hpre : (match (generalizing := false) a with | [.inr (.inr (9, th))] => pz_ic M ∧ pq_cq M ∧ 0 ≤ M 5 9 ∧ M 5 9 ≤ 8 ∧ 8 - M 5 9 ≤ ((nn + 1 : Nat) : Int) | _ => False) := hpre
      split at hpre
      · exact ⟨_, rfl, hpre⟩
      · exact hpre.elim
    obtain ⟨k_th, hcan⟩ := pz_tlm hcan
    have k_th : pz_kd th = 9 ∧ th < 231 := k_th
    have R_th := pz_kd9 k_th.1
    subst R_th
    have hI : pz_ic M := hpre.1
    have hI0 := hI
    have hS : pq_pr pq_Po M M := pq_pr.rf
    obtain ⟨-, hq, pd1, pd2, pd3⟩ := hpre
    have B9 := pq_cu_b hq.1
    have hC := hq
    have h12 := hq.2.1
    refine hgo (fun _ => false) 103 0 _ [] M ?_
    intro v1 e1 a1 b1
    refine And.intro (fun h8 => ?_) (fun h8 => ?_)
    · skip
      intro v18 e18 a18 b18
      refine And.intro (fun h23 => ?_) (fun h23 => ?_)
      · skip
        intro v34 e34 a34 b34
        intro v38 e38 a38 b38
        try rw [pz_wi (by first | decide | omega) (by first | decide | omega)] at e38
        intro M39 e39
        have hS : pq_pr pq_Po M M39 := by
          rw [e39]
          exact pq_pr_u hS (by unfold pq_Po pq_Pp; first | decide | omega) (by unfold pz_iok; first | decide | omega)
        have hI : pz_ic M39 := hS.1 hI0
        have T39_0 := pz_uve e39 5 9
        have P39 := pq_d9 e39
        intro v44 e44 a44 b44
        intro v48 e48 a48 b48
        try rw [pz_wi (by first | decide | omega) (by first | decide | omega)] at e48
        refine And.intro (hI) ?_
        intro M49 q49
        obtain ⟨q49, z49⟩ := q49
        have hS : pq_pr pq_Po M M49 := hS.tr z49.po
        have hI : pz_ic M49 := hS.1 hI0
        have O49 := pq_op1_of hq.1 e39 (by first | decide | omega) (by first | decide | omega) (by first | decide | omega) q49 z49
        have hC : pq_cq M49 := O49.2.1.cq hq
        have D49 := O49.2.2
        refine And.intro (fun h55 => ?_) (fun h55 => ?_)
        · skip
          refine And.intro (And.intro hI (And.intro hC (And.intro (by first | decide | omega) (And.intro (by first | decide | omega) (by first | decide | omega))))) ?_
          intro v66 M66 a66 b66 q66
          obtain ⟨q66, z66⟩ := q66
          have hS : pq_pr pq_Po M M66 := hS.tr z66.po
          have hI : pz_ic M66 := hS.1 hI0
          have D66 := z66.2 5 9 (by unfold pq_Pp; first | decide | omega)
          have T66 := pq_T3_po hS
          refine And.intro (fun h69 => ?_) (fun h69 => ?_)
          · skip
            skip
            intro v89 e89 a89 b89
            intro v93 e93 a93 b93
            try rw [pz_wi (by first | decide | omega) (by first | decide | omega)] at e93
            intro M94 e94
            have hS : pq_pr pq_Po M M94 := by
              rw [e94]
              exact pq_pr_u hS (by unfold pq_Po pq_Pp; first | decide | omega) (by unfold pz_iok; first | decide | omega)
            have hI : pz_ic M94 := hS.1 hI0
            have T94_0 := pz_uve e94 5 9
            refine And.intro (fun h98 => ?_) (fun h98 => ?_)
            · skip
              refine And.intro (by first | omega | exact pq_cg_01 q59 | exact pq_cg_01 q167 | exact Or.inl q28.1 | exact Or.inl q152.1) ?_
              refine And.intro rfl ?_
              first
                | exact ⟨by rw [pq_cg_1 q59 h98]; exact pq_con_n hq O49 (by first | decide | omega) ⟨by omega, by omega⟩ q59 h98 e94 q113, hS.pp (by first | decide | omega)⟩
                | exact ⟨by rw [h98]; exact pq_con_nb hq.1 O49 (by first | decide | omega) ⟨by omega, by omega⟩ q59 h98 e94, hS.pp (by first | decide | omega)⟩
                | exact ⟨pq_con_p hq O49 (by first | decide | omega) ⟨by omega, by omega⟩ q66 h69 T66 n75.1 n75.2.1 e94, hS.pp (by first | decide | omega)⟩
                | exact ⟨pq_con_pc hq.1 O49 (by first | decide | omega) ⟨by omega, by omega⟩ q66 h69 T66 w75.1 w75.2 e94, hS.pp (by first | decide | omega)⟩
                | exact ⟨pq_con_pb hq.1 O49 (by first | decide | omega) ⟨by omega, by omega⟩ q66 h69 e94, hS.pp (by first | decide | omega)⟩
                | (exfalso; omega)
            · skip
              exact absurd h98 (by decide)
          · skip
            have hC := And.intro (pq_cg_cu q66 h69) trivial
            have B66 := pq_cu_b hC.1
            refine And.intro (And.intro hI (And.intro hC.1 (by decide))) ?_
            intro v75 M75 a75 b75 q75
            obtain ⟨q75, z75⟩ := q75
            have hS : pq_pr pq_Po M M75 := hS.tr z75.po
            have hI : pz_ic M75 := hS.1 hI0
            have D75 := z75.2 5 9 (by unfold pq_Pp; first | decide | omega)
            refine And.intro (fun h78 => ?_) (fun h78 => ?_)
            · skip
              have w75 := (q75.resolve_left (fun y => absurd (y.1.symm.trans h78) (by decide))).2
              intro v89 e89 a89 b89
              intro v93 e93 a93 b93
              try rw [pz_wi (by first | decide | omega) (by first | decide | omega)] at e93
              intro M94 e94
              have hS : pq_pr pq_Po M M94 := by
                rw [e94]
                exact pq_pr_u hS (by unfold pq_Po pq_Pp; first | decide | omega) (by unfold pz_iok; first | decide | omega)
              have hI : pz_ic M94 := hS.1 hI0
              have T94_0 := pz_uve e94 5 9
              refine And.intro (fun h98 => ?_) (fun h98 => ?_)
              · skip
                refine And.intro (by first | omega | exact pq_cg_01 q59 | exact pq_cg_01 q167 | exact Or.inl q28.1 | exact Or.inl q152.1) ?_
                refine And.intro rfl ?_
                first
                  | exact ⟨by rw [pq_cg_1 q59 h98]; exact pq_con_n hq O49 (by first | decide | omega) ⟨by omega, by omega⟩ q59 h98 e94 q113, hS.pp (by first | decide | omega)⟩
                  | exact ⟨by rw [h98]; exact pq_con_nb hq.1 O49 (by first | decide | omega) ⟨by omega, by omega⟩ q59 h98 e94, hS.pp (by first | decide | omega)⟩
                  | exact ⟨pq_con_p hq O49 (by first | decide | omega) ⟨by omega, by omega⟩ q66 h69 T66 n75.1 n75.2.1 e94, hS.pp (by first | decide | omega)⟩
                  | exact ⟨pq_con_pc hq.1 O49 (by first | decide | omega) ⟨by omega, by omega⟩ q66 h69 T66 w75.1 w75.2 e94, hS.pp (by first | decide | omega)⟩
                  | exact ⟨pq_con_pb hq.1 O49 (by first | decide | omega) ⟨by omega, by omega⟩ q66 h69 e94, hS.pp (by first | decide | omega)⟩
                  | (exfalso; omega)
              · skip
                exact absurd h98 (by decide)
            · skip
              have n75 := (q75.resolve_right (fun y => h78 y.1)).2
              intro v89 e89 a89 b89
              intro v93 e93 a93 b93
              try rw [pz_wi (by first | decide | omega) (by first | decide | omega)] at e93
              intro M94 e94
              have hS : pq_pr pq_Po M M94 := by
                rw [e94]
                exact pq_pr_u hS (by unfold pq_Po pq_Pp; first | decide | omega) (by unfold pz_iok; first | decide | omega)
              have hI : pz_ic M94 := hS.1 hI0
              have T94_0 := pz_uve e94 5 9
              refine And.intro (fun h98 => ?_) (fun h98 => ?_)
              · skip
                exact absurd h98 (by decide)
              · skip
                refine And.intro (fun h104 => ?_) (fun h104 => ?_)
                · skip
                  refine And.intro (by first | omega | exact pq_cg_01 q59 | exact pq_cg_01 q167 | exact Or.inl q28.1 | exact Or.inl q152.1) ?_
                  refine And.intro rfl ?_
                  first
                    | exact ⟨by rw [pq_cg_1 q59 h98]; exact pq_con_n hq O49 (by first | decide | omega) ⟨by omega, by omega⟩ q59 h98 e94 q113, hS.pp (by first | decide | omega)⟩
                    | exact ⟨by rw [h98]; exact pq_con_nb hq.1 O49 (by first | decide | omega) ⟨by omega, by omega⟩ q59 h98 e94, hS.pp (by first | decide | omega)⟩
                    | exact ⟨pq_con_p hq O49 (by first | decide | omega) ⟨by omega, by omega⟩ q66 h69 T66 n75.1 n75.2.1 e94, hS.pp (by first | decide | omega)⟩
                    | exact ⟨pq_con_pc hq.1 O49 (by first | decide | omega) ⟨by omega, by omega⟩ q66 h69 T66 w75.1 w75.2 e94, hS.pp (by first | decide | omega)⟩
                    | exact ⟨pq_con_pb hq.1 O49 (by first | decide | omega) ⟨by omega, by omega⟩ q66 h69 e94, hS.pp (by first | decide | omega)⟩
                    | (exfalso; omega)
                · skip
                  refine pz_nrc (c := 12) rfl ?_
                  refine And.intro (And.intro hI rfl) ?_
                  intro M113 q113
                  obtain ⟨q113, z113⟩ := q113
                  have hS : pq_pr pq_Po M M113 := hS.tr z113.po
                  have hI : pz_ic M113 := hS.1 hI0
                  have D113 := z113.2 5 9 (by unfold pq_Pp; first | decide | omega)
                  refine And.intro (by first | omega | exact pq_cg_01 q59 | exact pq_cg_01 q167 | exact Or.inl q28.1 | exact Or.inl q152.1) ?_
                  refine And.intro rfl ?_
                  first
                    | exact ⟨by rw [pq_cg_1 q59 h98]; exact pq_con_n hq O49 (by first | decide | omega) ⟨by omega, by omega⟩ q59 h98 e94 q113, hS.pp (by first | decide | omega)⟩
                    | exact ⟨by rw [h98]; exact pq_con_nb hq.1 O49 (by first | decide | omega) ⟨by omega, by omega⟩ q59 h98 e94, hS.pp (by first | decide | omega)⟩
                    | exact ⟨pq_con_p hq O49 (by first | decide | omega) ⟨by omega, by omega⟩ q66 h69 T66 n75.1 n75.2.1 e94, hS.pp (by first | decide | omega)⟩
                    | exact ⟨pq_con_pc hq.1 O49 (by first | decide | omega) ⟨by omega, by omega⟩ q66 h69 T66 w75.1 w75.2 e94, hS.pp (by first | decide | omega)⟩
                    | exact ⟨pq_con_pb hq.1 O49 (by first | decide | omega) ⟨by omega, by omega⟩ q66 h69 e94, hS.pp (by first | decide | omega)⟩
                    | (exfalso; omega)
        · skip
          refine And.intro (And.intro hI (And.intro hC (And.intro (by first | decide | omega) (And.intro (by first | decide | omega) (by first | decide | omega))))) ?_
          intro v59 M59 a59 b59 q59
          obtain ⟨q59, z59⟩ := q59
          have hS : pq_pr pq_Po M M59 := hS.tr z59.po
          have hI : pz_ic M59 := hS.1 hI0
          have D59 := z59.2 5 9 (by unfold pq_Pp; first | decide | omega)
          intro v89 e89 a89 b89
          intro v93 e93 a93 b93
          try rw [pz_wi (by first | decide | omega) (by first | decide | omega)] at e93
          intro M94 e94
          have hS : pq_pr pq_Po M M94 := by
            rw [e94]
            exact pq_pr_u hS (by unfold pq_Po pq_Pp; first | decide | omega) (by unfold pz_iok; first | decide | omega)
          have hI : pz_ic M94 := hS.1 hI0
          have T94_0 := pz_uve e94 5 9
          refine And.intro (fun h98 => ?_) (fun h98 => ?_)
          · skip
            refine And.intro (by first | omega | exact pq_cg_01 q59 | exact pq_cg_01 q167 | exact Or.inl q28.1 | exact Or.inl q152.1) ?_
            refine And.intro rfl ?_
            first
              | exact ⟨by rw [pq_cg_1 q59 h98]; exact pq_con_n hq O49 (by first | decide | omega) ⟨by omega, by omega⟩ q59 h98 e94 q113, hS.pp (by first | decide | omega)⟩
              | exact ⟨by rw [h98]; exact pq_con_nb hq.1 O49 (by first | decide | omega) ⟨by omega, by omega⟩ q59 h98 e94, hS.pp (by first | decide | omega)⟩
              | exact ⟨pq_con_p hq O49 (by first | decide | omega) ⟨by omega, by omega⟩ q66 h69 T66 n75.1 n75.2.1 e94, hS.pp (by first | decide | omega)⟩
              | exact ⟨pq_con_pc hq.1 O49 (by first | decide | omega) ⟨by omega, by omega⟩ q66 h69 T66 w75.1 w75.2 e94, hS.pp (by first | decide | omega)⟩
              | exact ⟨pq_con_pb hq.1 O49 (by first | decide | omega) ⟨by omega, by omega⟩ q66 h69 e94, hS.pp (by first | decide | omega)⟩
              | (exfalso; omega)
          · skip
            refine And.intro (fun h104 => ?_) (fun h104 => ?_)
            · skip
              refine And.intro (by first | omega | exact pq_cg_01 q59 | exact pq_cg_01 q167 | exact Or.inl q28.1 | exact Or.inl q152.1) ?_
              refine And.intro rfl ?_
              first
                | exact ⟨by rw [pq_cg_1 q59 h98]; exact pq_con_n hq O49 (by first | decide | omega) ⟨by omega, by omega⟩ q59 h98 e94 q113, hS.pp (by first | decide | omega)⟩
                | exact ⟨by rw [h98]; exact pq_con_nb hq.1 O49 (by first | decide | omega) ⟨by omega, by omega⟩ q59 h98 e94, hS.pp (by first | decide | omega)⟩
                | exact ⟨pq_con_p hq O49 (by first | decide | omega) ⟨by omega, by omega⟩ q66 h69 T66 n75.1 n75.2.1 e94, hS.pp (by first | decide | omega)⟩
                | exact ⟨pq_con_pc hq.1 O49 (by first | decide | omega) ⟨by omega, by omega⟩ q66 h69 T66 w75.1 w75.2 e94, hS.pp (by first | decide | omega)⟩
                | exact ⟨pq_con_pb hq.1 O49 (by first | decide | omega) ⟨by omega, by omega⟩ q66 h69 e94, hS.pp (by first | decide | omega)⟩
                | (exfalso; omega)
            · skip
              refine pz_nrc (c := 12) rfl ?_
              refine And.intro (And.intro hI rfl) ?_
              intro M113 q113
              obtain ⟨q113, z113⟩ := q113
              have hS : pq_pr pq_Po M M113 := hS.tr z113.po
              have hI : pz_ic M113 := hS.1 hI0
              have D113 := z113.2 5 9 (by unfold pq_Pp; first | decide | omega)
              refine And.intro (by first | omega | exact pq_cg_01 q59 | exact pq_cg_01 q167 | exact Or.inl q28.1 | exact Or.inl q152.1) ?_
              refine And.intro rfl ?_
              first
                | exact ⟨by rw [pq_cg_1 q59 h98]; exact pq_con_n hq O49 (by first | decide | omega) ⟨by omega, by omega⟩ q59 h98 e94 q113, hS.pp (by first | decide | omega)⟩
                | exact ⟨by rw [h98]; exact pq_con_nb hq.1 O49 (by first | decide | omega) ⟨by omega, by omega⟩ q59 h98 e94, hS.pp (by first | decide | omega)⟩
                | exact ⟨pq_con_p hq O49 (by first | decide | omega) ⟨by omega, by omega⟩ q66 h69 T66 n75.1 n75.2.1 e94, hS.pp (by first | decide | omega)⟩
                | exact ⟨pq_con_pc hq.1 O49 (by first | decide | omega) ⟨by omega, by omega⟩ q66 h69 T66 w75.1 w75.2 e94, hS.pp (by first | decide | omega)⟩
                | exact ⟨pq_con_pb hq.1 O49 (by first | decide | omega) ⟨by omega, by omega⟩ q66 h69 e94, hS.pp (by first | decide | omega)⟩
                | (exfalso; omega)
      · skip
        refine And.intro (hI) ?_
        intro v28 M28 a28 b28 q28
        obtain ⟨q28, z28⟩ := q28
        have hS : pq_pr pq_Po M M28 := hS.tr z28.po
        have hI : pz_ic M28 := hS.1 hI0
        have D28 := z28.2 5 9 (by unfold pq_Pp; first | decide | omega)
        refine And.intro (by first | omega | exact pq_cg_01 q59 | exact pq_cg_01 q167 | exact Or.inl q28.1 | exact Or.inl q152.1) ?_
        refine And.intro rfl ?_
        exact ⟨by rw [q28.1]; exact pq_con_x hq.1 (by first | decide | omega) (by first | decide | omega) q28.2, hS.pp (by first | decide | omega)⟩
    · skip
      refine And.intro (fun h14 => ?_) (fun h14 => ?_)
      · skip
        refine And.intro (And.intro hI hC) ?_
        intro v119 M119 a119 b119 q119
        obtain ⟨q119, z119⟩ := q119
        have hS : pq_pr pq_Po M M119 := hS.tr z119.po
        have hI : pz_ic M119 := hS.1 hI0
        have D119 := z119.2 5 9 (by unfold pq_Pp; first | decide | omega)
        have T119 := pq_T3_po hS
        refine And.intro (fun h122 => ?_) (fun h122 => ?_)
        · skip
          have c119 := pq_cg_cu q119 h122
          have B119 := pq_cu_b c119
          have hC : pq_cq M119 := pq_cg_cq hq q119 h122
          intro v128 e128 a128 b128
          refine And.intro (fun h135 => ?_) (fun h135 => ?_)
          · skip
            intro v158 e158 a158 b158
            intro v162 e162 a162 b162
            try rw [pz_wi (by first | decide | omega) (by first | decide | omega)] at e162
            refine And.intro (hI) ?_
            intro M163 q163
            obtain ⟨q163, z163⟩ := q163
            have hS : pq_pr pq_Po M M163 := hS.tr z163.po
            have hI : pz_ic M163 := hS.1 hI0
            have C163 : pq_nx M119 M163 := pq_cu_la c119 (by first | decide | omega) (by first | decide | omega) q163
            have hC : pq_cq M163 := C163.cq hC
            have T163 := pq_T3_po hS
            have D163 := z163.2 5 9 (by unfold pq_Pp; first | decide | omega)
            refine And.intro (And.intro hI hC) ?_
            intro v167 M167 a167 b167 q167
            obtain ⟨q167, z167⟩ := q167
            have hS : pq_pr pq_Po M M167 := hS.tr z167.po
            have hI : pz_ic M167 := hS.1 hI0
            have D167 := z167.2 5 9 (by unfold pq_Pp; first | decide | omega)
            refine pz_nrc (c := 12) rfl ?_
            intro v177 e177 a177 b177
            rw [pz_not (by first | decide | omega) (by first | decide | omega)] at e177
            refine And.intro (And.intro hI rfl) ?_
            intro M178 q178
            obtain ⟨q178, z178⟩ := q178
            have hS : pq_pr pq_Po M M178 := hS.tr z178.po
            have hI : pz_ic M178 := hS.1 hI0
            have D178 := z178.2 5 9 (by unfold pq_Pp; first | decide | omega)
            refine And.intro (by first | omega | exact pq_cg_01 q59 | exact pq_cg_01 q167 | exact Or.inl q28.1 | exact Or.inl q152.1) ?_
            refine And.intro rfl ?_
            exact ⟨pq_con_q hq ⟨by omega, by omega⟩ q119 h122 T119 (by first | decide | omega) C163 T163 q167 (by first | decide | omega) q178, hS.pp (by first | decide | omega)⟩
          · skip
            refine And.intro (fun h141 => ?_) (fun h141 => ?_)
            · skip
              intro v158 e158 a158 b158
              intro v162 e162 a162 b162
              try rw [pz_wi (by first | decide | omega) (by first | decide | omega)] at e162
              refine And.intro (hI) ?_
              intro M163 q163
              obtain ⟨q163, z163⟩ := q163
              have hS : pq_pr pq_Po M M163 := hS.tr z163.po
              have hI : pz_ic M163 := hS.1 hI0
              have C163 : pq_nx M119 M163 := pq_cu_la c119 (by first | decide | omega) (by first | decide | omega) q163
              have hC : pq_cq M163 := C163.cq hC
              have T163 := pq_T3_po hS
              have D163 := z163.2 5 9 (by unfold pq_Pp; first | decide | omega)
              refine And.intro (And.intro hI hC) ?_
              intro v167 M167 a167 b167 q167
              obtain ⟨q167, z167⟩ := q167
              have hS : pq_pr pq_Po M M167 := hS.tr z167.po
              have hI : pz_ic M167 := hS.1 hI0
              have D167 := z167.2 5 9 (by unfold pq_Pp; first | decide | omega)
              refine pz_nrc (c := 12) rfl ?_
              intro v177 e177 a177 b177
              rw [pz_not (by first | decide | omega) (by first | decide | omega)] at e177
              refine And.intro (And.intro hI rfl) ?_
              intro M178 q178
              obtain ⟨q178, z178⟩ := q178
              have hS : pq_pr pq_Po M M178 := hS.tr z178.po
              have hI : pz_ic M178 := hS.1 hI0
              have D178 := z178.2 5 9 (by unfold pq_Pp; first | decide | omega)
              refine And.intro (by first | omega | exact pq_cg_01 q59 | exact pq_cg_01 q167 | exact Or.inl q28.1 | exact Or.inl q152.1) ?_
              refine And.intro rfl ?_
              exact ⟨pq_con_q hq ⟨by omega, by omega⟩ q119 h122 T119 (by first | decide | omega) C163 T163 q167 (by first | decide | omega) q178, hS.pp (by first | decide | omega)⟩
            · skip
              refine And.intro (fun h147 => ?_) (fun h147 => ?_)
              · skip
                intro v158 e158 a158 b158
                intro v162 e162 a162 b162
                try rw [pz_wi (by first | decide | omega) (by first | decide | omega)] at e162
                refine And.intro (hI) ?_
                intro M163 q163
                obtain ⟨q163, z163⟩ := q163
                have hS : pq_pr pq_Po M M163 := hS.tr z163.po
                have hI : pz_ic M163 := hS.1 hI0
                have C163 : pq_nx M119 M163 := pq_cu_la c119 (by first | decide | omega) (by first | decide | omega) q163
                have hC : pq_cq M163 := C163.cq hC
                have T163 := pq_T3_po hS
                have D163 := z163.2 5 9 (by unfold pq_Pp; first | decide | omega)
                refine And.intro (And.intro hI hC) ?_
                intro v167 M167 a167 b167 q167
                obtain ⟨q167, z167⟩ := q167
                have hS : pq_pr pq_Po M M167 := hS.tr z167.po
                have hI : pz_ic M167 := hS.1 hI0
                have D167 := z167.2 5 9 (by unfold pq_Pp; first | decide | omega)
                refine pz_nrc (c := 12) rfl ?_
                intro v177 e177 a177 b177
                rw [pz_not (by first | decide | omega) (by first | decide | omega)] at e177
                refine And.intro (And.intro hI rfl) ?_
                intro M178 q178
                obtain ⟨q178, z178⟩ := q178
                have hS : pq_pr pq_Po M M178 := hS.tr z178.po
                have hI : pz_ic M178 := hS.1 hI0
                have D178 := z178.2 5 9 (by unfold pq_Pp; first | decide | omega)
                refine And.intro (by first | omega | exact pq_cg_01 q59 | exact pq_cg_01 q167 | exact Or.inl q28.1 | exact Or.inl q152.1) ?_
                refine And.intro rfl ?_
                exact ⟨pq_con_q hq ⟨by omega, by omega⟩ q119 h122 T119 (by first | decide | omega) C163 T163 q167 (by first | decide | omega) q178, hS.pp (by first | decide | omega)⟩
              · skip
                refine And.intro (hI) ?_
                intro v152 M152 a152 b152 q152
                obtain ⟨q152, z152⟩ := q152
                have hS : pq_pr pq_Po M M152 := hS.tr z152.po
                have hI : pz_ic M152 := hS.1 hI0
                have D152 := z152.2 5 9 (by unfold pq_Pp; first | decide | omega)
                refine And.intro (by first | omega | exact pq_cg_01 q59 | exact pq_cg_01 q167 | exact Or.inl q28.1 | exact Or.inl q152.1) ?_
                refine And.intro rfl ?_
                exact ⟨by rw [q152.1]; exact pq_con_r hq.1 ⟨by omega, by omega⟩ q119 h122 T119 (by first | decide | omega) q152.2, hS.pp (by first | decide | omega)⟩
        · skip
          skip
          refine And.intro (by first | omega | exact pq_cg_01 q59 | exact pq_cg_01 q167 | exact Or.inl q28.1 | exact Or.inl q152.1) ?_
          refine And.intro rfl ?_
          exact ⟨pq_con_s hq.1 ⟨by omega, by omega⟩ q119 h122, hS.pp (by first | decide | omega)⟩
      · skip
        intro v18 e18 a18 b18
        refine And.intro (fun h23 => ?_) (fun h23 => ?_)
        · skip
          intro v34 e34 a34 b34
          intro v38 e38 a38 b38
          try rw [pz_wi (by first | decide | omega) (by first | decide | omega)] at e38
          intro M39 e39
          have hS : pq_pr pq_Po M M39 := by
            rw [e39]
            exact pq_pr_u hS (by unfold pq_Po pq_Pp; first | decide | omega) (by unfold pz_iok; first | decide | omega)
          have hI : pz_ic M39 := hS.1 hI0
          have T39_0 := pz_uve e39 5 9
          have P39 := pq_d9 e39
          intro v44 e44 a44 b44
          intro v48 e48 a48 b48
          try rw [pz_wi (by first | decide | omega) (by first | decide | omega)] at e48
          refine And.intro (hI) ?_
          intro M49 q49
          obtain ⟨q49, z49⟩ := q49
          have hS : pq_pr pq_Po M M49 := hS.tr z49.po
          have hI : pz_ic M49 := hS.1 hI0
          have O49 := pq_op1_of hq.1 e39 (by first | decide | omega) (by first | decide | omega) (by first | decide | omega) q49 z49
          have hC : pq_cq M49 := O49.2.1.cq hq
          have D49 := O49.2.2
          refine And.intro (fun h55 => ?_) (fun h55 => ?_)
          · skip
            refine And.intro (And.intro hI (And.intro hC (And.intro (by first | decide | omega) (And.intro (by first | decide | omega) (by first | decide | omega))))) ?_
            intro v66 M66 a66 b66 q66
            obtain ⟨q66, z66⟩ := q66
            have hS : pq_pr pq_Po M M66 := hS.tr z66.po
            have hI : pz_ic M66 := hS.1 hI0
            have D66 := z66.2 5 9 (by unfold pq_Pp; first | decide | omega)
            have T66 := pq_T3_po hS
            refine And.intro (fun h69 => ?_) (fun h69 => ?_)
            · skip
              skip
              intro v89 e89 a89 b89
              intro v93 e93 a93 b93
              try rw [pz_wi (by first | decide | omega) (by first | decide | omega)] at e93
              intro M94 e94
              have hS : pq_pr pq_Po M M94 := by
                rw [e94]
                exact pq_pr_u hS (by unfold pq_Po pq_Pp; first | decide | omega) (by unfold pz_iok; first | decide | omega)
              have hI : pz_ic M94 := hS.1 hI0
              have T94_0 := pz_uve e94 5 9
              refine And.intro (fun h98 => ?_) (fun h98 => ?_)
              · skip
                refine And.intro (by first | omega | exact pq_cg_01 q59 | exact pq_cg_01 q167 | exact Or.inl q28.1 | exact Or.inl q152.1) ?_
                refine And.intro rfl ?_
                first
                  | exact ⟨by rw [pq_cg_1 q59 h98]; exact pq_con_n hq O49 (by first | decide | omega) ⟨by omega, by omega⟩ q59 h98 e94 q113, hS.pp (by first | decide | omega)⟩
                  | exact ⟨by rw [h98]; exact pq_con_nb hq.1 O49 (by first | decide | omega) ⟨by omega, by omega⟩ q59 h98 e94, hS.pp (by first | decide | omega)⟩
                  | exact ⟨pq_con_p hq O49 (by first | decide | omega) ⟨by omega, by omega⟩ q66 h69 T66 n75.1 n75.2.1 e94, hS.pp (by first | decide | omega)⟩
                  | exact ⟨pq_con_pc hq.1 O49 (by first | decide | omega) ⟨by omega, by omega⟩ q66 h69 T66 w75.1 w75.2 e94, hS.pp (by first | decide | omega)⟩
                  | exact ⟨pq_con_pb hq.1 O49 (by first | decide | omega) ⟨by omega, by omega⟩ q66 h69 e94, hS.pp (by first | decide | omega)⟩
                  | (exfalso; omega)
              · skip
                exact absurd h98 (by decide)
            · skip
              have hC := And.intro (pq_cg_cu q66 h69) trivial
              have B66 := pq_cu_b hC.1
              refine And.intro (And.intro hI (And.intro hC.1 (by decide))) ?_
              intro v75 M75 a75 b75 q75
              obtain ⟨q75, z75⟩ := q75
              have hS : pq_pr pq_Po M M75 := hS.tr z75.po
              have hI : pz_ic M75 := hS.1 hI0
              have D75 := z75.2 5 9 (by unfold pq_Pp; first | decide | omega)
              refine And.intro (fun h78 => ?_) (fun h78 => ?_)
              · skip
                have w75 := (q75.resolve_left (fun y => absurd (y.1.symm.trans h78) (by decide))).2
                intro v89 e89 a89 b89
                intro v93 e93 a93 b93
                try rw [pz_wi (by first | decide | omega) (by first | decide | omega)] at e93
                intro M94 e94
                have hS : pq_pr pq_Po M M94 := by
                  rw [e94]
                  exact pq_pr_u hS (by unfold pq_Po pq_Pp; first | decide | omega) (by unfold pz_iok; first | decide | omega)
                have hI : pz_ic M94 := hS.1 hI0
                have T94_0 := pz_uve e94 5 9
                refine And.intro (fun h98 => ?_) (fun h98 => ?_)
                · skip
                  refine And.intro (by first | omega | exact pq_cg_01 q59 | exact pq_cg_01 q167 | exact Or.inl q28.1 | exact Or.inl q152.1) ?_
                  refine And.intro rfl ?_
                  first
                    | exact ⟨by rw [pq_cg_1 q59 h98]; exact pq_con_n hq O49 (by first | decide | omega) ⟨by omega, by omega⟩ q59 h98 e94 q113, hS.pp (by first | decide | omega)⟩
                    | exact ⟨by rw [h98]; exact pq_con_nb hq.1 O49 (by first | decide | omega) ⟨by omega, by omega⟩ q59 h98 e94, hS.pp (by first | decide | omega)⟩
                    | exact ⟨pq_con_p hq O49 (by first | decide | omega) ⟨by omega, by omega⟩ q66 h69 T66 n75.1 n75.2.1 e94, hS.pp (by first | decide | omega)⟩
                    | exact ⟨pq_con_pc hq.1 O49 (by first | decide | omega) ⟨by omega, by omega⟩ q66 h69 T66 w75.1 w75.2 e94, hS.pp (by first | decide | omega)⟩
                    | exact ⟨pq_con_pb hq.1 O49 (by first | decide | omega) ⟨by omega, by omega⟩ q66 h69 e94, hS.pp (by first | decide | omega)⟩
                    | (exfalso; omega)
                · skip
                  exact absurd h98 (by decide)
              · skip
                have n75 := (q75.resolve_right (fun y => h78 y.1)).2
                intro v89 e89 a89 b89
                intro v93 e93 a93 b93
                try rw [pz_wi (by first | decide | omega) (by first | decide | omega)] at e93
                intro M94 e94
                have hS : pq_pr pq_Po M M94 := by
                  rw [e94]
                  exact pq_pr_u hS (by unfold pq_Po pq_Pp; first | decide | omega) (by unfold pz_iok; first | decide | omega)
                have hI : pz_ic M94 := hS.1 hI0
                have T94_0 := pz_uve e94 5 9
                refine And.intro (fun h98 => ?_) (fun h98 => ?_)
                · skip
                  exact absurd h98 (by decide)
                · skip
                  refine And.intro (fun h104 => ?_) (fun h104 => ?_)
                  · skip
                    refine And.intro (by first | omega | exact pq_cg_01 q59 | exact pq_cg_01 q167 | exact Or.inl q28.1 | exact Or.inl q152.1) ?_
                    refine And.intro rfl ?_
                    first
                      | exact ⟨by rw [pq_cg_1 q59 h98]; exact pq_con_n hq O49 (by first | decide | omega) ⟨by omega, by omega⟩ q59 h98 e94 q113, hS.pp (by first | decide | omega)⟩
                      | exact ⟨by rw [h98]; exact pq_con_nb hq.1 O49 (by first | decide | omega) ⟨by omega, by omega⟩ q59 h98 e94, hS.pp (by first | decide | omega)⟩
                      | exact ⟨pq_con_p hq O49 (by first | decide | omega) ⟨by omega, by omega⟩ q66 h69 T66 n75.1 n75.2.1 e94, hS.pp (by first | decide | omega)⟩
                      | exact ⟨pq_con_pc hq.1 O49 (by first | decide | omega) ⟨by omega, by omega⟩ q66 h69 T66 w75.1 w75.2 e94, hS.pp (by first | decide | omega)⟩
                      | exact ⟨pq_con_pb hq.1 O49 (by first | decide | omega) ⟨by omega, by omega⟩ q66 h69 e94, hS.pp (by first | decide | omega)⟩
                      | (exfalso; omega)
                  · skip
                    refine pz_nrc (c := 12) rfl ?_
                    refine And.intro (And.intro hI rfl) ?_
                    intro M113 q113
                    obtain ⟨q113, z113⟩ := q113
                    have hS : pq_pr pq_Po M M113 := hS.tr z113.po
                    have hI : pz_ic M113 := hS.1 hI0
                    have D113 := z113.2 5 9 (by unfold pq_Pp; first | decide | omega)
                    refine And.intro (by first | omega | exact pq_cg_01 q59 | exact pq_cg_01 q167 | exact Or.inl q28.1 | exact Or.inl q152.1) ?_
                    refine And.intro rfl ?_
                    first
                      | exact ⟨by rw [pq_cg_1 q59 h98]; exact pq_con_n hq O49 (by first | decide | omega) ⟨by omega, by omega⟩ q59 h98 e94 q113, hS.pp (by first | decide | omega)⟩
                      | exact ⟨by rw [h98]; exact pq_con_nb hq.1 O49 (by first | decide | omega) ⟨by omega, by omega⟩ q59 h98 e94, hS.pp (by first | decide | omega)⟩
                      | exact ⟨pq_con_p hq O49 (by first | decide | omega) ⟨by omega, by omega⟩ q66 h69 T66 n75.1 n75.2.1 e94, hS.pp (by first | decide | omega)⟩
                      | exact ⟨pq_con_pc hq.1 O49 (by first | decide | omega) ⟨by omega, by omega⟩ q66 h69 T66 w75.1 w75.2 e94, hS.pp (by first | decide | omega)⟩
                      | exact ⟨pq_con_pb hq.1 O49 (by first | decide | omega) ⟨by omega, by omega⟩ q66 h69 e94, hS.pp (by first | decide | omega)⟩
                      | (exfalso; omega)
          · skip
            refine And.intro (And.intro hI (And.intro hC (And.intro (by first | decide | omega) (And.intro (by first | decide | omega) (by first | decide | omega))))) ?_
            intro v59 M59 a59 b59 q59
            obtain ⟨q59, z59⟩ := q59
            have hS : pq_pr pq_Po M M59 := hS.tr z59.po
            have hI : pz_ic M59 := hS.1 hI0
            have D59 := z59.2 5 9 (by unfold pq_Pp; first | decide | omega)
            intro v89 e89 a89 b89
            intro v93 e93 a93 b93
            try rw [pz_wi (by first | decide | omega) (by first | decide | omega)] at e93
            intro M94 e94
            have hS : pq_pr pq_Po M M94 := by
              rw [e94]
              exact pq_pr_u hS (by unfold pq_Po pq_Pp; first | decide | omega) (by unfold pz_iok; first | decide | omega)
            have hI : pz_ic M94 := hS.1 hI0
            have T94_0 := pz_uve e94 5 9
            refine And.intro (fun h98 => ?_) (fun h98 => ?_)
            · skip
              refine And.intro (by first | omega | exact pq_cg_01 q59 | exact pq_cg_01 q167 | exact Or.inl q28.1 | exact Or.inl q152.1) ?_
              refine And.intro rfl ?_
              first
                | exact ⟨by rw [pq_cg_1 q59 h98]; exact pq_con_n hq O49 (by first | decide | omega) ⟨by omega, by omega⟩ q59 h98 e94 q113, hS.pp (by first | decide | omega)⟩
                | exact ⟨by rw [h98]; exact pq_con_nb hq.1 O49 (by first | decide | omega) ⟨by omega, by omega⟩ q59 h98 e94, hS.pp (by first | decide | omega)⟩
                | exact ⟨pq_con_p hq O49 (by first | decide | omega) ⟨by omega, by omega⟩ q66 h69 T66 n75.1 n75.2.1 e94, hS.pp (by first | decide | omega)⟩
                | exact ⟨pq_con_pc hq.1 O49 (by first | decide | omega) ⟨by omega, by omega⟩ q66 h69 T66 w75.1 w75.2 e94, hS.pp (by first | decide | omega)⟩
                | exact ⟨pq_con_pb hq.1 O49 (by first | decide | omega) ⟨by omega, by omega⟩ q66 h69 e94, hS.pp (by first | decide | omega)⟩
                | (exfalso; omega)
            · skip
              refine And.intro (fun h104 => ?_) (fun h104 => ?_)
              · skip
                refine And.intro (by first | omega | exact pq_cg_01 q59 | exact pq_cg_01 q167 | exact Or.inl q28.1 | exact Or.inl q152.1) ?_
                refine And.intro rfl ?_
                first
                  | exact ⟨by rw [pq_cg_1 q59 h98]; exact pq_con_n hq O49 (by first | decide | omega) ⟨by omega, by omega⟩ q59 h98 e94 q113, hS.pp (by first | decide | omega)⟩
                  | exact ⟨by rw [h98]; exact pq_con_nb hq.1 O49 (by first | decide | omega) ⟨by omega, by omega⟩ q59 h98 e94, hS.pp (by first | decide | omega)⟩
                  | exact ⟨pq_con_p hq O49 (by first | decide | omega) ⟨by omega, by omega⟩ q66 h69 T66 n75.1 n75.2.1 e94, hS.pp (by first | decide | omega)⟩
                  | exact ⟨pq_con_pc hq.1 O49 (by first | decide | omega) ⟨by omega, by omega⟩ q66 h69 T66 w75.1 w75.2 e94, hS.pp (by first | decide | omega)⟩
                  | exact ⟨pq_con_pb hq.1 O49 (by first | decide | omega) ⟨by omega, by omega⟩ q66 h69 e94, hS.pp (by first | decide | omega)⟩
                  | (exfalso; omega)
              · skip
                refine pz_nrc (c := 12) rfl ?_
                refine And.intro (And.intro hI rfl) ?_
                intro M113 q113
                obtain ⟨q113, z113⟩ := q113
                have hS : pq_pr pq_Po M M113 := hS.tr z113.po
                have hI : pz_ic M113 := hS.1 hI0
                have D113 := z113.2 5 9 (by unfold pq_Pp; first | decide | omega)
                refine And.intro (by first | omega | exact pq_cg_01 q59 | exact pq_cg_01 q167 | exact Or.inl q28.1 | exact Or.inl q152.1) ?_
                refine And.intro rfl ?_
                first
                  | exact ⟨by rw [pq_cg_1 q59 h98]; exact pq_con_n hq O49 (by first | decide | omega) ⟨by omega, by omega⟩ q59 h98 e94 q113, hS.pp (by first | decide | omega)⟩
                  | exact ⟨by rw [h98]; exact pq_con_nb hq.1 O49 (by first | decide | omega) ⟨by omega, by omega⟩ q59 h98 e94, hS.pp (by first | decide | omega)⟩
                  | exact ⟨pq_con_p hq O49 (by first | decide | omega) ⟨by omega, by omega⟩ q66 h69 T66 n75.1 n75.2.1 e94, hS.pp (by first | decide | omega)⟩
                  | exact ⟨pq_con_pc hq.1 O49 (by first | decide | omega) ⟨by omega, by omega⟩ q66 h69 T66 w75.1 w75.2 e94, hS.pp (by first | decide | omega)⟩
                  | exact ⟨pq_con_pb hq.1 O49 (by first | decide | omega) ⟨by omega, by omega⟩ q66 h69 e94, hS.pp (by first | decide | omega)⟩
                  | (exfalso; omega)
        · skip
          refine And.intro (hI) ?_
          intro v28 M28 a28 b28 q28
          obtain ⟨q28, z28⟩ := q28
          have hS : pq_pr pq_Po M M28 := hS.tr z28.po
          have hI : pz_ic M28 := hS.1 hI0
          have D28 := z28.2 5 9 (by unfold pq_Pp; first | decide | omega)
          refine And.intro (by first | omega | exact pq_cg_01 q59 | exact pq_cg_01 q167 | exact Or.inl q28.1 | exact Or.inl q152.1) ?_
          refine And.intro rfl ?_
          exact ⟨by rw [q28.1]; exact pq_con_x hq.1 (by first | decide | omega) (by first | decide | omega) q28.2, hS.pp (by first | decide | omega)⟩
set_option maxRecDepth 100000 in
set_option maxHeartbeats 4000000 in
theorem h_X9_conditions_s (nn : Nat) (hC : pz_H yX9_condition cX9_condition 4 (some .boolean) (k_X9_condition nn) (3 + 2 * nn) (65 + 46 * nn)) : pz_H yX9_conditions cX9_conditions 4 (some .boolean) (k_X9_conditions nn) (4 + 2 * nn) (88 + 46 * nn) := by
  refine pz_mk (own := RX9) (tb := t_X9_conditions) (fl := pz_flf fl_RX9) (ci := fun _ => none) (ct := pz_ctf [(true, 122, k_X9_condition nn), (true, 125, k_X3_put), (true, 50, k_X9_lookAt)]) (rz := true) (by decide +kernel) rfl t_X9_conditions_ok (pz_flk fl_RX9_ok) (fun i v h => by cases h) ?_ ?_ (Or.inr ⟨rfl, rfl⟩) ?_ ?_
  · exact fun i k' h => pz_ctk (l := [(true, 122, k_X9_condition nn), (true, 125, k_X3_put), (true, 50, k_X9_lookAt)]) (P := fun b i k => b = true → pz_cV (4 + 2 * nn) (88 + 46 * nn) RX9 i k) (List.forall_mem_cons.mpr ⟨(fun _ => pz_cVk (maxL := 4) 0 9 hC rfl ⟨by decide +kernel, by decide +kernel, by decide +kernel⟩ ⟨by decide +kernel, by decide +kernel, by decide +kernel, by decide +kernel⟩ (Or.inl ⟨TX9, 10, rfl⟩) (fun a M _ h => by
      have h : (match (generalizing := false) a with | [.inr (.inr (9, th))] => pz_ic M ∧ pq_cq M ∧ 0 ≤ M 5 9 ∧ M 5 9 ≤ 8 ∧ 8 - M 5 9 ≤ (nn : Int) | _ => False) := h
      split at h
      · exact ⟨_, _, rfl⟩
      · exact h.elim) (by first | decide | omega) (by first | decide | omega) (show Cond.methodLink RX9 122 yX9_condition ∈ lw_tbl by decide +kernel)), List.forall_mem_cons.mpr ⟨(fun _ => v_X3_put (by first | decide | omega) (by first | decide | omega) (by decide +kernel)), List.forall_mem_cons.mpr ⟨(fun _ => v_X9_lookAt (by first | decide | omega) (by first | decide | omega) (by decide +kernel)), fun _ h => absurd h List.not_mem_nil⟩⟩⟩) true i k' h rfl
  · exact fun i k' h => pz_ctk (l := [(true, 122, k_X9_condition nn), (true, 125, k_X3_put), (true, 50, k_X9_lookAt)]) (P := fun b i k => b = false → (pz_cS (4 + 2 * nn) (88 + 46 * nn) RX9 i k ∨ (k = pz_kac ∧ 1 ≤ (4 + 2 * nn) ∧ 60 ≤ (88 + 46 * nn) ∧ Cond.methodLink RX9 i arraycopyName ∈ pz_tbl))) (List.forall_mem_cons.mpr ⟨(fun z => by cases z), List.forall_mem_cons.mpr ⟨(fun z => by cases z), List.forall_mem_cons.mpr ⟨(fun z => by cases z), fun _ h => absurd h List.not_mem_nil⟩⟩⟩) false i k' h rfl
  · intro a M hlen hpre
    obtain ⟨th, rfl, hpre⟩ : ∃ th, a = [.inr (.inr (9, th))] ∧ (pz_ic M ∧ pq_cq M ∧ 0 ≤ M 5 9 ∧ M 5 9 ≤ 8 ∧ 8 - M 5 9 ≤ ((nn : Nat) : Int)) := by
      have hpre : (match (generalizing := false) a with | [.inr (.inr (9, th))] => pz_ic M ∧ pq_cq M ∧ 0 ≤ M 5 9 ∧ M 5 9 ≤ 8 ∧ 8 - M 5 9 ≤ ((nn : Nat) : Int) | _ => False) := hpre
      split at hpre
      · exact ⟨_, rfl, hpre⟩
      · exact hpre.elim
    exact Nat.le_of_ble_eq_true rfl
  · intro a M hlen hcan hM hpre Ok hgo
    obtain ⟨th, rfl, hpre⟩ : ∃ th, a = [.inr (.inr (9, th))] ∧ (pz_ic M ∧ pq_cq M ∧ 0 ≤ M 5 9 ∧ M 5 9 ≤ 8 ∧ 8 - M 5 9 ≤ ((nn : Nat) : Int)) := by
      have hpre : (match (generalizing := false) a with | [.inr (.inr (9, th))] => pz_ic M ∧ pq_cq M ∧ 0 ≤ M 5 9 ∧ M 5 9 ≤ 8 ∧ 8 - M 5 9 ≤ ((nn : Nat) : Int) | _ => False) := hpre
      split at hpre
      · exact ⟨_, rfl, hpre⟩
      · exact hpre.elim
    obtain ⟨k_th, hcan⟩ := pz_tlm hcan
    have k_th : pz_kd th = 9 ∧ th < 231 := k_th
    have R_th := pz_kd9 k_th.1
    subst R_th
    have hI : pz_ic M := hpre.1
    have hI0 := hI
    have hS : pq_pr pq_Pp M M := pq_pr.rf
    obtain ⟨-, hq, pd1, pd2, pd3⟩ := hpre
    have B9 := pq_cu_b hq.1
    have hC := hq
    have h12 := hq.2.1
    have L6 : ∀ (fu : Nat) (x1 : Int) (x2 : Int) (x3 : Int) (N6 : pz_M), (400 - x3).toNat < fu → (pq_pr pq_Pp M N6) → (0 ≤ x3) → (pq_cH M N6 (M 5 9).toNat x1 x2) → (2 * x3 ≤ N6 5 5) → Ok 6 [some (.inr (.inr (9, 5))), some (.inl x1), some (.inl x2), some (.inl x3)] [] N6 := by
      intro fu
      induction fu with
      | zero => exact fun _ _ _ _ hn => absurd hn (Nat.not_lt_zero _)
      | succ fu ih6 =>
        intro x1 x2 x3 N6 hn6 hS g6_1 g6_2 g6_3
        have hI : pz_ic N6 := hS.1 hI0
        have hC := g6_2.cq
        have T6 := pq_T3_of hS
        have D6 : N6 5 9 = M 5 9 := hS.2 5 9 (by unfold pq_Pp; first | decide | omega)
        have B6 := pq_cu_b g6_2.1
        refine hgo (fun p => Nat.beq p 6) 56 6 _ _ _ ?_
        refine And.intro (fun h10 => ?_) (fun h10 => ?_)
        · skip
          exfalso; omega
        · skip
          refine And.intro (And.intro hI (And.intro hC (And.intro (by first | decide | omega) (And.intro (by first | decide | omega) (by first | decide | omega))))) ?_
          intro v14 M14 a14 b14 q14
          obtain ⟨q14, z14⟩ := q14
          have hS : pq_pr pq_Pp M M14 := hS.tr z14
          have hI : pz_ic M14 := hS.1 hI0
          rw [D6] at q14
          refine And.intro (fun h17 => ?_) (fun h17 => ?_)
          · skip
            refine And.intro (fun h23 => ?_) (fun h23 => ?_)
            · skip
              obtain ⟨E35, K35⟩ := pq_cH_s g6_2 T6 q14 h17 h12 (Or.inl ⟨h23, rfl⟩)
              have T35 := pq_T3_of hS
              have B35 := pq_cu_b E35.1
              intro v36 e36 a36 b36
              refine And.intro (fun h41 => ?_) (fun h41 => ?_)
              · skip
                refine And.intro (fun h51 => ?_) (fun h51 => ?_)
                · skip
                  exact absurd h51 (by decide)
                · skip
                  refine And.intro (fun h55 => ?_) (fun h55 => ?_)
                  · skip
                    obtain ⟨U67, K67⟩ := pq_cE_0 E35 T35 (by first | decide | omega) h12 (Or.inl ⟨h55, rfl⟩)
                    have T67 := T35
                    intro v68 e68 a68 b68
                    refine And.intro (fun h72 => ?_) (fun h72 => ?_)
                    · skip
                      intro v81 e81 a81 b81
                      intro v85 e85 a85 b85
                      rw [pz_wi (by first | decide | omega) (by first | decide | omega)] at e85
                      refine And.intro (hI) ?_
                      intro M86 q86
                      obtain ⟨q86, z86⟩ := q86
                      have hS : pq_pr pq_Pp M M86 := hS.tr z86
                      have hI : pz_ic M86 := hS.1 hI0
                      have K86 := pq_la5 q86 (by first | decide | omega)
                      intro v89 e89 a89 b89
                      try rw [pz_wi (by first | decide | omega) (by first | decide | omega)] at e89
                      exact ih6 _ _ _ _ (by first | decide | omega) hS (by first | omega | exact pq_cH_0 hq | exact pq_cE_a E35 T35 (by first | decide | omega) (pq_cu_la E35.1 (by first | decide | omega) (by first | decide | omega) q86) | exact pq_cT_n U67 T67 (by first | decide | omega) (pq_cu_la U67.1 (by first | decide | omega) (by first | decide | omega) q86)) (by first | omega | exact pq_cH_0 hq | exact pq_cE_a E35 T35 (by first | decide | omega) (pq_cu_la E35.1 (by first | decide | omega) (by first | decide | omega) q86) | exact pq_cT_n U67 T67 (by first | decide | omega) (pq_cu_la U67.1 (by first | decide | omega) (by first | decide | omega) q86)) (by first | omega | exact pq_cH_0 hq | exact pq_cE_a E35 T35 (by first | decide | omega) (pq_cu_la E35.1 (by first | decide | omega) (by first | decide | omega) q86) | exact pq_cT_n U67 T67 (by first | decide | omega) (pq_cu_la U67.1 (by first | decide | omega) (by first | decide | omega) q86))
                    · skip
                      refine And.intro (by first | decide | omega) ?_
                      refine And.intro rfl ?_
                      exact ⟨pq_cT_e U67 T67 (by first | decide | omega), hS⟩
                  · skip
                    skip
                    refine pz_nrc (c := 12) rfl ?_
                    refine And.intro (And.intro hI rfl) ?_
                    intro M64 q64
                    obtain ⟨q64, z64⟩ := q64
                    have hS : pq_pr pq_Pp M M64 := hS.tr z64
                    have hI : pz_ic M64 := hS.1 hI0
                    obtain ⟨U67, K67⟩ := pq_cE_0 E35 T35 (by first | decide | omega) h12 (Or.inr ⟨h55, q64⟩)
                    have T67 := pq_T3_of hS
                    have B67 := pq_cu_b U67.1
                    intro v68 e68 a68 b68
                    refine And.intro (fun h72 => ?_) (fun h72 => ?_)
                    · skip
                      intro v81 e81 a81 b81
                      intro v85 e85 a85 b85
                      rw [pz_wi (by first | decide | omega) (by first | decide | omega)] at e85
                      refine And.intro (hI) ?_
                      intro M86 q86
                      obtain ⟨q86, z86⟩ := q86
                      have hS : pq_pr pq_Pp M M86 := hS.tr z86
                      have hI : pz_ic M86 := hS.1 hI0
                      have K86 := pq_la5 q86 (by first | decide | omega)
                      intro v89 e89 a89 b89
                      try rw [pz_wi (by first | decide | omega) (by first | decide | omega)] at e89
                      exact ih6 _ _ _ _ (by first | decide | omega) hS (by first | omega | exact pq_cH_0 hq | exact pq_cE_a E35 T35 (by first | decide | omega) (pq_cu_la E35.1 (by first | decide | omega) (by first | decide | omega) q86) | exact pq_cT_n U67 T67 (by first | decide | omega) (pq_cu_la U67.1 (by first | decide | omega) (by first | decide | omega) q86)) (by first | omega | exact pq_cH_0 hq | exact pq_cE_a E35 T35 (by first | decide | omega) (pq_cu_la E35.1 (by first | decide | omega) (by first | decide | omega) q86) | exact pq_cT_n U67 T67 (by first | decide | omega) (pq_cu_la U67.1 (by first | decide | omega) (by first | decide | omega) q86)) (by first | omega | exact pq_cH_0 hq | exact pq_cE_a E35 T35 (by first | decide | omega) (pq_cu_la E35.1 (by first | decide | omega) (by first | decide | omega) q86) | exact pq_cT_n U67 T67 (by first | decide | omega) (pq_cu_la U67.1 (by first | decide | omega) (by first | decide | omega) q86))
                    · skip
                      refine And.intro (by first | decide | omega) ?_
                      refine And.intro rfl ?_
                      exact ⟨pq_cT_e U67 T67 (by first | decide | omega), hS⟩
              · skip
                refine And.intro (fun h51 => ?_) (fun h51 => ?_)
                · skip
                  intro v81 e81 a81 b81
                  intro v85 e85 a85 b85
                  rw [pz_wi (by first | decide | omega) (by first | decide | omega)] at e85
                  refine And.intro (hI) ?_
                  intro M86 q86
                  obtain ⟨q86, z86⟩ := q86
                  have hS : pq_pr pq_Pp M M86 := hS.tr z86
                  have hI : pz_ic M86 := hS.1 hI0
                  have K86 := pq_la5 q86 (by first | decide | omega)
                  intro v89 e89 a89 b89
                  try rw [pz_wi (by first | decide | omega) (by first | decide | omega)] at e89
                  exact ih6 _ _ _ _ (by first | decide | omega) hS (by first | omega | exact pq_cH_0 hq | exact pq_cE_a E35 T35 (by first | decide | omega) (pq_cu_la E35.1 (by first | decide | omega) (by first | decide | omega) q86) | exact pq_cT_n U67 T67 (by first | decide | omega) (pq_cu_la U67.1 (by first | decide | omega) (by first | decide | omega) q86)) (by first | omega | exact pq_cH_0 hq | exact pq_cE_a E35 T35 (by first | decide | omega) (pq_cu_la E35.1 (by first | decide | omega) (by first | decide | omega) q86) | exact pq_cT_n U67 T67 (by first | decide | omega) (pq_cu_la U67.1 (by first | decide | omega) (by first | decide | omega) q86)) (by first | omega | exact pq_cH_0 hq | exact pq_cE_a E35 T35 (by first | decide | omega) (pq_cu_la E35.1 (by first | decide | omega) (by first | decide | omega) q86) | exact pq_cT_n U67 T67 (by first | decide | omega) (pq_cu_la U67.1 (by first | decide | omega) (by first | decide | omega) q86))
                · skip
                  exact absurd h51 (by decide)
            · skip
              skip
              refine pz_nrc (c := 12) rfl ?_
              refine And.intro (And.intro hI rfl) ?_
              intro M32 q32
              obtain ⟨q32, z32⟩ := q32
              have hS : pq_pr pq_Pp M M32 := hS.tr z32
              have hI : pz_ic M32 := hS.1 hI0
              obtain ⟨E35, K35⟩ := pq_cH_s g6_2 T6 q14 h17 h12 (Or.inr ⟨h23, q32⟩)
              have T35 := pq_T3_of hS
              have B35 := pq_cu_b E35.1
              intro v36 e36 a36 b36
              refine And.intro (fun h41 => ?_) (fun h41 => ?_)
              · skip
                refine And.intro (fun h51 => ?_) (fun h51 => ?_)
                · skip
                  exact absurd h51 (by decide)
                · skip
                  refine And.intro (fun h55 => ?_) (fun h55 => ?_)
                  · skip
                    obtain ⟨U67, K67⟩ := pq_cE_0 E35 T35 (by first | decide | omega) h12 (Or.inl ⟨h55, rfl⟩)
                    have T67 := T35
                    intro v68 e68 a68 b68
                    refine And.intro (fun h72 => ?_) (fun h72 => ?_)
                    · skip
                      intro v81 e81 a81 b81
                      intro v85 e85 a85 b85
                      rw [pz_wi (by first | decide | omega) (by first | decide | omega)] at e85
                      refine And.intro (hI) ?_
                      intro M86 q86
                      obtain ⟨q86, z86⟩ := q86
                      have hS : pq_pr pq_Pp M M86 := hS.tr z86
                      have hI : pz_ic M86 := hS.1 hI0
                      have K86 := pq_la5 q86 (by first | decide | omega)
                      intro v89 e89 a89 b89
                      try rw [pz_wi (by first | decide | omega) (by first | decide | omega)] at e89
                      exact ih6 _ _ _ _ (by first | decide | omega) hS (by first | omega | exact pq_cH_0 hq | exact pq_cE_a E35 T35 (by first | decide | omega) (pq_cu_la E35.1 (by first | decide | omega) (by first | decide | omega) q86) | exact pq_cT_n U67 T67 (by first | decide | omega) (pq_cu_la U67.1 (by first | decide | omega) (by first | decide | omega) q86)) (by first | omega | exact pq_cH_0 hq | exact pq_cE_a E35 T35 (by first | decide | omega) (pq_cu_la E35.1 (by first | decide | omega) (by first | decide | omega) q86) | exact pq_cT_n U67 T67 (by first | decide | omega) (pq_cu_la U67.1 (by first | decide | omega) (by first | decide | omega) q86)) (by first | omega | exact pq_cH_0 hq | exact pq_cE_a E35 T35 (by first | decide | omega) (pq_cu_la E35.1 (by first | decide | omega) (by first | decide | omega) q86) | exact pq_cT_n U67 T67 (by first | decide | omega) (pq_cu_la U67.1 (by first | decide | omega) (by first | decide | omega) q86))
                    · skip
                      refine And.intro (by first | decide | omega) ?_
                      refine And.intro rfl ?_
                      exact ⟨pq_cT_e U67 T67 (by first | decide | omega), hS⟩
                  · skip
                    skip
                    refine pz_nrc (c := 12) rfl ?_
                    refine And.intro (And.intro hI rfl) ?_
                    intro M64 q64
                    obtain ⟨q64, z64⟩ := q64
                    have hS : pq_pr pq_Pp M M64 := hS.tr z64
                    have hI : pz_ic M64 := hS.1 hI0
                    obtain ⟨U67, K67⟩ := pq_cE_0 E35 T35 (by first | decide | omega) h12 (Or.inr ⟨h55, q64⟩)
                    have T67 := pq_T3_of hS
                    have B67 := pq_cu_b U67.1
                    intro v68 e68 a68 b68
                    refine And.intro (fun h72 => ?_) (fun h72 => ?_)
                    · skip
                      intro v81 e81 a81 b81
                      intro v85 e85 a85 b85
                      rw [pz_wi (by first | decide | omega) (by first | decide | omega)] at e85
                      refine And.intro (hI) ?_
                      intro M86 q86
                      obtain ⟨q86, z86⟩ := q86
                      have hS : pq_pr pq_Pp M M86 := hS.tr z86
                      have hI : pz_ic M86 := hS.1 hI0
                      have K86 := pq_la5 q86 (by first | decide | omega)
                      intro v89 e89 a89 b89
                      try rw [pz_wi (by first | decide | omega) (by first | decide | omega)] at e89
                      exact ih6 _ _ _ _ (by first | decide | omega) hS (by first | omega | exact pq_cH_0 hq | exact pq_cE_a E35 T35 (by first | decide | omega) (pq_cu_la E35.1 (by first | decide | omega) (by first | decide | omega) q86) | exact pq_cT_n U67 T67 (by first | decide | omega) (pq_cu_la U67.1 (by first | decide | omega) (by first | decide | omega) q86)) (by first | omega | exact pq_cH_0 hq | exact pq_cE_a E35 T35 (by first | decide | omega) (pq_cu_la E35.1 (by first | decide | omega) (by first | decide | omega) q86) | exact pq_cT_n U67 T67 (by first | decide | omega) (pq_cu_la U67.1 (by first | decide | omega) (by first | decide | omega) q86)) (by first | omega | exact pq_cH_0 hq | exact pq_cE_a E35 T35 (by first | decide | omega) (pq_cu_la E35.1 (by first | decide | omega) (by first | decide | omega) q86) | exact pq_cT_n U67 T67 (by first | decide | omega) (pq_cu_la U67.1 (by first | decide | omega) (by first | decide | omega) q86))
                    · skip
                      refine And.intro (by first | decide | omega) ?_
                      refine And.intro rfl ?_
                      exact ⟨pq_cT_e U67 T67 (by first | decide | omega), hS⟩
              · skip
                refine And.intro (fun h51 => ?_) (fun h51 => ?_)
                · skip
                  intro v81 e81 a81 b81
                  intro v85 e85 a85 b85
                  rw [pz_wi (by first | decide | omega) (by first | decide | omega)] at e85
                  refine And.intro (hI) ?_
                  intro M86 q86
                  obtain ⟨q86, z86⟩ := q86
                  have hS : pq_pr pq_Pp M M86 := hS.tr z86
                  have hI : pz_ic M86 := hS.1 hI0
                  have K86 := pq_la5 q86 (by first | decide | omega)
                  intro v89 e89 a89 b89
                  try rw [pz_wi (by first | decide | omega) (by first | decide | omega)] at e89
                  exact ih6 _ _ _ _ (by first | decide | omega) hS (by first | omega | exact pq_cH_0 hq | exact pq_cE_a E35 T35 (by first | decide | omega) (pq_cu_la E35.1 (by first | decide | omega) (by first | decide | omega) q86) | exact pq_cT_n U67 T67 (by first | decide | omega) (pq_cu_la U67.1 (by first | decide | omega) (by first | decide | omega) q86)) (by first | omega | exact pq_cH_0 hq | exact pq_cE_a E35 T35 (by first | decide | omega) (pq_cu_la E35.1 (by first | decide | omega) (by first | decide | omega) q86) | exact pq_cT_n U67 T67 (by first | decide | omega) (pq_cu_la U67.1 (by first | decide | omega) (by first | decide | omega) q86)) (by first | omega | exact pq_cH_0 hq | exact pq_cE_a E35 T35 (by first | decide | omega) (pq_cu_la E35.1 (by first | decide | omega) (by first | decide | omega) q86) | exact pq_cT_n U67 T67 (by first | decide | omega) (pq_cu_la U67.1 (by first | decide | omega) (by first | decide | omega) q86))
                · skip
                  exact absurd h51 (by decide)
          · skip
            refine And.intro (by first | decide | omega) ?_
            refine And.intro rfl ?_
            exact ⟨pq_cH_b g6_2 T6 q14 h17, hS⟩
    refine hgo (fun p => Nat.beq p 6) 56 0 _ [] M ?_
    exact L6 _ _ _ _ _ (Nat.lt_succ_self _) hS (by first | omega | exact pq_cH_0 hq | exact pq_cE_a E35 T35 (by first | decide | omega) (pq_cu_la E35.1 (by first | decide | omega) (by first | decide | omega) q86) | exact pq_cT_n U67 T67 (by first | decide | omega) (pq_cu_la U67.1 (by first | decide | omega) (by first | decide | omega) q86)) (by first | omega | exact pq_cH_0 hq | exact pq_cE_a E35 T35 (by first | decide | omega) (pq_cu_la E35.1 (by first | decide | omega) (by first | decide | omega) q86) | exact pq_cT_n U67 T67 (by first | decide | omega) (pq_cu_la U67.1 (by first | decide | omega) (by first | decide | omega) q86)) (by first | omega | exact pq_cH_0 hq | exact pq_cE_a E35 T35 (by first | decide | omega) (pq_cu_la E35.1 (by first | decide | omega) (by first | decide | omega) q86) | exact pq_cT_n U67 T67 (by first | decide | omega) (pq_cu_la U67.1 (by first | decide | omega) (by first | decide | omega) q86))
theorem h_X9_both : ∀ nn : Nat, pz_H yX9_condition cX9_condition 4 (some .boolean) (k_X9_condition nn) (3 + 2 * nn) (65 + 46 * nn) ∧ pz_H yX9_conditions cX9_conditions 4 (some .boolean) (k_X9_conditions nn) (4 + 2 * nn) (88 + 46 * nn) := by
  intro nn
  induction nn with
  | zero => exact ⟨h_X9_condition_0, h_X9_conditions_s 0 h_X9_condition_0⟩
  | succ nn ih =>
    have h := h_X9_condition_s nn ih.1 ih.2
    exact ⟨h, h_X9_conditions_s (nn + 1) h⟩
theorem v_X9_conditions8 {fr lo i : Nat} {own : String} (h1 : 4 + 2 * 8 + 1 ≤ fr) (h2 : 8 + (4 + 11) + (88 + 46 * 8) ≤ lo) (h3 : .methodLink own i yX9_conditions ∈ lw_tbl) : pz_cV fr lo own i (k_X9_conditions 8) :=
  pz_cVk (maxL := 4) 0 9 (h_X9_both 8).2 rfl ⟨by decide +kernel, by decide +kernel, by decide +kernel⟩ ⟨by decide +kernel, by decide +kernel, by decide +kernel, by decide +kernel⟩ (Or.inl ⟨TX9, 10, rfl⟩) (fun a M _ h => by
    have h : (match (generalizing := false) a with | [.inr (.inr (9, th))] => pz_ic M ∧ pq_cq M ∧ 0 ≤ M 5 9 ∧ M 5 9 ≤ 8 ∧ 8 - M 5 9 ≤ (8 : Int) | _ => False) := h
    split at h
    · exact ⟨_, _, rfl⟩
    · exact h.elim) h1 h2 h3
noncomputable def k_X9_lawLines : pz_C := (1, 1, fun a M => (match a with | [.inr (.inr (9, th))] => pz_ic M ∧ pq_cu M ∧ M 5 9 = 0 | _ => False), fun a M r M' => (match a, r with | [.inr (.inr (9, th))], some (.inl v) => (pq_lg M M' v) ∧ pq_pr pq_Pl M M' | _, _ => False))
noncomputable abbrev ct_X9_lawLines : List (Bool × Nat × pz_C) := [(true, 103, k_X3_clear), (true, 100, k_X9_wrong), (true, 50, k_X9_lookAt), (true, 109, k_X9_sum), (true, 112, (k_X9_conditions 8)), (true, 115, k_X3_addLine), (true, 119, k_X9_accept)]
set_option maxRecDepth 100000 in
set_option maxHeartbeats 4000000 in
theorem h_X9_lawLines : pz_H yX9_lawLines cX9_lawLines 5 (some .boolean) k_X9_lawLines 21 479 := by
  refine pz_mk (own := RX9) (tb := t_X9_lawLines) (fl := pz_flf fl_RX9) (ci := fun _ => none) (ct := pz_ctf ct_X9_lawLines) (rz := true) (pz_pfc_RX9 yX9_lawLines rfl) rfl t_X9_lawLines_ok (pz_flk fl_RX9_ok) (fun i v h => by cases h) ?_ ?_ (Or.inr ⟨rfl, rfl⟩) ?_ ?_
  · exact fun i k' h => pz_ctk (l := ct_X9_lawLines) (P := fun b i k => b = true → pz_cV 21 479 RX9 i k) (List.forall_mem_cons.mpr ⟨(fun _ => v_X3_clear (by decide) (by decide) pz_wq749), List.forall_mem_cons.mpr ⟨(fun _ => v_X9_wrong (by decide) (by decide) pz_wq753), List.forall_mem_cons.mpr ⟨(fun _ => v_X9_lookAt (by decide) (by decide) pz_wq741), List.forall_mem_cons.mpr ⟨(fun _ => v_X9_sum (by decide) (by decide) pz_wq757), List.forall_mem_cons.mpr ⟨(fun _ => v_X9_conditions8 (by decide) (by decide) pz_wq769), List.forall_mem_cons.mpr ⟨(fun _ => v_X3_addLine (by decide) (by decide) pz_wq781), List.forall_mem_cons.mpr ⟨(fun _ => v_X9_accept (by decide) (by decide) pz_wq777), fun _ h => absurd h List.not_mem_nil⟩⟩⟩⟩⟩⟩⟩) true i k' h rfl
  · exact fun i k' h => pz_ctk (l := ct_X9_lawLines) (P := fun b i k => b = false → (pz_cS 21 479 RX9 i k ∨ (k = pz_kac ∧ 1 ≤ 21 ∧ 60 ≤ 479 ∧ Cond.methodLink RX9 i arraycopyName ∈ pz_tbl))) (List.forall_mem_cons.mpr ⟨((fun z => by cases z)), List.forall_mem_cons.mpr ⟨((fun z => by cases z)), List.forall_mem_cons.mpr ⟨((fun z => by cases z)), List.forall_mem_cons.mpr ⟨((fun z => by cases z)), List.forall_mem_cons.mpr ⟨((fun z => by cases z)), List.forall_mem_cons.mpr ⟨((fun z => by cases z)), List.forall_mem_cons.mpr ⟨((fun z => by cases z)), fun _ h => absurd h List.not_mem_nil⟩⟩⟩⟩⟩⟩⟩) false i k' h rfl
  · intro a M hlen hpre
    obtain ⟨th, rfl, hpre⟩ : ∃ th, a = [.inr (.inr (9, th))] ∧ (pz_ic M ∧ pq_cu M ∧ M 5 9 = 0) := by
      have hpre : (match (generalizing := false) a with | [.inr (.inr (9, th))] => pz_ic M ∧ pq_cu M ∧ M 5 9 = 0 | _ => False) := hpre
      split at hpre
      · exact ⟨_, rfl, hpre⟩
      · exact hpre.elim
    exact Nat.le_of_ble_eq_true rfl
  · intro a M hlen hcan hM hpre Ok hgo
    obtain ⟨th, rfl, hpre⟩ : ∃ th, a = [.inr (.inr (9, th))] ∧ (pz_ic M ∧ pq_cu M ∧ M 5 9 = 0) := by
      have hpre : (match (generalizing := false) a with | [.inr (.inr (9, th))] => pz_ic M ∧ pq_cu M ∧ M 5 9 = 0 | _ => False) := hpre
      split at hpre
      · exact ⟨_, rfl, hpre⟩
      · exact hpre.elim
    obtain ⟨k_th, hc_th⟩ := pz_tlm hcan
    have k_th : pz_kd th = 9 ∧ th < 231 := k_th
    have R_th := pz_kd9 k_th.1
    subst R_th
    have hI : pz_ic M := hpre.1
    have hI0 := hI
    have hS : pq_pr pq_Pl M M := pq_pr.rf
    obtain ⟨-, hc, h9⟩ := hpre
    have L9 : ∀ (fu : Nat) (x1 : Int) (d2 : Option pz_V) (d3 : Option pz_V) (d4 : Option pz_V) (N9 : pz_M), (17 - x1).toNat < fu → (pq_pr pq_Pl M N9) → (0 ≤ x1) → (x1 ≤ 16) → (pq_lN M N9 x1) → Ok 9 [some (.inr (.inr (9, 5))), some (.inl x1), d2, d3, d4] [] N9 := by
      intro fu
      induction fu with
      | zero => exact fun _ _ _ _ _ hn => absurd hn (Nat.not_lt_zero _)
      | succ fu ih9 =>
        intro x1 d2 d3 d4 N9 hn9 hS g9_1 g9_2 g9_3
        have hI : pz_ic N9 := hS.1 hI0
        have hC := g9_3.1
        have T9 := pq_T3_pl hS
        have B9 := pq_cu_b hC.1
        have D9 : N9 5 9 = 0 := (hS.2 5 9 (by unfold pq_Pl; first | decide | omega)).trans h9
        refine hgo (fun p => Nat.beq p 9) 83 9 _ _ _ ?_
        refine And.intro (fun h12 => ?_) (fun h12 => ?_)
        · skip
          exfalso; omega
        · skip
          intro v16 e16 a16 b16
          refine And.intro (fun h21 => ?_) (fun h21 => ?_)
          · skip
            refine And.intro (by first | omega | exact Or.inl q40.1 | exact Or.inl q52.1) ?_
            refine And.intro rfl ?_
            exact ⟨pq_lN_z g9_3 T9 (by first | decide | omega), hS⟩
          · skip
            intro v25 e25 a25 b25
            refine And.intro (fun h30 => ?_) (fun h30 => ?_)
            · skip
              refine And.intro (hI) ?_
              intro v40 M40 a40 b40 q40
              obtain ⟨q40, z40⟩ := q40
              have hS : pq_pr pq_Pl M M40 := hS.tr z40.pl
              have hI : pz_ic M40 := hS.1 hI0
              refine And.intro (by first | omega | exact Or.inl q40.1 | exact Or.inl q52.1) ?_
              refine And.intro rfl ?_
              exact ⟨by rw [q40.1]; exact pq_lN_w g9_3 T9 (Or.inl ⟨by omega, by omega, rfl⟩) q40.2, hS⟩
            · skip
              refine And.intro (fun h35 => ?_) (fun h35 => ?_)
              · skip
                refine And.intro (fun h47 => ?_) (fun h47 => ?_)
                · skip
                  intro v58 e58 a58 b58
                  intro v62 e62 a62 b62
                  try rw [pz_wi (by first | decide | omega) (by first | decide | omega)] at e62
                  refine And.intro (hI) ?_
                  intro M63 q63
                  obtain ⟨q63, z63⟩ := q63
                  have hS : pq_pr pq_Pl M M63 := hS.tr z63.pl
                  have hI : pz_ic M63 := hS.1 hI0
                  have C63 : pq_nx N9 M63 := pq_cu_la hC.1 (by first | decide | omega) (by first | decide | omega) q63
                  have T63 := pq_T3_pl hS
                  have hC : pq_cq M63 := C63.cq hC
                  refine pz_nrc (c := 12) rfl ?_
                  intro v70 e70 a70 b70
                  have I70 := hI.2.2.2.1 12 (by first | decide | omega) (by first | decide | omega)
                  refine And.intro (And.intro hI hC) ?_
                  intro v75 M75 a75 b75 q75
                  obtain ⟨q75, z75⟩ := q75
                  have hS : pq_pr pq_Pl M M75 := hS.tr z75.pl
                  have hI : pz_ic M75 := hS.1 hI0
                  have T75 := pq_T3_pl hS
                  refine And.intro (fun h78 => ?_) (fun h78 => ?_)
                  · skip
                    have hC : pq_cq M75 := pq_cg_cq hC q75 h78
                    have B75 := pq_cu_b hC.1
                    refine pz_nrc (c := 12) rfl ?_
                    intro v87 e87 a87 b87
                    have I87 := hI.2.2.2.1 12 (by first | decide | omega) (by first | decide | omega)
                    intro v93 e93 a93 b93
                    refine And.intro (fun h97 => ?_) (fun h97 => ?_)
                    · skip
                      have G119 := pq_lM_1 g9_3 T9 T63 ⟨by omega, by omega⟩ (by first | decide | omega) C63 q75 h78 T75 (by first | decide | omega) e70 e87
                      rw [← e25] at G119
                      have F119 : ∀ b j : Nat, (b = 12 ∧ j = 0) ∨ (39 ≤ b ∧ b ≤ 42) → M75 b j = N9 b j := fun b j y => by rw [z75.2 b j (by unfold pq_Pp; first | decide | omega), z63.2 b j (by unfold pq_Pp; first | decide | omega)]
                      have T119 := T75
                      refine pz_nrc (c := 12) rfl ?_
                      refine And.intro (And.intro hI rfl) ?_
                      intro M127 q127
                      obtain ⟨q127, z127⟩ := q127
                      have hS : pq_pr pq_Pl M M127 := hS.tr z127
                      have hI : pz_ic M127 := hS.1 hI0
                      have A127 := pq_add_c q127 (by rw [F119 12 0 (Or.inl ⟨rfl, rfl⟩), pq_lN_n g9_3]; omega)
                      have hC := And.intro (A127.2.2.2 hC.1) trivial
                      refine And.intro (And.intro hI (And.intro hC.1 (by decide))) ?_
                      intro v133 M133 a133 b133 q133
                      obtain ⟨q133, z133⟩ := q133
                      have hS : pq_pr pq_Pl M M133 := hS.tr z133.pl
                      have hI : pz_ic M133 := hS.1 hI0
                      refine And.intro (fun h136 => ?_) (fun h136 => ?_)
                      · skip
                        have n133 := (q133.resolve_right (fun y => h136 y.1)).2
                        have G136 := pq_lM_n G119 (by first | decide | omega) F119 T119 q127 n133.1 n133.2.1 n133.2.2
                        intro v141 e141 a141 b141
                        rw [pz_wi (by first | decide | omega) (by first | decide | omega)] at e141
                        exact ih9 _ _ _ _ _ (by first | decide | omega) hS (by first | omega | exact G4 | (rw [e141]; exact G136)) (by first | omega | exact G4 | (rw [e141]; exact G136)) (by first | omega | exact G4 | (rw [e141]; exact G136))
                      · skip
                        have w133 := (q133.resolve_left (fun y => absurd (y.1.symm.trans h136) (by decide))).2
                        refine And.intro (by first | omega | exact Or.inl q40.1 | exact Or.inl q52.1) ?_
                        refine And.intro rfl ?_
                        exact ⟨pq_lM_b G119 (by rw [F119 12 0 (Or.inl ⟨rfl, rfl⟩), pq_lN_n g9_3]; omega) T119 q127 w133.1 w133.2, hS⟩
                    · skip
                      skip
                      intro v102 e102 a102 b102
                      intro v106 e106 a106 b106
                      try rw [pz_wi (by first | decide | omega) (by first | decide | omega)] at e106
                      refine And.intro (hI) ?_
                      intro M107 q107
                      obtain ⟨q107, z107⟩ := q107
                      have hS : pq_pr pq_Pl M M107 := hS.tr z107.pl
                      have hI : pz_ic M107 := hS.1 hI0
                      have C107 : pq_nx M75 M107 := pq_cu_la hC.1 (by first | decide | omega) (by first | decide | omega) q107
                      have T107 := pq_T3_pl hS
                      have hC : pq_cq M107 := C107.cq hC
                      have D107 : M107 5 9 = 0 := (hS.2 5 9 (by unfold pq_Pl; first | decide | omega)).trans h9
                      refine And.intro (And.intro hI (And.intro hC (by first | decide | omega))) ?_
                      intro v111 M111 a111 b111 q111
                      obtain ⟨q111, z111⟩ := q111
                      have hS : pq_pr pq_Pl M M111 := hS.tr z111.pl
                      have hI : pz_ic M111 := hS.1 hI0
                      refine And.intro (fun h114 => ?_) (fun h114 => ?_)
                      · skip
                        have hC : pq_cq M111 := pq_cg_cq hC q111 h114
                        have G119 := pq_lM_2 g9_3 T9 T63 ⟨by omega, by omega⟩ (by first | decide | omega) C63 q75 h78 T75 (by first | decide | omega) C107 T107 q111 (by rw [D107]; rfl) h114 e70 e87
                        rw [← e25] at G119
                        have F119 : ∀ b j : Nat, (b = 12 ∧ j = 0) ∨ (39 ≤ b ∧ b ≤ 42) → M111 b j = N9 b j := fun b j y => by rw [z111.2 b j (by unfold pq_Pp; first | decide | omega), z107.2 b j (by unfold pq_Pp; first | decide | omega), z75.2 b j (by unfold pq_Pp; first | decide | omega), z63.2 b j (by unfold pq_Pp; first | decide | omega)]
                        have T119 := pq_T3_pl hS
                        refine pz_nrc (c := 12) rfl ?_
                        refine And.intro (And.intro hI rfl) ?_
                        intro M127 q127
                        obtain ⟨q127, z127⟩ := q127
                        have hS : pq_pr pq_Pl M M127 := hS.tr z127
                        have hI : pz_ic M127 := hS.1 hI0
                        have A127 := pq_add_c q127 (by rw [F119 12 0 (Or.inl ⟨rfl, rfl⟩), pq_lN_n g9_3]; omega)
                        have hC := And.intro (A127.2.2.2 hC.1) trivial
                        refine And.intro (And.intro hI (And.intro hC.1 (by decide))) ?_
                        intro v133 M133 a133 b133 q133
                        obtain ⟨q133, z133⟩ := q133
                        have hS : pq_pr pq_Pl M M133 := hS.tr z133.pl
                        have hI : pz_ic M133 := hS.1 hI0
                        refine And.intro (fun h136 => ?_) (fun h136 => ?_)
                        · skip
                          have n133 := (q133.resolve_right (fun y => h136 y.1)).2
                          have G136 := pq_lM_n G119 (by first | decide | omega) F119 T119 q127 n133.1 n133.2.1 n133.2.2
                          intro v141 e141 a141 b141
                          rw [pz_wi (by first | decide | omega) (by first | decide | omega)] at e141
                          exact ih9 _ _ _ _ _ (by first | decide | omega) hS (by first | omega | exact G4 | (rw [e141]; exact G136)) (by first | omega | exact G4 | (rw [e141]; exact G136)) (by first | omega | exact G4 | (rw [e141]; exact G136))
                        · skip
                          have w133 := (q133.resolve_left (fun y => absurd (y.1.symm.trans h136) (by decide))).2
                          refine And.intro (by first | omega | exact Or.inl q40.1 | exact Or.inl q52.1) ?_
                          refine And.intro rfl ?_
                          exact ⟨pq_lM_b G119 (by rw [F119 12 0 (Or.inl ⟨rfl, rfl⟩), pq_lN_n g9_3]; omega) T119 q127 w133.1 w133.2, hS⟩
                      · skip
                        skip
                        refine And.intro (by first | omega | exact Or.inl q40.1 | exact Or.inl q52.1) ?_
                        refine And.intro rfl ?_
                        exact ⟨pq_lN_wb g9_3 T9 T63 ⟨by omega, by omega⟩ (by first | decide | omega) C63 q75 h78 T75 (by first | decide | omega) C107 T107 q111 (by rw [D107]; rfl) h114, hS⟩
                  · skip
                    skip
                    refine And.intro (by first | omega | exact Or.inl q40.1 | exact Or.inl q52.1) ?_
                    refine And.intro rfl ?_
                    exact ⟨pq_lN_sb g9_3 T9 T63 ⟨by omega, by omega⟩ (by first | decide | omega) C63 q75 h78, hS⟩
                · skip
                  refine And.intro (hI) ?_
                  intro v52 M52 a52 b52 q52
                  obtain ⟨q52, z52⟩ := q52
                  have hS : pq_pr pq_Pl M M52 := hS.tr z52.pl
                  have hI : pz_ic M52 := hS.1 hI0
                  refine And.intro (by first | omega | exact Or.inl q40.1 | exact Or.inl q52.1) ?_
                  refine And.intro rfl ?_
                  exact ⟨by rw [q52.1]; exact pq_lN_w g9_3 T9 (Or.inr ⟨by omega, by omega, by omega, rfl⟩) q52.2, hS⟩
              · skip
                refine And.intro (hI) ?_
                intro v40 M40 a40 b40 q40
                obtain ⟨q40, z40⟩ := q40
                have hS : pq_pr pq_Pl M M40 := hS.tr z40.pl
                have hI : pz_ic M40 := hS.1 hI0
                refine And.intro (by first | omega | exact Or.inl q40.1 | exact Or.inl q52.1) ?_
                refine And.intro rfl ?_
                exact ⟨by rw [q40.1]; exact pq_lN_w g9_3 T9 (Or.inl ⟨by omega, by omega, rfl⟩) q40.2, hS⟩
    refine hgo (fun p => Nat.beq p 9) 83 0 _ [] M ?_
    refine pz_nrc (c := 12) rfl ?_
    refine And.intro (And.intro hI rfl) ?_
    intro M4 q4
    obtain ⟨q4, z4⟩ := q4
    have hS : pq_pr pq_Pl M M4 := hS.tr z4
    have hI : pz_ic M4 := hS.1 hI0
    have G4 : pq_lN M M4 0 := pq_lN_0 hc q4
    exact L9 _ _ _ _ _ _ (Nat.lt_succ_self _) hS (by first | omega | exact G4 | (rw [e141]; exact G136)) (by first | omega | exact G4 | (rw [e141]; exact G136)) (by first | omega | exact G4 | (rw [e141]; exact G136))
theorem v_X9_lawLines {fr lo i : Nat} {own : String} (h1 : 21 + 1 ≤ fr) (h2 : 8 + (5 + 11) + 479 ≤ lo) (h3 : .methodLink own i yX9_lawLines ∈ lw_tbl) : pz_cV fr lo own i k_X9_lawLines :=
  pz_cVk (maxL := 5) (fr' := 21) (lo' := 479) 0 9 h_X9_lawLines rfl ⟨(pz_nhc_RX9 yX9_lawLines rfl).1, (pz_nhc_RX9 yX9_lawLines rfl).2, pz_ds3⟩ ⟨pz_wq748, pz_wq746, pz_wq747, pz_wq10⟩ (Or.inl ⟨TX9, 10, rfl⟩) (fun a M _ h => by
    have h : (match (generalizing := false) a with | [.inr (.inr (9, th))] => pz_ic M ∧ pq_cu M ∧ M 5 9 = 0 | _ => False) := h
    split at h
    · exact ⟨_, _, rfl⟩
    · exact h.elim) h1 h2 h3
noncomputable def k_X9_tell : pz_C := (4, 1, fun a M => (match a with | [.inr (.inr (9, th)), .inl k, .inr (.inr (10, t)), .inl l] => pz_ic M ∧ t = 8 ∧ 0 ≤ l ∧ l ≤ 12 | _ => False), fun a M r M' => (match a, r with | [.inr (.inr (9, th)), .inl k, .inr (.inr (10, t)), .inl l], some (.inl v) => (pq_te k l M M' v ∧ M' 4 1 = 0 ∧ ∀ j : Nat, M' 3 j = M 3 j) ∧ pq_pr pq_Pt M M' | _, _ => False))
noncomputable abbrev ct_X9_tell : List (Bool × Nat × pz_C) := [(true, 42, k_X7_scan), (true, 50, k_X9_lookAt), (true, 54, k_X9_lawLines), (true, 61, k_X3_take), (true, 68, k_X9_rowLines), (true, 72, k_X10_rows), (true, 75, k_X6_take)]
set_option maxRecDepth 100000 in
set_option maxHeartbeats 4000000 in
theorem h_X9_tell : pz_H yX9_tell cX9_tell 4 (some .int) k_X9_tell 22 503 := by
  refine pz_mk (own := RX9) (tb := t_X9_tell) (fl := pz_flf fl_RX9) (ci := fun _ => none) (ct := pz_ctf ct_X9_tell) (rz := false) (pz_pfc_RX9 yX9_tell rfl) rfl t_X9_tell_ok (pz_flk fl_RX9_ok) (fun i v h => by cases h) ?_ ?_ (Or.inl ⟨rfl, rfl⟩) ?_ ?_
  · exact fun i k' h => pz_ctk (l := ct_X9_tell) (P := fun b i k => b = true → pz_cV 22 503 RX9 i k) (List.forall_mem_cons.mpr ⟨(fun _ => v_X7_scan (by decide) (by decide) pz_wq663), List.forall_mem_cons.mpr ⟨(fun _ => v_X9_lookAt (by decide) (by decide) pz_wq741), List.forall_mem_cons.mpr ⟨(fun _ => v_X9_lawLines (by decide) (by decide) pz_wq745), List.forall_mem_cons.mpr ⟨(fun _ => v_X3_take (by decide) (by decide) pz_wq785), List.forall_mem_cons.mpr ⟨(fun _ => v_X9_rowLines (by decide) (by decide) pz_wq792), List.forall_mem_cons.mpr ⟨(fun _ => v_X10_rows (by decide) (by decide) pz_wq820), List.forall_mem_cons.mpr ⟨(fun _ => v_X6_take (by decide) (by decide) pz_wq824), fun _ h => absurd h List.not_mem_nil⟩⟩⟩⟩⟩⟩⟩) true i k' h rfl
  · exact fun i k' h => pz_ctk (l := ct_X9_tell) (P := fun b i k => b = false → (pz_cS 22 503 RX9 i k ∨ (k = pz_kac ∧ 1 ≤ 22 ∧ 60 ≤ 503 ∧ Cond.methodLink RX9 i arraycopyName ∈ pz_tbl))) (List.forall_mem_cons.mpr ⟨((fun z => by cases z)), List.forall_mem_cons.mpr ⟨((fun z => by cases z)), List.forall_mem_cons.mpr ⟨((fun z => by cases z)), List.forall_mem_cons.mpr ⟨((fun z => by cases z)), List.forall_mem_cons.mpr ⟨((fun z => by cases z)), List.forall_mem_cons.mpr ⟨((fun z => by cases z)), List.forall_mem_cons.mpr ⟨((fun z => by cases z)), fun _ h => absurd h List.not_mem_nil⟩⟩⟩⟩⟩⟩⟩) false i k' h rfl
  · intro a M hlen hpre
    obtain ⟨th, k, t, l, rfl, hpre⟩ : ∃ th k t l, a = [.inr (.inr (9, th)), .inl k, .inr (.inr (10, t)), .inl l] ∧ (pz_ic M ∧ t = 8 ∧ 0 ≤ l ∧ l ≤ 12) := by
      have hpre : (match (generalizing := false) a with | [.inr (.inr (9, th)), .inl k, .inr (.inr (10, t)), .inl l] => pz_ic M ∧ t = 8 ∧ 0 ≤ l ∧ l ≤ 12 | _ => False) := hpre
      split at hpre
      · exact ⟨_, _, _, _, rfl, hpre⟩
      · exact hpre.elim
    exact Nat.le_of_ble_eq_true rfl
  · intro a M hlen hcan hM hpre Ok hgo
    obtain ⟨th, k, t, l, rfl, hpre⟩ : ∃ th k t l, a = [.inr (.inr (9, th)), .inl k, .inr (.inr (10, t)), .inl l] ∧ (pz_ic M ∧ t = 8 ∧ 0 ≤ l ∧ l ≤ 12) := by
      have hpre : (match (generalizing := false) a with | [.inr (.inr (9, th)), .inl k, .inr (.inr (10, t)), .inl l] => pz_ic M ∧ t = 8 ∧ 0 ≤ l ∧ l ≤ 12 | _ => False) := hpre
      split at hpre
      · exact ⟨_, _, _, _, rfl, hpre⟩
      · exact hpre.elim
    obtain ⟨k_th, hc_th⟩ := pz_tlm hcan
    have k_th : pz_kd th = 9 ∧ th < 231 := k_th
    have R_th := pz_kd9 k_th.1
    subst R_th
    obtain ⟨k_k, hc_k⟩ := pz_tlm hc_th
    have l_k : -2147483648 ≤ k := k_k.1
    have u_k : k ≤ 2147483647 := k_k.2
    obtain ⟨k_t, hc_t⟩ := pz_tlm hc_k
    have k_t : pz_kd t = 10 ∧ t < 231 := k_t
    have R_t := pz_kd10 k_t.1
    obtain ⟨k_l, hc_l⟩ := pz_tlm hc_t
    have l_l : -2147483648 ≤ l := k_l.1
    have u_l : l ≤ 2147483647 := k_l.2
    have hI : pz_ic M := hpre.1
    have hI0 := hI
    have hS : pq_pr pq_Pt M M := pq_pr.rf
    obtain ⟨-, ht, p1, p2⟩ := hpre
    have T8 := pz_rf10 (t := t) (Or.inl ht)
    refine hgo (fun _ => false) 60 0 _ [] M ?_
    intro M2 e2
    have hS : pq_pr pq_Pt M M2 := by
      rw [e2]
      exact pq_pr_u hS (by unfold pq_Pt; first | decide | omega) (by unfold pz_iok; first | decide | omega)
    have hI : pz_ic M2 := hS.1 hI0
    intro M7 e7
    have hS : pq_pr pq_Pt M M7 := by
      rw [e7]
      exact pq_pr_u hS (by unfold pq_Pt; first | decide | omega) (by unfold pz_iok; first | decide | omega)
    have hI : pz_ic M7 := hS.1 hI0
    intro M12 e12
    have hS : pq_pr pq_Pt M M12 := by
      rw [e12]
      exact pq_pr_u hS (by unfold pq_Pt; first | decide | omega) (by unfold pz_iok; first | decide | omega)
    have hI : pz_ic M12 := hS.1 hI0
    intro M17 e17
    have hS : pq_pr pq_Pt M M17 := by
      rw [e17]
      exact pq_pr_u hS (by unfold pq_Pt; first | decide | omega) (by unfold pz_iok; first | decide | omega)
    have hI : pz_ic M17 := hS.1 hI0
    refine pz_nrc (c := 4) rfl ?_
    refine And.intro (hI) ?_
    intro M24 q24
    obtain ⟨q24, z24⟩ := q24
    have hS : pq_pr pq_Pt M M24 := hS.tr ⟨z24.1.1, fun b j y => (by obtain ⟨c, -, -, -, f⟩ := q24; exact f b j (by unfold pq_Pt at y; first | decide | omega))⟩
    have hI : pz_ic M24 := hS.1 hI0
    have F17 : ∀ b j : Nat, b ≠ 5 → M17 b j = M b j := fun b j y => by rw [e17, pz_una y, e12, pz_una y, e7, pz_una y, e2, pz_una y]
    obtain ⟨c, t24⟩ := pq_tT_of (M := M) (M1 := M17) (funext fun j => F17 48 j (by decide)) (F17 4 1 (by decide)) q24
    have F24 : ∀ b j : Nat, (b < 49 ∨ 51 < b) → M24 b j = M17 b j := fun b j y => by
      obtain ⟨c9, -, -, -, f⟩ := q24
      exact f b j y
    refine pz_nrc (c := 4) rfl ?_
    intro M32 e32
    have hS : pq_pr pq_Pt M M32 := by
      rw [e32]
      exact pq_pr_u hS (by unfold pq_Pt; first | decide | omega) (by unfold pz_iok; first | decide | omega)
    have hI : pz_ic M32 := hS.1 hI0
    refine And.intro (hI) ?_
    intro M37 q37
    obtain ⟨q37, z37⟩ := q37
    have hS : pq_pr pq_Pt M M37 := hS.tr z37.pt
    have hI : pz_ic M37 := hS.1 hI0
    have t32 : pq_tT M M32 c := pq_tT_cg t24 (funext fun j => by rw [e32]; exact pz_una (by decide)) (funext fun j => by rw [e32]; exact pz_una (by decide)) (funext fun j => by rw [e32]; exact pz_una (by decide))
    obtain ⟨hC, a37, t37⟩ := pq_cu_0 t32 q37
    have F37 : ∀ b j : Nat, b < 49 ∨ 51 < b → ¬ (b = 4 ∧ j = 1) → ¬ (b = 5 ∧ 5 ≤ j ∧ j ≤ 7) → M37 b j = M17 b j := fun b j y y2 y3 => by
      rcases q37 with ⟨-, -, q⟩ | ⟨q, -⟩
      · rw [q, pq_la_o y3, e32, pz_une y2]
        exact F24 b j y
      · omega
    have K3 : M37 5 3 = 0 := by rw [F37 5 3 (by first | decide | omega) (by first | decide | omega) (by first | decide | omega), e17, pz_une (by first | decide | omega), e12, pz_une (by first | decide | omega), e7, pz_une (by first | decide | omega), e2, pz_uu]
    have K4 : M37 5 4 = -1 := by rw [F37 5 4 (by first | decide | omega) (by first | decide | omega) (by first | decide | omega), e17, pz_une (by first | decide | omega), e12, pz_une (by first | decide | omega), e7, pz_uu]
    have K8 : M37 5 8 = l := by rw [F37 5 8 (by first | decide | omega) (by first | decide | omega) (by first | decide | omega), e17, pz_uu]
    have K9 : M37 5 9 = 0 := by rw [F37 5 9 (by first | decide | omega) (by first | decide | omega) (by first | decide | omega), e17, pz_une (by first | decide | omega), e12, pz_uu]
    have K41 : M37 4 1 = 0 := by
      rcases q37 with ⟨-, -, q⟩ | ⟨q, -⟩
      · rw [q, pq_la_o (by first | decide | omega), e32, pz_uu]
      · omega
    have X37 : ∀ b j : Nat, pq_xc b ∨ b = 3 → M37 b j = M b j := fun b j y => (F37 b j (by unfold pq_xc at y; first | decide | omega) (by unfold pq_xc at y; first | decide | omega) (by unfold pq_xc at y; first | decide | omega)).trans (F17 b j (by unfold pq_xc at y; first | decide | omega))
    refine And.intro (fun h41 => ?_) (fun h41 => ?_)
    · skip
      refine And.intro (fun h72 => ?_) (fun h72 => ?_)
      · skip
        refine And.intro rfl ?_
        first
          | exact ⟨⟨⟨fun y => absurd y (by first | decide | omega), fun _ => pq_e1_n t37 a37 K8 q82 h85 (fun b j y => (Y82 b j (Or.inl y)).trans (X37 b j (Or.inl y))), fun y => absurd y (by first | decide | omega)⟩, by rw [Y82 4 1 (Or.inr (Or.inr ⟨rfl, rfl⟩))]; exact K41, fun j => (Y82 3 j (Or.inr (Or.inl rfl))).trans (X37 3 j (Or.inr rfl))⟩, hS⟩
          | exact ⟨⟨⟨fun _ => pq_e0_n t37 a37 q45 h48 (fun b j y => (Y45 b j (Or.inl y)).trans (X37 b j (Or.inl y))), fun y => absurd y (by first | decide | omega), fun y => absurd y (by first | decide | omega)⟩, by rw [Y45 4 1 (Or.inr (Or.inr ⟨rfl, rfl⟩))]; exact K41, fun j => (Y45 3 j (Or.inr (Or.inl rfl))).trans (X37 3 j (Or.inr rfl))⟩, hS⟩
          | exact ⟨⟨⟨fun y => absurd y (by first | decide | omega), fun y => absurd y (by first | decide | omega), fun _ => ⟨rfl, K3, K4, fun b j y => X37 b j (Or.inl y)⟩⟩, K41, fun j => X37 3 j (Or.inr rfl)⟩, hS⟩
          | (exfalso; omega)
      · skip
        refine And.intro (fun h77 => ?_) (fun h77 => ?_)
        · skip
          refine And.intro rfl ?_
          first
            | exact ⟨⟨⟨fun y => absurd y (by first | decide | omega), fun _ => pq_e1_n t37 a37 K8 q82 h85 (fun b j y => (Y82 b j (Or.inl y)).trans (X37 b j (Or.inl y))), fun y => absurd y (by first | decide | omega)⟩, by rw [Y82 4 1 (Or.inr (Or.inr ⟨rfl, rfl⟩))]; exact K41, fun j => (Y82 3 j (Or.inr (Or.inl rfl))).trans (X37 3 j (Or.inr rfl))⟩, hS⟩
            | exact ⟨⟨⟨fun _ => pq_e0_n t37 a37 q45 h48 (fun b j y => (Y45 b j (Or.inl y)).trans (X37 b j (Or.inl y))), fun y => absurd y (by first | decide | omega), fun y => absurd y (by first | decide | omega)⟩, by rw [Y45 4 1 (Or.inr (Or.inr ⟨rfl, rfl⟩))]; exact K41, fun j => (Y45 3 j (Or.inr (Or.inl rfl))).trans (X37 3 j (Or.inr rfl))⟩, hS⟩
            | exact ⟨⟨⟨fun y => absurd y (by first | decide | omega), fun y => absurd y (by first | decide | omega), fun _ => ⟨rfl, K3, K4, fun b j y => X37 b j (Or.inl y)⟩⟩, K41, fun j => X37 3 j (Or.inr rfl)⟩, hS⟩
            | (exfalso; omega)
        · skip
          refine And.intro (And.intro hI (And.intro hC (And.intro (by first | decide | omega) (And.intro (by first | decide | omega) (And.intro (by first | decide | omega) (by first | decide | omega)))))) ?_
          intro v82 M82 a82 b82 q82
          obtain ⟨q82, z82⟩ := q82
          have hS : pq_pr pq_Pt M M82 := hS.tr z82.plt
          have hI : pz_ic M82 := hS.1 hI0
          have hI82 := hI
          have Y82 : ∀ b j : Nat, pq_xc b ∨ b = 3 ∨ (b = 4 ∧ j = 1) → M82 b j = M37 b j := fun b j y => z82.2 b j (by unfold pq_Pl; unfold pq_xc at y; omega)
          refine And.intro (fun h85 => ?_) (fun h85 => ?_)
          · skip
            refine And.intro rfl ?_
            first
              | exact ⟨⟨⟨fun y => absurd y (by first | decide | omega), fun _ => pq_e1_n t37 a37 K8 q82 h85 (fun b j y => (Y82 b j (Or.inl y)).trans (X37 b j (Or.inl y))), fun y => absurd y (by first | decide | omega)⟩, by rw [Y82 4 1 (Or.inr (Or.inr ⟨rfl, rfl⟩))]; exact K41, fun j => (Y82 3 j (Or.inr (Or.inl rfl))).trans (X37 3 j (Or.inr rfl))⟩, hS⟩
              | exact ⟨⟨⟨fun _ => pq_e0_n t37 a37 q45 h48 (fun b j y => (Y45 b j (Or.inl y)).trans (X37 b j (Or.inl y))), fun y => absurd y (by first | decide | omega), fun y => absurd y (by first | decide | omega)⟩, by rw [Y45 4 1 (Or.inr (Or.inr ⟨rfl, rfl⟩))]; exact K41, fun j => (Y45 3 j (Or.inr (Or.inl rfl))).trans (X37 3 j (Or.inr rfl))⟩, hS⟩
              | exact ⟨⟨⟨fun y => absurd y (by first | decide | omega), fun y => absurd y (by first | decide | omega), fun _ => ⟨rfl, K3, K4, fun b j y => X37 b j (Or.inl y)⟩⟩, K41, fun j => X37 3 j (Or.inr rfl)⟩, hS⟩
              | (exfalso; omega)
          · skip
            refine And.intro (And.intro ht (And.intro (by first | decide | omega) (by first | decide | omega))) ?_
            intro r90 M90 k90 q90
            have R90 := pz_kd6 k90
            obtain ⟨q90, z90⟩ := q90
            subst z90
            refine pz_nrc (c := 19) rfl ?_
            refine And.intro (hI) ?_
            intro M97 q97
            obtain ⟨q97, z97⟩ := q97
            have hS : pq_pr pq_Pt M M97 := hS.tr ⟨z97, fun b j y => q97.2.2 b j (by unfold pq_Pt at y; first | decide | omega) (by unfold pq_Pt at y; first | decide | omega)⟩
            have hI : pz_ic M97 := hS.1 hI0
            refine pz_nrc (c := 19) rfl ?_
            intro v104 e104 a104 b104
            have I104 := hI.2.2.1 19 (by first | decide | omega) (by first | decide | omega)
            refine And.intro rfl ?_
            first
              | (have x53 : M82 5 3 = 0 ∧ M82 5 4 = -1 := by
                   rcases q82 with ⟨-, ls, -, -, fs⟩ | ⟨w, -⟩
                   · exact ⟨fs.1.trans K3, fs.2.trans K4⟩
                   · exact absurd w h85
                 have E := pq_e1_y (M := M) (q := r90) hI82 t37 a37 K8 q82 h85 x53 q90 ⟨by omega, by omega⟩ q97 (fun b j y => (Y82 b j (Or.inl y)).trans (X37 b j (Or.inl y)))
                 have V104 : v104 = M82 19 0 := by rw [e104, q97.2.2 19 0 (by first | decide | omega) (by first | decide | omega)]
                 exact ⟨⟨⟨fun y => absurd y (by first | decide | omega), fun _ => by rw [V104]; exact E, fun y => absurd y (by first | decide | omega)⟩, by rw [q97.2.2 4 1 (by first | decide | omega) (by first | decide | omega), Y82 4 1 (Or.inr (Or.inr ⟨rfl, rfl⟩))]; exact K41, fun j => by rw [q97.2.2 3 j (by first | decide | omega) (by first | decide | omega), Y82 3 j (Or.inr (Or.inl rfl))]; exact X37 3 j (Or.inr rfl)⟩, hS⟩)
              | (exfalso; omega)
    · skip
      refine And.intro (And.intro hI (And.intro hC K9)) ?_
      intro v45 M45 a45 b45 q45
      obtain ⟨q45, z45⟩ := q45
      have hS : pq_pr pq_Pt M M45 := hS.tr z45.plt
      have hI : pz_ic M45 := hS.1 hI0
      have hI45 := hI
      have Y45 : ∀ b j : Nat, pq_xc b ∨ b = 3 ∨ (b = 4 ∧ j = 1) → M45 b j = M37 b j := fun b j y => z45.2 b j (by unfold pq_Pl; unfold pq_xc at y; omega)
      refine And.intro (fun h48 => ?_) (fun h48 => ?_)
      · skip
        refine And.intro (fun h72 => ?_) (fun h72 => ?_)
        · skip
          refine And.intro rfl ?_
          first
            | exact ⟨⟨⟨fun y => absurd y (by first | decide | omega), fun _ => pq_e1_n t37 a37 K8 q82 h85 (fun b j y => (Y82 b j (Or.inl y)).trans (X37 b j (Or.inl y))), fun y => absurd y (by first | decide | omega)⟩, by rw [Y82 4 1 (Or.inr (Or.inr ⟨rfl, rfl⟩))]; exact K41, fun j => (Y82 3 j (Or.inr (Or.inl rfl))).trans (X37 3 j (Or.inr rfl))⟩, hS⟩
            | exact ⟨⟨⟨fun _ => pq_e0_n t37 a37 q45 h48 (fun b j y => (Y45 b j (Or.inl y)).trans (X37 b j (Or.inl y))), fun y => absurd y (by first | decide | omega), fun y => absurd y (by first | decide | omega)⟩, by rw [Y45 4 1 (Or.inr (Or.inr ⟨rfl, rfl⟩))]; exact K41, fun j => (Y45 3 j (Or.inr (Or.inl rfl))).trans (X37 3 j (Or.inr rfl))⟩, hS⟩
            | exact ⟨⟨⟨fun y => absurd y (by first | decide | omega), fun y => absurd y (by first | decide | omega), fun _ => ⟨rfl, K3, K4, fun b j y => X37 b j (Or.inl y)⟩⟩, K41, fun j => X37 3 j (Or.inr rfl)⟩, hS⟩
            | (exfalso; omega)
        · skip
          exfalso; omega
      · skip
        intro r52 e52 k52
        have R52 := pz_kd3 k52
        have L52 : r52 = 10 := by
          rw [e52, ht]
          rfl
        refine pz_nrc (c := 12) rfl ?_
        refine And.intro (And.intro hI (by first | decide | omega)) ?_
        intro M59 q59
        obtain ⟨q59, z59⟩ := q59
        have hS : pq_pr pq_Pt M M59 := hS.tr ⟨z59, fun b j y => q59.2.2.2.2 b j (by unfold pq_Pt at y; first | decide | omega) (by rw [L52, show pz_lb3 10 = 27 from rfl]; unfold pq_Pt at y; omega)⟩
        have hI : pz_ic M59 := hS.1 hI0
        rw [L52] at q59
        refine pz_nrc (c := 12) rfl ?_
        intro v66 e66 a66 b66
        have I66 := hI.2.2.2.1 12 (by first | decide | omega) (by first | decide | omega)
        refine And.intro rfl ?_
        first
          | (have f59 : ∀ b j : Nat, b < 10 ∨ b = 12 → M59 b j = M45 b j := fun b j y => q59.2.2.2.2 b j (by first | decide | omega) (Or.inl (by rw [show pz_lb3 10 = 27 from rfl]; omega))
             have x53 : M45 5 3 = 0 ∧ M45 5 4 = -1 := by
               rcases q45 with ⟨-, ls, -, -, fs⟩ | ⟨w, -⟩
               · exact ⟨fs.1.trans K3, fs.2.trans K4⟩
               · exact absurd w h48
             have E := pq_e0_y (M := M) hI45 t37 a37 q45 h48 x53 q59 (fun b j y => (Y45 b j (Or.inl (by unfold pq_xc; first | decide | omega))).trans (X37 b j (Or.inl (by unfold pq_xc; first | decide | omega))))
             have V66 : v66 = M45 12 0 := by rw [e66, f59 12 0 (Or.inr rfl)]
             exact ⟨⟨⟨fun _ => by rw [V66]; exact E, fun y => absurd y (by first | decide | omega), fun y => absurd y (by first | decide | omega)⟩, by rw [f59 4 1 (Or.inl (by decide)), Y45 4 1 (Or.inr (Or.inr ⟨rfl, rfl⟩))]; exact K41, fun j => by rw [f59 3 j (Or.inl (by decide)), Y45 3 j (Or.inr (Or.inl rfl))]; exact X37 3 j (Or.inr rfl)⟩, hS⟩)
          | (exfalso; omega)
theorem v_X9_tell {fr lo i : Nat} {own : String} (h1 : 22 + 1 ≤ fr) (h2 : 8 + (4 + 11) + 503 ≤ lo) (h3 : .methodLink own i yX9_tell ∈ lw_tbl) : pz_cV fr lo own i k_X9_tell :=
  pz_cVk (maxL := 4) (fr' := 22) (lo' := 503) 3 9 h_X9_tell rfl ⟨(pz_nhc_RX9 yX9_tell rfl).1, (pz_nhc_RX9 yX9_tell rfl).2, pz_ds28⟩ ⟨pz_wq662, pz_wq660, pz_wq661, pz_wq10⟩ (Or.inl ⟨TX9, 10, rfl⟩) (fun a M _ h => by
    have h : (match (generalizing := false) a with | [.inr (.inr (9, th)), .inl k, .inr (.inr (10, t)), .inl l] => pz_ic M ∧ t = 8 ∧ 0 ≤ l ∧ l ≤ 12 | _ => False) := h
    split at h
    · exact ⟨_, _, rfl⟩
    · exact h.elim) h1 h2 h3
