noncomputable def k_X9_condition (nn : Nat) : pz_C := (1, 1, fun a M => (match a with | [.inr (.inr (9, th))] => pz_ic M ∧ pq_cq M ∧ 0 ≤ M 5 9 ∧ M 5 9 ≤ 8 ∧ 8 - M 5 9 ≤ (nn : Int) | _ => False), fun a M r M' => (match a, r with | [.inr (.inr (9, th))], some (.inl v) => (pq_cg 4 (M 5 9).toNat M M' v) ∧ pq_pr pq_Pp M M' | _, _ => False))
noncomputable def k_X9_conditions (nn : Nat) : pz_C := (1, 1, fun a M => (match a with | [.inr (.inr (9, th))] => pz_ic M ∧ pq_cq M ∧ 0 ≤ M 5 9 ∧ M 5 9 ≤ 8 ∧ 8 - M 5 9 ≤ (nn : Int) | _ => False), fun a M r M' => (match a, r with | [.inr (.inr (9, th))], some (.inl v) => (pq_cg 8 (M 5 9).toNat M M' v) ∧ pq_pr pq_Pp M M' | _, _ => False))
set_option maxRecDepth 100000 in
set_option maxHeartbeats 4000000 in
theorem h_X9_condition_0  : pz_H yX9_condition cX9_condition 4 (some .boolean) (k_X9_condition 0) (3 + 2 * 0) (65 + 46 * 0) := by
  refine pz_mk (own := RX9) (tb := t_X9_condition) (fl := pz_flf fl_RX9) (ci := fun _ => none) (ct := pz_ctf [(true, 100, k_X9_wrong), (true, 50, k_X9_lookAt), (true, 119, k_X9_accept), (true, 125, k_X3_put), (true, 109, k_X9_sum)]) (rz := true) (by decide +kernel) rfl t_X9_condition_ok (pz_flk fl_RX9_ok) (fun i v h => by cases h) ?_ ?_ (Or.inr ⟨rfl, rfl⟩) ?_ ?_
  · exact fun i k' h => pz_ctk (l := [(true, 100, k_X9_wrong), (true, 50, k_X9_lookAt), (true, 119, k_X9_accept), (true, 125, k_X3_put), (true, 109, k_X9_sum)]) (P := fun b i k => b = true → pz_cV (3 + 2 * 0) (65 + 46 * 0) RX9 i k) (List.forall_mem_cons.mpr ⟨(fun _ => v_X9_wrong (by omega) (by omega) (by decide +kernel)), List.forall_mem_cons.mpr ⟨(fun _ => v_X9_lookAt (by omega) (by omega) (by decide +kernel)), List.forall_mem_cons.mpr ⟨(fun _ => v_X9_accept (by omega) (by omega) (by decide +kernel)), List.forall_mem_cons.mpr ⟨(fun _ => v_X3_put (by omega) (by omega) (by decide +kernel)), List.forall_mem_cons.mpr ⟨(fun _ => v_X9_sum (by omega) (by omega) (by decide +kernel)), fun _ h => absurd h List.not_mem_nil⟩⟩⟩⟩⟩) true i k' h rfl
  · exact fun i k' h => pz_ctk (l := [(true, 100, k_X9_wrong), (true, 50, k_X9_lookAt), (true, 119, k_X9_accept), (true, 125, k_X3_put), (true, 109, k_X9_sum)]) (P := fun b i k => b = false → (pz_cS (3 + 2 * 0) (65 + 46 * 0) RX9 i k ∨ (k = pz_kac ∧ 1 ≤ (3 + 2 * 0) ∧ 60 ≤ (65 + 46 * 0) ∧ Cond.methodLink RX9 i arraycopyName ∈ pz_tbl))) (List.forall_mem_cons.mpr ⟨(fun z => by cases z), List.forall_mem_cons.mpr ⟨(fun z => by cases z), List.forall_mem_cons.mpr ⟨(fun z => by cases z), List.forall_mem_cons.mpr ⟨(fun z => by cases z), List.forall_mem_cons.mpr ⟨(fun z => by cases z), fun _ h => absurd h List.not_mem_nil⟩⟩⟩⟩⟩) false i k' h rfl
  · intro a M hlen hpre
    obtain ⟨th, rfl, hpre⟩ : ∃ th, a = [.inr (.inr (9, th))] ∧ (pz_ic M ∧ pq_cq M ∧ 0 ≤ M 5 9 ∧ M 5 9 ≤ 8 ∧ 8 - M 5 9 ≤ ((0 : Nat) : Int)) := by
      have hpre : (match (generalizing := false) a with | [.inr (.inr (9, th))] => pz_ic M ∧ pq_cq M ∧ 0 ≤ M 5 9 ∧ M 5 9 ≤ 8 ∧ 8 - M 5 9 ≤ ((0 : Nat) : Int) | _ => False) := hpre
      split at hpre
      · exact ⟨_, rfl, hpre⟩
      · exact hpre.elim
    exact Nat.le_of_ble_eq_true rfl
  · intro a M hlen hcan hM hpre Ok hgo
    obtain ⟨th, rfl, hpre⟩ : ∃ th, a = [.inr (.inr (9, th))] ∧ (pz_ic M ∧ pq_cq M ∧ 0 ≤ M 5 9 ∧ M 5 9 ≤ 8 ∧ 8 - M 5 9 ≤ ((0 : Nat) : Int)) := by
      have hpre : (match (generalizing := false) a with | [.inr (.inr (9, th))] => pz_ic M ∧ pq_cq M ∧ 0 ≤ M 5 9 ∧ M 5 9 ≤ 8 ∧ 8 - M 5 9 ≤ ((0 : Nat) : Int) | _ => False) := hpre
      split at hpre
      · exact ⟨_, rfl, hpre⟩
      · exact hpre.elim
    obtain ⟨k_th, hcan⟩ := pz_tlm hcan
    have k_th : pz_kd th = 9 ∧ th < 231 := k_th
    have R_th := pz_kd9 k_th.1
    subst R_th
    have hI : pz_ic M := hpre.1
    have hI0 := hI
    have hS : pq_pr pq_Po M M := pq_pr.rf
    obtain ⟨-, hq, pd1, pd2, pd3⟩ := hpre
    have B9 := pq_cu_b hq.1
    have hC := hq
    have h12 := hq.2.1
    refine hgo (fun _ => false) 103 0 _ [] M ?_
    intro v1 e1 a1 b1
    refine And.intro (fun h8 => ?_) (fun h8 => ?_)
    · skip
      intro v18 e18 a18 b18
      refine And.intro (fun h23 => ?_) (fun h23 => ?_)
      · skip
        exfalso; omega
      · skip
        refine And.intro (hI) ?_
        intro v28 M28 a28 b28 q28
        obtain ⟨q28, z28⟩ := q28
        have hS : pq_pr pq_Po M M28 := hS.tr z28.po
        have hI : pz_ic M28 := hS.1 hI0
        have D28 := z28.2 5 9 (by unfold pq_Pp; omega)
        refine And.intro (by first | omega | exact pq_cg_01 q59 | exact pq_cg_01 q167 | exact Or.inl q28.1 | exact Or.inl q152.1) ?_
        refine And.intro rfl ?_
        exact ⟨by rw [q28.1]; exact pq_con_x hq.1 (by omega) (by omega) q28.2, hS.pp (by omega)⟩
    · skip
      refine And.intro (fun h14 => ?_) (fun h14 => ?_)
      · skip
        refine And.intro (And.intro hI hC) ?_
        intro v119 M119 a119 b119 q119
        obtain ⟨q119, z119⟩ := q119
        have hS : pq_pr pq_Po M M119 := hS.tr z119.po
        have hI : pz_ic M119 := hS.1 hI0
        have D119 := z119.2 5 9 (by unfold pq_Pp; omega)
        have T119 := pq_T3_po hS
        refine And.intro (fun h122 => ?_) (fun h122 => ?_)
        · skip
          have c119 := pq_cg_cu q119 h122
          have B119 := pq_cu_b c119
          have hC : pq_cq M119 := pq_cg_cq hq q119 h122
          intro v128 e128 a128 b128
          refine And.intro (fun h135 => ?_) (fun h135 => ?_)
          · skip
            intro v158 e158 a158 b158
            intro v162 e162 a162 b162
            try rw [pz_wi (by omega) (by omega)] at e162
            refine And.intro (hI) ?_
            intro M163 q163
            obtain ⟨q163, z163⟩ := q163
            have hS : pq_pr pq_Po M M163 := hS.tr z163.po
            have hI : pz_ic M163 := hS.1 hI0
            have C163 : pq_nx M119 M163 := pq_cu_la c119 (by omega) (by omega) q163
            have hC : pq_cq M163 := C163.cq hC
            have T163 := pq_T3_po hS
            have D163 := z163.2 5 9 (by unfold pq_Pp; omega)
            refine And.intro (And.intro hI hC) ?_
            intro v167 M167 a167 b167 q167
            obtain ⟨q167, z167⟩ := q167
            have hS : pq_pr pq_Po M M167 := hS.tr z167.po
            have hI : pz_ic M167 := hS.1 hI0
            have D167 := z167.2 5 9 (by unfold pq_Pp; omega)
            refine pz_nrc (c := 12) rfl ?_
            intro v177 e177 a177 b177
            rw [pz_not (by omega) (by omega)] at e177
            refine And.intro (And.intro hI rfl) ?_
            intro M178 q178
            obtain ⟨q178, z178⟩ := q178
            have hS : pq_pr pq_Po M M178 := hS.tr z178.po
            have hI : pz_ic M178 := hS.1 hI0
            have D178 := z178.2 5 9 (by unfold pq_Pp; omega)
            refine And.intro (by first | omega | exact pq_cg_01 q59 | exact pq_cg_01 q167 | exact Or.inl q28.1 | exact Or.inl q152.1) ?_
            refine And.intro rfl ?_
            exact ⟨pq_con_q hq ⟨by omega, by omega⟩ q119 h122 T119 (by omega) C163 T163 q167 (by omega) q178, hS.pp (by omega)⟩
          · skip
            refine And.intro (fun h141 => ?_) (fun h141 => ?_)
            · skip
              intro v158 e158 a158 b158
              intro v162 e162 a162 b162
              try rw [pz_wi (by omega) (by omega)] at e162
              refine And.intro (hI) ?_
              intro M163 q163
              obtain ⟨q163, z163⟩ := q163
              have hS : pq_pr pq_Po M M163 := hS.tr z163.po
              have hI : pz_ic M163 := hS.1 hI0
              have C163 : pq_nx M119 M163 := pq_cu_la c119 (by omega) (by omega) q163
              have hC : pq_cq M163 := C163.cq hC
              have T163 := pq_T3_po hS
              have D163 := z163.2 5 9 (by unfold pq_Pp; omega)
              refine And.intro (And.intro hI hC) ?_
              intro v167 M167 a167 b167 q167
              obtain ⟨q167, z167⟩ := q167
              have hS : pq_pr pq_Po M M167 := hS.tr z167.po
              have hI : pz_ic M167 := hS.1 hI0
              have D167 := z167.2 5 9 (by unfold pq_Pp; omega)
              refine pz_nrc (c := 12) rfl ?_
              intro v177 e177 a177 b177
              rw [pz_not (by omega) (by omega)] at e177
              refine And.intro (And.intro hI rfl) ?_
              intro M178 q178
              obtain ⟨q178, z178⟩ := q178
              have hS : pq_pr pq_Po M M178 := hS.tr z178.po
              have hI : pz_ic M178 := hS.1 hI0
              have D178 := z178.2 5 9 (by unfold pq_Pp; omega)
              refine And.intro (by first | omega | exact pq_cg_01 q59 | exact pq_cg_01 q167 | exact Or.inl q28.1 | exact Or.inl q152.1) ?_
              refine And.intro rfl ?_
              exact ⟨pq_con_q hq ⟨by omega, by omega⟩ q119 h122 T119 (by omega) C163 T163 q167 (by omega) q178, hS.pp (by omega)⟩
            · skip
              refine And.intro (fun h147 => ?_) (fun h147 => ?_)
              · skip
                intro v158 e158 a158 b158
                intro v162 e162 a162 b162
                try rw [pz_wi (by omega) (by omega)] at e162
                refine And.intro (hI) ?_
                intro M163 q163
                obtain ⟨q163, z163⟩ := q163
                have hS : pq_pr pq_Po M M163 := hS.tr z163.po
                have hI : pz_ic M163 := hS.1 hI0
                have C163 : pq_nx M119 M163 := pq_cu_la c119 (by omega) (by omega) q163
                have hC : pq_cq M163 := C163.cq hC
                have T163 := pq_T3_po hS
                have D163 := z163.2 5 9 (by unfold pq_Pp; omega)
                refine And.intro (And.intro hI hC) ?_
                intro v167 M167 a167 b167 q167
                obtain ⟨q167, z167⟩ := q167
                have hS : pq_pr pq_Po M M167 := hS.tr z167.po
                have hI : pz_ic M167 := hS.1 hI0
                have D167 := z167.2 5 9 (by unfold pq_Pp; omega)
                refine pz_nrc (c := 12) rfl ?_
                intro v177 e177 a177 b177
                rw [pz_not (by omega) (by omega)] at e177
                refine And.intro (And.intro hI rfl) ?_
                intro M178 q178
                obtain ⟨q178, z178⟩ := q178
                have hS : pq_pr pq_Po M M178 := hS.tr z178.po
                have hI : pz_ic M178 := hS.1 hI0
                have D178 := z178.2 5 9 (by unfold pq_Pp; omega)
                refine And.intro (by first | omega | exact pq_cg_01 q59 | exact pq_cg_01 q167 | exact Or.inl q28.1 | exact Or.inl q152.1) ?_
                refine And.intro rfl ?_
                exact ⟨pq_con_q hq ⟨by omega, by omega⟩ q119 h122 T119 (by omega) C163 T163 q167 (by omega) q178, hS.pp (by omega)⟩
              · skip
                refine And.intro (hI) ?_
                intro v152 M152 a152 b152 q152
                obtain ⟨q152, z152⟩ := q152
                have hS : pq_pr pq_Po M M152 := hS.tr z152.po
                have hI : pz_ic M152 := hS.1 hI0
                have D152 := z152.2 5 9 (by unfold pq_Pp; omega)
                refine And.intro (by first | omega | exact pq_cg_01 q59 | exact pq_cg_01 q167 | exact Or.inl q28.1 | exact Or.inl q152.1) ?_
                refine And.intro rfl ?_
                exact ⟨by rw [q152.1]; exact pq_con_r hq.1 ⟨by omega, by omega⟩ q119 h122 T119 (by omega) q152.2, hS.pp (by omega)⟩
        · skip
          skip
          refine And.intro (by first | omega | exact pq_cg_01 q59 | exact pq_cg_01 q167 | exact Or.inl q28.1 | exact Or.inl q152.1) ?_
          refine And.intro rfl ?_
          exact ⟨pq_con_s hq.1 ⟨by omega, by omega⟩ q119 h122, hS.pp (by omega)⟩
      · skip
        intro v18 e18 a18 b18
        refine And.intro (fun h23 => ?_) (fun h23 => ?_)
        · skip
          exfalso; omega
        · skip
          refine And.intro (hI) ?_
          intro v28 M28 a28 b28 q28
          obtain ⟨q28, z28⟩ := q28
          have hS : pq_pr pq_Po M M28 := hS.tr z28.po
          have hI : pz_ic M28 := hS.1 hI0
          have D28 := z28.2 5 9 (by unfold pq_Pp; omega)
          refine And.intro (by first | omega | exact pq_cg_01 q59 | exact pq_cg_01 q167 | exact Or.inl q28.1 | exact Or.inl q152.1) ?_
          refine And.intro rfl ?_
          exact ⟨by rw [q28.1]; exact pq_con_x hq.1 (by omega) (by omega) q28.2, hS.pp (by omega)⟩
set_option maxRecDepth 100000 in
set_option maxHeartbeats 4000000 in
theorem h_X9_condition_s (nn : Nat) (hC : pz_H yX9_condition cX9_condition 4 (some .boolean) (k_X9_condition nn) (3 + 2 * nn) (65 + 46 * nn)) (hD : pz_H yX9_conditions cX9_conditions 4 (some .boolean) (k_X9_conditions nn) (4 + 2 * nn) (88 + 46 * nn)) : pz_H yX9_condition cX9_condition 4 (some .boolean) (k_X9_condition (nn + 1)) (3 + 2 * (nn + 1)) (65 + 46 * (nn + 1)) := by
  refine pz_mk (own := RX9) (tb := t_X9_condition) (fl := pz_flf fl_RX9) (ci := fun _ => none) (ct := pz_ctf [(true, 100, k_X9_wrong), (true, 50, k_X9_lookAt), (true, 122, k_X9_condition nn), (true, 112, k_X9_conditions nn), (true, 119, k_X9_accept), (true, 125, k_X3_put), (true, 109, k_X9_sum)]) (rz := true) (by decide +kernel) rfl t_X9_condition_ok (pz_flk fl_RX9_ok) (fun i v h => by cases h) ?_ ?_ (Or.inr ⟨rfl, rfl⟩) ?_ ?_
  · exact fun i k' h => pz_ctk (l := [(true, 100, k_X9_wrong), (true, 50, k_X9_lookAt), (true, 122, k_X9_condition nn), (true, 112, k_X9_conditions nn), (true, 119, k_X9_accept), (true, 125, k_X3_put), (true, 109, k_X9_sum)]) (P := fun b i k => b = true → pz_cV (3 + 2 * (nn + 1)) (65 + 46 * (nn + 1)) RX9 i k) (List.forall_mem_cons.mpr ⟨(fun _ => v_X9_wrong (by omega) (by omega) (by decide +kernel)), List.forall_mem_cons.mpr ⟨(fun _ => v_X9_lookAt (by omega) (by omega) (by decide +kernel)), List.forall_mem_cons.mpr ⟨(fun _ => pz_cVk (maxL := 4) 0 9 hC rfl ⟨by decide +kernel, by decide +kernel, by decide +kernel⟩ ⟨by decide +kernel, by decide +kernel, by decide +kernel, by decide +kernel⟩ (Or.inl ⟨TX9, 10, rfl⟩) (fun a M _ h => by
      have h : (match (generalizing := false) a with | [.inr (.inr (9, th))] => pz_ic M ∧ pq_cq M ∧ 0 ≤ M 5 9 ∧ M 5 9 ≤ 8 ∧ 8 - M 5 9 ≤ (nn : Int) | _ => False) := h
      split at h
      · exact ⟨_, _, rfl⟩
      · exact h.elim) (by omega) (by omega) (show Cond.methodLink RX9 122 yX9_condition ∈ lw_tbl by decide +kernel)), List.forall_mem_cons.mpr ⟨(fun _ => pz_cVk (maxL := 4) 0 9 hD rfl ⟨by decide +kernel, by decide +kernel, by decide +kernel⟩ ⟨by decide +kernel, by decide +kernel, by decide +kernel, by decide +kernel⟩ (Or.inl ⟨TX9, 10, rfl⟩) (fun a M _ h => by
      have h : (match (generalizing := false) a with | [.inr (.inr (9, th))] => pz_ic M ∧ pq_cq M ∧ 0 ≤ M 5 9 ∧ M 5 9 ≤ 8 ∧ 8 - M 5 9 ≤ (nn : Int) | _ => False) := h
      split at h
      · exact ⟨_, _, rfl⟩
      · exact h.elim) (by omega) (by omega) (show Cond.methodLink RX9 112 yX9_conditions ∈ lw_tbl by decide +kernel)), List.forall_mem_cons.mpr ⟨(fun _ => v_X9_accept (by omega) (by omega) (by decide +kernel)), List.forall_mem_cons.mpr ⟨(fun _ => v_X3_put (by omega) (by omega) (by decide +kernel)), List.forall_mem_cons.mpr ⟨(fun _ => v_X9_sum (by omega) (by omega) (by decide +kernel)), fun _ h => absurd h List.not_mem_nil⟩⟩⟩⟩⟩⟩⟩) true i k' h rfl
  · exact fun i k' h => pz_ctk (l := [(true, 100, k_X9_wrong), (true, 50, k_X9_lookAt), (true, 122, k_X9_condition nn), (true, 112, k_X9_conditions nn), (true, 119, k_X9_accept), (true, 125, k_X3_put), (true, 109, k_X9_sum)]) (P := fun b i k => b = false → (pz_cS (3 + 2 * (nn + 1)) (65 + 46 * (nn + 1)) RX9 i k ∨ (k = pz_kac ∧ 1 ≤ (3 + 2 * (nn + 1)) ∧ 60 ≤ (65 + 46 * (nn + 1)) ∧ Cond.methodLink RX9 i arraycopyName ∈ pz_tbl))) (List.forall_mem_cons.mpr ⟨(fun z => by cases z), List.forall_mem_cons.mpr ⟨(fun z => by cases z), List.forall_mem_cons.mpr ⟨(fun z => by cases z), List.forall_mem_cons.mpr ⟨(fun z => by cases z), List.forall_mem_cons.mpr ⟨(fun z => by cases z), List.forall_mem_cons.mpr ⟨(fun z => by cases z), List.forall_mem_cons.mpr ⟨(fun z => by cases z), fun _ h => absurd h List.not_mem_nil⟩⟩⟩⟩⟩⟩⟩) false i k' h rfl
  · intro a M hlen hpre
    obtain ⟨th, rfl, hpre⟩ : ∃ th, a = [.inr (.inr (9, th))] ∧ (pz_ic M ∧ pq_cq M ∧ 0 ≤ M 5 9 ∧ M 5 9 ≤ 8 ∧ 8 - M 5 9 ≤ ((nn + 1 : Nat) : Int)) := by
      have hpre : (match (generalizing := false) a with | [.inr (.inr (9, th))] => pz_ic M ∧ pq_cq M ∧ 0 ≤ M 5 9 ∧ M 5 9 ≤ 8 ∧ 8 - M 5 9 ≤ ((nn + 1 : Nat) : Int) | _ => False) := hpre
      split at hpre
      · exact ⟨_, rfl, hpre⟩
      · exact hpre.elim
    exact Nat.le_of_ble_eq_true rfl
  · intro a M hlen hcan hM hpre Ok hgo
    obtain ⟨th, rfl, hpre⟩ : ∃ th, a = [.inr (.inr (9, th))] ∧ (pz_ic M ∧ pq_cq M ∧ 0 ≤ M 5 9 ∧ M 5 9 ≤ 8 ∧ 8 - M 5 9 ≤ ((nn + 1 : Nat) : Int)) := by
      have hpre : (match (generalizing := false) a with | [.inr (.inr (9, th))] => pz_ic M ∧ pq_cq M ∧ 0 ≤ M 5 9 ∧ M 5 9 ≤ 8 ∧ 8 - M 5 9 ≤ ((nn + 1 : Nat) : Int) | _ => False) := hpre
      split at hpre
      · exact ⟨_, rfl, hpre⟩
      · exact hpre.elim
    obtain ⟨k_th, hcan⟩ := pz_tlm hcan
    have k_th : pz_kd th = 9 ∧ th < 231 := k_th
    have R_th := pz_kd9 k_th.1
    subst R_th
    have hI : pz_ic M := hpre.1
    have hI0 := hI
    have hS : pq_pr pq_Po M M := pq_pr.rf
    obtain ⟨-, hq, pd1, pd2, pd3⟩ := hpre
    have B9 := pq_cu_b hq.1
    have hC := hq
    have h12 := hq.2.1
    refine hgo (fun _ => false) 103 0 _ [] M ?_
    intro v1 e1 a1 b1
    refine And.intro (fun h8 => ?_) (fun h8 => ?_)
    · skip
      intro v18 e18 a18 b18
      refine And.intro (fun h23 => ?_) (fun h23 => ?_)
      · skip
        intro v34 e34 a34 b34
        intro v38 e38 a38 b38
        try rw [pz_wi (by omega) (by omega)] at e38
        intro M39 e39
        have hS : pq_pr pq_Po M M39 := by
          rw [e39]
          exact pq_pr_u hS (by unfold pq_Po pq_Pp; omega) (by unfold pz_iok; omega)
        have hI : pz_ic M39 := hS.1 hI0
        have T39_0 := pz_uve e39 5 9
        have P39 := pq_d9 e39
        intro v44 e44 a44 b44
        intro v48 e48 a48 b48
        try rw [pz_wi (by omega) (by omega)] at e48
        refine And.intro (hI) ?_
        intro M49 q49
        obtain ⟨q49, z49⟩ := q49
        have hS : pq_pr pq_Po M M49 := hS.tr z49.po
        have hI : pz_ic M49 := hS.1 hI0
        have O49 := pq_op1_of hq.1 e39 (by omega) (by omega) (by omega) q49 z49
        have hC : pq_cq M49 := O49.2.1.cq hq
        have D49 := O49.2.2
        refine And.intro (fun h55 => ?_) (fun h55 => ?_)
        · skip
          refine And.intro (And.intro hI (And.intro hC (And.intro (by omega) (And.intro (by omega) (by omega))))) ?_
          intro v66 M66 a66 b66 q66
          obtain ⟨q66, z66⟩ := q66
          have hS : pq_pr pq_Po M M66 := hS.tr z66.po
          have hI : pz_ic M66 := hS.1 hI0
          have D66 := z66.2 5 9 (by unfold pq_Pp; omega)
          have T66 := pq_T3_po hS
          refine And.intro (fun h69 => ?_) (fun h69 => ?_)
          · skip
            skip
            intro v89 e89 a89 b89
            intro v93 e93 a93 b93
            try rw [pz_wi (by omega) (by omega)] at e93
            intro M94 e94
            have hS : pq_pr pq_Po M M94 := by
              rw [e94]
              exact pq_pr_u hS (by unfold pq_Po pq_Pp; omega) (by unfold pz_iok; omega)
            have hI : pz_ic M94 := hS.1 hI0
            have T94_0 := pz_uve e94 5 9
            refine And.intro (fun h98 => ?_) (fun h98 => ?_)
            · skip
              refine And.intro (by first | omega | exact pq_cg_01 q59 | exact pq_cg_01 q167 | exact Or.inl q28.1 | exact Or.inl q152.1) ?_
              refine And.intro rfl ?_
              first
                | exact ⟨by rw [pq_cg_1 q59 h98]; exact pq_con_n hq O49 (by omega) ⟨by omega, by omega⟩ q59 h98 e94 q113, hS.pp (by omega)⟩
                | exact ⟨by rw [h98]; exact pq_con_nb hq.1 O49 (by omega) ⟨by omega, by omega⟩ q59 h98 e94, hS.pp (by omega)⟩
                | exact ⟨pq_con_p hq O49 (by omega) ⟨by omega, by omega⟩ q66 h69 T66 n75.1 n75.2.1 e94, hS.pp (by omega)⟩
                | exact ⟨pq_con_pc hq.1 O49 (by omega) ⟨by omega, by omega⟩ q66 h69 T66 w75.1 w75.2 e94, hS.pp (by omega)⟩
                | exact ⟨pq_con_pb hq.1 O49 (by omega) ⟨by omega, by omega⟩ q66 h69 e94, hS.pp (by omega)⟩
                | (exfalso; omega)
            · skip
              exact absurd h98 (by decide)
          · skip
            have hC := And.intro (pq_cg_cu q66 h69) trivial
            have B66 := pq_cu_b hC.1
            refine And.intro (And.intro hI (And.intro hC.1 (by decide))) ?_
            intro v75 M75 a75 b75 q75
            obtain ⟨q75, z75⟩ := q75
            have hS : pq_pr pq_Po M M75 := hS.tr z75.po
            have hI : pz_ic M75 := hS.1 hI0
            have D75 := z75.2 5 9 (by unfold pq_Pp; omega)
            refine And.intro (fun h78 => ?_) (fun h78 => ?_)
            · skip
              have w75 := (q75.resolve_left (fun y => absurd (y.1.symm.trans h78) (by decide))).2
              intro v89 e89 a89 b89
              intro v93 e93 a93 b93
              try rw [pz_wi (by omega) (by omega)] at e93
              intro M94 e94
              have hS : pq_pr pq_Po M M94 := by
                rw [e94]
                exact pq_pr_u hS (by unfold pq_Po pq_Pp; omega) (by unfold pz_iok; omega)
              have hI : pz_ic M94 := hS.1 hI0
              have T94_0 := pz_uve e94 5 9
              refine And.intro (fun h98 => ?_) (fun h98 => ?_)
              · skip
                refine And.intro (by first | omega | exact pq_cg_01 q59 | exact pq_cg_01 q167 | exact Or.inl q28.1 | exact Or.inl q152.1) ?_
                refine And.intro rfl ?_
                first
                  | exact ⟨by rw [pq_cg_1 q59 h98]; exact pq_con_n hq O49 (by omega) ⟨by omega, by omega⟩ q59 h98 e94 q113, hS.pp (by omega)⟩
                  | exact ⟨by rw [h98]; exact pq_con_nb hq.1 O49 (by omega) ⟨by omega, by omega⟩ q59 h98 e94, hS.pp (by omega)⟩
                  | exact ⟨pq_con_p hq O49 (by omega) ⟨by omega, by omega⟩ q66 h69 T66 n75.1 n75.2.1 e94, hS.pp (by omega)⟩
                  | exact ⟨pq_con_pc hq.1 O49 (by omega) ⟨by omega, by omega⟩ q66 h69 T66 w75.1 w75.2 e94, hS.pp (by omega)⟩
                  | exact ⟨pq_con_pb hq.1 O49 (by omega) ⟨by omega, by omega⟩ q66 h69 e94, hS.pp (by omega)⟩
                  | (exfalso; omega)
              · skip
                exact absurd h98 (by decide)
            · skip
              have n75 := (q75.resolve_right (fun y => h78 y.1)).2
              intro v89 e89 a89 b89
              intro v93 e93 a93 b93
              try rw [pz_wi (by omega) (by omega)] at e93
              intro M94 e94
              have hS : pq_pr pq_Po M M94 := by
                rw [e94]
                exact pq_pr_u hS (by unfold pq_Po pq_Pp; omega) (by unfold pz_iok; omega)
              have hI : pz_ic M94 := hS.1 hI0
              have T94_0 := pz_uve e94 5 9
              refine And.intro (fun h98 => ?_) (fun h98 => ?_)
              · skip
                exact absurd h98 (by decide)
              · skip
                refine And.intro (fun h104 => ?_) (fun h104 => ?_)
                · skip
                  refine And.intro (by first | omega | exact pq_cg_01 q59 | exact pq_cg_01 q167 | exact Or.inl q28.1 | exact Or.inl q152.1) ?_
                  refine And.intro rfl ?_
                  first
                    | exact ⟨by rw [pq_cg_1 q59 h98]; exact pq_con_n hq O49 (by omega) ⟨by omega, by omega⟩ q59 h98 e94 q113, hS.pp (by omega)⟩
                    | exact ⟨by rw [h98]; exact pq_con_nb hq.1 O49 (by omega) ⟨by omega, by omega⟩ q59 h98 e94, hS.pp (by omega)⟩
                    | exact ⟨pq_con_p hq O49 (by omega) ⟨by omega, by omega⟩ q66 h69 T66 n75.1 n75.2.1 e94, hS.pp (by omega)⟩
                    | exact ⟨pq_con_pc hq.1 O49 (by omega) ⟨by omega, by omega⟩ q66 h69 T66 w75.1 w75.2 e94, hS.pp (by omega)⟩
                    | exact ⟨pq_con_pb hq.1 O49 (by omega) ⟨by omega, by omega⟩ q66 h69 e94, hS.pp (by omega)⟩
                    | (exfalso; omega)
                · skip
                  refine pz_nrc (c := 12) rfl ?_
                  refine And.intro (And.intro hI rfl) ?_
                  intro M113 q113
                  obtain ⟨q113, z113⟩ := q113
                  have hS : pq_pr pq_Po M M113 := hS.tr z113.po
                  have hI : pz_ic M113 := hS.1 hI0
                  have D113 := z113.2 5 9 (by unfold pq_Pp; omega)
                  refine And.intro (by first | omega | exact pq_cg_01 q59 | exact pq_cg_01 q167 | exact Or.inl q28.1 | exact Or.inl q152.1) ?_
                  refine And.intro rfl ?_
                  first
                    | exact ⟨by rw [pq_cg_1 q59 h98]; exact pq_con_n hq O49 (by omega) ⟨by omega, by omega⟩ q59 h98 e94 q113, hS.pp (by omega)⟩
                    | exact ⟨by rw [h98]; exact pq_con_nb hq.1 O49 (by omega) ⟨by omega, by omega⟩ q59 h98 e94, hS.pp (by omega)⟩
                    | exact ⟨pq_con_p hq O49 (by omega) ⟨by omega, by omega⟩ q66 h69 T66 n75.1 n75.2.1 e94, hS.pp (by omega)⟩
                    | exact ⟨pq_con_pc hq.1 O49 (by omega) ⟨by omega, by omega⟩ q66 h69 T66 w75.1 w75.2 e94, hS.pp (by omega)⟩
                    | exact ⟨pq_con_pb hq.1 O49 (by omega) ⟨by omega, by omega⟩ q66 h69 e94, hS.pp (by omega)⟩
                    | (exfalso; omega)
        · skip
          refine And.intro (And.intro hI (And.intro hC (And.intro (by omega) (And.intro (by omega) (by omega))))) ?_
          intro v59 M59 a59 b59 q59
          obtain ⟨q59, z59⟩ := q59
          have hS : pq_pr pq_Po M M59 := hS.tr z59.po
          have hI : pz_ic M59 := hS.1 hI0
          have D59 := z59.2 5 9 (by unfold pq_Pp; omega)
          intro v89 e89 a89 b89
          intro v93 e93 a93 b93
          try rw [pz_wi (by omega) (by omega)] at e93
          intro M94 e94
          have hS : pq_pr pq_Po M M94 := by
            rw [e94]
            exact pq_pr_u hS (by unfold pq_Po pq_Pp; omega) (by unfold pz_iok; omega)
          have hI : pz_ic M94 := hS.1 hI0
          have T94_0 := pz_uve e94 5 9
          refine And.intro (fun h98 => ?_) (fun h98 => ?_)
          · skip
            refine And.intro (by first | omega | exact pq_cg_01 q59 | exact pq_cg_01 q167 | exact Or.inl q28.1 | exact Or.inl q152.1) ?_
            refine And.intro rfl ?_
            first
              | exact ⟨by rw [pq_cg_1 q59 h98]; exact pq_con_n hq O49 (by omega) ⟨by omega, by omega⟩ q59 h98 e94 q113, hS.pp (by omega)⟩
              | exact ⟨by rw [h98]; exact pq_con_nb hq.1 O49 (by omega) ⟨by omega, by omega⟩ q59 h98 e94, hS.pp (by omega)⟩
              | exact ⟨pq_con_p hq O49 (by omega) ⟨by omega, by omega⟩ q66 h69 T66 n75.1 n75.2.1 e94, hS.pp (by omega)⟩
              | exact ⟨pq_con_pc hq.1 O49 (by omega) ⟨by omega, by omega⟩ q66 h69 T66 w75.1 w75.2 e94, hS.pp (by omega)⟩
              | exact ⟨pq_con_pb hq.1 O49 (by omega) ⟨by omega, by omega⟩ q66 h69 e94, hS.pp (by omega)⟩
              | (exfalso; omega)
          · skip
            refine And.intro (fun h104 => ?_) (fun h104 => ?_)
            · skip
              refine And.intro (by first | omega | exact pq_cg_01 q59 | exact pq_cg_01 q167 | exact Or.inl q28.1 | exact Or.inl q152.1) ?_
              refine And.intro rfl ?_
              first
                | exact ⟨by rw [pq_cg_1 q59 h98]; exact pq_con_n hq O49 (by omega) ⟨by omega, by omega⟩ q59 h98 e94 q113, hS.pp (by omega)⟩
                | exact ⟨by rw [h98]; exact pq_con_nb hq.1 O49 (by omega) ⟨by omega, by omega⟩ q59 h98 e94, hS.pp (by omega)⟩
                | exact ⟨pq_con_p hq O49 (by omega) ⟨by omega, by omega⟩ q66 h69 T66 n75.1 n75.2.1 e94, hS.pp (by omega)⟩
                | exact ⟨pq_con_pc hq.1 O49 (by omega) ⟨by omega, by omega⟩ q66 h69 T66 w75.1 w75.2 e94, hS.pp (by omega)⟩
                | exact ⟨pq_con_pb hq.1 O49 (by omega) ⟨by omega, by omega⟩ q66 h69 e94, hS.pp (by omega)⟩
                | (exfalso; omega)
            · skip
              refine pz_nrc (c := 12) rfl ?_
              refine And.intro (And.intro hI rfl) ?_
              intro M113 q113
              obtain ⟨q113, z113⟩ := q113
              have hS : pq_pr pq_Po M M113 := hS.tr z113.po
              have hI : pz_ic M113 := hS.1 hI0
              have D113 := z113.2 5 9 (by unfold pq_Pp; omega)
              refine And.intro (by first | omega | exact pq_cg_01 q59 | exact pq_cg_01 q167 | exact Or.inl q28.1 | exact Or.inl q152.1) ?_
              refine And.intro rfl ?_
              first
                | exact ⟨by rw [pq_cg_1 q59 h98]; exact pq_con_n hq O49 (by omega) ⟨by omega, by omega⟩ q59 h98 e94 q113, hS.pp (by omega)⟩
                | exact ⟨by rw [h98]; exact pq_con_nb hq.1 O49 (by omega) ⟨by omega, by omega⟩ q59 h98 e94, hS.pp (by omega)⟩
                | exact ⟨pq_con_p hq O49 (by omega) ⟨by omega, by omega⟩ q66 h69 T66 n75.1 n75.2.1 e94, hS.pp (by omega)⟩
                | exact ⟨pq_con_pc hq.1 O49 (by omega) ⟨by omega, by omega⟩ q66 h69 T66 w75.1 w75.2 e94, hS.pp (by omega)⟩
                | exact ⟨pq_con_pb hq.1 O49 (by omega) ⟨by omega, by omega⟩ q66 h69 e94, hS.pp (by omega)⟩
                | (exfalso; omega)
      · skip
        refine And.intro (hI) ?_
        intro v28 M28 a28 b28 q28
        obtain ⟨q28, z28⟩ := q28
        have hS : pq_pr pq_Po M M28 := hS.tr z28.po
        have hI : pz_ic M28 := hS.1 hI0
        have D28 := z28.2 5 9 (by unfold pq_Pp; omega)
        refine And.intro (by first | omega | exact pq_cg_01 q59 | exact pq_cg_01 q167 | exact Or.inl q28.1 | exact Or.inl q152.1) ?_
        refine And.intro rfl ?_
        exact ⟨by rw [q28.1]; exact pq_con_x hq.1 (by omega) (by omega) q28.2, hS.pp (by omega)⟩
    · skip
      refine And.intro (fun h14 => ?_) (fun h14 => ?_)
      · skip
        refine And.intro (And.intro hI hC) ?_
        intro v119 M119 a119 b119 q119
        obtain ⟨q119, z119⟩ := q119
        have hS : pq_pr pq_Po M M119 := hS.tr z119.po
        have hI : pz_ic M119 := hS.1 hI0
        have D119 := z119.2 5 9 (by unfold pq_Pp; omega)
        have T119 := pq_T3_po hS
        refine And.intro (fun h122 => ?_) (fun h122 => ?_)
        · skip
          have c119 := pq_cg_cu q119 h122
          have B119 := pq_cu_b c119
          have hC : pq_cq M119 := pq_cg_cq hq q119 h122
          intro v128 e128 a128 b128
          refine And.intro (fun h135 => ?_) (fun h135 => ?_)
          · skip
            intro v158 e158 a158 b158
            intro v162 e162 a162 b162
            try rw [pz_wi (by omega) (by omega)] at e162
            refine And.intro (hI) ?_
            intro M163 q163
            obtain ⟨q163, z163⟩ := q163
            have hS : pq_pr pq_Po M M163 := hS.tr z163.po
            have hI : pz_ic M163 := hS.1 hI0
            have C163 : pq_nx M119 M163 := pq_cu_la c119 (by omega) (by omega) q163
            have hC : pq_cq M163 := C163.cq hC
            have T163 := pq_T3_po hS
            have D163 := z163.2 5 9 (by unfold pq_Pp; omega)
            refine And.intro (And.intro hI hC) ?_
            intro v167 M167 a167 b167 q167
            obtain ⟨q167, z167⟩ := q167
            have hS : pq_pr pq_Po M M167 := hS.tr z167.po
            have hI : pz_ic M167 := hS.1 hI0
            have D167 := z167.2 5 9 (by unfold pq_Pp; omega)
            refine pz_nrc (c := 12) rfl ?_
            intro v177 e177 a177 b177
            rw [pz_not (by omega) (by omega)] at e177
            refine And.intro (And.intro hI rfl) ?_
            intro M178 q178
            obtain ⟨q178, z178⟩ := q178
            have hS : pq_pr pq_Po M M178 := hS.tr z178.po
            have hI : pz_ic M178 := hS.1 hI0
            have D178 := z178.2 5 9 (by unfold pq_Pp; omega)
            refine And.intro (by first | omega | exact pq_cg_01 q59 | exact pq_cg_01 q167 | exact Or.inl q28.1 | exact Or.inl q152.1) ?_
            refine And.intro rfl ?_
            exact ⟨pq_con_q hq ⟨by omega, by omega⟩ q119 h122 T119 (by omega) C163 T163 q167 (by omega) q178, hS.pp (by omega)⟩
          · skip
            refine And.intro (fun h141 => ?_) (fun h141 => ?_)
            · skip
              intro v158 e158 a158 b158
              intro v162 e162 a162 b162
              try rw [pz_wi (by omega) (by omega)] at e162
              refine And.intro (hI) ?_
              intro M163 q163
              obtain ⟨q163, z163⟩ := q163
              have hS : pq_pr pq_Po M M163 := hS.tr z163.po
              have hI : pz_ic M163 := hS.1 hI0
              have C163 : pq_nx M119 M163 := pq_cu_la c119 (by omega) (by omega) q163
              have hC : pq_cq M163 := C163.cq hC
              have T163 := pq_T3_po hS
              have D163 := z163.2 5 9 (by unfold pq_Pp; omega)
              refine And.intro (And.intro hI hC) ?_
              intro v167 M167 a167 b167 q167
              obtain ⟨q167, z167⟩ := q167
              have hS : pq_pr pq_Po M M167 := hS.tr z167.po
              have hI : pz_ic M167 := hS.1 hI0
              have D167 := z167.2 5 9 (by unfold pq_Pp; omega)
              refine pz_nrc (c := 12) rfl ?_
              intro v177 e177 a177 b177
              rw [pz_not (by omega) (by omega)] at e177
              refine And.intro (And.intro hI rfl) ?_
              intro M178 q178
              obtain ⟨q178, z178⟩ := q178
              have hS : pq_pr pq_Po M M178 := hS.tr z178.po
              have hI : pz_ic M178 := hS.1 hI0
              have D178 := z178.2 5 9 (by unfold pq_Pp; omega)
              refine And.intro (by first | omega | exact pq_cg_01 q59 | exact pq_cg_01 q167 | exact Or.inl q28.1 | exact Or.inl q152.1) ?_
              refine And.intro rfl ?_
              exact ⟨pq_con_q hq ⟨by omega, by omega⟩ q119 h122 T119 (by omega) C163 T163 q167 (by omega) q178, hS.pp (by omega)⟩
            · skip
              refine And.intro (fun h147 => ?_) (fun h147 => ?_)
              · skip
                intro v158 e158 a158 b158
                intro v162 e162 a162 b162
                try rw [pz_wi (by omega) (by omega)] at e162
                refine And.intro (hI) ?_
                intro M163 q163
                obtain ⟨q163, z163⟩ := q163
                have hS : pq_pr pq_Po M M163 := hS.tr z163.po
                have hI : pz_ic M163 := hS.1 hI0
                have C163 : pq_nx M119 M163 := pq_cu_la c119 (by omega) (by omega) q163
                have hC : pq_cq M163 := C163.cq hC
                have T163 := pq_T3_po hS
                have D163 := z163.2 5 9 (by unfold pq_Pp; omega)
                refine And.intro (And.intro hI hC) ?_
                intro v167 M167 a167 b167 q167
                obtain ⟨q167, z167⟩ := q167
                have hS : pq_pr pq_Po M M167 := hS.tr z167.po
                have hI : pz_ic M167 := hS.1 hI0
                have D167 := z167.2 5 9 (by unfold pq_Pp; omega)
                refine pz_nrc (c := 12) rfl ?_
                intro v177 e177 a177 b177
                rw [pz_not (by omega) (by omega)] at e177
                refine And.intro (And.intro hI rfl) ?_
                intro M178 q178
                obtain ⟨q178, z178⟩ := q178
                have hS : pq_pr pq_Po M M178 := hS.tr z178.po
                have hI : pz_ic M178 := hS.1 hI0
                have D178 := z178.2 5 9 (by unfold pq_Pp; omega)
                refine And.intro (by first | omega | exact pq_cg_01 q59 | exact pq_cg_01 q167 | exact Or.inl q28.1 | exact Or.inl q152.1) ?_
                refine And.intro rfl ?_
                exact ⟨pq_con_q hq ⟨by omega, by omega⟩ q119 h122 T119 (by omega) C163 T163 q167 (by omega) q178, hS.pp (by omega)⟩
              · skip
                refine And.intro (hI) ?_
                intro v152 M152 a152 b152 q152
                obtain ⟨q152, z152⟩ := q152
                have hS : pq_pr pq_Po M M152 := hS.tr z152.po
                have hI : pz_ic M152 := hS.1 hI0
                have D152 := z152.2 5 9 (by unfold pq_Pp; omega)
                refine And.intro (by first | omega | exact pq_cg_01 q59 | exact pq_cg_01 q167 | exact Or.inl q28.1 | exact Or.inl q152.1) ?_
                refine And.intro rfl ?_
                exact ⟨by rw [q152.1]; exact pq_con_r hq.1 ⟨by omega, by omega⟩ q119 h122 T119 (by omega) q152.2, hS.pp (by omega)⟩
        · skip
          skip
          refine And.intro (by first | omega | exact pq_cg_01 q59 | exact pq_cg_01 q167 | exact Or.inl q28.1 | exact Or.inl q152.1) ?_
          refine And.intro rfl ?_
          exact ⟨pq_con_s hq.1 ⟨by omega, by omega⟩ q119 h122, hS.pp (by omega)⟩
      · skip
        intro v18 e18 a18 b18
        refine And.intro (fun h23 => ?_) (fun h23 => ?_)
        · skip
          intro v34 e34 a34 b34
          intro v38 e38 a38 b38
          try rw [pz_wi (by omega) (by omega)] at e38
          intro M39 e39
          have hS : pq_pr pq_Po M M39 := by
            rw [e39]
            exact pq_pr_u hS (by unfold pq_Po pq_Pp; omega) (by unfold pz_iok; omega)
          have hI : pz_ic M39 := hS.1 hI0
          have T39_0 := pz_uve e39 5 9
          have P39 := pq_d9 e39
          intro v44 e44 a44 b44
          intro v48 e48 a48 b48
          try rw [pz_wi (by omega) (by omega)] at e48
          refine And.intro (hI) ?_
          intro M49 q49
          obtain ⟨q49, z49⟩ := q49
          have hS : pq_pr pq_Po M M49 := hS.tr z49.po
          have hI : pz_ic M49 := hS.1 hI0
          have O49 := pq_op1_of hq.1 e39 (by omega) (by omega) (by omega) q49 z49
          have hC : pq_cq M49 := O49.2.1.cq hq
          have D49 := O49.2.2
          refine And.intro (fun h55 => ?_) (fun h55 => ?_)
          · skip
            refine And.intro (And.intro hI (And.intro hC (And.intro (by omega) (And.intro (by omega) (by omega))))) ?_
            intro v66 M66 a66 b66 q66
            obtain ⟨q66, z66⟩ := q66
            have hS : pq_pr pq_Po M M66 := hS.tr z66.po
            have hI : pz_ic M66 := hS.1 hI0
            have D66 := z66.2 5 9 (by unfold pq_Pp; omega)
            have T66 := pq_T3_po hS
            refine And.intro (fun h69 => ?_) (fun h69 => ?_)
            · skip
              skip
              intro v89 e89 a89 b89
              intro v93 e93 a93 b93
              try rw [pz_wi (by omega) (by omega)] at e93
              intro M94 e94
              have hS : pq_pr pq_Po M M94 := by
                rw [e94]
                exact pq_pr_u hS (by unfold pq_Po pq_Pp; omega) (by unfold pz_iok; omega)
              have hI : pz_ic M94 := hS.1 hI0
              have T94_0 := pz_uve e94 5 9
              refine And.intro (fun h98 => ?_) (fun h98 => ?_)
              · skip
                refine And.intro (by first | omega | exact pq_cg_01 q59 | exact pq_cg_01 q167 | exact Or.inl q28.1 | exact Or.inl q152.1) ?_
                refine And.intro rfl ?_
                first
                  | exact ⟨by rw [pq_cg_1 q59 h98]; exact pq_con_n hq O49 (by omega) ⟨by omega, by omega⟩ q59 h98 e94 q113, hS.pp (by omega)⟩
                  | exact ⟨by rw [h98]; exact pq_con_nb hq.1 O49 (by omega) ⟨by omega, by omega⟩ q59 h98 e94, hS.pp (by omega)⟩
                  | exact ⟨pq_con_p hq O49 (by omega) ⟨by omega, by omega⟩ q66 h69 T66 n75.1 n75.2.1 e94, hS.pp (by omega)⟩
                  | exact ⟨pq_con_pc hq.1 O49 (by omega) ⟨by omega, by omega⟩ q66 h69 T66 w75.1 w75.2 e94, hS.pp (by omega)⟩
                  | exact ⟨pq_con_pb hq.1 O49 (by omega) ⟨by omega, by omega⟩ q66 h69 e94, hS.pp (by omega)⟩
                  | (exfalso; omega)
              · skip
                exact absurd h98 (by decide)
            · skip
              have hC := And.intro (pq_cg_cu q66 h69) trivial
              have B66 := pq_cu_b hC.1
              refine And.intro (And.intro hI (And.intro hC.1 (by decide))) ?_
              intro v75 M75 a75 b75 q75
              obtain ⟨q75, z75⟩ := q75
              have hS : pq_pr pq_Po M M75 := hS.tr z75.po
              have hI : pz_ic M75 := hS.1 hI0
              have D75 := z75.2 5 9 (by unfold pq_Pp; omega)
              refine And.intro (fun h78 => ?_) (fun h78 => ?_)
              · skip
                have w75 := (q75.resolve_left (fun y => absurd (y.1.symm.trans h78) (by decide))).2
                intro v89 e89 a89 b89
                intro v93 e93 a93 b93
                try rw [pz_wi (by omega) (by omega)] at e93
                intro M94 e94
                have hS : pq_pr pq_Po M M94 := by
                  rw [e94]
                  exact pq_pr_u hS (by unfold pq_Po pq_Pp; omega) (by unfold pz_iok; omega)
                have hI : pz_ic M94 := hS.1 hI0
                have T94_0 := pz_uve e94 5 9
                refine And.intro (fun h98 => ?_) (fun h98 => ?_)
                · skip
                  refine And.intro (by first | omega | exact pq_cg_01 q59 | exact pq_cg_01 q167 | exact Or.inl q28.1 | exact Or.inl q152.1) ?_
                  refine And.intro rfl ?_
                  first
                    | exact ⟨by rw [pq_cg_1 q59 h98]; exact pq_con_n hq O49 (by omega) ⟨by omega, by omega⟩ q59 h98 e94 q113, hS.pp (by omega)⟩
                    | exact ⟨by rw [h98]; exact pq_con_nb hq.1 O49 (by omega) ⟨by omega, by omega⟩ q59 h98 e94, hS.pp (by omega)⟩
                    | exact ⟨pq_con_p hq O49 (by omega) ⟨by omega, by omega⟩ q66 h69 T66 n75.1 n75.2.1 e94, hS.pp (by omega)⟩
                    | exact ⟨pq_con_pc hq.1 O49 (by omega) ⟨by omega, by omega⟩ q66 h69 T66 w75.1 w75.2 e94, hS.pp (by omega)⟩
                    | exact ⟨pq_con_pb hq.1 O49 (by omega) ⟨by omega, by omega⟩ q66 h69 e94, hS.pp (by omega)⟩
                    | (exfalso; omega)
                · skip
                  exact absurd h98 (by decide)
              · skip
                have n75 := (q75.resolve_right (fun y => h78 y.1)).2
                intro v89 e89 a89 b89
                intro v93 e93 a93 b93
                try rw [pz_wi (by omega) (by omega)] at e93
                intro M94 e94
                have hS : pq_pr pq_Po M M94 := by
                  rw [e94]
                  exact pq_pr_u hS (by unfold pq_Po pq_Pp; omega) (by unfold pz_iok; omega)
                have hI : pz_ic M94 := hS.1 hI0
                have T94_0 := pz_uve e94 5 9
                refine And.intro (fun h98 => ?_) (fun h98 => ?_)
                · skip
                  exact absurd h98 (by decide)
                · skip
                  refine And.intro (fun h104 => ?_) (fun h104 => ?_)
                  · skip
                    refine And.intro (by first | omega | exact pq_cg_01 q59 | exact pq_cg_01 q167 | exact Or.inl q28.1 | exact Or.inl q152.1) ?_
                    refine And.intro rfl ?_
                    first
                      | exact ⟨by rw [pq_cg_1 q59 h98]; exact pq_con_n hq O49 (by omega) ⟨by omega, by omega⟩ q59 h98 e94 q113, hS.pp (by omega)⟩
                      | exact ⟨by rw [h98]; exact pq_con_nb hq.1 O49 (by omega) ⟨by omega, by omega⟩ q59 h98 e94, hS.pp (by omega)⟩
                      | exact ⟨pq_con_p hq O49 (by omega) ⟨by omega, by omega⟩ q66 h69 T66 n75.1 n75.2.1 e94, hS.pp (by omega)⟩
                      | exact ⟨pq_con_pc hq.1 O49 (by omega) ⟨by omega, by omega⟩ q66 h69 T66 w75.1 w75.2 e94, hS.pp (by omega)⟩
                      | exact ⟨pq_con_pb hq.1 O49 (by omega) ⟨by omega, by omega⟩ q66 h69 e94, hS.pp (by omega)⟩
                      | (exfalso; omega)
                  · skip
                    refine pz_nrc (c := 12) rfl ?_
                    refine And.intro (And.intro hI rfl) ?_
                    intro M113 q113
                    obtain ⟨q113, z113⟩ := q113
                    have hS : pq_pr pq_Po M M113 := hS.tr z113.po
                    have hI : pz_ic M113 := hS.1 hI0
                    have D113 := z113.2 5 9 (by unfold pq_Pp; omega)
                    refine And.intro (by first | omega | exact pq_cg_01 q59 | exact pq_cg_01 q167 | exact Or.inl q28.1 | exact Or.inl q152.1) ?_
                    refine And.intro rfl ?_
                    first
                      | exact ⟨by rw [pq_cg_1 q59 h98]; exact pq_con_n hq O49 (by omega) ⟨by omega, by omega⟩ q59 h98 e94 q113, hS.pp (by omega)⟩
                      | exact ⟨by rw [h98]; exact pq_con_nb hq.1 O49 (by omega) ⟨by omega, by omega⟩ q59 h98 e94, hS.pp (by omega)⟩
                      | exact ⟨pq_con_p hq O49 (by omega) ⟨by omega, by omega⟩ q66 h69 T66 n75.1 n75.2.1 e94, hS.pp (by omega)⟩
                      | exact ⟨pq_con_pc hq.1 O49 (by omega) ⟨by omega, by omega⟩ q66 h69 T66 w75.1 w75.2 e94, hS.pp (by omega)⟩
                      | exact ⟨pq_con_pb hq.1 O49 (by omega) ⟨by omega, by omega⟩ q66 h69 e94, hS.pp (by omega)⟩
                      | (exfalso; omega)
          · skip
            refine And.intro (And.intro hI (And.intro hC (And.intro (by omega) (And.intro (by omega) (by omega))))) ?_
            intro v59 M59 a59 b59 q59
            obtain ⟨q59, z59⟩ := q59
            have hS : pq_pr pq_Po M M59 := hS.tr z59.po
            have hI : pz_ic M59 := hS.1 hI0
            have D59 := z59.2 5 9 (by unfold pq_Pp; omega)
            intro v89 e89 a89 b89
            intro v93 e93 a93 b93
            try rw [pz_wi (by omega) (by omega)] at e93
            intro M94 e94
            have hS : pq_pr pq_Po M M94 := by
              rw [e94]
              exact pq_pr_u hS (by unfold pq_Po pq_Pp; omega) (by unfold pz_iok; omega)
            have hI : pz_ic M94 := hS.1 hI0
            have T94_0 := pz_uve e94 5 9
            refine And.intro (fun h98 => ?_) (fun h98 => ?_)
            · skip
              refine And.intro (by first | omega | exact pq_cg_01 q59 | exact pq_cg_01 q167 | exact Or.inl q28.1 | exact Or.inl q152.1) ?_
              refine And.intro rfl ?_
              first
                | exact ⟨by rw [pq_cg_1 q59 h98]; exact pq_con_n hq O49 (by omega) ⟨by omega, by omega⟩ q59 h98 e94 q113, hS.pp (by omega)⟩
                | exact ⟨by rw [h98]; exact pq_con_nb hq.1 O49 (by omega) ⟨by omega, by omega⟩ q59 h98 e94, hS.pp (by omega)⟩
                | exact ⟨pq_con_p hq O49 (by omega) ⟨by omega, by omega⟩ q66 h69 T66 n75.1 n75.2.1 e94, hS.pp (by omega)⟩
                | exact ⟨pq_con_pc hq.1 O49 (by omega) ⟨by omega, by omega⟩ q66 h69 T66 w75.1 w75.2 e94, hS.pp (by omega)⟩
                | exact ⟨pq_con_pb hq.1 O49 (by omega) ⟨by omega, by omega⟩ q66 h69 e94, hS.pp (by omega)⟩
                | (exfalso; omega)
            · skip
              refine And.intro (fun h104 => ?_) (fun h104 => ?_)
              · skip
                refine And.intro (by first | omega | exact pq_cg_01 q59 | exact pq_cg_01 q167 | exact Or.inl q28.1 | exact Or.inl q152.1) ?_
                refine And.intro rfl ?_
                first
                  | exact ⟨by rw [pq_cg_1 q59 h98]; exact pq_con_n hq O49 (by omega) ⟨by omega, by omega⟩ q59 h98 e94 q113, hS.pp (by omega)⟩
                  | exact ⟨by rw [h98]; exact pq_con_nb hq.1 O49 (by omega) ⟨by omega, by omega⟩ q59 h98 e94, hS.pp (by omega)⟩
                  | exact ⟨pq_con_p hq O49 (by omega) ⟨by omega, by omega⟩ q66 h69 T66 n75.1 n75.2.1 e94, hS.pp (by omega)⟩
                  | exact ⟨pq_con_pc hq.1 O49 (by omega) ⟨by omega, by omega⟩ q66 h69 T66 w75.1 w75.2 e94, hS.pp (by omega)⟩
                  | exact ⟨pq_con_pb hq.1 O49 (by omega) ⟨by omega, by omega⟩ q66 h69 e94, hS.pp (by omega)⟩
                  | (exfalso; omega)
              · skip
                refine pz_nrc (c := 12) rfl ?_
                refine And.intro (And.intro hI rfl) ?_
                intro M113 q113
                obtain ⟨q113, z113⟩ := q113
                have hS : pq_pr pq_Po M M113 := hS.tr z113.po
                have hI : pz_ic M113 := hS.1 hI0
                have D113 := z113.2 5 9 (by unfold pq_Pp; omega)
                refine And.intro (by first | omega | exact pq_cg_01 q59 | exact pq_cg_01 q167 | exact Or.inl q28.1 | exact Or.inl q152.1) ?_
                refine And.intro rfl ?_
                first
                  | exact ⟨by rw [pq_cg_1 q59 h98]; exact pq_con_n hq O49 (by omega) ⟨by omega, by omega⟩ q59 h98 e94 q113, hS.pp (by omega)⟩
                  | exact ⟨by rw [h98]; exact pq_con_nb hq.1 O49 (by omega) ⟨by omega, by omega⟩ q59 h98 e94, hS.pp (by omega)⟩
                  | exact ⟨pq_con_p hq O49 (by omega) ⟨by omega, by omega⟩ q66 h69 T66 n75.1 n75.2.1 e94, hS.pp (by omega)⟩
                  | exact ⟨pq_con_pc hq.1 O49 (by omega) ⟨by omega, by omega⟩ q66 h69 T66 w75.1 w75.2 e94, hS.pp (by omega)⟩
                  | exact ⟨pq_con_pb hq.1 O49 (by omega) ⟨by omega, by omega⟩ q66 h69 e94, hS.pp (by omega)⟩
                  | (exfalso; omega)
        · skip
          refine And.intro (hI) ?_
          intro v28 M28 a28 b28 q28
          obtain ⟨q28, z28⟩ := q28
          have hS : pq_pr pq_Po M M28 := hS.tr z28.po
          have hI : pz_ic M28 := hS.1 hI0
          have D28 := z28.2 5 9 (by unfold pq_Pp; omega)
          refine And.intro (by first | omega | exact pq_cg_01 q59 | exact pq_cg_01 q167 | exact Or.inl q28.1 | exact Or.inl q152.1) ?_
          refine And.intro rfl ?_
          exact ⟨by rw [q28.1]; exact pq_con_x hq.1 (by omega) (by omega) q28.2, hS.pp (by omega)⟩
set_option maxRecDepth 100000 in
set_option maxHeartbeats 4000000 in
theorem h_X9_conditions_s (nn : Nat) (hC : pz_H yX9_condition cX9_condition 4 (some .boolean) (k_X9_condition nn) (3 + 2 * nn) (65 + 46 * nn)) : pz_H yX9_conditions cX9_conditions 4 (some .boolean) (k_X9_conditions nn) (4 + 2 * nn) (88 + 46 * nn) := by
  refine pz_mk (own := RX9) (tb := t_X9_conditions) (fl := pz_flf fl_RX9) (ci := fun _ => none) (ct := pz_ctf [(true, 122, k_X9_condition nn), (true, 125, k_X3_put), (true, 50, k_X9_lookAt)]) (rz := true) (by decide +kernel) rfl t_X9_conditions_ok (pz_flk fl_RX9_ok) (fun i v h => by cases h) ?_ ?_ (Or.inr ⟨rfl, rfl⟩) ?_ ?_
  · exact fun i k' h => pz_ctk (l := [(true, 122, k_X9_condition nn), (true, 125, k_X3_put), (true, 50, k_X9_lookAt)]) (P := fun b i k => b = true → pz_cV (4 + 2 * nn) (88 + 46 * nn) RX9 i k) (List.forall_mem_cons.mpr ⟨(fun _ => pz_cVk (maxL := 4) 0 9 hC rfl ⟨by decide +kernel, by decide +kernel, by decide +kernel⟩ ⟨by decide +kernel, by decide +kernel, by decide +kernel, by decide +kernel⟩ (Or.inl ⟨TX9, 10, rfl⟩) (fun a M _ h => by
      have h : (match (generalizing := false) a with | [.inr (.inr (9, th))] => pz_ic M ∧ pq_cq M ∧ 0 ≤ M 5 9 ∧ M 5 9 ≤ 8 ∧ 8 - M 5 9 ≤ (nn : Int) | _ => False) := h
      split at h
      · exact ⟨_, _, rfl⟩
      · exact h.elim) (by omega) (by omega) (show Cond.methodLink RX9 122 yX9_condition ∈ lw_tbl by decide +kernel)), List.forall_mem_cons.mpr ⟨(fun _ => v_X3_put (by omega) (by omega) (by decide +kernel)), List.forall_mem_cons.mpr ⟨(fun _ => v_X9_lookAt (by omega) (by omega) (by decide +kernel)), fun _ h => absurd h List.not_mem_nil⟩⟩⟩) true i k' h rfl
  · exact fun i k' h => pz_ctk (l := [(true, 122, k_X9_condition nn), (true, 125, k_X3_put), (true, 50, k_X9_lookAt)]) (P := fun b i k => b = false → (pz_cS (4 + 2 * nn) (88 + 46 * nn) RX9 i k ∨ (k = pz_kac ∧ 1 ≤ (4 + 2 * nn) ∧ 60 ≤ (88 + 46 * nn) ∧ Cond.methodLink RX9 i arraycopyName ∈ pz_tbl))) (List.forall_mem_cons.mpr ⟨(fun z => by cases z), List.forall_mem_cons.mpr ⟨(fun z => by cases z), List.forall_mem_cons.mpr ⟨(fun z => by cases z), fun _ h => absurd h List.not_mem_nil⟩⟩⟩) false i k' h rfl
  · intro a M hlen hpre
    obtain ⟨th, rfl, hpre⟩ : ∃ th, a = [.inr (.inr (9, th))] ∧ (pz_ic M ∧ pq_cq M ∧ 0 ≤ M 5 9 ∧ M 5 9 ≤ 8 ∧ 8 - M 5 9 ≤ ((nn : Nat) : Int)) := by
      have hpre : (match (generalizing := false) a with | [.inr (.inr (9, th))] => pz_ic M ∧ pq_cq M ∧ 0 ≤ M 5 9 ∧ M 5 9 ≤ 8 ∧ 8 - M 5 9 ≤ ((nn : Nat) : Int) | _ => False) := hpre
      split at hpre
      · exact ⟨_, rfl, hpre⟩
      · exact hpre.elim
    exact Nat.le_of_ble_eq_true rfl
  · intro a M hlen hcan hM hpre Ok hgo
    obtain ⟨th, rfl, hpre⟩ : ∃ th, a = [.inr (.inr (9, th))] ∧ (pz_ic M ∧ pq_cq M ∧ 0 ≤ M 5 9 ∧ M 5 9 ≤ 8 ∧ 8 - M 5 9 ≤ ((nn : Nat) : Int)) := by
      have hpre : (match (generalizing := false) a with | [.inr (.inr (9, th))] => pz_ic M ∧ pq_cq M ∧ 0 ≤ M 5 9 ∧ M 5 9 ≤ 8 ∧ 8 - M 5 9 ≤ ((nn : Nat) : Int) | _ => False) := hpre
      split at hpre
      · exact ⟨_, rfl, hpre⟩
      · exact hpre.elim
    obtain ⟨k_th, hcan⟩ := pz_tlm hcan
    have k_th : pz_kd th = 9 ∧ th < 231 := k_th
    have R_th := pz_kd9 k_th.1
    subst R_th
    have hI : pz_ic M := hpre.1
    have hI0 := hI
    have hS : pq_pr pq_Pp M M := pq_pr.rf
    obtain ⟨-, hq, pd1, pd2, pd3⟩ := hpre
    have B9 := pq_cu_b hq.1
    have hC := hq
    have h12 := hq.2.1
    have L6 : ∀ (fu : Nat) (x1 : Int) (x2 : Int) (x3 : Int) (N6 : pz_M), (400 - x3).toNat < fu → (pq_pr pq_Pp M N6) → (0 ≤ x3) → (pq_cH M N6 (M 5 9).toNat x1 x2) → (2 * x3 ≤ N6 5 5) → Ok 6 [some (.inr (.inr (9, 5))), some (.inl x1), some (.inl x2), some (.inl x3)] [] N6 := by
      intro fu
      induction fu with
      | zero => exact fun _ _ _ _ hn => absurd hn (Nat.not_lt_zero _)
      | succ fu ih6 =>
        intro x1 x2 x3 N6 hn6 hS g6_1 g6_2 g6_3
        have hI : pz_ic N6 := hS.1 hI0
        have hC := g6_2.cq
        have T6 := pq_T3_of hS
        have D6 : N6 5 9 = M 5 9 := hS.2 5 9 (by unfold pq_Pp; omega)
        have B6 := pq_cu_b g6_2.1
        refine hgo (fun p => Nat.beq p 6) 56 6 _ _ _ ?_
        refine And.intro (fun h10 => ?_) (fun h10 => ?_)
        · skip
          exfalso; omega
        · skip
          refine And.intro (And.intro hI (And.intro hC (And.intro (by omega) (And.intro (by omega) (by omega))))) ?_
          intro v14 M14 a14 b14 q14
          obtain ⟨q14, z14⟩ := q14
          have hS : pq_pr pq_Pp M M14 := hS.tr z14
          have hI : pz_ic M14 := hS.1 hI0
          rw [D6] at q14
          refine And.intro (fun h17 => ?_) (fun h17 => ?_)
          · skip
            refine And.intro (fun h23 => ?_) (fun h23 => ?_)
            · skip
              obtain ⟨E35, K35⟩ := pq_cH_s g6_2 T6 q14 h17 h12 (Or.inl ⟨h23, rfl⟩)
              have T35 := pq_T3_of hS
              have B35 := pq_cu_b E35.1
              intro v36 e36 a36 b36
              refine And.intro (fun h41 => ?_) (fun h41 => ?_)
              · skip
                refine And.intro (fun h51 => ?_) (fun h51 => ?_)
                · skip
                  exact absurd h51 (by decide)
                · skip
                  refine And.intro (fun h55 => ?_) (fun h55 => ?_)
                  · skip
                    obtain ⟨U67, K67⟩ := pq_cE_0 E35 T35 (by omega) h12 (Or.inl ⟨h55, rfl⟩)
                    have T67 := T35
                    intro v68 e68 a68 b68
                    refine And.intro (fun h72 => ?_) (fun h72 => ?_)
                    · skip
                      intro v81 e81 a81 b81
                      intro v85 e85 a85 b85
                      rw [pz_wi (by omega) (by omega)] at e85
                      refine And.intro (hI) ?_
                      intro M86 q86
                      obtain ⟨q86, z86⟩ := q86
                      have hS : pq_pr pq_Pp M M86 := hS.tr z86
                      have hI : pz_ic M86 := hS.1 hI0
                      have K86 := pq_la5 q86 (by omega)
                      intro v89 e89 a89 b89
                      try rw [pz_wi (by omega) (by omega)] at e89
                      exact ih6 _ _ _ _ (by omega) hS (by first | omega | exact pq_cH_0 hq | exact pq_cE_a E35 T35 (by omega) (pq_cu_la E35.1 (by omega) (by omega) q86) | exact pq_cT_n U67 T67 (by omega) (pq_cu_la U67.1 (by omega) (by omega) q86)) (by first | omega | exact pq_cH_0 hq | exact pq_cE_a E35 T35 (by omega) (pq_cu_la E35.1 (by omega) (by omega) q86) | exact pq_cT_n U67 T67 (by omega) (pq_cu_la U67.1 (by omega) (by omega) q86)) (by first | omega | exact pq_cH_0 hq | exact pq_cE_a E35 T35 (by omega) (pq_cu_la E35.1 (by omega) (by omega) q86) | exact pq_cT_n U67 T67 (by omega) (pq_cu_la U67.1 (by omega) (by omega) q86))
                    · skip
                      refine And.intro (by omega) ?_
                      refine And.intro rfl ?_
                      exact ⟨pq_cT_e U67 T67 (by omega), hS⟩
                  · skip
                    skip
                    refine pz_nrc (c := 12) rfl ?_
                    refine And.intro (And.intro hI rfl) ?_
                    intro M64 q64
                    obtain ⟨q64, z64⟩ := q64
                    have hS : pq_pr pq_Pp M M64 := hS.tr z64
                    have hI : pz_ic M64 := hS.1 hI0
                    obtain ⟨U67, K67⟩ := pq_cE_0 E35 T35 (by omega) h12 (Or.inr ⟨h55, q64⟩)
                    have T67 := pq_T3_of hS
                    have B67 := pq_cu_b U67.1
                    intro v68 e68 a68 b68
                    refine And.intro (fun h72 => ?_) (fun h72 => ?_)
                    · skip
                      intro v81 e81 a81 b81
                      intro v85 e85 a85 b85
                      rw [pz_wi (by omega) (by omega)] at e85
                      refine And.intro (hI) ?_
                      intro M86 q86
                      obtain ⟨q86, z86⟩ := q86
                      have hS : pq_pr pq_Pp M M86 := hS.tr z86
                      have hI : pz_ic M86 := hS.1 hI0
                      have K86 := pq_la5 q86 (by omega)
                      intro v89 e89 a89 b89
                      try rw [pz_wi (by omega) (by omega)] at e89
                      exact ih6 _ _ _ _ (by omega) hS (by first | omega | exact pq_cH_0 hq | exact pq_cE_a E35 T35 (by omega) (pq_cu_la E35.1 (by omega) (by omega) q86) | exact pq_cT_n U67 T67 (by omega) (pq_cu_la U67.1 (by omega) (by omega) q86)) (by first | omega | exact pq_cH_0 hq | exact pq_cE_a E35 T35 (by omega) (pq_cu_la E35.1 (by omega) (by omega) q86) | exact pq_cT_n U67 T67 (by omega) (pq_cu_la U67.1 (by omega) (by omega) q86)) (by first | omega | exact pq_cH_0 hq | exact pq_cE_a E35 T35 (by omega) (pq_cu_la E35.1 (by omega) (by omega) q86) | exact pq_cT_n U67 T67 (by omega) (pq_cu_la U67.1 (by omega) (by omega) q86))
                    · skip
                      refine And.intro (by omega) ?_
                      refine And.intro rfl ?_
                      exact ⟨pq_cT_e U67 T67 (by omega), hS⟩
              · skip
                refine And.intro (fun h51 => ?_) (fun h51 => ?_)
                · skip
                  intro v81 e81 a81 b81
                  intro v85 e85 a85 b85
                  rw [pz_wi (by omega) (by omega)] at e85
                  refine And.intro (hI) ?_
                  intro M86 q86
                  obtain ⟨q86, z86⟩ := q86
                  have hS : pq_pr pq_Pp M M86 := hS.tr z86
                  have hI : pz_ic M86 := hS.1 hI0
                  have K86 := pq_la5 q86 (by omega)
                  intro v89 e89 a89 b89
                  try rw [pz_wi (by omega) (by omega)] at e89
                  exact ih6 _ _ _ _ (by omega) hS (by first | omega | exact pq_cH_0 hq | exact pq_cE_a E35 T35 (by omega) (pq_cu_la E35.1 (by omega) (by omega) q86) | exact pq_cT_n U67 T67 (by omega) (pq_cu_la U67.1 (by omega) (by omega) q86)) (by first | omega | exact pq_cH_0 hq | exact pq_cE_a E35 T35 (by omega) (pq_cu_la E35.1 (by omega) (by omega) q86) | exact pq_cT_n U67 T67 (by omega) (pq_cu_la U67.1 (by omega) (by omega) q86)) (by first | omega | exact pq_cH_0 hq | exact pq_cE_a E35 T35 (by omega) (pq_cu_la E35.1 (by omega) (by omega) q86) | exact pq_cT_n U67 T67 (by omega) (pq_cu_la U67.1 (by omega) (by omega) q86))
                · skip
                  exact absurd h51 (by decide)
            · skip
              skip
              refine pz_nrc (c := 12) rfl ?_
              refine And.intro (And.intro hI rfl) ?_
              intro M32 q32
              obtain ⟨q32, z32⟩ := q32
              have hS : pq_pr pq_Pp M M32 := hS.tr z32
              have hI : pz_ic M32 := hS.1 hI0
              obtain ⟨E35, K35⟩ := pq_cH_s g6_2 T6 q14 h17 h12 (Or.inr ⟨h23, q32⟩)
              have T35 := pq_T3_of hS
              have B35 := pq_cu_b E35.1
              intro v36 e36 a36 b36
              refine And.intro (fun h41 => ?_) (fun h41 => ?_)
              · skip
                refine And.intro (fun h51 => ?_) (fun h51 => ?_)
                · skip
                  exact absurd h51 (by decide)
                · skip
                  refine And.intro (fun h55 => ?_) (fun h55 => ?_)
                  · skip
                    obtain ⟨U67, K67⟩ := pq_cE_0 E35 T35 (by omega) h12 (Or.inl ⟨h55, rfl⟩)
                    have T67 := T35
                    intro v68 e68 a68 b68
                    refine And.intro (fun h72 => ?_) (fun h72 => ?_)
                    · skip
                      intro v81 e81 a81 b81
                      intro v85 e85 a85 b85
                      rw [pz_wi (by omega) (by omega)] at e85
                      refine And.intro (hI) ?_
                      intro M86 q86
                      obtain ⟨q86, z86⟩ := q86
                      have hS : pq_pr pq_Pp M M86 := hS.tr z86
                      have hI : pz_ic M86 := hS.1 hI0
                      have K86 := pq_la5 q86 (by omega)
                      intro v89 e89 a89 b89
                      try rw [pz_wi (by omega) (by omega)] at e89
                      exact ih6 _ _ _ _ (by omega) hS (by first | omega | exact pq_cH_0 hq | exact pq_cE_a E35 T35 (by omega) (pq_cu_la E35.1 (by omega) (by omega) q86) | exact pq_cT_n U67 T67 (by omega) (pq_cu_la U67.1 (by omega) (by omega) q86)) (by first | omega | exact pq_cH_0 hq | exact pq_cE_a E35 T35 (by omega) (pq_cu_la E35.1 (by omega) (by omega) q86) | exact pq_cT_n U67 T67 (by omega) (pq_cu_la U67.1 (by omega) (by omega) q86)) (by first | omega | exact pq_cH_0 hq | exact pq_cE_a E35 T35 (by omega) (pq_cu_la E35.1 (by omega) (by omega) q86) | exact pq_cT_n U67 T67 (by omega) (pq_cu_la U67.1 (by omega) (by omega) q86))
                    · skip
                      refine And.intro (by omega) ?_
                      refine And.intro rfl ?_
                      exact ⟨pq_cT_e U67 T67 (by omega), hS⟩
                  · skip
                    skip
                    refine pz_nrc (c := 12) rfl ?_
                    refine And.intro (And.intro hI rfl) ?_
                    intro M64 q64
                    obtain ⟨q64, z64⟩ := q64
                    have hS : pq_pr pq_Pp M M64 := hS.tr z64
                    have hI : pz_ic M64 := hS.1 hI0
                    obtain ⟨U67, K67⟩ := pq_cE_0 E35 T35 (by omega) h12 (Or.inr ⟨h55, q64⟩)
                    have T67 := pq_T3_of hS
                    have B67 := pq_cu_b U67.1
                    intro v68 e68 a68 b68
                    refine And.intro (fun h72 => ?_) (fun h72 => ?_)
                    · skip
                      intro v81 e81 a81 b81
                      intro v85 e85 a85 b85
                      rw [pz_wi (by omega) (by omega)] at e85
                      refine And.intro (hI) ?_
                      intro M86 q86
                      obtain ⟨q86, z86⟩ := q86
                      have hS : pq_pr pq_Pp M M86 := hS.tr z86
                      have hI : pz_ic M86 := hS.1 hI0
                      have K86 := pq_la5 q86 (by omega)
                      intro v89 e89 a89 b89
                      try rw [pz_wi (by omega) (by omega)] at e89
                      exact ih6 _ _ _ _ (by omega) hS (by first | omega | exact pq_cH_0 hq | exact pq_cE_a E35 T35 (by omega) (pq_cu_la E35.1 (by omega) (by omega) q86) | exact pq_cT_n U67 T67 (by omega) (pq_cu_la U67.1 (by omega) (by omega) q86)) (by first | omega | exact pq_cH_0 hq | exact pq_cE_a E35 T35 (by omega) (pq_cu_la E35.1 (by omega) (by omega) q86) | exact pq_cT_n U67 T67 (by omega) (pq_cu_la U67.1 (by omega) (by omega) q86)) (by first | omega | exact pq_cH_0 hq | exact pq_cE_a E35 T35 (by omega) (pq_cu_la E35.1 (by omega) (by omega) q86) | exact pq_cT_n U67 T67 (by omega) (pq_cu_la U67.1 (by omega) (by omega) q86))
                    · skip
                      refine And.intro (by omega) ?_
                      refine And.intro rfl ?_
                      exact ⟨pq_cT_e U67 T67 (by omega), hS⟩
              · skip
                refine And.intro (fun h51 => ?_) (fun h51 => ?_)
                · skip
                  intro v81 e81 a81 b81
                  intro v85 e85 a85 b85
                  rw [pz_wi (by omega) (by omega)] at e85
                  refine And.intro (hI) ?_
                  intro M86 q86
                  obtain ⟨q86, z86⟩ := q86
                  have hS : pq_pr pq_Pp M M86 := hS.tr z86
                  have hI : pz_ic M86 := hS.1 hI0
                  have K86 := pq_la5 q86 (by omega)
                  intro v89 e89 a89 b89
                  try rw [pz_wi (by omega) (by omega)] at e89
                  exact ih6 _ _ _ _ (by omega) hS (by first | omega | exact pq_cH_0 hq | exact pq_cE_a E35 T35 (by omega) (pq_cu_la E35.1 (by omega) (by omega) q86) | exact pq_cT_n U67 T67 (by omega) (pq_cu_la U67.1 (by omega) (by omega) q86)) (by first | omega | exact pq_cH_0 hq | exact pq_cE_a E35 T35 (by omega) (pq_cu_la E35.1 (by omega) (by omega) q86) | exact pq_cT_n U67 T67 (by omega) (pq_cu_la U67.1 (by omega) (by omega) q86)) (by first | omega | exact pq_cH_0 hq | exact pq_cE_a E35 T35 (by omega) (pq_cu_la E35.1 (by omega) (by omega) q86) | exact pq_cT_n U67 T67 (by omega) (pq_cu_la U67.1 (by omega) (by omega) q86))
                · skip
                  exact absurd h51 (by decide)
          · skip
            refine And.intro (by omega) ?_
            refine And.intro rfl ?_
            exact ⟨pq_cH_b g6_2 T6 q14 h17, hS⟩
    refine hgo (fun p => Nat.beq p 6) 56 0 _ [] M ?_
    exact L6 _ _ _ _ _ (Nat.lt_succ_self _) hS (by first | omega | exact pq_cH_0 hq | exact pq_cE_a E35 T35 (by omega) (pq_cu_la E35.1 (by omega) (by omega) q86) | exact pq_cT_n U67 T67 (by omega) (pq_cu_la U67.1 (by omega) (by omega) q86)) (by first | omega | exact pq_cH_0 hq | exact pq_cE_a E35 T35 (by omega) (pq_cu_la E35.1 (by omega) (by omega) q86) | exact pq_cT_n U67 T67 (by omega) (pq_cu_la U67.1 (by omega) (by omega) q86)) (by first | omega | exact pq_cH_0 hq | exact pq_cE_a E35 T35 (by omega) (pq_cu_la E35.1 (by omega) (by omega) q86) | exact pq_cT_n U67 T67 (by omega) (pq_cu_la U67.1 (by omega) (by omega) q86))
theorem h_X9_both : ∀ nn : Nat, pz_H yX9_condition cX9_condition 4 (some .boolean) (k_X9_condition nn) (3 + 2 * nn) (65 + 46 * nn) ∧ pz_H yX9_conditions cX9_conditions 4 (some .boolean) (k_X9_conditions nn) (4 + 2 * nn) (88 + 46 * nn) := by
  intro nn
  induction nn with
  | zero => exact ⟨h_X9_condition_0, h_X9_conditions_s 0 h_X9_condition_0⟩
  | succ nn ih =>
    have h := h_X9_condition_s nn ih.1 ih.2
    exact ⟨h, h_X9_conditions_s (nn + 1) h⟩
theorem v_X9_conditions8 {fr lo i : Nat} {own : String} (h1 : 4 + 2 * 8 + 1 ≤ fr) (h2 : 8 + (4 + 11) + (88 + 46 * 8) ≤ lo) (h3 : .methodLink own i yX9_conditions ∈ lw_tbl) : pz_cV fr lo own i (k_X9_conditions 8) :=
  pz_cVk (maxL := 4) 0 9 (h_X9_both 8).2 rfl ⟨by decide +kernel, by decide +kernel, by decide +kernel⟩ ⟨by decide +kernel, by decide +kernel, by decide +kernel, by decide +kernel⟩ (Or.inl ⟨TX9, 10, rfl⟩) (fun a M _ h => by
    have h : (match (generalizing := false) a with | [.inr (.inr (9, th))] => pz_ic M ∧ pq_cq M ∧ 0 ≤ M 5 9 ∧ M 5 9 ≤ 8 ∧ 8 - M 5 9 ≤ (8 : Int) | _ => False) := h
    split at h
    · exact ⟨_, _, rfl⟩
    · exact h.elim) h1 h2 h3
