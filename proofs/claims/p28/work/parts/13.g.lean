def k_X9_condition (nn : Nat) : pz_C := (1, 1, fun a M => (match a with | [.inr (.inr (9, th))] => pz_ic M ∧ 0 ≤ M 5 9 ∧ M 5 9 ≤ 8 ∧ 8 - M 5 9 ≤ (nn : Int) | _ => False), fun a M r M' => (match a, r with | [.inr (.inr (9, th))], some (.inl v) => (v = 0 ∨ v = 1) ∧ pz_st M M' | _, _ => False))
def k_X9_conditions (nn : Nat) : pz_C := (1, 1, fun a M => (match a with | [.inr (.inr (9, th))] => pz_ic M ∧ 0 ≤ M 5 9 ∧ M 5 9 ≤ 8 ∧ 8 - M 5 9 ≤ (nn : Int) | _ => False), fun a M r M' => (match a, r with | [.inr (.inr (9, th))], some (.inl v) => (v = 0 ∨ v = 1) ∧ pz_st M M' | _, _ => False))
set_option maxRecDepth 100000 in
set_option maxHeartbeats 4000000 in
theorem h_X9_condition_0  : pz_H yX9_condition cX9_condition 4 (some .boolean) (k_X9_condition 0) (3 + 2 * 0) (65 + 46 * 0) := by
  refine pz_mk (own := RX9) (tb := t_X9_condition) (fl := pz_flf fl_RX9) (ci := fun _ => none) (ct := pz_ctf [(true, 100, k_X9_wrong), (true, 50, k_X9_lookAt), (true, 119, k_X9_accept), (true, 125, k_X3_put), (true, 109, k_X9_sum)]) (rz := true) (by decide +kernel) rfl t_X9_condition_ok (pz_flk fl_RX9_ok) (fun i v h => by cases h) ?_ ?_ (Or.inr ⟨rfl, rfl⟩) ?_ ?_
  · exact fun i k' h => pz_ctk (l := [(true, 100, k_X9_wrong), (true, 50, k_X9_lookAt), (true, 119, k_X9_accept), (true, 125, k_X3_put), (true, 109, k_X9_sum)]) (P := fun b i k => b = true → pz_cV (3 + 2 * 0) (65 + 46 * 0) RX9 i k) (List.forall_mem_cons.mpr ⟨(fun _ => v_X9_wrong (by omega) (by omega) (by decide +kernel)), List.forall_mem_cons.mpr ⟨(fun _ => v_X9_lookAt (by omega) (by omega) (by decide +kernel)), List.forall_mem_cons.mpr ⟨(fun _ => v_X9_accept (by omega) (by omega) (by decide +kernel)), List.forall_mem_cons.mpr ⟨(fun _ => v_X3_put (by omega) (by omega) (by decide +kernel)), List.forall_mem_cons.mpr ⟨(fun _ => v_X9_sum (by omega) (by omega) (by decide +kernel)), fun _ h => absurd h List.not_mem_nil⟩⟩⟩⟩⟩) true i k' h rfl
  · exact fun i k' h => pz_ctk (l := [(true, 100, k_X9_wrong), (true, 50, k_X9_lookAt), (true, 119, k_X9_accept), (true, 125, k_X3_put), (true, 109, k_X9_sum)]) (P := fun b i k => b = false → (pz_cS (3 + 2 * 0) (65 + 46 * 0) RX9 i k ∨ (k = pz_kac ∧ 1 ≤ (3 + 2 * 0) ∧ 60 ≤ (65 + 46 * 0) ∧ Cond.methodLink RX9 i arraycopyName ∈ pz_tbl))) (List.forall_mem_cons.mpr ⟨(fun z => by cases z), List.forall_mem_cons.mpr ⟨(fun z => by cases z), List.forall_mem_cons.mpr ⟨(fun z => by cases z), List.forall_mem_cons.mpr ⟨(fun z => by cases z), List.forall_mem_cons.mpr ⟨(fun z => by cases z), fun _ h => absurd h List.not_mem_nil⟩⟩⟩⟩⟩) false i k' h rfl
  · intro a M hlen hpre
    obtain ⟨th, rfl, hpre⟩ : ∃ th, a = [.inr (.inr (9, th))] ∧ (pz_ic M ∧ 0 ≤ M 5 9 ∧ M 5 9 ≤ 8 ∧ 8 - M 5 9 ≤ ((0 : Nat) : Int)) := by
      have hpre : (match (generalizing := false) a with | [.inr (.inr (9, th))] => pz_ic M ∧ 0 ≤ M 5 9 ∧ M 5 9 ≤ 8 ∧ 8 - M 5 9 ≤ ((0 : Nat) : Int) | _ => False) := hpre
      split at hpre
      · exact ⟨_, rfl, hpre⟩
      · exact hpre.elim
    exact Nat.le_of_ble_eq_true rfl
  · intro a M hlen hcan hM hpre Ok hgo
    obtain ⟨th, rfl, hpre⟩ : ∃ th, a = [.inr (.inr (9, th))] ∧ (pz_ic M ∧ 0 ≤ M 5 9 ∧ M 5 9 ≤ 8 ∧ 8 - M 5 9 ≤ ((0 : Nat) : Int)) := by
      have hpre : (match (generalizing := false) a with | [.inr (.inr (9, th))] => pz_ic M ∧ 0 ≤ M 5 9 ∧ M 5 9 ≤ 8 ∧ 8 - M 5 9 ≤ ((0 : Nat) : Int) | _ => False) := hpre
      split at hpre
      · exact ⟨_, rfl, hpre⟩
      · exact hpre.elim
    obtain ⟨k_th, hcan⟩ := pz_tlm hcan
    have k_th : pz_kd th = 9 ∧ th < 231 := k_th
    have R_th := pz_kd9 k_th.1
    subst R_th
    have hI : pz_ic M := hpre.1
    have hI0 := hI
    have hS : pz_sy M M := pz_sy.rf
    have L86 : ∀ (x1 : Int) (d2 : Option pz_V) (d3 : Option pz_V) (s0 : Int) (N86 : pz_M), (pz_sy M N86) → (s0 = 0 ∨ s0 = 1) → (N86 4 1 = M 4 1) → (N86 5 9 = M 5 9 + 1) → Ok 86 [some (.inr (.inr (9, 5))), some (.inl x1), d2, d3] [.inl s0] N86 := by
      intro x1 d2 d3 s0 N86 hS g86_1 g86_2 g86_3
      have hI : pz_ic N86 := hS.1 hI0
      refine hgo (fun p => Nat.beq p 86) 103 86 _ _ _ ?_
      intro v89 e89 a89 b89
      intro v93 e93 a93 b93
      try rw [pz_wi (by omega) (by omega)] at e93
      intro M94 e94
      have hS : pz_sy M M94 := by
        rw [e94]
        exact pz_sy_u hS (by unfold pz_md pz_kx pz_mid; omega) (by unfold pz_iok; omega)
      have hI : pz_ic M94 := hS.1 hI0
      have T94_0 := pz_uve e94 4 1
      have T94_1 := pz_uve e94 5 9
      refine And.intro (fun h98 => ?_) (fun h98 => ?_)
      · skip
        refine And.intro (by omega) ?_
        refine And.intro rfl ?_
        exact ⟨by omega, hS, by omega, by omega⟩
      · skip
        refine And.intro (fun h104 => ?_) (fun h104 => ?_)
        · skip
          refine And.intro (by omega) ?_
          refine And.intro rfl ?_
          exact ⟨by omega, hS, by omega, by omega⟩
        · skip
          intro r108 e108 k108
          have R108 := pz_kd3 k108
          refine And.intro (hI) ?_
          intro M113 q113
          obtain ⟨q113, z113⟩ := q113
          have hS : pz_sy M M113 := hS.tr z113.1
          have T113a := z113.2.1
          have T113b := z113.2.2
          have hI : pz_ic M113 := hS.1 hI0
          refine And.intro (by omega) ?_
          refine And.intro rfl ?_
          exact ⟨by omega, hS, by omega, by omega⟩
    refine hgo (fun p => Nat.beq p 86) 103 0 _ [] M ?_
    intro v1 e1 a1 b1
    refine And.intro (fun h8 => ?_) (fun h8 => ?_)
    · skip
      intro v18 e18 a18 b18
      refine And.intro (fun h23 => ?_) (fun h23 => ?_)
      · skip
        exfalso; omega
      · skip
        refine And.intro (hI) ?_
        intro v28 M28 a28 b28 q28
        obtain ⟨q28, z28⟩ := q28
        have hS : pz_sy M M28 := hS.tr z28.1
        have T28a := z28.2.1
        have T28b := z28.2.2
        have hI : pz_ic M28 := hS.1 hI0
        refine And.intro (by omega) ?_
        refine And.intro rfl ?_
        exact ⟨by omega, hS, by omega, by omega⟩
    · skip
      refine And.intro (fun h14 => ?_) (fun h14 => ?_)
      · skip
        refine And.intro (hI) ?_
        intro v119 M119 a119 b119 q119
        obtain ⟨q119, z119⟩ := q119
        have hS : pz_sy M M119 := hS.tr z119.1
        have T119a := z119.2.1
        have T119b := z119.2.2
        have hI : pz_ic M119 := hS.1 hI0
        refine And.intro (fun h122 => ?_) (fun h122 => ?_)
        · skip
          intro v128 e128 a128 b128
          refine And.intro (fun h135 => ?_) (fun h135 => ?_)
          · skip
            intro v158 e158 a158 b158
            intro v162 e162 a162 b162
            try rw [pz_wi (by omega) (by omega)] at e162
            refine And.intro (hI) ?_
            intro M163 q163
            obtain ⟨q163, z163⟩ := q163
            have hS : pz_sy M M163 := hS.tr z163.1
            have T163a := z163.2.1
            have T163b := z163.2.2
            have hI : pz_ic M163 := hS.1 hI0
            refine And.intro (hI) ?_
            intro v167 M167 a167 b167 q167
            obtain ⟨q167, z167⟩ := q167
            have hS : pz_sy M M167 := hS.tr z167.1
            have T167a := z167.2.1
            have T167b := z167.2.2
            have hI : pz_ic M167 := hS.1 hI0
            intro r172 e172 k172
            have R172 := pz_kd3 k172
            intro v177 e177 a177 b177
            refine And.intro (hI) ?_
            intro M178 q178
            obtain ⟨q178, z178⟩ := q178
            have hS : pz_sy M M178 := hS.tr z178.1
            have T178a := z178.2.1
            have T178b := z178.2.2
            have hI : pz_ic M178 := hS.1 hI0
            refine And.intro (by omega) ?_
            refine And.intro rfl ?_
            exact ⟨by omega, hS, by omega, by omega⟩
          · skip
            refine And.intro (fun h141 => ?_) (fun h141 => ?_)
            · skip
              intro v158 e158 a158 b158
              intro v162 e162 a162 b162
              try rw [pz_wi (by omega) (by omega)] at e162
              refine And.intro (hI) ?_
              intro M163 q163
              obtain ⟨q163, z163⟩ := q163
              have hS : pz_sy M M163 := hS.tr z163.1
              have T163a := z163.2.1
              have T163b := z163.2.2
              have hI : pz_ic M163 := hS.1 hI0
              refine And.intro (hI) ?_
              intro v167 M167 a167 b167 q167
              obtain ⟨q167, z167⟩ := q167
              have hS : pz_sy M M167 := hS.tr z167.1
              have T167a := z167.2.1
              have T167b := z167.2.2
              have hI : pz_ic M167 := hS.1 hI0
              intro r172 e172 k172
              have R172 := pz_kd3 k172
              intro v177 e177 a177 b177
              refine And.intro (hI) ?_
              intro M178 q178
              obtain ⟨q178, z178⟩ := q178
              have hS : pz_sy M M178 := hS.tr z178.1
              have T178a := z178.2.1
              have T178b := z178.2.2
              have hI : pz_ic M178 := hS.1 hI0
              refine And.intro (by omega) ?_
              refine And.intro rfl ?_
              exact ⟨by omega, hS, by omega, by omega⟩
            · skip
              refine And.intro (fun h147 => ?_) (fun h147 => ?_)
              · skip
                intro v158 e158 a158 b158
                intro v162 e162 a162 b162
                try rw [pz_wi (by omega) (by omega)] at e162
                refine And.intro (hI) ?_
                intro M163 q163
                obtain ⟨q163, z163⟩ := q163
                have hS : pz_sy M M163 := hS.tr z163.1
                have T163a := z163.2.1
                have T163b := z163.2.2
                have hI : pz_ic M163 := hS.1 hI0
                refine And.intro (hI) ?_
                intro v167 M167 a167 b167 q167
                obtain ⟨q167, z167⟩ := q167
                have hS : pz_sy M M167 := hS.tr z167.1
                have T167a := z167.2.1
                have T167b := z167.2.2
                have hI : pz_ic M167 := hS.1 hI0
                intro r172 e172 k172
                have R172 := pz_kd3 k172
                intro v177 e177 a177 b177
                refine And.intro (hI) ?_
                intro M178 q178
                obtain ⟨q178, z178⟩ := q178
                have hS : pz_sy M M178 := hS.tr z178.1
                have T178a := z178.2.1
                have T178b := z178.2.2
                have hI : pz_ic M178 := hS.1 hI0
                refine And.intro (by omega) ?_
                refine And.intro rfl ?_
                exact ⟨by omega, hS, by omega, by omega⟩
              · skip
                refine And.intro (hI) ?_
                intro v152 M152 a152 b152 q152
                obtain ⟨q152, z152⟩ := q152
                have hS : pz_sy M M152 := hS.tr z152.1
                have T152a := z152.2.1
                have T152b := z152.2.2
                have hI : pz_ic M152 := hS.1 hI0
                refine And.intro (by omega) ?_
                refine And.intro rfl ?_
                exact ⟨by omega, hS, by omega, by omega⟩
        · skip
          refine And.intro (by omega) ?_
          refine And.intro rfl ?_
          exact ⟨by omega, hS, by omega, by omega⟩
      · skip
        intro v18 e18 a18 b18
        refine And.intro (fun h23 => ?_) (fun h23 => ?_)
        · skip
          exfalso; omega
        · skip
          refine And.intro (hI) ?_
          intro v28 M28 a28 b28 q28
          obtain ⟨q28, z28⟩ := q28
          have hS : pz_sy M M28 := hS.tr z28.1
          have T28a := z28.2.1
          have T28b := z28.2.2
          have hI : pz_ic M28 := hS.1 hI0
          refine And.intro (by omega) ?_
          refine And.intro rfl ?_
          exact ⟨by omega, hS, by omega, by omega⟩
set_option maxRecDepth 100000 in
set_option maxHeartbeats 4000000 in
theorem h_X9_condition_s (nn : Nat) (hC : pz_H yX9_condition cX9_condition 4 (some .boolean) (k_X9_condition nn) (3 + 2 * nn) (65 + 46 * nn)) (hD : pz_H yX9_conditions cX9_conditions 4 (some .boolean) (k_X9_conditions nn) (4 + 2 * nn) (88 + 46 * nn)) : pz_H yX9_condition cX9_condition 4 (some .boolean) (k_X9_condition (nn + 1)) (3 + 2 * (nn + 1)) (65 + 46 * (nn + 1)) := by
  refine pz_mk (own := RX9) (tb := t_X9_condition) (fl := pz_flf fl_RX9) (ci := fun _ => none) (ct := pz_ctf [(true, 100, k_X9_wrong), (true, 50, k_X9_lookAt), (true, 122, k_X9_condition nn), (true, 112, k_X9_conditions nn), (true, 119, k_X9_accept), (true, 125, k_X3_put), (true, 109, k_X9_sum)]) (rz := true) (by decide +kernel) rfl t_X9_condition_ok (pz_flk fl_RX9_ok) (fun i v h => by cases h) ?_ ?_ (Or.inr ⟨rfl, rfl⟩) ?_ ?_
  · exact fun i k' h => pz_ctk (l := [(true, 100, k_X9_wrong), (true, 50, k_X9_lookAt), (true, 122, k_X9_condition nn), (true, 112, k_X9_conditions nn), (true, 119, k_X9_accept), (true, 125, k_X3_put), (true, 109, k_X9_sum)]) (P := fun b i k => b = true → pz_cV (3 + 2 * (nn + 1)) (65 + 46 * (nn + 1)) RX9 i k) (List.forall_mem_cons.mpr ⟨(fun _ => v_X9_wrong (by omega) (by omega) (by decide +kernel)), List.forall_mem_cons.mpr ⟨(fun _ => v_X9_lookAt (by omega) (by omega) (by decide +kernel)), List.forall_mem_cons.mpr ⟨(fun _ => pz_cVk (maxL := 4) 0 9 hC rfl ⟨by decide +kernel, by decide +kernel, by decide +kernel⟩ ⟨by decide +kernel, by decide +kernel, by decide +kernel, by decide +kernel⟩ (Or.inl ⟨TX9, 10, rfl⟩) (fun a M _ h => by
      have h : (match (generalizing := false) a with | [.inr (.inr (9, th))] => pz_ic M ∧ 0 ≤ M 5 9 ∧ M 5 9 ≤ 8 ∧ 8 - M 5 9 ≤ (nn : Int) | _ => False) := h
      split at h
      · exact ⟨_, _, rfl⟩
      · exact h.elim) (by omega) (by omega) (show Cond.methodLink RX9 122 yX9_condition ∈ lw_tbl by decide +kernel)), List.forall_mem_cons.mpr ⟨(fun _ => pz_cVk (maxL := 4) 0 9 hD rfl ⟨by decide +kernel, by decide +kernel, by decide +kernel⟩ ⟨by decide +kernel, by decide +kernel, by decide +kernel, by decide +kernel⟩ (Or.inl ⟨TX9, 10, rfl⟩) (fun a M _ h => by
      have h : (match (generalizing := false) a with | [.inr (.inr (9, th))] => pz_ic M ∧ 0 ≤ M 5 9 ∧ M 5 9 ≤ 8 ∧ 8 - M 5 9 ≤ (nn : Int) | _ => False) := h
      split at h
      · exact ⟨_, _, rfl⟩
      · exact h.elim) (by omega) (by omega) (show Cond.methodLink RX9 112 yX9_conditions ∈ lw_tbl by decide +kernel)), List.forall_mem_cons.mpr ⟨(fun _ => v_X9_accept (by omega) (by omega) (by decide +kernel)), List.forall_mem_cons.mpr ⟨(fun _ => v_X3_put (by omega) (by omega) (by decide +kernel)), List.forall_mem_cons.mpr ⟨(fun _ => v_X9_sum (by omega) (by omega) (by decide +kernel)), fun _ h => absurd h List.not_mem_nil⟩⟩⟩⟩⟩⟩⟩) true i k' h rfl
  · exact fun i k' h => pz_ctk (l := [(true, 100, k_X9_wrong), (true, 50, k_X9_lookAt), (true, 122, k_X9_condition nn), (true, 112, k_X9_conditions nn), (true, 119, k_X9_accept), (true, 125, k_X3_put), (true, 109, k_X9_sum)]) (P := fun b i k => b = false → (pz_cS (3 + 2 * (nn + 1)) (65 + 46 * (nn + 1)) RX9 i k ∨ (k = pz_kac ∧ 1 ≤ (3 + 2 * (nn + 1)) ∧ 60 ≤ (65 + 46 * (nn + 1)) ∧ Cond.methodLink RX9 i arraycopyName ∈ pz_tbl))) (List.forall_mem_cons.mpr ⟨(fun z => by cases z), List.forall_mem_cons.mpr ⟨(fun z => by cases z), List.forall_mem_cons.mpr ⟨(fun z => by cases z), List.forall_mem_cons.mpr ⟨(fun z => by cases z), List.forall_mem_cons.mpr ⟨(fun z => by cases z), List.forall_mem_cons.mpr ⟨(fun z => by cases z), List.forall_mem_cons.mpr ⟨(fun z => by cases z), fun _ h => absurd h List.not_mem_nil⟩⟩⟩⟩⟩⟩⟩) false i k' h rfl
  · intro a M hlen hpre
    obtain ⟨th, rfl, hpre⟩ : ∃ th, a = [.inr (.inr (9, th))] ∧ (pz_ic M ∧ 0 ≤ M 5 9 ∧ M 5 9 ≤ 8 ∧ 8 - M 5 9 ≤ ((nn + 1 : Nat) : Int)) := by
      have hpre : (match (generalizing := false) a with | [.inr (.inr (9, th))] => pz_ic M ∧ 0 ≤ M 5 9 ∧ M 5 9 ≤ 8 ∧ 8 - M 5 9 ≤ ((nn + 1 : Nat) : Int) | _ => False) := hpre
      split at hpre
      · exact ⟨_, rfl, hpre⟩
      · exact hpre.elim
    exact Nat.le_of_ble_eq_true rfl
  · intro a M hlen hcan hM hpre Ok hgo
    obtain ⟨th, rfl, hpre⟩ : ∃ th, a = [.inr (.inr (9, th))] ∧ (pz_ic M ∧ 0 ≤ M 5 9 ∧ M 5 9 ≤ 8 ∧ 8 - M 5 9 ≤ ((nn + 1 : Nat) : Int)) := by
      have hpre : (match (generalizing := false) a with | [.inr (.inr (9, th))] => pz_ic M ∧ 0 ≤ M 5 9 ∧ M 5 9 ≤ 8 ∧ 8 - M 5 9 ≤ ((nn + 1 : Nat) : Int) | _ => False) := hpre
      split at hpre
      · exact ⟨_, rfl, hpre⟩
      · exact hpre.elim
    obtain ⟨k_th, hcan⟩ := pz_tlm hcan
    have k_th : pz_kd th = 9 ∧ th < 231 := k_th
    have R_th := pz_kd9 k_th.1
    subst R_th
    have hI : pz_ic M := hpre.1
    have hI0 := hI
    have hS : pz_sy M M := pz_sy.rf
    have L86 : ∀ (x1 : Int) (d2 : Option pz_V) (d3 : Option pz_V) (s0 : Int) (N86 : pz_M), (pz_sy M N86) → (s0 = 0 ∨ s0 = 1) → (N86 4 1 = M 4 1) → (N86 5 9 = M 5 9 + 1) → Ok 86 [some (.inr (.inr (9, 5))), some (.inl x1), d2, d3] [.inl s0] N86 := by
      intro x1 d2 d3 s0 N86 hS g86_1 g86_2 g86_3
      have hI : pz_ic N86 := hS.1 hI0
      refine hgo (fun p => Nat.beq p 86) 103 86 _ _ _ ?_
      intro v89 e89 a89 b89
      intro v93 e93 a93 b93
      try rw [pz_wi (by omega) (by omega)] at e93
      intro M94 e94
      have hS : pz_sy M M94 := by
        rw [e94]
        exact pz_sy_u hS (by unfold pz_md pz_kx pz_mid; omega) (by unfold pz_iok; omega)
      have hI : pz_ic M94 := hS.1 hI0
      have T94_0 := pz_uve e94 4 1
      have T94_1 := pz_uve e94 5 9
      refine And.intro (fun h98 => ?_) (fun h98 => ?_)
      · skip
        refine And.intro (by omega) ?_
        refine And.intro rfl ?_
        exact ⟨by omega, hS, by omega, by omega⟩
      · skip
        refine And.intro (fun h104 => ?_) (fun h104 => ?_)
        · skip
          refine And.intro (by omega) ?_
          refine And.intro rfl ?_
          exact ⟨by omega, hS, by omega, by omega⟩
        · skip
          intro r108 e108 k108
          have R108 := pz_kd3 k108
          refine And.intro (hI) ?_
          intro M113 q113
          obtain ⟨q113, z113⟩ := q113
          have hS : pz_sy M M113 := hS.tr z113.1
          have T113a := z113.2.1
          have T113b := z113.2.2
          have hI : pz_ic M113 := hS.1 hI0
          refine And.intro (by omega) ?_
          refine And.intro rfl ?_
          exact ⟨by omega, hS, by omega, by omega⟩
    refine hgo (fun p => Nat.beq p 86) 103 0 _ [] M ?_
    intro v1 e1 a1 b1
    refine And.intro (fun h8 => ?_) (fun h8 => ?_)
    · skip
      intro v18 e18 a18 b18
      refine And.intro (fun h23 => ?_) (fun h23 => ?_)
      · skip
        intro v34 e34 a34 b34
        intro v38 e38 a38 b38
        try rw [pz_wi (by omega) (by omega)] at e38
        intro M39 e39
        have hS : pz_sy M M39 := by
          rw [e39]
          exact pz_sy_u hS (by unfold pz_md pz_kx pz_mid; omega) (by unfold pz_iok; omega)
        have hI : pz_ic M39 := hS.1 hI0
        have T39_0 := pz_uve e39 4 1
        have T39_1 := pz_uve e39 5 9
        intro v44 e44 a44 b44
        intro v48 e48 a48 b48
        try rw [pz_wi (by omega) (by omega)] at e48
        refine And.intro (hI) ?_
        intro M49 q49
        obtain ⟨q49, z49⟩ := q49
        have hS : pz_sy M M49 := hS.tr z49.1
        have T49a := z49.2.1
        have T49b := z49.2.2
        have hI : pz_ic M49 := hS.1 hI0
        refine And.intro (fun h55 => ?_) (fun h55 => ?_)
        · skip
          refine And.intro (And.intro hI (by omega)) ?_
          intro v66 M66 a66 b66 q66
          obtain ⟨q66, z66⟩ := q66
          have hS : pz_sy M M66 := hS.tr z66.1
          have T66a := z66.2.1
          have T66b := z66.2.2
          have hI : pz_ic M66 := hS.1 hI0
          refine And.intro (fun h69 => ?_) (fun h69 => ?_)
          · skip
            exact L86 _ _ _ _ _ hS (by omega) (by omega) (by omega)
          · skip
            refine And.intro (hI) ?_
            intro v75 M75 a75 b75 q75
            obtain ⟨q75, z75⟩ := q75
            have hS : pz_sy M M75 := hS.tr z75.1
            have T75a := z75.2.1
            have T75b := z75.2.2
            have hI : pz_ic M75 := hS.1 hI0
            refine And.intro (fun h78 => ?_) (fun h78 => ?_)
            · skip
              exact L86 _ _ _ _ _ hS (by omega) (by omega) (by omega)
            · skip
              exact L86 _ _ _ _ _ hS (by omega) (by omega) (by omega)
        · skip
          refine And.intro (And.intro hI (by omega)) ?_
          intro v59 M59 a59 b59 q59
          obtain ⟨q59, z59⟩ := q59
          have hS : pz_sy M M59 := hS.tr z59.1
          have T59a := z59.2.1
          have T59b := z59.2.2
          have hI : pz_ic M59 := hS.1 hI0
          exact L86 _ _ _ _ _ hS (by omega) (by omega) (by omega)
      · skip
        refine And.intro (hI) ?_
        intro v28 M28 a28 b28 q28
        obtain ⟨q28, z28⟩ := q28
        have hS : pz_sy M M28 := hS.tr z28.1
        have T28a := z28.2.1
        have T28b := z28.2.2
        have hI : pz_ic M28 := hS.1 hI0
        refine And.intro (by omega) ?_
        refine And.intro rfl ?_
        exact ⟨by omega, hS, by omega, by omega⟩
    · skip
      refine And.intro (fun h14 => ?_) (fun h14 => ?_)
      · skip
        refine And.intro (hI) ?_
        intro v119 M119 a119 b119 q119
        obtain ⟨q119, z119⟩ := q119
        have hS : pz_sy M M119 := hS.tr z119.1
        have T119a := z119.2.1
        have T119b := z119.2.2
        have hI : pz_ic M119 := hS.1 hI0
        refine And.intro (fun h122 => ?_) (fun h122 => ?_)
        · skip
          intro v128 e128 a128 b128
          refine And.intro (fun h135 => ?_) (fun h135 => ?_)
          · skip
            intro v158 e158 a158 b158
            intro v162 e162 a162 b162
            try rw [pz_wi (by omega) (by omega)] at e162
            refine And.intro (hI) ?_
            intro M163 q163
            obtain ⟨q163, z163⟩ := q163
            have hS : pz_sy M M163 := hS.tr z163.1
            have T163a := z163.2.1
            have T163b := z163.2.2
            have hI : pz_ic M163 := hS.1 hI0
            refine And.intro (hI) ?_
            intro v167 M167 a167 b167 q167
            obtain ⟨q167, z167⟩ := q167
            have hS : pz_sy M M167 := hS.tr z167.1
            have T167a := z167.2.1
            have T167b := z167.2.2
            have hI : pz_ic M167 := hS.1 hI0
            intro r172 e172 k172
            have R172 := pz_kd3 k172
            intro v177 e177 a177 b177
            refine And.intro (hI) ?_
            intro M178 q178
            obtain ⟨q178, z178⟩ := q178
            have hS : pz_sy M M178 := hS.tr z178.1
            have T178a := z178.2.1
            have T178b := z178.2.2
            have hI : pz_ic M178 := hS.1 hI0
            refine And.intro (by omega) ?_
            refine And.intro rfl ?_
            exact ⟨by omega, hS, by omega, by omega⟩
          · skip
            refine And.intro (fun h141 => ?_) (fun h141 => ?_)
            · skip
              intro v158 e158 a158 b158
              intro v162 e162 a162 b162
              try rw [pz_wi (by omega) (by omega)] at e162
              refine And.intro (hI) ?_
              intro M163 q163
              obtain ⟨q163, z163⟩ := q163
              have hS : pz_sy M M163 := hS.tr z163.1
              have T163a := z163.2.1
              have T163b := z163.2.2
              have hI : pz_ic M163 := hS.1 hI0
              refine And.intro (hI) ?_
              intro v167 M167 a167 b167 q167
              obtain ⟨q167, z167⟩ := q167
              have hS : pz_sy M M167 := hS.tr z167.1
              have T167a := z167.2.1
              have T167b := z167.2.2
              have hI : pz_ic M167 := hS.1 hI0
              intro r172 e172 k172
              have R172 := pz_kd3 k172
              intro v177 e177 a177 b177
              refine And.intro (hI) ?_
              intro M178 q178
              obtain ⟨q178, z178⟩ := q178
              have hS : pz_sy M M178 := hS.tr z178.1
              have T178a := z178.2.1
              have T178b := z178.2.2
              have hI : pz_ic M178 := hS.1 hI0
              refine And.intro (by omega) ?_
              refine And.intro rfl ?_
              exact ⟨by omega, hS, by omega, by omega⟩
            · skip
              refine And.intro (fun h147 => ?_) (fun h147 => ?_)
              · skip
                intro v158 e158 a158 b158
                intro v162 e162 a162 b162
                try rw [pz_wi (by omega) (by omega)] at e162
                refine And.intro (hI) ?_
                intro M163 q163
                obtain ⟨q163, z163⟩ := q163
                have hS : pz_sy M M163 := hS.tr z163.1
                have T163a := z163.2.1
                have T163b := z163.2.2
                have hI : pz_ic M163 := hS.1 hI0
                refine And.intro (hI) ?_
                intro v167 M167 a167 b167 q167
                obtain ⟨q167, z167⟩ := q167
                have hS : pz_sy M M167 := hS.tr z167.1
                have T167a := z167.2.1
                have T167b := z167.2.2
                have hI : pz_ic M167 := hS.1 hI0
                intro r172 e172 k172
                have R172 := pz_kd3 k172
                intro v177 e177 a177 b177
                refine And.intro (hI) ?_
                intro M178 q178
                obtain ⟨q178, z178⟩ := q178
                have hS : pz_sy M M178 := hS.tr z178.1
                have T178a := z178.2.1
                have T178b := z178.2.2
                have hI : pz_ic M178 := hS.1 hI0
                refine And.intro (by omega) ?_
                refine And.intro rfl ?_
                exact ⟨by omega, hS, by omega, by omega⟩
              · skip
                refine And.intro (hI) ?_
                intro v152 M152 a152 b152 q152
                obtain ⟨q152, z152⟩ := q152
                have hS : pz_sy M M152 := hS.tr z152.1
                have T152a := z152.2.1
                have T152b := z152.2.2
                have hI : pz_ic M152 := hS.1 hI0
                refine And.intro (by omega) ?_
                refine And.intro rfl ?_
                exact ⟨by omega, hS, by omega, by omega⟩
        · skip
          refine And.intro (by omega) ?_
          refine And.intro rfl ?_
          exact ⟨by omega, hS, by omega, by omega⟩
      · skip
        intro v18 e18 a18 b18
        refine And.intro (fun h23 => ?_) (fun h23 => ?_)
        · skip
          intro v34 e34 a34 b34
          intro v38 e38 a38 b38
          try rw [pz_wi (by omega) (by omega)] at e38
          intro M39 e39
          have hS : pz_sy M M39 := by
            rw [e39]
            exact pz_sy_u hS (by unfold pz_md pz_kx pz_mid; omega) (by unfold pz_iok; omega)
          have hI : pz_ic M39 := hS.1 hI0
          have T39_0 := pz_uve e39 4 1
          have T39_1 := pz_uve e39 5 9
          intro v44 e44 a44 b44
          intro v48 e48 a48 b48
          try rw [pz_wi (by omega) (by omega)] at e48
          refine And.intro (hI) ?_
          intro M49 q49
          obtain ⟨q49, z49⟩ := q49
          have hS : pz_sy M M49 := hS.tr z49.1
          have T49a := z49.2.1
          have T49b := z49.2.2
          have hI : pz_ic M49 := hS.1 hI0
          refine And.intro (fun h55 => ?_) (fun h55 => ?_)
          · skip
            refine And.intro (And.intro hI (by omega)) ?_
            intro v66 M66 a66 b66 q66
            obtain ⟨q66, z66⟩ := q66
            have hS : pz_sy M M66 := hS.tr z66.1
            have T66a := z66.2.1
            have T66b := z66.2.2
            have hI : pz_ic M66 := hS.1 hI0
            refine And.intro (fun h69 => ?_) (fun h69 => ?_)
            · skip
              exact L86 _ _ _ _ _ hS (by omega) (by omega) (by omega)
            · skip
              refine And.intro (hI) ?_
              intro v75 M75 a75 b75 q75
              obtain ⟨q75, z75⟩ := q75
              have hS : pz_sy M M75 := hS.tr z75.1
              have T75a := z75.2.1
              have T75b := z75.2.2
              have hI : pz_ic M75 := hS.1 hI0
              refine And.intro (fun h78 => ?_) (fun h78 => ?_)
              · skip
                exact L86 _ _ _ _ _ hS (by omega) (by omega) (by omega)
              · skip
                exact L86 _ _ _ _ _ hS (by omega) (by omega) (by omega)
          · skip
            refine And.intro (And.intro hI (by omega)) ?_
            intro v59 M59 a59 b59 q59
            obtain ⟨q59, z59⟩ := q59
            have hS : pz_sy M M59 := hS.tr z59.1
            have T59a := z59.2.1
            have T59b := z59.2.2
            have hI : pz_ic M59 := hS.1 hI0
            exact L86 _ _ _ _ _ hS (by omega) (by omega) (by omega)
        · skip
          refine And.intro (hI) ?_
          intro v28 M28 a28 b28 q28
          obtain ⟨q28, z28⟩ := q28
          have hS : pz_sy M M28 := hS.tr z28.1
          have T28a := z28.2.1
          have T28b := z28.2.2
          have hI : pz_ic M28 := hS.1 hI0
          refine And.intro (by omega) ?_
          refine And.intro rfl ?_
          exact ⟨by omega, hS, by omega, by omega⟩
set_option maxRecDepth 100000 in
set_option maxHeartbeats 4000000 in
theorem h_X9_conditions_s (nn : Nat) (hC : pz_H yX9_condition cX9_condition 4 (some .boolean) (k_X9_condition nn) (3 + 2 * nn) (65 + 46 * nn)) : pz_H yX9_conditions cX9_conditions 4 (some .boolean) (k_X9_conditions nn) (4 + 2 * nn) (88 + 46 * nn) := by
  refine pz_mk (own := RX9) (tb := t_X9_conditions) (fl := pz_flf fl_RX9) (ci := fun _ => none) (ct := pz_ctf [(true, 122, k_X9_condition nn), (true, 125, k_X3_put), (true, 50, k_X9_lookAt)]) (rz := true) (by decide +kernel) rfl t_X9_conditions_ok (pz_flk fl_RX9_ok) (fun i v h => by cases h) ?_ ?_ (Or.inr ⟨rfl, rfl⟩) ?_ ?_
  · exact fun i k' h => pz_ctk (l := [(true, 122, k_X9_condition nn), (true, 125, k_X3_put), (true, 50, k_X9_lookAt)]) (P := fun b i k => b = true → pz_cV (4 + 2 * nn) (88 + 46 * nn) RX9 i k) (List.forall_mem_cons.mpr ⟨(fun _ => pz_cVk (maxL := 4) 0 9 hC rfl ⟨by decide +kernel, by decide +kernel, by decide +kernel⟩ ⟨by decide +kernel, by decide +kernel, by decide +kernel, by decide +kernel⟩ (Or.inl ⟨TX9, 10, rfl⟩) (fun a M _ h => by
      have h : (match (generalizing := false) a with | [.inr (.inr (9, th))] => pz_ic M ∧ 0 ≤ M 5 9 ∧ M 5 9 ≤ 8 ∧ 8 - M 5 9 ≤ (nn : Int) | _ => False) := h
      split at h
      · exact ⟨_, _, rfl⟩
      · exact h.elim) (by omega) (by omega) (show Cond.methodLink RX9 122 yX9_condition ∈ lw_tbl by decide +kernel)), List.forall_mem_cons.mpr ⟨(fun _ => v_X3_put (by omega) (by omega) (by decide +kernel)), List.forall_mem_cons.mpr ⟨(fun _ => v_X9_lookAt (by omega) (by omega) (by decide +kernel)), fun _ h => absurd h List.not_mem_nil⟩⟩⟩) true i k' h rfl
  · exact fun i k' h => pz_ctk (l := [(true, 122, k_X9_condition nn), (true, 125, k_X3_put), (true, 50, k_X9_lookAt)]) (P := fun b i k => b = false → (pz_cS (4 + 2 * nn) (88 + 46 * nn) RX9 i k ∨ (k = pz_kac ∧ 1 ≤ (4 + 2 * nn) ∧ 60 ≤ (88 + 46 * nn) ∧ Cond.methodLink RX9 i arraycopyName ∈ pz_tbl))) (List.forall_mem_cons.mpr ⟨(fun z => by cases z), List.forall_mem_cons.mpr ⟨(fun z => by cases z), List.forall_mem_cons.mpr ⟨(fun z => by cases z), fun _ h => absurd h List.not_mem_nil⟩⟩⟩) false i k' h rfl
  · intro a M hlen hpre
    obtain ⟨th, rfl, hpre⟩ : ∃ th, a = [.inr (.inr (9, th))] ∧ (pz_ic M ∧ 0 ≤ M 5 9 ∧ M 5 9 ≤ 8 ∧ 8 - M 5 9 ≤ ((nn : Nat) : Int)) := by
      have hpre : (match (generalizing := false) a with | [.inr (.inr (9, th))] => pz_ic M ∧ 0 ≤ M 5 9 ∧ M 5 9 ≤ 8 ∧ 8 - M 5 9 ≤ ((nn : Nat) : Int) | _ => False) := hpre
      split at hpre
      · exact ⟨_, rfl, hpre⟩
      · exact hpre.elim
    exact Nat.le_of_ble_eq_true rfl
  · intro a M hlen hcan hM hpre Ok hgo
    obtain ⟨th, rfl, hpre⟩ : ∃ th, a = [.inr (.inr (9, th))] ∧ (pz_ic M ∧ 0 ≤ M 5 9 ∧ M 5 9 ≤ 8 ∧ 8 - M 5 9 ≤ ((nn : Nat) : Int)) := by
      have hpre : (match (generalizing := false) a with | [.inr (.inr (9, th))] => pz_ic M ∧ 0 ≤ M 5 9 ∧ M 5 9 ≤ 8 ∧ 8 - M 5 9 ≤ ((nn : Nat) : Int) | _ => False) := hpre
      split at hpre
      · exact ⟨_, rfl, hpre⟩
      · exact hpre.elim
    obtain ⟨k_th, hcan⟩ := pz_tlm hcan
    have k_th : pz_kd th = 9 ∧ th < 231 := k_th
    have R_th := pz_kd9 k_th.1
    subst R_th
    have hI : pz_ic M := hpre.1
    have hI0 := hI
    have hS : pz_st M M := pz_st.rf
    have L6 : ∀ (fu : Nat) (x1 : Int) (x2 : Int) (x3 : Int) (N6 : pz_M), (400 - x3).toNat < fu → (pz_st M N6) → (0 ≤ x3) → Ok 6 [some (.inr (.inr (9, 5))), some (.inl x1), some (.inl x2), some (.inl x3)] [] N6 := by
      intro fu
      induction fu with
      | zero => exact fun _ _ _ _ hn => absurd hn (Nat.not_lt_zero _)
      | succ fu ih6 =>
        intro x1 x2 x3 N6 hn6 hS g6_1
        have hI : pz_ic N6 := hS.1.1 hI0
        have L79 : ∀ (x1 : Int) (x2 : Int) (x3 : Int) (N79 : pz_M), (pz_st M N79) → (0 ≤ x3) → (x3 < 400) → ((400 - x3).toNat < fu + 1) → Ok 79 [some (.inr (.inr (9, 5))), some (.inl x1), some (.inl x2), some (.inl x3)] [] N79 := by
          intro x1 x2 x3 N79 hS g79_1 g79_2 g79_3
          have hI : pz_ic N79 := hS.1.1 hI0
          refine hgo (fun p => Nat.beq p 6 || Nat.beq p 35 || Nat.beq p 49 || Nat.beq p 79) 56 79 _ _ _ ?_
          intro v81 e81 a81 b81
          intro v85 e85 a85 b85
          try rw [pz_wi (by omega) (by omega)] at e85
          refine And.intro (hI) ?_
          intro M86 q86
          obtain ⟨q86, z86⟩ := q86
          have hS : pz_st M M86 := hS.tr z86
          have hI : pz_ic M86 := hS.1.1 hI0
          intro v89 e89 a89 b89
          try rw [pz_wi (by omega) (by omega)] at e89
          exact ih6 _ _ _ _ (by omega) hS (by omega)
        have L49 : ∀ (x1 : Int) (x2 : Int) (x3 : Int) (s0 : Int) (N49 : pz_M), (pz_st M N49) → (0 ≤ x3) → (x3 < 400) → ((400 - x3).toNat < fu + 1) → Ok 49 [some (.inr (.inr (9, 5))), some (.inl x1), some (.inl x2), some (.inl x3)] [.inl s0] N49 := by
          intro x1 x2 x3 s0 N49 hS g49_1 g49_2 g49_3
          have hI : pz_ic N49 := hS.1.1 hI0
          refine hgo (fun p => Nat.beq p 6 || Nat.beq p 35 || Nat.beq p 49 || Nat.beq p 79) 56 49 _ _ _ ?_
          refine And.intro (fun h51 => ?_) (fun h51 => ?_)
          · skip
            exact L79 _ _ _ _ hS (by omega) (by omega) (by omega)
          · skip
            refine And.intro (fun h55 => ?_) (fun h55 => ?_)
            · skip
              intro v68 e68 a68 b68
              refine And.intro (fun h72 => ?_) (fun h72 => ?_)
              · skip
                exact L79 _ _ _ _ hS (by omega) (by omega) (by omega)
              · skip
                refine And.intro (by omega) ?_
                refine And.intro rfl ?_
                exact ⟨by omega, hS⟩
            · skip
              intro r59 e59 k59
              have R59 := pz_kd3 k59
              refine And.intro (hI) ?_
              intro M64 q64
              obtain ⟨q64, z64⟩ := q64
              have hS : pz_st M M64 := hS.tr z64
              have hI : pz_ic M64 := hS.1.1 hI0
              intro v68 e68 a68 b68
              refine And.intro (fun h72 => ?_) (fun h72 => ?_)
              · skip
                exact L79 _ _ _ _ hS (by omega) (by omega) (by omega)
              · skip
                refine And.intro (by omega) ?_
                refine And.intro rfl ?_
                exact ⟨by omega, hS⟩
        have L35 : ∀ (x1 : Int) (x2 : Int) (x3 : Int) (N35 : pz_M), (pz_st M N35) → (0 ≤ x3) → (x3 < 400) → ((400 - x3).toNat < fu + 1) → Ok 35 [some (.inr (.inr (9, 5))), some (.inl x1), some (.inl x2), some (.inl x3)] [] N35 := by
          intro x1 x2 x3 N35 hS g35_1 g35_2 g35_3
          have hI : pz_ic N35 := hS.1.1 hI0
          refine hgo (fun p => Nat.beq p 6 || Nat.beq p 35 || Nat.beq p 49 || Nat.beq p 79) 56 35 _ _ _ ?_
          intro v36 e36 a36 b36
          refine And.intro (fun h41 => ?_) (fun h41 => ?_)
          · skip
            exact L49 _ _ _ _ _ hS (by omega) (by omega) (by omega)
          · skip
            exact L49 _ _ _ _ _ hS (by omega) (by omega) (by omega)
        refine hgo (fun p => Nat.beq p 6 || Nat.beq p 35 || Nat.beq p 49 || Nat.beq p 79) 56 6 _ _ _ ?_
        refine And.intro (fun h10 => ?_) (fun h10 => ?_)
        · skip
          refine And.intro (by omega) ?_
          refine And.intro rfl ?_
          exact ⟨by omega, hS⟩
        · skip
          refine And.intro (And.intro hI (by have hT := hS.2.2; omega)) ?_
          intro v14 M14 a14 b14 q14
          obtain ⟨q14, z14⟩ := q14
          have hS : pz_st M M14 := hS.tr z14
          have hI : pz_ic M14 := hS.1.1 hI0
          refine And.intro (fun h17 => ?_) (fun h17 => ?_)
          · skip
            refine And.intro (fun h23 => ?_) (fun h23 => ?_)
            · skip
              exact L35 _ _ _ _ hS (by omega) (by omega) (by omega)
            · skip
              intro r27 e27 k27
              have R27 := pz_kd3 k27
              refine And.intro (hI) ?_
              intro M32 q32
              obtain ⟨q32, z32⟩ := q32
              have hS : pz_st M M32 := hS.tr z32
              have hI : pz_ic M32 := hS.1.1 hI0
              exact L35 _ _ _ _ hS (by omega) (by omega) (by omega)
          · skip
            refine And.intro (by omega) ?_
            refine And.intro rfl ?_
            exact ⟨by omega, hS⟩
    refine hgo (fun p => Nat.beq p 6 || Nat.beq p 35 || Nat.beq p 49 || Nat.beq p 79) 56 0 _ [] M ?_
    exact L6 _ _ _ _ _ (Nat.lt_succ_self _) hS (by omega)
theorem h_X9_both : ∀ nn : Nat, pz_H yX9_condition cX9_condition 4 (some .boolean) (k_X9_condition nn) (3 + 2 * nn) (65 + 46 * nn) ∧ pz_H yX9_conditions cX9_conditions 4 (some .boolean) (k_X9_conditions nn) (4 + 2 * nn) (88 + 46 * nn) := by
  intro nn
  induction nn with
  | zero => exact ⟨h_X9_condition_0, h_X9_conditions_s 0 h_X9_condition_0⟩
  | succ nn ih =>
    have h := h_X9_condition_s nn ih.1 ih.2
    exact ⟨h, h_X9_conditions_s (nn + 1) h⟩
theorem v_X9_conditions8 {fr lo i : Nat} {own : String} (h1 : 4 + 2 * 8 + 1 ≤ fr) (h2 : 8 + (4 + 11) + (88 + 46 * 8) ≤ lo) (h3 : .methodLink own i yX9_conditions ∈ lw_tbl) : pz_cV fr lo own i (k_X9_conditions 8) :=
  pz_cVk (maxL := 4) 0 9 (h_X9_both 8).2 rfl ⟨by decide +kernel, by decide +kernel, by decide +kernel⟩ ⟨by decide +kernel, by decide +kernel, by decide +kernel, by decide +kernel⟩ (Or.inl ⟨TX9, 10, rfl⟩) (fun a M _ h => by
    have h : (match (generalizing := false) a with | [.inr (.inr (9, th))] => pz_ic M ∧ 0 ≤ M 5 9 ∧ M 5 9 ≤ 8 ∧ 8 - M 5 9 ≤ (8 : Int) | _ => False) := h
    split at h
    · exact ⟨_, _, rfl⟩
    · exact h.elim) h1 h2 h3
def k_X9_lawLines : pz_C := (1, 1, fun a M => (match a with | [.inr (.inr (9, th))] => pz_ic M ∧ M 5 9 = 0 | _ => False), fun a M r M' => (match a, r with | [.inr (.inr (9, th))], some (.inl v) => (v = 0 ∨ v = 1) ∧ pz_st M M' | _, _ => False))
abbrev ct_X9_lawLines : List (Bool × Nat × pz_C) := [(true, 103, k_X3_clear), (true, 100, k_X9_wrong), (true, 50, k_X9_lookAt), (true, 109, k_X9_sum), (true, 112, (k_X9_conditions 8)), (true, 115, k_X3_addLine), (true, 119, k_X9_accept)]
set_option maxRecDepth 100000 in
set_option maxHeartbeats 4000000 in
theorem h_X9_lawLines : pz_H yX9_lawLines cX9_lawLines 5 (some .boolean) k_X9_lawLines 21 479 := by
  refine pz_mk (own := RX9) (tb := t_X9_lawLines) (fl := pz_flf fl_RX9) (ci := fun _ => none) (ct := pz_ctf ct_X9_lawLines) (rz := true) (by decide +kernel) rfl t_X9_lawLines_ok (pz_flk fl_RX9_ok) (fun i v h => by cases h) ?_ ?_ (Or.inr ⟨rfl, rfl⟩) ?_ ?_
  · exact fun i k' h => pz_ctk (l := ct_X9_lawLines) (P := fun b i k => b = true → pz_cV 21 479 RX9 i k) (List.forall_mem_cons.mpr ⟨(fun _ => v_X3_clear (by decide) (by decide) (pz_mt 749 (by decide +kernel))), List.forall_mem_cons.mpr ⟨(fun _ => v_X9_wrong (by decide) (by decide) (pz_mt 753 (by decide +kernel))), List.forall_mem_cons.mpr ⟨(fun _ => v_X9_lookAt (by decide) (by decide) (pz_mt 741 (by decide +kernel))), List.forall_mem_cons.mpr ⟨(fun _ => v_X9_sum (by decide) (by decide) (pz_mt 757 (by decide +kernel))), List.forall_mem_cons.mpr ⟨(fun _ => v_X9_conditions8 (by decide) (by decide) (pz_mt 769 (by decide +kernel))), List.forall_mem_cons.mpr ⟨(fun _ => v_X3_addLine (by decide) (by decide) (pz_mt 781 (by decide +kernel))), List.forall_mem_cons.mpr ⟨(fun _ => v_X9_accept (by decide) (by decide) (pz_mt 777 (by decide +kernel))), fun _ h => absurd h List.not_mem_nil⟩⟩⟩⟩⟩⟩⟩) true i k' h rfl
  · exact fun i k' h => pz_ctk (l := ct_X9_lawLines) (P := fun b i k => b = false → (pz_cS 21 479 RX9 i k ∨ (k = pz_kac ∧ 1 ≤ 21 ∧ 60 ≤ 479 ∧ Cond.methodLink RX9 i arraycopyName ∈ pz_tbl))) (List.forall_mem_cons.mpr ⟨((fun z => by cases z)), List.forall_mem_cons.mpr ⟨((fun z => by cases z)), List.forall_mem_cons.mpr ⟨((fun z => by cases z)), List.forall_mem_cons.mpr ⟨((fun z => by cases z)), List.forall_mem_cons.mpr ⟨((fun z => by cases z)), List.forall_mem_cons.mpr ⟨((fun z => by cases z)), List.forall_mem_cons.mpr ⟨((fun z => by cases z)), fun _ h => absurd h List.not_mem_nil⟩⟩⟩⟩⟩⟩⟩) false i k' h rfl
  · intro a M hlen hpre
    obtain ⟨th, rfl, hpre⟩ : ∃ th, a = [.inr (.inr (9, th))] ∧ (pz_ic M ∧ M 5 9 = 0) := by
      have hpre : (match (generalizing := false) a with | [.inr (.inr (9, th))] => pz_ic M ∧ M 5 9 = 0 | _ => False) := hpre
      split at hpre
      · exact ⟨_, rfl, hpre⟩
      · exact hpre.elim
    exact Nat.le_of_ble_eq_true rfl
  · intro a M hlen hcan hM hpre Ok hgo
    obtain ⟨th, rfl, hpre⟩ : ∃ th, a = [.inr (.inr (9, th))] ∧ (pz_ic M ∧ M 5 9 = 0) := by
      have hpre : (match (generalizing := false) a with | [.inr (.inr (9, th))] => pz_ic M ∧ M 5 9 = 0 | _ => False) := hpre
      split at hpre
      · exact ⟨_, rfl, hpre⟩
      · exact hpre.elim
    obtain ⟨k_th, hc_th⟩ := pz_tlm hcan
    have k_th : pz_kd th = 9 ∧ th < 231 := k_th
    have R_th := pz_kd9 k_th.1
    subst R_th
    have hI : pz_ic M := hpre.1
    have hI0 := hI
    have hS : pz_st M M := pz_st.rf
    have L9 : ∀ (fu : Nat) (x1 : Int) (d2 : Option pz_V) (d3 : Option pz_V) (d4 : Option pz_V) (N9 : pz_M), (17 - x1).toNat < fu → (pz_st M N9) → (0 ≤ x1) → (x1 ≤ 17) → Ok 9 [some (.inr (.inr (9, 5))), some (.inl x1), d2, d3, d4] [] N9 := by
      intro fu
      induction fu with
      | zero => exact fun _ _ _ _ _ hn => absurd hn (Nat.not_lt_zero _)
      | succ fu ih9 =>
        intro x1 d2 d3 d4 N9 hn9 hS g9_1 g9_2
        have hI : pz_ic N9 := hS.1.1 hI0
        have L119 : ∀ (x1 : Int) (x2 : Int) (x3 : Int) (x4 : Int) (N119 : pz_M), (pz_st M N119) → (0 ≤ x1) → (x1 < 16) → ((17 - x1).toNat < fu + 1) → Ok 119 [some (.inr (.inr (9, 5))), some (.inl x1), some (.inl x2), some (.inl x3), some (.inl x4)] [] N119 := by
          intro x1 x2 x3 x4 N119 hS g119_1 g119_2 g119_3
          have hI : pz_ic N119 := hS.1.1 hI0
          refine hgo (fun p => Nat.beq p 9 || Nat.beq p 119) 83 119 _ _ _ ?_
          intro r120 e120 k120
          have R120 := pz_kd3 k120
          refine And.intro (hI) ?_
          intro M127 q127
          obtain ⟨q127, z127⟩ := q127
          have hS : pz_st M M127 := hS.tr z127
          have hI : pz_ic M127 := hS.1.1 hI0
          refine And.intro (hI) ?_
          intro v133 M133 a133 b133 q133
          obtain ⟨q133, z133⟩ := q133
          have hS : pz_st M M133 := hS.tr z133
          have hI : pz_ic M133 := hS.1.1 hI0
          refine And.intro (fun h136 => ?_) (fun h136 => ?_)
          · skip
            intro v141 e141 a141 b141
            try rw [pz_wi (by omega) (by omega)] at e141
            exact ih9 _ _ _ _ _ (by omega) hS (by omega) (by omega)
          · skip
            refine And.intro (by omega) ?_
            refine And.intro rfl ?_
            exact ⟨by omega, hS⟩
        refine hgo (fun p => Nat.beq p 9 || Nat.beq p 119) 83 9 _ _ _ ?_
        refine And.intro (fun h12 => ?_) (fun h12 => ?_)
        · skip
          refine And.intro (by omega) ?_
          refine And.intro rfl ?_
          exact ⟨by omega, hS⟩
        · skip
          intro v16 e16 a16 b16
          refine And.intro (fun h21 => ?_) (fun h21 => ?_)
          · skip
            refine And.intro (by omega) ?_
            refine And.intro rfl ?_
            exact ⟨by omega, hS⟩
          · skip
            intro v25 e25 a25 b25
            refine And.intro (fun h30 => ?_) (fun h30 => ?_)
            · skip
              refine And.intro (hI) ?_
              intro v40 M40 a40 b40 q40
              obtain ⟨q40, z40⟩ := q40
              have hS : pz_st M M40 := hS.tr z40
              have hI : pz_ic M40 := hS.1.1 hI0
              refine And.intro (by omega) ?_
              refine And.intro rfl ?_
              exact ⟨by omega, hS⟩
            · skip
              refine And.intro (fun h35 => ?_) (fun h35 => ?_)
              · skip
                refine And.intro (fun h47 => ?_) (fun h47 => ?_)
                · skip
                  intro v58 e58 a58 b58
                  intro v62 e62 a62 b62
                  try rw [pz_wi (by omega) (by omega)] at e62
                  refine And.intro (hI) ?_
                  intro M63 q63
                  obtain ⟨q63, z63⟩ := q63
                  have hS : pz_st M M63 := hS.tr z63
                  have hI : pz_ic M63 := hS.1.1 hI0
                  intro r67 e67 k67
                  have R67 := pz_kd3 k67
                  intro v70 e70 a70 b70
                  have I70 := hI.2.2.2.1 r67 (by omega) (by omega)
                  refine And.intro (hI) ?_
                  intro v75 M75 a75 b75 q75
                  obtain ⟨q75, z75⟩ := q75
                  have hS : pz_st M M75 := hS.tr z75
                  have hI : pz_ic M75 := hS.1.1 hI0
                  refine And.intro (fun h78 => ?_) (fun h78 => ?_)
                  · skip
                    intro r84 e84 k84
                    have R84 := pz_kd3 k84
                    intro v87 e87 a87 b87
                    have I87 := hI.2.2.2.1 r84 (by omega) (by omega)
                    intro v93 e93 a93 b93
                    refine And.intro (fun h97 => ?_) (fun h97 => ?_)
                    · skip
                      exact L119 _ _ _ _ _ hS (by omega) (by omega) (by omega)
                    · skip
                      intro v102 e102 a102 b102
                      intro v106 e106 a106 b106
                      try rw [pz_wi (by omega) (by omega)] at e106
                      refine And.intro (hI) ?_
                      intro M107 q107
                      obtain ⟨q107, z107⟩ := q107
                      have hS : pz_st M M107 := hS.tr z107
                      have hI : pz_ic M107 := hS.1.1 hI0
                      refine And.intro (And.intro hI (by have hT := hS.2.2; omega)) ?_
                      intro v111 M111 a111 b111 q111
                      obtain ⟨q111, z111⟩ := q111
                      have hS : pz_st M M111 := hS.tr z111
                      have hI : pz_ic M111 := hS.1.1 hI0
                      refine And.intro (fun h114 => ?_) (fun h114 => ?_)
                      · skip
                        exact L119 _ _ _ _ _ hS (by omega) (by omega) (by omega)
                      · skip
                        refine And.intro (by omega) ?_
                        refine And.intro rfl ?_
                        exact ⟨by omega, hS⟩
                  · skip
                    refine And.intro (by omega) ?_
                    refine And.intro rfl ?_
                    exact ⟨by omega, hS⟩
                · skip
                  refine And.intro (hI) ?_
                  intro v52 M52 a52 b52 q52
                  obtain ⟨q52, z52⟩ := q52
                  have hS : pz_st M M52 := hS.tr z52
                  have hI : pz_ic M52 := hS.1.1 hI0
                  refine And.intro (by omega) ?_
                  refine And.intro rfl ?_
                  exact ⟨by omega, hS⟩
              · skip
                refine And.intro (hI) ?_
                intro v40 M40 a40 b40 q40
                obtain ⟨q40, z40⟩ := q40
                have hS : pz_st M M40 := hS.tr z40
                have hI : pz_ic M40 := hS.1.1 hI0
                refine And.intro (by omega) ?_
                refine And.intro rfl ?_
                exact ⟨by omega, hS⟩
    refine hgo (fun p => Nat.beq p 9 || Nat.beq p 119) 83 0 _ [] M ?_
    intro r1 e1 k1
    have R1 := pz_kd3 k1
    refine And.intro (hI) ?_
    intro M4 q4
    obtain ⟨q4, z4⟩ := q4
    have hS : pz_st M M4 := hS.tr z4
    have hI : pz_ic M4 := hS.1.1 hI0
    exact L9 _ _ _ _ _ _ (Nat.lt_succ_self _) hS (by omega) (by omega)
theorem v_X9_lawLines {fr lo i : Nat} {own : String} (h1 : 21 + 1 ≤ fr) (h2 : 8 + (5 + 11) + 479 ≤ lo) (h3 : .methodLink own i yX9_lawLines ∈ lw_tbl) : pz_cV fr lo own i k_X9_lawLines :=
  pz_cVk (maxL := 5) (fr' := 21) (lo' := 479) 0 9 h_X9_lawLines rfl ⟨by decide +kernel, by decide +kernel, by decide +kernel⟩ ⟨(pz_mt 748 (by decide +kernel)), (pz_mt 746 (by decide +kernel)), (pz_mt 747 (by decide +kernel)), (pz_mt 10 (by decide +kernel))⟩ (Or.inl ⟨TX9, 10, rfl⟩) (fun a M _ h => by
    have h : (match (generalizing := false) a with | [.inr (.inr (9, th))] => pz_ic M ∧ M 5 9 = 0 | _ => False) := h
    split at h
    · exact ⟨_, _, rfl⟩
    · exact h.elim) h1 h2 h3
def k_X9_tell : pz_C := (4, 1, fun a M => (match a with | [.inr (.inr (9, th)), .inl k, .inr (.inr (10, t)), .inl l] => pz_ic M | _ => False), fun a M r M' => (match a, r with | [.inr (.inr (9, th)), .inl k, .inr (.inr (10, t)), .inl l], some (.inl v) => (M' 4 1 = 0) ∧ pz_sy M M' | _, _ => False))
abbrev ct_X9_tell : List (Bool × Nat × pz_C) := [(true, 42, k_X7_scan), (true, 50, k_X9_lookAt), (true, 54, k_X9_lawLines), (true, 61, k_X3_take), (true, 68, k_X9_rowLines), (true, 72, k_X10_rows), (true, 75, k_X6_take)]
set_option maxRecDepth 100000 in
set_option maxHeartbeats 4000000 in
theorem h_X9_tell : pz_H yX9_tell cX9_tell 4 (some .int) k_X9_tell 22 503 := by
  refine pz_mk (own := RX9) (tb := t_X9_tell) (fl := pz_flf fl_RX9) (ci := fun _ => none) (ct := pz_ctf ct_X9_tell) (rz := false) (by decide +kernel) rfl t_X9_tell_ok (pz_flk fl_RX9_ok) (fun i v h => by cases h) ?_ ?_ (Or.inl ⟨rfl, rfl⟩) ?_ ?_
  · exact fun i k' h => pz_ctk (l := ct_X9_tell) (P := fun b i k => b = true → pz_cV 22 503 RX9 i k) (List.forall_mem_cons.mpr ⟨(fun _ => v_X7_scan (by decide) (by decide) (pz_mt 663 (by decide +kernel))), List.forall_mem_cons.mpr ⟨(fun _ => v_X9_lookAt (by decide) (by decide) (pz_mt 741 (by decide +kernel))), List.forall_mem_cons.mpr ⟨(fun _ => v_X9_lawLines (by decide) (by decide) (pz_mt 745 (by decide +kernel))), List.forall_mem_cons.mpr ⟨(fun _ => v_X3_take (by decide) (by decide) (pz_mt 785 (by decide +kernel))), List.forall_mem_cons.mpr ⟨(fun _ => v_X9_rowLines (by decide) (by decide) (pz_mt 792 (by decide +kernel))), List.forall_mem_cons.mpr ⟨(fun _ => v_X10_rows (by decide) (by decide) (pz_mt 820 (by decide +kernel))), List.forall_mem_cons.mpr ⟨(fun _ => v_X6_take (by decide) (by decide) (pz_mt 824 (by decide +kernel))), fun _ h => absurd h List.not_mem_nil⟩⟩⟩⟩⟩⟩⟩) true i k' h rfl
  · exact fun i k' h => pz_ctk (l := ct_X9_tell) (P := fun b i k => b = false → (pz_cS 22 503 RX9 i k ∨ (k = pz_kac ∧ 1 ≤ 22 ∧ 60 ≤ 503 ∧ Cond.methodLink RX9 i arraycopyName ∈ pz_tbl))) (List.forall_mem_cons.mpr ⟨((fun z => by cases z)), List.forall_mem_cons.mpr ⟨((fun z => by cases z)), List.forall_mem_cons.mpr ⟨((fun z => by cases z)), List.forall_mem_cons.mpr ⟨((fun z => by cases z)), List.forall_mem_cons.mpr ⟨((fun z => by cases z)), List.forall_mem_cons.mpr ⟨((fun z => by cases z)), List.forall_mem_cons.mpr ⟨((fun z => by cases z)), fun _ h => absurd h List.not_mem_nil⟩⟩⟩⟩⟩⟩⟩) false i k' h rfl
  · intro a M hlen hpre
    obtain ⟨th, k, t, l, rfl, hpre⟩ : ∃ th k t l, a = [.inr (.inr (9, th)), .inl k, .inr (.inr (10, t)), .inl l] ∧ (pz_ic M) := by
      have hpre : (match (generalizing := false) a with | [.inr (.inr (9, th)), .inl k, .inr (.inr (10, t)), .inl l] => pz_ic M | _ => False) := hpre
      split at hpre
      · exact ⟨_, _, _, _, rfl, hpre⟩
      · exact hpre.elim
    exact Nat.le_of_ble_eq_true rfl
  · intro a M hlen hcan hM hpre Ok hgo
    obtain ⟨th, k, t, l, rfl, hpre⟩ : ∃ th k t l, a = [.inr (.inr (9, th)), .inl k, .inr (.inr (10, t)), .inl l] ∧ (pz_ic M) := by
      have hpre : (match (generalizing := false) a with | [.inr (.inr (9, th)), .inl k, .inr (.inr (10, t)), .inl l] => pz_ic M | _ => False) := hpre
      split at hpre
      · exact ⟨_, _, _, _, rfl, hpre⟩
      · exact hpre.elim
    obtain ⟨k_th, hc_th⟩ := pz_tlm hcan
    have k_th : pz_kd th = 9 ∧ th < 231 := k_th
    have R_th := pz_kd9 k_th.1
    subst R_th
    obtain ⟨k_k, hc_k⟩ := pz_tlm hc_th
    have l_k : -2147483648 ≤ k := k_k.1
    have u_k : k ≤ 2147483647 := k_k.2
    obtain ⟨k_t, hc_t⟩ := pz_tlm hc_k
    have k_t : pz_kd t = 10 ∧ t < 231 := k_t
    have R_t := pz_kd10 k_t.1
    obtain ⟨k_l, hc_l⟩ := pz_tlm hc_t
    have l_l : -2147483648 ≤ l := k_l.1
    have u_l : l ≤ 2147483647 := k_l.2
    have hI : pz_ic M := hpre
    have hI0 := hI
    have hS : pz_sy M M := pz_sy.rf
    refine hgo (fun _ => false) 60 0 _ [] M ?_
    intro M2 e2
    have hS : pz_sy M M2 := by
      rw [e2]
      exact pz_sy_u hS (by unfold pz_md pz_kx pz_mid; omega) (by unfold pz_iok; omega)
    have hI : pz_ic M2 := hS.1 hI0
    have T2_0 := pz_uve e2 4 1
    have T2_1 := pz_uve e2 5 9
    intro M7 e7
    have hS : pz_sy M M7 := by
      rw [e7]
      exact pz_sy_u hS (by unfold pz_md pz_kx pz_mid; omega) (by unfold pz_iok; omega)
    have hI : pz_ic M7 := hS.1 hI0
    have T7_0 := pz_uve e7 4 1
    have T7_1 := pz_uve e7 5 9
    intro M12 e12
    have hS : pz_sy M M12 := by
      rw [e12]
      exact pz_sy_u hS (by unfold pz_md pz_kx pz_mid; omega) (by unfold pz_iok; omega)
    have hI : pz_ic M12 := hS.1 hI0
    have T12_0 := pz_uve e12 4 1
    have T12_1 := pz_uve e12 5 9
    intro M17 e17
    have hS : pz_sy M M17 := by
      rw [e17]
      exact pz_sy_u hS (by unfold pz_md pz_kx pz_mid; omega) (by unfold pz_iok; omega)
    have hI : pz_ic M17 := hS.1 hI0
    have T17_0 := pz_uve e17 4 1
    have T17_1 := pz_uve e17 5 9
    intro r21 e21 k21
    have R21 := pz_kd7 k21
    refine And.intro (hI) ?_
    intro M24 q24
    obtain ⟨q24, z24⟩ := q24
    have hS : pz_sy M M24 := hS.tr z24.1
    have T24a := z24.2.1
    have T24b := z24.2.2
    have hI : pz_ic M24 := hS.1 hI0
    intro r28 e28 k28
    have R28 := pz_kd7 k28
    intro M32 e32
    have hS : pz_sy M M32 := by
      rw [e32]
      exact pz_sy_u hS (by unfold pz_md pz_kx pz_mid; omega) (by unfold pz_iok; omega)
    have hI : pz_ic M32 := hS.1 hI0
    have T32_0 := pz_uve e32 4 1
    have T32_1 := pz_uve e32 5 9
    refine And.intro (hI) ?_
    intro M37 q37
    obtain ⟨q37, z37⟩ := q37
    have hS : pz_sy M M37 := hS.tr z37.1
    have T37a := z37.2.1
    have T37b := z37.2.2
    have hI : pz_ic M37 := hS.1 hI0
    refine And.intro (fun h41 => ?_) (fun h41 => ?_)
    · skip
      refine And.intro (fun h72 => ?_) (fun h72 => ?_)
      · skip
        refine And.intro rfl ?_
        exact ⟨by omega, hS⟩
      · skip
        refine And.intro (fun h77 => ?_) (fun h77 => ?_)
        · skip
          refine And.intro rfl ?_
          exact ⟨by omega, hS⟩
        · skip
          refine And.intro (hI) ?_
          intro v82 M82 a82 b82 q82
          obtain ⟨q82, z82⟩ := q82
          have hS : pz_sy M M82 := hS.tr z82.1
          have T82a := z82.2.1
          have T82b := z82.2.2
          have hI : pz_ic M82 := hS.1 hI0
          refine And.intro (fun h85 => ?_) (fun h85 => ?_)
          · skip
            refine And.intro rfl ?_
            exact ⟨by omega, hS⟩
          · skip
            refine And.intro (True.intro) ?_
            intro r90 M90 k90 q90
            have R90 := pz_kd6 k90
            obtain ⟨q90, z90⟩ := q90
            subst z90
            intro r94 e94 k94
            have R94 := pz_kd6 k94
            refine And.intro (hI) ?_
            intro M97 q97
            obtain ⟨q97, z97⟩ := q97
            have hS : pz_sy M M97 := hS.tr z97.1
            have T97a := z97.2.1
            have T97b := z97.2.2
            have hI : pz_ic M97 := hS.1 hI0
            intro r101 e101 k101
            have R101 := pz_kd6 k101
            intro v104 e104 a104 b104
            have I104 := hI.2.2.1 r101 (by omega) (by omega)
            refine And.intro rfl ?_
            exact ⟨by omega, hS⟩
    · skip
      refine And.intro (And.intro hI (by omega)) ?_
      intro v45 M45 a45 b45 q45
      obtain ⟨q45, z45⟩ := q45
      have hS : pz_sy M M45 := hS.tr z45.1
      have T45a := z45.2.1
      have T45b := z45.2.2
      have hI : pz_ic M45 := hS.1 hI0
      refine And.intro (fun h48 => ?_) (fun h48 => ?_)
      · skip
        refine And.intro (fun h72 => ?_) (fun h72 => ?_)
        · skip
          refine And.intro rfl ?_
          exact ⟨by omega, hS⟩
        · skip
          refine And.intro (fun h77 => ?_) (fun h77 => ?_)
          · skip
            refine And.intro rfl ?_
            exact ⟨by omega, hS⟩
          · skip
            refine And.intro (hI) ?_
            intro v82 M82 a82 b82 q82
            obtain ⟨q82, z82⟩ := q82
            have hS : pz_sy M M82 := hS.tr z82.1
            have T82a := z82.2.1
            have T82b := z82.2.2
            have hI : pz_ic M82 := hS.1 hI0
            refine And.intro (fun h85 => ?_) (fun h85 => ?_)
            · skip
              refine And.intro rfl ?_
              exact ⟨by omega, hS⟩
            · skip
              refine And.intro (True.intro) ?_
              intro r90 M90 k90 q90
              have R90 := pz_kd6 k90
              obtain ⟨q90, z90⟩ := q90
              subst z90
              intro r94 e94 k94
              have R94 := pz_kd6 k94
              refine And.intro (hI) ?_
              intro M97 q97
              obtain ⟨q97, z97⟩ := q97
              have hS : pz_sy M M97 := hS.tr z97.1
              have T97a := z97.2.1
              have T97b := z97.2.2
              have hI : pz_ic M97 := hS.1 hI0
              intro r101 e101 k101
              have R101 := pz_kd6 k101
              intro v104 e104 a104 b104
              have I104 := hI.2.2.1 r101 (by omega) (by omega)
              refine And.intro rfl ?_
              exact ⟨by omega, hS⟩
      · skip
        intro r52 e52 k52
        have R52 := pz_kd3 k52
        intro r56 e56 k56
        have R56 := pz_kd3 k56
        refine And.intro (hI) ?_
        intro M59 q59
        obtain ⟨q59, z59⟩ := q59
        have hS : pz_sy M M59 := hS.tr z59.1
        have T59a := z59.2.1
        have T59b := z59.2.2
        have hI : pz_ic M59 := hS.1 hI0
        intro r63 e63 k63
        have R63 := pz_kd3 k63
        intro v66 e66 a66 b66
        have I66 := hI.2.2.2.1 r63 (by omega) (by omega)
        refine And.intro rfl ?_
        exact ⟨by omega, hS⟩
theorem v_X9_tell {fr lo i : Nat} {own : String} (h1 : 22 + 1 ≤ fr) (h2 : 8 + (4 + 11) + 503 ≤ lo) (h3 : .methodLink own i yX9_tell ∈ lw_tbl) : pz_cV fr lo own i k_X9_tell :=
  pz_cVk (maxL := 4) (fr' := 22) (lo' := 503) 3 9 h_X9_tell rfl ⟨by decide +kernel, by decide +kernel, by decide +kernel⟩ ⟨(pz_mt 662 (by decide +kernel)), (pz_mt 660 (by decide +kernel)), (pz_mt 661 (by decide +kernel)), (pz_mt 10 (by decide +kernel))⟩ (Or.inl ⟨TX9, 10, rfl⟩) (fun a M _ h => by
    have h : (match (generalizing := false) a with | [.inr (.inr (9, th)), .inl k, .inr (.inr (10, t)), .inl l] => pz_ic M | _ => False) := h
    split at h
    · exact ⟨_, _, rfl⟩
    · exact h.elim) h1 h2 h3
