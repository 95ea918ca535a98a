noncomputable def k3_X0_lackOfMoney : pz_C := (2, 1, fun a M => (match a with | [.inr (.inr (0, c)), .inl i] => pz_ic M | _ => False), fun a M r M' => (match a, r with | [.inr (.inr (0, c)), .inl i], some (.inl v) => (0 ≤ v ∧ sd_q M c (fun F => 0 ≤ i → i < F 88 → v = sd_lm F i.toNat)) ∧ M = M' | _, _ => False))
noncomputable abbrev ct3_X0_lackOfMoney : List (Bool × Nat × pz_C) := [(true, 48, k_X0_at), (false, 58, k_J9_max_7cf53)]
set_option maxRecDepth 100000 in
set_option maxHeartbeats 4000000 in
theorem h3_X0_lackOfMoney : pz_H yX0_lackOfMoney cX0_lackOfMoney 3 (some .int) k3_X0_lackOfMoney 1 21 := by
  refine pz_mk (own := RX0) (tb := t_X0_lackOfMoney) (fl := pz_flf fl_RX0) (ci := pz_cif ci_RX0) (ct := pz_ctf ct3_X0_lackOfMoney) (rz := false) (pz_pfc_RX0 yX0_lackOfMoney rfl) rfl t_X0_lackOfMoney_ok (pz_flk fl_RX0_ok) (pz_cik ci_RX0_ok) ?_ ?_ (Or.inl ⟨rfl, rfl⟩) ?_ ?_
  · exact fun i k' h => pz_ctk (l := ct3_X0_lackOfMoney) (P := fun b i k => b = true → pz_cV 1 21 RX0 i k) (List.forall_mem_cons.mpr ⟨(fun _ => v_X0_at (by decide) (by decide) pz_wq494), List.forall_mem_cons.mpr ⟨((fun z => by cases z)), fun _ h => absurd h List.not_mem_nil⟩⟩) true i k' h rfl
  · exact fun i k' h => pz_ctk (l := ct3_X0_lackOfMoney) (P := fun b i k => b = false → (pz_cS 1 21 RX0 i k ∨ (k = pz_kac ∧ 1 ≤ 1 ∧ 60 ≤ 21 ∧ Cond.methodLink RX0 i arraycopyName ∈ pz_tbl))) (List.forall_mem_cons.mpr ⟨((fun z => by cases z)), List.forall_mem_cons.mpr ⟨(fun _ => Or.inl (s_J9_max_7cf53 (by decide) (by decide) (Or.inl pz_wq634))), fun _ h => absurd h List.not_mem_nil⟩⟩) false i k' h rfl
  · intro a M hlen hpre
    obtain ⟨c, i, rfl, hpre⟩ : ∃ c i, a = [.inr (.inr (0, c)), .inl i] ∧ (pz_ic M) := by
      have hpre : (match (generalizing := false) a with | [.inr (.inr (0, c)), .inl i] => pz_ic M | _ => False) := hpre
      split at hpre
      · exact ⟨_, _, rfl, hpre⟩
      · exact hpre.elim
    exact Nat.le_of_ble_eq_true rfl
  · intro a M hlen hcan hM hpre Ok hgo
    obtain ⟨c, i, rfl, hpre⟩ : ∃ c i, a = [.inr (.inr (0, c)), .inl i] ∧ (pz_ic M) := by
      have hpre : (match (generalizing := false) a with | [.inr (.inr (0, c)), .inl i] => pz_ic M | _ => False) := hpre
      split at hpre
      · exact ⟨_, _, rfl, hpre⟩
      · exact hpre.elim
    obtain ⟨k_c, hc_c⟩ := pz_tlm hcan
    have k_c : pz_kd c = 0 ∧ c < 231 := k_c
    have R_c := pz_kd0 k_c.1
    obtain ⟨k_i, hc_i⟩ := pz_tlm hc_c
    have l_i : -2147483648 ≤ i := k_i.1
    have u_i : i ≤ 2147483647 := k_i.2
    have hI : pz_ic M := hpre
    refine hgo (fun _ => false) 35 0 _ [] M ?_
    intro v2 e2 a2 b2
    have I2 := hI.1 c (by omega) (by omega)
    intro v6 e6 a6 b6
    try rw [pz_wi (by omega) (by omega)] at e6
    refine And.intro (fun h7 => ?_) (fun h7 => ?_)
    · skip
      refine And.intro (True.intro) ?_
      intro r14 M14 k14 q14
      have R14 := pz_kd5 k14
      obtain ⟨q14, z14⟩ := q14
      subst z14
      have A14 := pz_at_lk R_c q14
      have B14 : 89 + 13 * (c - 71) ≤ r14 ∧ r14 ≤ 89 + 13 * (c - 71) + 12 := by
        rw [A14]
        exact pz_lnk_c
      intro v17 e17 a17 b17
      refine And.intro (fun h21 => ?_) (fun h21 => ?_)
      · skip
        intro v36 e36 a36 b36
        intro v42 e42 a42 b42
        try rw [pz_wi (by omega) (by omega)] at e42
        refine And.intro (True.intro) ?_
        intro r43 M43 k43 q43
        have R43 := pz_kd5 k43
        obtain ⟨q43, z43⟩ := q43
        subst z43
        have A43 := pz_at_lk R_c q43
        have B43 : 89 + 13 * (c - 71) ≤ r43 ∧ r43 ≤ 89 + 13 * (c - 71) + 12 := by
          rw [A43]
          exact pz_lnk_c
        intro v46 e46 a46 b46
        intro v50 e50 a50 b50
        refine And.intro (True.intro) ?_
        intro v51 M51 a51 b51 q51
        obtain ⟨q51, z51⟩ := q51
        subst z51
        refine And.intro rfl ?_
        refine ⟨⟨by omega, fun F hF hW h0 h1 => ?_⟩, rfl⟩
        have hn := hF.1
        have hm := hW.1
        have b1 := (sd_at R_c hF hW h0 h1 A14).2.1
        have c0 := (sd_at R_c hF hW (show 0 ≤ v42 by omega) (show v42 < F 88 by omega) A43).1
        rw [show 4 + v42.toNat = 5 + i.toNat by omega] at c0
        obtain ⟨P0, P1, -⟩ := hW.2.2 i.toNat (by omega)
        have P2 := (hW.2.2 (i.toNat + 1) (by omega)).1
        rw [show 4 + (i.toNat + 1) = 5 + i.toNat by omega] at P2
        unfold sd_lm
        rw [if_neg (by omega)]
        first
          | (have b0 := (sd_at R_c hF hW h0 h1 A26).1
             rw [pz_wi (by omega) (by omega)] at e36
             rw [pz_wi (by omega) (by omega)] at e50
             rw [if_neg (by omega)]
             omega)
          | (rw [pz_wi (by omega) (by omega)] at e36
             rw [pz_wi (by omega) (by omega)] at e50
             rw [if_pos (by omega)]
             omega)
      · skip
        refine And.intro (True.intro) ?_
        intro r26 M26 k26 q26
        have R26 := pz_kd5 k26
        obtain ⟨q26, z26⟩ := q26
        subst z26
        have A26 := pz_at_lk R_c q26
        have B26 : 89 + 13 * (c - 71) ≤ r26 ∧ r26 ≤ 89 + 13 * (c - 71) + 12 := by
          rw [A26]
          exact pz_lnk_c
        intro v29 e29 a29 b29
        intro v36 e36 a36 b36
        intro v42 e42 a42 b42
        try rw [pz_wi (by omega) (by omega)] at e42
        refine And.intro (True.intro) ?_
        intro r43 M43 k43 q43
        have R43 := pz_kd5 k43
        obtain ⟨q43, z43⟩ := q43
        subst z43
        have A43 := pz_at_lk R_c q43
        have B43 : 89 + 13 * (c - 71) ≤ r43 ∧ r43 ≤ 89 + 13 * (c - 71) + 12 := by
          rw [A43]
          exact pz_lnk_c
        intro v46 e46 a46 b46
        intro v50 e50 a50 b50
        refine And.intro (True.intro) ?_
        intro v51 M51 a51 b51 q51
        obtain ⟨q51, z51⟩ := q51
        subst z51
        refine And.intro rfl ?_
        refine ⟨⟨by omega, fun F hF hW h0 h1 => ?_⟩, rfl⟩
        have hn := hF.1
        have hm := hW.1
        have b1 := (sd_at R_c hF hW h0 h1 A14).2.1
        have c0 := (sd_at R_c hF hW (show 0 ≤ v42 by omega) (show v42 < F 88 by omega) A43).1
        rw [show 4 + v42.toNat = 5 + i.toNat by omega] at c0
        obtain ⟨P0, P1, -⟩ := hW.2.2 i.toNat (by omega)
        have P2 := (hW.2.2 (i.toNat + 1) (by omega)).1
        rw [show 4 + (i.toNat + 1) = 5 + i.toNat by omega] at P2
        unfold sd_lm
        rw [if_neg (by omega)]
        first
          | (have b0 := (sd_at R_c hF hW h0 h1 A26).1
             rw [pz_wi (by omega) (by omega)] at e36
             rw [pz_wi (by omega) (by omega)] at e50
             rw [if_neg (by omega)]
             omega)
          | (rw [pz_wi (by omega) (by omega)] at e36
             rw [pz_wi (by omega) (by omega)] at e50
             rw [if_pos (by omega)]
             omega)
    · skip
      refine And.intro rfl ?_
      refine ⟨⟨by omega, fun F hF hW h0 h1 => ?_⟩, rfl⟩
      have hn := hF.1
      have hm := hW.1
      unfold sd_lm
      rw [if_pos (by omega)]
theorem v3_X0_lackOfMoney {fr lo i : Nat} {own : String} (h1 : 1 + 1 ≤ fr) (h2 : 8 + (3 + 11) + 21 ≤ lo) (h3 : .methodLink own i yX0_lackOfMoney ∈ lw_tbl) : pz_cV fr lo own i k3_X0_lackOfMoney :=
  pz_cVk (maxL := 3) (fr' := 1) (lo' := 21) 1 0 h3_X0_lackOfMoney rfl ⟨(pz_nhc_RX0 yX0_lackOfMoney rfl).1, (pz_nhc_RX0 yX0_lackOfMoney rfl).2, pz_ds5⟩ ⟨pz_wq633, pz_wq631, pz_wq632, pz_wq2⟩ (Or.inl ⟨TX0, 8, rfl⟩) (fun a M _ h => by
    have h : (match (generalizing := false) a with | [.inr (.inr (0, c)), .inl i] => pz_ic M | _ => False) := h
    split at h
    · exact ⟨_, _, rfl⟩
    · exact h.elim) h1 h2 h3
noncomputable def k3_X0_canPay : pz_C := (2, 1, fun a M => (match a with | [.inr (.inr (0, c)), .inl i] => pz_ic M | _ => False), fun a M r M' => (match a, r with | [.inr (.inr (0, c)), .inl i], some (.inl v) => ((v = 0 ∨ v = 1) ∧ sd_q M c (fun F => 0 ≤ i → i < F 88 → (v = 1 ↔ sd_py F i.toNat))) ∧ M = M' | _, _ => False))
noncomputable abbrev ct3_X0_canPay : List (Bool × Nat × pz_C) := [(true, 64, k3_X0_lackOfMoney)]
set_option maxRecDepth 100000 in
set_option maxHeartbeats 4000000 in
theorem h3_X0_canPay : pz_H yX0_canPay cX0_canPay 2 (some .boolean) k3_X0_canPay 2 43 := by
  refine pz_mk (own := RX0) (tb := t_X0_canPay) (fl := pz_flf fl_RX0) (ci := pz_cif ci_RX0) (ct := pz_ctf ct3_X0_canPay) (rz := true) (pz_pfc_RX0 yX0_canPay rfl) rfl t_X0_canPay_ok (pz_flk fl_RX0_ok) (pz_cik ci_RX0_ok) ?_ ?_ (Or.inr ⟨rfl, rfl⟩) ?_ ?_
  · exact fun i k' h => pz_ctk (l := ct3_X0_canPay) (P := fun b i k => b = true → pz_cV 2 43 RX0 i k) (List.forall_mem_cons.mpr ⟨(fun _ => v3_X0_lackOfMoney (by decide) (by decide) pz_wq630), fun _ h => absurd h List.not_mem_nil⟩) true i k' h rfl
  · exact fun i k' h => pz_ctk (l := ct3_X0_canPay) (P := fun b i k => b = false → (pz_cS 2 43 RX0 i k ∨ (k = pz_kac ∧ 1 ≤ 2 ∧ 60 ≤ 43 ∧ Cond.methodLink RX0 i arraycopyName ∈ pz_tbl))) (List.forall_mem_cons.mpr ⟨((fun z => by cases z)), fun _ h => absurd h List.not_mem_nil⟩) false i k' h rfl
  · intro a M hlen hpre
    obtain ⟨c, i, rfl, hpre⟩ : ∃ c i, a = [.inr (.inr (0, c)), .inl i] ∧ (pz_ic M) := by
      have hpre : (match (generalizing := false) a with | [.inr (.inr (0, c)), .inl i] => pz_ic M | _ => False) := hpre
      split at hpre
      · exact ⟨_, _, rfl, hpre⟩
      · exact hpre.elim
    exact Nat.le_of_ble_eq_true rfl
  · intro a M hlen hcan hM hpre Ok hgo
    obtain ⟨c, i, rfl, hpre⟩ : ∃ c i, a = [.inr (.inr (0, c)), .inl i] ∧ (pz_ic M) := by
      have hpre : (match (generalizing := false) a with | [.inr (.inr (0, c)), .inl i] => pz_ic M | _ => False) := hpre
      split at hpre
      · exact ⟨_, _, rfl, hpre⟩
      · exact hpre.elim
    obtain ⟨k_c, hc_c⟩ := pz_tlm hcan
    have k_c : pz_kd c = 0 ∧ c < 231 := k_c
    have R_c := pz_kd0 k_c.1
    obtain ⟨k_i, hc_i⟩ := pz_tlm hc_c
    have l_i : -2147483648 ≤ i := k_i.1
    have u_i : i ≤ 2147483647 := k_i.2
    have hI : pz_ic M := hpre
    refine hgo (fun _ => false) 10 0 _ [] M ?_
    refine And.intro (hI) ?_
    intro v2 M2 a2 b2 q2
    obtain ⟨q2, z2⟩ := q2
    subst z2
    refine And.intro (fun h5 => ?_) (fun h5 => ?_)
    · skip
      refine And.intro (by omega) ?_
      refine And.intro rfl ?_
      refine ⟨⟨by omega, fun F hF hW h0 h1 => ?_⟩, rfl⟩
      have e := q2.2 F hF hW h0 h1
      have hm := hW.1
      rw [← sd_lm_py hW (by omega), ← e]
      omega
    · skip
      refine And.intro (by omega) ?_
      refine And.intro rfl ?_
      refine ⟨⟨by omega, fun F hF hW h0 h1 => ?_⟩, rfl⟩
      have e := q2.2 F hF hW h0 h1
      have hm := hW.1
      rw [← sd_lm_py hW (by omega), ← e]
      omega
theorem v3_X0_canPay {fr lo i : Nat} {own : String} (h1 : 2 + 1 ≤ fr) (h2 : 8 + (2 + 11) + 43 ≤ lo) (h3 : .methodLink own i yX0_canPay ∈ lw_tbl) : pz_cV fr lo own i k3_X0_canPay :=
  pz_cVk (maxL := 2) (fr' := 2) (lo' := 43) 1 0 h3_X0_canPay rfl ⟨(pz_nhc_RX0 yX0_canPay rfl).1, (pz_nhc_RX0 yX0_canPay rfl).2, pz_ds9⟩ ⟨pz_wq629, pz_wq627, pz_wq628, pz_wq2⟩ (Or.inl ⟨TX0, 8, rfl⟩) (fun a M _ h => by
    have h : (match (generalizing := false) a with | [.inr (.inr (0, c)), .inl i] => pz_ic M | _ => False) := h
    split at h
    · exact ⟨_, _, rfl⟩
    · exact h.elim) h1 h2 h3
noncomputable def k3_X0_canBridge : pz_C := (2, 1, fun a M => (match a with | [.inr (.inr (0, c)), .inl i] => pz_ic M | _ => False), fun a M r M' => (match a, r with | [.inr (.inr (0, c)), .inl i], some (.inl v) => ((v = 0 ∨ v = 1) ∧ sd_q M c (fun F => v = 1 ↔ (0 ≤ i ∧ sd_cb F i.toNat))) ∧ M = M' | _, _ => False))
noncomputable abbrev ct3_X0_canBridge : List (Bool × Nat × pz_C) := [(true, 48, k_X0_at), (true, 71, k_X5_isIn)]
set_option maxRecDepth 100000 in
set_option maxHeartbeats 4000000 in
theorem h3_X0_canBridge : pz_H yX0_canBridge cX0_canBridge 2 (some .boolean) k3_X0_canBridge 1 21 := by
  refine pz_mk (own := RX0) (tb := t_X0_canBridge) (fl := pz_flf fl_RX0) (ci := pz_cif ci_RX0) (ct := pz_ctf ct3_X0_canBridge) (rz := true) (pz_pfc_RX0 yX0_canBridge rfl) rfl t_X0_canBridge_ok (pz_flk fl_RX0_ok) (pz_cik ci_RX0_ok) ?_ ?_ (Or.inr ⟨rfl, rfl⟩) ?_ ?_
  · exact fun i k' h => pz_ctk (l := ct3_X0_canBridge) (P := fun b i k => b = true → pz_cV 1 21 RX0 i k) (List.forall_mem_cons.mpr ⟨(fun _ => v_X0_at (by decide) (by decide) pz_wq494), List.forall_mem_cons.mpr ⟨(fun _ => v_X5_isIn (by decide) (by decide) pz_wq529), fun _ h => absurd h List.not_mem_nil⟩⟩) true i k' h rfl
  · exact fun i k' h => pz_ctk (l := ct3_X0_canBridge) (P := fun b i k => b = false → (pz_cS 1 21 RX0 i k ∨ (k = pz_kac ∧ 1 ≤ 1 ∧ 60 ≤ 21 ∧ Cond.methodLink RX0 i arraycopyName ∈ pz_tbl))) (List.forall_mem_cons.mpr ⟨((fun z => by cases z)), List.forall_mem_cons.mpr ⟨((fun z => by cases z)), fun _ h => absurd h List.not_mem_nil⟩⟩) false i k' h rfl
  · intro a M hlen hpre
    obtain ⟨c, i, rfl, hpre⟩ : ∃ c i, a = [.inr (.inr (0, c)), .inl i] ∧ (pz_ic M) := by
      have hpre : (match (generalizing := false) a with | [.inr (.inr (0, c)), .inl i] => pz_ic M | _ => False) := hpre
      split at hpre
      · exact ⟨_, _, rfl, hpre⟩
      · exact hpre.elim
    exact Nat.le_of_ble_eq_true rfl
  · intro a M hlen hcan hM hpre Ok hgo
    obtain ⟨c, i, rfl, hpre⟩ : ∃ c i, a = [.inr (.inr (0, c)), .inl i] ∧ (pz_ic M) := by
      have hpre : (match (generalizing := false) a with | [.inr (.inr (0, c)), .inl i] => pz_ic M | _ => False) := hpre
      split at hpre
      · exact ⟨_, _, rfl, hpre⟩
      · exact hpre.elim
    obtain ⟨k_c, hc_c⟩ := pz_tlm hcan
    have k_c : pz_kd c = 0 ∧ c < 231 := k_c
    have R_c := pz_kd0 k_c.1
    obtain ⟨k_i, hc_i⟩ := pz_tlm hc_c
    have l_i : -2147483648 ≤ i := k_i.1
    have u_i : i ≤ 2147483647 := k_i.2
    have hI : pz_ic M := hpre
    refine hgo (fun _ => false) 24 0 _ [] M ?_
    refine And.intro (fun h1 => ?_) (fun h1 => ?_)
    · skip
      refine And.intro (by omega) ?_
      refine And.intro rfl ?_
      refine ⟨⟨by omega, fun F hF hW => ?_⟩, rfl⟩
      have hn := hF.1
      have hm := hW.1
      first
        | (have b6 := (sd_at R_c hF hW (show 0 ≤ i by omega) (by omega) A16).2.2.2.2.2.2.1
           have b5 := (sd_at R_c hF hW (show 0 ≤ i by omega) (by omega) A27).2.2.2.2.2.1
           have b7 := (sd_at R_c hF hW (show 0 ≤ i by omega) (by omega) A27).2.2.2.2.2.2.2
           have P := hW.2.2 i.toNat (by omega)
           unfold sd_lw at P
           rw [b5, b7] at q30
           unfold sd_cb sd_in
           split at q30 <;> omega)
        | (have b6 := (sd_at R_c hF hW (show 0 ≤ i by omega) (by omega) A16).2.2.2.2.2.2.1
           have P := hW.2.2 i.toNat (by omega)
           unfold sd_lw at P
           unfold sd_cb
           omega)
        | (unfold sd_cb
           omega)
    · skip
      intro v6 e6 a6 b6
      have I6 := hI.1 c (by omega) (by omega)
      intro v10 e10 a10 b10
      try rw [pz_wi (by omega) (by omega)] at e10
      refine And.intro (fun h11 => ?_) (fun h11 => ?_)
      · skip
        refine And.intro (by omega) ?_
        refine And.intro rfl ?_
        refine ⟨⟨by omega, fun F hF hW => ?_⟩, rfl⟩
        have hn := hF.1
        have hm := hW.1
        first
          | (have b6 := (sd_at R_c hF hW (show 0 ≤ i by omega) (by omega) A16).2.2.2.2.2.2.1
             have b5 := (sd_at R_c hF hW (show 0 ≤ i by omega) (by omega) A27).2.2.2.2.2.1
             have b7 := (sd_at R_c hF hW (show 0 ≤ i by omega) (by omega) A27).2.2.2.2.2.2.2
             have P := hW.2.2 i.toNat (by omega)
             unfold sd_lw at P
             rw [b5, b7] at q30
             unfold sd_cb sd_in
             split at q30 <;> omega)
          | (have b6 := (sd_at R_c hF hW (show 0 ≤ i by omega) (by omega) A16).2.2.2.2.2.2.1
             have P := hW.2.2 i.toNat (by omega)
             unfold sd_lw at P
             unfold sd_cb
             omega)
          | (unfold sd_cb
             omega)
      · skip
        refine And.intro (True.intro) ?_
        intro r16 M16 k16 q16
        have R16 := pz_kd5 k16
        obtain ⟨q16, z16⟩ := q16
        subst z16
        have A16 := pz_at_lk R_c q16
        have B16 : 89 + 13 * (c - 71) ≤ r16 ∧ r16 ≤ 89 + 13 * (c - 71) + 12 := by
          rw [A16]
          exact pz_lnk_c
        intro v19 e19 a19 b19
        refine And.intro (fun h22 => ?_) (fun h22 => ?_)
        · skip
          refine And.intro (by omega) ?_
          refine And.intro rfl ?_
          refine ⟨⟨by omega, fun F hF hW => ?_⟩, rfl⟩
          have hn := hF.1
          have hm := hW.1
          first
            | (have b6 := (sd_at R_c hF hW (show 0 ≤ i by omega) (by omega) A16).2.2.2.2.2.2.1
               have b5 := (sd_at R_c hF hW (show 0 ≤ i by omega) (by omega) A27).2.2.2.2.2.1
               have b7 := (sd_at R_c hF hW (show 0 ≤ i by omega) (by omega) A27).2.2.2.2.2.2.2
               have P := hW.2.2 i.toNat (by omega)
               unfold sd_lw at P
               rw [b5, b7] at q30
               unfold sd_cb sd_in
               split at q30 <;> omega)
            | (have b6 := (sd_at R_c hF hW (show 0 ≤ i by omega) (by omega) A16).2.2.2.2.2.2.1
               have P := hW.2.2 i.toNat (by omega)
               unfold sd_lw at P
               unfold sd_cb
               omega)
            | (unfold sd_cb
               omega)
        · skip
          refine And.intro (True.intro) ?_
          intro r27 M27 k27 q27
          have R27 := pz_kd5 k27
          obtain ⟨q27, z27⟩ := q27
          subst z27
          have A27 := pz_at_lk R_c q27
          have B27 : 89 + 13 * (c - 71) ≤ r27 ∧ r27 ≤ 89 + 13 * (c - 71) + 12 := by
            rw [A27]
            exact pz_lnk_c
          refine And.intro (True.intro) ?_
          intro v30 M30 a30 b30 q30
          obtain ⟨q30, z30⟩ := q30
          subst z30
          refine And.intro (fun h33 => ?_) (fun h33 => ?_)
          · skip
            refine And.intro (by omega) ?_
            refine And.intro rfl ?_
            refine ⟨⟨by omega, fun F hF hW => ?_⟩, rfl⟩
            have hn := hF.1
            have hm := hW.1
            first
              | (have b6 := (sd_at R_c hF hW (show 0 ≤ i by omega) (by omega) A16).2.2.2.2.2.2.1
                 have b5 := (sd_at R_c hF hW (show 0 ≤ i by omega) (by omega) A27).2.2.2.2.2.1
                 have b7 := (sd_at R_c hF hW (show 0 ≤ i by omega) (by omega) A27).2.2.2.2.2.2.2
                 have P := hW.2.2 i.toNat (by omega)
                 unfold sd_lw at P
                 rw [b5, b7] at q30
                 unfold sd_cb sd_in
                 split at q30 <;> omega)
              | (have b6 := (sd_at R_c hF hW (show 0 ≤ i by omega) (by omega) A16).2.2.2.2.2.2.1
                 have P := hW.2.2 i.toNat (by omega)
                 unfold sd_lw at P
                 unfold sd_cb
                 omega)
              | (unfold sd_cb
                 omega)
          · skip
            refine And.intro (by omega) ?_
            refine And.intro rfl ?_
            refine ⟨⟨by omega, fun F hF hW => ?_⟩, rfl⟩
            have hn := hF.1
            have hm := hW.1
            first
              | (have b6 := (sd_at R_c hF hW (show 0 ≤ i by omega) (by omega) A16).2.2.2.2.2.2.1
                 have b5 := (sd_at R_c hF hW (show 0 ≤ i by omega) (by omega) A27).2.2.2.2.2.1
                 have b7 := (sd_at R_c hF hW (show 0 ≤ i by omega) (by omega) A27).2.2.2.2.2.2.2
                 have P := hW.2.2 i.toNat (by omega)
                 unfold sd_lw at P
                 rw [b5, b7] at q30
                 unfold sd_cb sd_in
                 split at q30 <;> omega)
              | (have b6 := (sd_at R_c hF hW (show 0 ≤ i by omega) (by omega) A16).2.2.2.2.2.2.1
                 have P := hW.2.2 i.toNat (by omega)
                 unfold sd_lw at P
                 unfold sd_cb
                 omega)
              | (unfold sd_cb
                 omega)
theorem v3_X0_canBridge {fr lo i : Nat} {own : String} (h1 : 1 + 1 ≤ fr) (h2 : 8 + (2 + 11) + 21 ≤ lo) (h3 : .methodLink own i yX0_canBridge ∈ lw_tbl) : pz_cV fr lo own i k3_X0_canBridge :=
  pz_cVk (maxL := 2) (fr' := 1) (lo' := 21) 1 0 h3_X0_canBridge rfl ⟨(pz_nhc_RX0 yX0_canBridge rfl).1, (pz_nhc_RX0 yX0_canBridge rfl).2, pz_ds9⟩ ⟨pz_wq528, pz_wq526, pz_wq527, pz_wq2⟩ (Or.inl ⟨TX0, 8, rfl⟩) (fun a M _ h => by
    have h : (match (generalizing := false) a with | [.inr (.inr (0, c)), .inl i] => pz_ic M | _ => False) := h
    split at h
    · exact ⟨_, _, rfl⟩
    · exact h.elim) h1 h2 h3
