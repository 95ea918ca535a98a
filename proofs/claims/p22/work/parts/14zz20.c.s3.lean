noncomputable def k3_X0_lackOfMoney : pz_C := (2, 1, fun a M => (match a with | [.inr (.inr (0, c)), .inl i] => pz_ic M | _ => False), fun a M r M' => (match a, r with | [.inr (.inr (0, c)), .inl i], some (.inl v) => (0 ≤ v ∧ sd_q M c (fun F => 0 ≤ i → i < F 88 → v = sd_lm F i.toNat)) ∧ M = M' | _, _ => False))
noncomputable abbrev ct3_X0_lackOfMoney : List (Bool × Nat × pz_C) := [(true, 48, k_X0_at), (false, 58, k_J9_max_7cf53)]
set_option maxRecDepth 100000 in
set_option maxHeartbeats 4000000 in
theorem h3_X0_lackOfMoney : pz_H yX0_lackOfMoney cX0_lackOfMoney 3 (some .int) k3_X0_lackOfMoney 1 21 := by
  refine pz_mk (own := RX0) (tb := t_X0_lackOfMoney) (fl := pz_flf fl_RX0) (ci := pz_cif ci_RX0) (ct := pz_ctf ct3_X0_lackOfMoney) (rz := false) (pz_pfc_RX0 yX0_lackOfMoney rfl) rfl t_X0_lackOfMoney_ok (pz_flk fl_RX0_ok) (pz_cik ci_RX0_ok) ?_ ?_ (Or.inl ⟨rfl, rfl⟩) ?_ ?_
  · exact fun i k' h => pz_ctk (l := ct3_X0_lackOfMoney) (P := fun b i k => b = true → pz_cV 1 21 RX0 i k) (List.forall_mem_cons.mpr ⟨(fun _ => v_X0_at (by decide) (by decide) pz_wq494), List.forall_mem_cons.mpr ⟨((fun z => by cases z)), fun _ h => absurd h List.not_mem_nil⟩⟩) true i k' h rfl
  · exact fun i k' h => pz_ctk (l := ct3_X0_lackOfMoney) (P := fun b i k => b = false → (pz_cS 1 21 RX0 i k ∨ (k = pz_kac ∧ 1 ≤ 1 ∧ 60 ≤ 21 ∧ Cond.methodLink RX0 i arraycopyName ∈ pz_tbl))) (List.forall_mem_cons.mpr ⟨((fun z => by cases z)), List.forall_mem_cons.mpr ⟨(fun _ => Or.inl (s_J9_max_7cf53 (by decide) (by decide) (Or.inl pz_wq634))), fun _ h => absurd h List.not_mem_nil⟩⟩) false i k' h rfl
  · intro a M hlen hpre
    obtain ⟨c, i, rfl, hpre⟩ : ∃ c i, a = [.inr (.inr (0, c)), .inl i] ∧ (pz_ic M) := by
      have hpre : (match (generalizing := false) a with | [.inr (.inr (0, c)), .inl i] => pz_ic M | _ => False) := hpre
      split at hpre
      · exact ⟨_, _, rfl, hpre⟩
      · exact hpre.elim
    exact Nat.le_of_ble_eq_true rfl
  · intro a M hlen hcan hM hpre Ok hgo
    obtain ⟨c, i, rfl, hpre⟩ : ∃ c i, a = [.inr (.inr (0, c)), .inl i] ∧ (pz_ic M) := by
      have hpre : (match (generalizing := false) a with | [.inr (.inr (0, c)), .inl i] => pz_ic M | _ => False) := hpre
      split at hpre
      · exact ⟨_, _, rfl, hpre⟩
      · exact hpre.elim
    obtain ⟨k_c, hc_c⟩ := pz_tlm hcan
    have k_c : pz_kd c = 0 ∧ c < 231 := k_c
    have R_c := pz_kd0 k_c.1
    obtain ⟨k_i, hc_i⟩ := pz_tlm hc_c
    have l_i : -2147483648 ≤ i := k_i.1
    have u_i : i ≤ 2147483647 := k_i.2
    have hI : pz_ic M := hpre
    refine hgo (fun _ => false) 35 0 _ [] M ?_
    intro v2 e2 a2 b2
    have I2 := hI.1 c (by first | decide | omega) (by first | decide | omega)
    intro v6 e6 a6 b6
    try rw [pz_wi (by first | decide | omega) (by first | decide | omega)] at e6
    refine And.intro (fun h7 => ?_) (fun h7 => ?_)
    · skip
      refine And.intro (True.intro) ?_
      intro r14 M14 k14 q14
      have R14 := pz_kd5 k14
      obtain ⟨q14, z14⟩ := q14
      subst z14
      have A14 := pz_at_lk R_c q14
      have B14 : 89 + 13 * (c - 71) ≤ r14 ∧ r14 ≤ 89 + 13 * (c - 71) + 12 := by
        rw [A14]
        exact pz_lnk_c
      intro v17 e17 a17 b17
      refine And.intro (fun h21 => ?_) (fun h21 => ?_)
      · skip
        intro v36 e36 a36 b36
        intro v42 e42 a42 b42
        try rw [pz_wi (by first | decide | omega) (by first | decide | omega)] at e42
        refine And.intro (True.intro) ?_
        intro r43 M43 k43 q43
        have R43 := pz_kd5 k43
        obtain ⟨q43, z43⟩ := q43
        subst z43
        have A43 := pz_at_lk R_c q43
        have B43 : 89 + 13 * (c - 71) ≤ r43 ∧ r43 ≤ 89 + 13 * (c - 71) + 12 := by
          rw [A43]
          exact pz_lnk_c
        intro v46 e46 a46 b46
        intro v50 e50 a50 b50
        refine And.intro (True.intro) ?_
        intro v51 M51 a51 b51 q51
        obtain ⟨q51, z51⟩ := q51
        subst z51
        refine And.intro rfl ?_
        refine ⟨⟨by omega, fun F hF hW h0 h1 => ?_⟩, rfl⟩
        have hn := hF.1
        have hm := hW.1
        have b1 := (sd_at R_c hF hW h0 h1 A14).2.1
        have c0 := (sd_at R_c hF hW (show 0 ≤ v42 by omega) (show v42 < F 88 by omega) A43).1
        rw [show 4 + v42.toNat = 5 + i.toNat by omega] at c0
        obtain ⟨P0, P1, -⟩ := hW.2.2 i.toNat (by first | decide | omega)
        have P2 := (hW.2.2 (i.toNat + 1) (by first | decide | omega)).1
        rw [show 4 + (i.toNat + 1) = 5 + i.toNat by omega] at P2
        unfold sd_lm
        rw [if_neg (by first | decide | omega)]
        first
          | (have b0 := (sd_at R_c hF hW h0 h1 A26).1
             rw [pz_wi (by first | decide | omega) (by first | decide | omega)] at e36
             rw [pz_wi (by first | decide | omega) (by first | decide | omega)] at e50
             rw [if_neg (by first | decide | omega)]
             omega)
          | (rw [pz_wi (by first | decide | omega) (by first | decide | omega)] at e36
             rw [pz_wi (by first | decide | omega) (by first | decide | omega)] at e50
             rw [if_pos (by first | decide | omega)]
             omega)
      · skip
        refine And.intro (True.intro) ?_
        intro r26 M26 k26 q26
        have R26 := pz_kd5 k26
        obtain ⟨q26, z26⟩ := q26
        subst z26
        have A26 := pz_at_lk R_c q26
        have B26 : 89 + 13 * (c - 71) ≤ r26 ∧ r26 ≤ 89 + 13 * (c - 71) + 12 := by
          rw [A26]
          exact pz_lnk_c
        intro v29 e29 a29 b29
        intro v36 e36 a36 b36
        intro v42 e42 a42 b42
        try rw [pz_wi (by first | decide | omega) (by first | decide | omega)] at e42
        refine And.intro (True.intro) ?_
        intro r43 M43 k43 q43
        have R43 := pz_kd5 k43
        obtain ⟨q43, z43⟩ := q43
        subst z43
        have A43 := pz_at_lk R_c q43
        have B43 : 89 + 13 * (c - 71) ≤ r43 ∧ r43 ≤ 89 + 13 * (c - 71) + 12 := by
          rw [A43]
          exact pz_lnk_c
        intro v46 e46 a46 b46
        intro v50 e50 a50 b50
        refine And.intro (True.intro) ?_
        intro v51 M51 a51 b51 q51
        obtain ⟨q51, z51⟩ := q51
        subst z51
        refine And.intro rfl ?_
        refine ⟨⟨by omega, fun F hF hW h0 h1 => ?_⟩, rfl⟩
        have hn := hF.1
        have hm := hW.1
        have b1 := (sd_at R_c hF hW h0 h1 A14).2.1
        have c0 := (sd_at R_c hF hW (show 0 ≤ v42 by omega) (show v42 < F 88 by omega) A43).1
        rw [show 4 + v42.toNat = 5 + i.toNat by omega] at c0
        obtain ⟨P0, P1, -⟩ := hW.2.2 i.toNat (by first | decide | omega)
        have P2 := (hW.2.2 (i.toNat + 1) (by first | decide | omega)).1
        rw [show 4 + (i.toNat + 1) = 5 + i.toNat by omega] at P2
        unfold sd_lm
        rw [if_neg (by first | decide | omega)]
        first
          | (have b0 := (sd_at R_c hF hW h0 h1 A26).1
             rw [pz_wi (by first | decide | omega) (by first | decide | omega)] at e36
             rw [pz_wi (by first | decide | omega) (by first | decide | omega)] at e50
             rw [if_neg (by first | decide | omega)]
             omega)
          | (rw [pz_wi (by first | decide | omega) (by first | decide | omega)] at e36
             rw [pz_wi (by first | decide | omega) (by first | decide | omega)] at e50
             rw [if_pos (by first | decide | omega)]
             omega)
    · skip
      refine And.intro rfl ?_
      refine ⟨⟨by omega, fun F hF hW h0 h1 => ?_⟩, rfl⟩
      have hn := hF.1
      have hm := hW.1
      unfold sd_lm
      rw [if_pos (by first | decide | omega)]
theorem v3_X0_lackOfMoney {fr lo i : Nat} {own : String} (h1 : 1 + 1 ≤ fr) (h2 : 8 + (3 + 11) + 21 ≤ lo) (h3 : .methodLink own i yX0_lackOfMoney ∈ lw_tbl) : pz_cV fr lo own i k3_X0_lackOfMoney :=
  pz_cVk (maxL := 3) (fr' := 1) (lo' := 21) 1 0 h3_X0_lackOfMoney rfl ⟨(pz_nhc_RX0 yX0_lackOfMoney rfl).1, (pz_nhc_RX0 yX0_lackOfMoney rfl).2, pz_ds5⟩ ⟨pz_wq633, pz_wq631, pz_wq632, pz_wq2⟩ (Or.inl ⟨TX0, 8, rfl⟩) (fun a M _ h => by
    have h : (match (generalizing := false) a with | [.inr (.inr (0, c)), .inl i] => pz_ic M | _ => False) := h
    split at h
    · exact ⟨_, _, rfl⟩
    · exact h.elim) h1 h2 h3
noncomputable def k3_X0_canPay : pz_C := (2, 1, fun a M => (match a with | [.inr (.inr (0, c)), .inl i] => pz_ic M | _ => False), fun a M r M' => (match a, r with | [.inr (.inr (0, c)), .inl i], some (.inl v) => ((v = 0 ∨ v = 1) ∧ sd_q M c (fun F => 0 ≤ i → i < F 88 → (v = 1 ↔ sd_py F i.toNat))) ∧ M = M' | _, _ => False))
noncomputable abbrev ct3_X0_canPay : List (Bool × Nat × pz_C) := [(true, 64, k3_X0_lackOfMoney)]
set_option maxRecDepth 100000 in
set_option maxHeartbeats 4000000 in
theorem h3_X0_canPay : pz_H yX0_canPay cX0_canPay 2 (some .boolean) k3_X0_canPay 2 43 := by
  refine pz_mk (own := RX0) (tb := t_X0_canPay) (fl := pz_flf fl_RX0) (ci := pz_cif ci_RX0) (ct := pz_ctf ct3_X0_canPay) (rz := true) (pz_pfc_RX0 yX0_canPay rfl) rfl t_X0_canPay_ok (pz_flk fl_RX0_ok) (pz_cik ci_RX0_ok) ?_ ?_ (Or.inr ⟨rfl, rfl⟩) ?_ ?_
  · exact fun i k' h => pz_ctk (l := ct3_X0_canPay) (P := fun b i k => b = true → pz_cV 2 43 RX0 i k) (List.forall_mem_cons.mpr ⟨(fun _ => v3_X0_lackOfMoney (by decide) (by decide) pz_wq630), fun _ h => absurd h List.not_mem_nil⟩) true i k' h rfl
  · exact fun i k' h => pz_ctk (l := ct3_X0_canPay) (P := fun b i k => b = false → (pz_cS 2 43 RX0 i k ∨ (k = pz_kac ∧ 1 ≤ 2 ∧ 60 ≤ 43 ∧ Cond.methodLink RX0 i arraycopyName ∈ pz_tbl))) (List.forall_mem_cons.mpr ⟨((fun z => by cases z)), fun _ h => absurd h List.not_mem_nil⟩) false i k' h rfl
  · intro a M hlen hpre
    obtain ⟨c, i, rfl, hpre⟩ : ∃ c i, a = [.inr (.inr (0, c)), .inl i] ∧ (pz_ic M) := by
      have hpre : (match (generalizing := false) a with | [.inr (.inr (0, c)), .inl i] => pz_ic M | _ => False) := hpre
      split at hpre
      · exact ⟨_, _, rfl, hpre⟩
      · exact hpre.elim
    exact Nat.le_of_ble_eq_true rfl
  · intro a M hlen hcan hM hpre Ok hgo
    obtain ⟨c, i, rfl, hpre⟩ : ∃ c i, a = [.inr (.inr (0, c)), .inl i] ∧ (pz_ic M) := by
      have hpre : (match (generalizing := false) a with | [.inr (.inr (0, c)), .inl i] => pz_ic M | _ => False) := hpre
      split at hpre
      · exact ⟨_, _, rfl, hpre⟩
      · exact hpre.elim
    obtain ⟨k_c, hc_c⟩ := pz_tlm hcan
    have k_c : pz_kd c = 0 ∧ c < 231 := k_c
    have R_c := pz_kd0 k_c.1
    obtain ⟨k_i, hc_i⟩ := pz_tlm hc_c
    have l_i : -2147483648 ≤ i := k_i.1
    have u_i : i ≤ 2147483647 := k_i.2
    have hI : pz_ic M := hpre
    refine hgo (fun _ => false) 10 0 _ [] M ?_
    refine And.intro (hI) ?_
    intro v2 M2 a2 b2 q2
    obtain ⟨q2, z2⟩ := q2
    subst z2
    refine And.intro (fun h5 => ?_) (fun h5 => ?_)
    · skip
      refine And.intro (by first | decide | omega) ?_
      refine And.intro rfl ?_
      refine ⟨⟨by omega, fun F hF hW h0 h1 => ?_⟩, rfl⟩
      have e := q2.2 F hF hW h0 h1
      have hm := hW.1
      rw [← sd_lm_py hW (by first | decide | omega), ← e]
      omega
    · skip
      refine And.intro (by first | decide | omega) ?_
      refine And.intro rfl ?_
      refine ⟨⟨by omega, fun F hF hW h0 h1 => ?_⟩, rfl⟩
      have e := q2.2 F hF hW h0 h1
      have hm := hW.1
      rw [← sd_lm_py hW (by first | decide | omega), ← e]
      omega
theorem v3_X0_canPay {fr lo i : Nat} {own : String} (h1 : 2 + 1 ≤ fr) (h2 : 8 + (2 + 11) + 43 ≤ lo) (h3 : .methodLink own i yX0_canPay ∈ lw_tbl) : pz_cV fr lo own i k3_X0_canPay :=
  pz_cVk (maxL := 2) (fr' := 2) (lo' := 43) 1 0 h3_X0_canPay rfl ⟨(pz_nhc_RX0 yX0_canPay rfl).1, (pz_nhc_RX0 yX0_canPay rfl).2, pz_ds9⟩ ⟨pz_wq629, pz_wq627, pz_wq628, pz_wq2⟩ (Or.inl ⟨TX0, 8, rfl⟩) (fun a M _ h => by
    have h : (match (generalizing := false) a with | [.inr (.inr (0, c)), .inl i] => pz_ic M | _ => False) := h
    split at h
    · exact ⟨_, _, rfl⟩
    · exact h.elim) h1 h2 h3
noncomputable def k3_X0_canBridge : pz_C := (2, 1, fun a M => (match a with | [.inr (.inr (0, c)), .inl i] => pz_ic M | _ => False), fun a M r M' => (match a, r with | [.inr (.inr (0, c)), .inl i], some (.inl v) => ((v = 0 ∨ v = 1) ∧ sd_q M c (fun F => v = 1 ↔ (0 ≤ i ∧ sd_cb F i.toNat))) ∧ M = M' | _, _ => False))
noncomputable abbrev ct3_X0_canBridge : List (Bool × Nat × pz_C) := [(true, 48, k_X0_at), (true, 71, k_X5_isIn)]
set_option maxRecDepth 100000 in
set_option maxHeartbeats 4000000 in
theorem h3_X0_canBridge : pz_H yX0_canBridge cX0_canBridge 2 (some .boolean) k3_X0_canBridge 1 21 := by
  refine pz_mk (own := RX0) (tb := t_X0_canBridge) (fl := pz_flf fl_RX0) (ci := pz_cif ci_RX0) (ct := pz_ctf ct3_X0_canBridge) (rz := true) (pz_pfc_RX0 yX0_canBridge rfl) rfl t_X0_canBridge_ok (pz_flk fl_RX0_ok) (pz_cik ci_RX0_ok) ?_ ?_ (Or.inr ⟨rfl, rfl⟩) ?_ ?_
  · exact fun i k' h => pz_ctk (l := ct3_X0_canBridge) (P := fun b i k => b = true → pz_cV 1 21 RX0 i k) (List.forall_mem_cons.mpr ⟨(fun _ => v_X0_at (by decide) (by decide) pz_wq494), List.forall_mem_cons.mpr ⟨(fun _ => v_X5_isIn (by decide) (by decide) pz_wq529), fun _ h => absurd h List.not_mem_nil⟩⟩) true i k' h rfl
  · exact fun i k' h => pz_ctk (l := ct3_X0_canBridge) (P := fun b i k => b = false → (pz_cS 1 21 RX0 i k ∨ (k = pz_kac ∧ 1 ≤ 1 ∧ 60 ≤ 21 ∧ Cond.methodLink RX0 i arraycopyName ∈ pz_tbl))) (List.forall_mem_cons.mpr ⟨((fun z => by cases z)), List.forall_mem_cons.mpr ⟨((fun z => by cases z)), fun _ h => absurd h List.not_mem_nil⟩⟩) false i k' h rfl
  · intro a M hlen hpre
    obtain ⟨c, i, rfl, hpre⟩ : ∃ c i, a = [.inr (.inr (0, c)), .inl i] ∧ (pz_ic M) := by
      have hpre : (match (generalizing := false) a with | [.inr (.inr (0, c)), .inl i] => pz_ic M | _ => False) := hpre
      split at hpre
      · exact ⟨_, _, rfl, hpre⟩
      · exact hpre.elim
    exact Nat.le_of_ble_eq_true rfl
  · intro a M hlen hcan hM hpre Ok hgo
    obtain ⟨c, i, rfl, hpre⟩ : ∃ c i, a = [.inr (.inr (0, c)), .inl i] ∧ (pz_ic M) := by
      have hpre : (match (generalizing := false) a with | [.inr (.inr (0, c)), .inl i] => pz_ic M | _ => False) := hpre
      split at hpre
      · exact ⟨_, _, rfl, hpre⟩
      · exact hpre.elim
    obtain ⟨k_c, hc_c⟩ := pz_tlm hcan
    have k_c : pz_kd c = 0 ∧ c < 231 := k_c
    have R_c := pz_kd0 k_c.1
    obtain ⟨k_i, hc_i⟩ := pz_tlm hc_c
    have l_i : -2147483648 ≤ i := k_i.1
    have u_i : i ≤ 2147483647 := k_i.2
    have hI : pz_ic M := hpre
    refine hgo (fun _ => false) 24 0 _ [] M ?_
    refine And.intro (fun h1 => ?_) (fun h1 => ?_)
    · skip
      refine And.intro (by first | decide | omega) ?_
      refine And.intro rfl ?_
      refine ⟨⟨by omega, fun F hF hW => ?_⟩, rfl⟩
      have hn := hF.1
      have hm := hW.1
      first
        | (have b6 := (sd_at R_c hF hW (show 0 ≤ i by omega) (by first | decide | omega) A16).2.2.2.2.2.2.1
           have b5 := (sd_at R_c hF hW (show 0 ≤ i by omega) (by first | decide | omega) A27).2.2.2.2.2.1
           have b7 := (sd_at R_c hF hW (show 0 ≤ i by omega) (by first | decide | omega) A27).2.2.2.2.2.2.2
           have P := hW.2.2 i.toNat (by first | decide | omega)
           unfold sd_lw at P
           rw [b5, b7] at q30
           unfold sd_cb sd_in
           split at q30 <;> omega)
        | (have b6 := (sd_at R_c hF hW (show 0 ≤ i by omega) (by first | decide | omega) A16).2.2.2.2.2.2.1
           have P := hW.2.2 i.toNat (by first | decide | omega)
           unfold sd_lw at P
           unfold sd_cb
           omega)
        | (unfold sd_cb
           omega)
    · skip
      intro v6 e6 a6 b6
      have I6 := hI.1 c (by first | decide | omega) (by first | decide | omega)
      intro v10 e10 a10 b10
      try rw [pz_wi (by first | decide | omega) (by first | decide | omega)] at e10
      refine And.intro (fun h11 => ?_) (fun h11 => ?_)
      · skip
        refine And.intro (by first | decide | omega) ?_
        refine And.intro rfl ?_
        refine ⟨⟨by omega, fun F hF hW => ?_⟩, rfl⟩
        have hn := hF.1
        have hm := hW.1
        first
          | (have b6 := (sd_at R_c hF hW (show 0 ≤ i by omega) (by first | decide | omega) A16).2.2.2.2.2.2.1
             have b5 := (sd_at R_c hF hW (show 0 ≤ i by omega) (by first | decide | omega) A27).2.2.2.2.2.1
             have b7 := (sd_at R_c hF hW (show 0 ≤ i by omega) (by first | decide | omega) A27).2.2.2.2.2.2.2
             have P := hW.2.2 i.toNat (by first | decide | omega)
             unfold sd_lw at P
             rw [b5, b7] at q30
             unfold sd_cb sd_in
             split at q30 <;> omega)
          | (have b6 := (sd_at R_c hF hW (show 0 ≤ i by omega) (by first | decide | omega) A16).2.2.2.2.2.2.1
             have P := hW.2.2 i.toNat (by first | decide | omega)
             unfold sd_lw at P
             unfold sd_cb
             omega)
          | (unfold sd_cb
             omega)
      · skip
        refine And.intro (True.intro) ?_
        intro r16 M16 k16 q16
        have R16 := pz_kd5 k16
        obtain ⟨q16, z16⟩ := q16
        subst z16
        have A16 := pz_at_lk R_c q16
        have B16 : 89 + 13 * (c - 71) ≤ r16 ∧ r16 ≤ 89 + 13 * (c - 71) + 12 := by
          rw [A16]
          exact pz_lnk_c
        intro v19 e19 a19 b19
        refine And.intro (fun h22 => ?_) (fun h22 => ?_)
        · skip
          refine And.intro (by first | decide | omega) ?_
          refine And.intro rfl ?_
          refine ⟨⟨by omega, fun F hF hW => ?_⟩, rfl⟩
          have hn := hF.1
          have hm := hW.1
          first
            | (have b6 := (sd_at R_c hF hW (show 0 ≤ i by omega) (by first | decide | omega) A16).2.2.2.2.2.2.1
               have b5 := (sd_at R_c hF hW (show 0 ≤ i by omega) (by first | decide | omega) A27).2.2.2.2.2.1
               have b7 := (sd_at R_c hF hW (show 0 ≤ i by omega) (by first | decide | omega) A27).2.2.2.2.2.2.2
               have P := hW.2.2 i.toNat (by first | decide | omega)
               unfold sd_lw at P
               rw [b5, b7] at q30
               unfold sd_cb sd_in
               split at q30 <;> omega)
            | (have b6 := (sd_at R_c hF hW (show 0 ≤ i by omega) (by first | decide | omega) A16).2.2.2.2.2.2.1
               have P := hW.2.2 i.toNat (by first | decide | omega)
               unfold sd_lw at P
               unfold sd_cb
               omega)
            | (unfold sd_cb
               omega)
        · skip
          refine And.intro (True.intro) ?_
          intro r27 M27 k27 q27
          have R27 := pz_kd5 k27
          obtain ⟨q27, z27⟩ := q27
          subst z27
          have A27 := pz_at_lk R_c q27
          have B27 : 89 + 13 * (c - 71) ≤ r27 ∧ r27 ≤ 89 + 13 * (c - 71) + 12 := by
            rw [A27]
            exact pz_lnk_c
          refine And.intro (True.intro) ?_
          intro v30 M30 a30 b30 q30
          obtain ⟨q30, z30⟩ := q30
          subst z30
          refine And.intro (fun h33 => ?_) (fun h33 => ?_)
          · skip
            refine And.intro (by first | decide | omega) ?_
            refine And.intro rfl ?_
            refine ⟨⟨by omega, fun F hF hW => ?_⟩, rfl⟩
            have hn := hF.1
            have hm := hW.1
            first
              | (have b6 := (sd_at R_c hF hW (show 0 ≤ i by omega) (by first | decide | omega) A16).2.2.2.2.2.2.1
                 have b5 := (sd_at R_c hF hW (show 0 ≤ i by omega) (by first | decide | omega) A27).2.2.2.2.2.1
                 have b7 := (sd_at R_c hF hW (show 0 ≤ i by omega) (by first | decide | omega) A27).2.2.2.2.2.2.2
                 have P := hW.2.2 i.toNat (by first | decide | omega)
                 unfold sd_lw at P
                 rw [b5, b7] at q30
                 unfold sd_cb sd_in
                 split at q30 <;> omega)
              | (have b6 := (sd_at R_c hF hW (show 0 ≤ i by omega) (by first | decide | omega) A16).2.2.2.2.2.2.1
                 have P := hW.2.2 i.toNat (by first | decide | omega)
                 unfold sd_lw at P
                 unfold sd_cb
                 omega)
              | (unfold sd_cb
                 omega)
          · skip
            refine And.intro (by first | decide | omega) ?_
            refine And.intro rfl ?_
            refine ⟨⟨by omega, fun F hF hW => ?_⟩, rfl⟩
            have hn := hF.1
            have hm := hW.1
            first
              | (have b6 := (sd_at R_c hF hW (show 0 ≤ i by omega) (by first | decide | omega) A16).2.2.2.2.2.2.1
                 have b5 := (sd_at R_c hF hW (show 0 ≤ i by omega) (by first | decide | omega) A27).2.2.2.2.2.1
                 have b7 := (sd_at R_c hF hW (show 0 ≤ i by omega) (by first | decide | omega) A27).2.2.2.2.2.2.2
                 have P := hW.2.2 i.toNat (by first | decide | omega)
                 unfold sd_lw at P
                 rw [b5, b7] at q30
                 unfold sd_cb sd_in
                 split at q30 <;> omega)
              | (have b6 := (sd_at R_c hF hW (show 0 ≤ i by omega) (by first | decide | omega) A16).2.2.2.2.2.2.1
                 have P := hW.2.2 i.toNat (by first | decide | omega)
                 unfold sd_lw at P
                 unfold sd_cb
                 omega)
              | (unfold sd_cb
                 omega)
theorem v3_X0_canBridge {fr lo i : Nat} {own : String} (h1 : 1 + 1 ≤ fr) (h2 : 8 + (2 + 11) + 21 ≤ lo) (h3 : .methodLink own i yX0_canBridge ∈ lw_tbl) : pz_cV fr lo own i k3_X0_canBridge :=
  pz_cVk (maxL := 2) (fr' := 1) (lo' := 21) 1 0 h3_X0_canBridge rfl ⟨(pz_nhc_RX0 yX0_canBridge rfl).1, (pz_nhc_RX0 yX0_canBridge rfl).2, pz_ds9⟩ ⟨pz_wq528, pz_wq526, pz_wq527, pz_wq2⟩ (Or.inl ⟨TX0, 8, rfl⟩) (fun a M _ h => by
    have h : (match (generalizing := false) a with | [.inr (.inr (0, c)), .inl i] => pz_ic M | _ => False) := h
    split at h
    · exact ⟨_, _, rfl⟩
    · exact h.elim) h1 h2 h3
noncomputable def k3_X1_write : pz_C := (5, 0, fun a M => (match a with | [.inr (.inr (1, d)), .inr (.inr (0, c)), .inl w, .inl i, .inl n] => pz_ic M | _ => False), fun a M r M' => (match a, r with | [.inr (.inr (1, d)), .inr (.inr (0, c)), .inl w, .inl i, .inl n], none => (sd_wr M M' c w i n) ∧ pq_pr (pq_Pd c) M M' | _, _ => False))
noncomputable abbrev ct3_X1_write : List (Bool × Nat × pz_C) := []
set_option maxRecDepth 100000 in
set_option maxHeartbeats 4000000 in
theorem h3_X1_write : pz_H yX1_write cX1_write 6 none k3_X1_write 0 0 := by
  refine pz_mk (own := RX1) (tb := t_X1_write) (fl := pz_flf fl_RX1) (ci := fun _ => none) (ct := pz_ctf ct3_X1_write) (rz := false) (pz_pfc_RX1 yX1_write rfl) rfl t_X1_write_ok (pz_flk fl_RX1_ok) (fun i v h => by cases h) ?_ ?_ (rfl) ?_ ?_
  · exact fun i k' h => pz_ctk (l := ct3_X1_write) (P := fun b i k => b = true → pz_cV 0 0 RX1 i k) (fun _ h => absurd h List.not_mem_nil) true i k' h rfl
  · exact fun i k' h => pz_ctk (l := ct3_X1_write) (P := fun b i k => b = false → (pz_cS 0 0 RX1 i k ∨ (k = pz_kac ∧ 1 ≤ 0 ∧ 60 ≤ 0 ∧ Cond.methodLink RX1 i arraycopyName ∈ pz_tbl))) (fun _ h => absurd h List.not_mem_nil) false i k' h rfl
  · intro a M hlen hpre
    obtain ⟨d, c, w, i, n, rfl, hpre⟩ : ∃ d c w i n, a = [.inr (.inr (1, d)), .inr (.inr (0, c)), .inl w, .inl i, .inl n] ∧ (pz_ic M) := by
      have hpre : (match (generalizing := false) a with | [.inr (.inr (1, d)), .inr (.inr (0, c)), .inl w, .inl i, .inl n] => pz_ic M | _ => False) := hpre
      split at hpre
      · exact ⟨_, _, _, _, _, rfl, hpre⟩
      · exact hpre.elim
    exact Nat.le_of_ble_eq_true rfl
  · intro a M hlen hcan hM hpre Ok hgo
    obtain ⟨d, c, w, i, n, rfl, hpre⟩ : ∃ d c w i n, a = [.inr (.inr (1, d)), .inr (.inr (0, c)), .inl w, .inl i, .inl n] ∧ (pz_ic M) := by
      have hpre : (match (generalizing := false) a with | [.inr (.inr (1, d)), .inr (.inr (0, c)), .inl w, .inl i, .inl n] => pz_ic M | _ => False) := hpre
      split at hpre
      · exact ⟨_, _, _, _, _, rfl, hpre⟩
      · exact hpre.elim
    obtain ⟨k_d, hc_d⟩ := pz_tlm hcan
    have k_d : pz_kd d = 1 ∧ d < 231 := k_d
    have R_d := pz_kd1 k_d.1
    subst R_d
    obtain ⟨k_c, hc_c⟩ := pz_tlm hc_d
    have k_c : pz_kd c = 0 ∧ c < 231 := k_c
    have R_c := pz_kd0 k_c.1
    obtain ⟨k_w, hc_w⟩ := pz_tlm hc_c
    have l_w : -2147483648 ≤ w := k_w.1
    have u_w : w ≤ 2147483647 := k_w.2
    obtain ⟨k_i, hc_i⟩ := pz_tlm hc_w
    have l_i : -2147483648 ≤ i := k_i.1
    have u_i : i ≤ 2147483647 := k_i.2
    obtain ⟨k_n, hc_n⟩ := pz_tlm hc_i
    have l_n : -2147483648 ≤ n := k_n.1
    have u_n : n ≤ 2147483647 := k_n.2
    have hI : pz_ic M := hpre
    have hI0 := hI
    have hS : pq_pr (pq_Pd c) M M := pq_pr.rf
    refine hgo (fun _ => false) 54 0 _ [] M ?_
    intro v1 e1 a1 b1
    have I1 := hI.1 c (by first | decide | omega) (by first | decide | omega)
    intro v5 e5 a5 b5
    rw [pz_wi (by first | decide | omega) (by first | decide | omega)] at e5
    intro v9 e9 a9 b9
    refine And.intro (fun h12 => ?_) (fun h12 => ?_)
    · skip
      refine And.intro rfl ?_
      refine ⟨fun F hF hP hW => ?_, hS⟩
      have h7 := hF.2.2.2.2.1
      have hb := hW.2.1
      have e9 : decide (M c 0 = 0) = false ∨ F 3 = 150 := by
        first
          | exact Or.inl (decide_eq_false (by first | decide | omega))
          | exact Or.inr (by first | decide | omega)
      rw [sd_note_n e9]
      exact ⟨hF, hP⟩
    · skip
      refine And.intro (fun h17 => ?_) (fun h17 => ?_)
      · skip
        refine And.intro rfl ?_
        refine ⟨fun F hF hP hW => ?_, hS⟩
        have h7 := hF.2.2.2.2.1
        have hb := hW.2.1
        have e9 : decide (M c 0 = 0) = false ∨ F 3 = 150 := by
          first
            | exact Or.inl (decide_eq_false (by first | decide | omega))
            | exact Or.inr (by first | decide | omega)
        rw [sd_note_n e9]
        exact ⟨hF, hP⟩
      · skip
        intro v23 e23 a23 b23
        try rw [pz_wi (by first | decide | omega) (by first | decide | omega)] at e23
        intro r25 e25 k25
        have R25 := pz_kdA k25 (by decide) (by decide)
        have Q25 := pz_nm e25 k_d.1 (by decide) (by decide) rfl
        have W25 : r25 = 45 := e25
        have Z28 : (((pz_ak 13).2 : Nat) : Int) = 600 := rfl
        refine And.intro (fun h29 => ?_) (fun h29 => ?_)
        · skip
          intro r34 e34 k34
          have R34 := pz_kdA k34 (by decide) (by decide)
          have Q34 := pz_nm e34 k_d.1 (by decide) (by decide) rfl
          have W34 : r34 = 45 := e34
          have L34 : r34 = 45 := e34
          intro v40 e40 a40 b40
          have lo43 : (0 : Int) ≤ v5 := by omega
          have tn43 : (((v5).toNat : Nat) : Int) = v5 := Int.toNat_of_nonneg lo43
          refine And.intro (lo43) (And.intro (show _ < (600 : Int) from by omega) ?_)
          intro M43 e43
          have hS : pq_pr (pq_Pd c) M M43 := by
            rw [e43]
            exact pq_pr_u hS (by unfold pq_Pd pq_Pw pz_lb; first | decide | omega) (by unfold pz_iok; first | decide | omega)
          have hI : pz_ic M43 := hS.1 hI0
          have T43_0 := pz_uve e43 c 7
          intro r45 e45 k45
          have R45 := pz_kdA k45 (by decide) (by decide)
          have Q45 := pz_nm e45 k_d.1 (by decide) (by decide) rfl
          have W45 : r45 = 45 := e45
          have L45 : r45 = 45 := e45
          intro v51 e51 a51 b51
          try rw [pz_wi (by first | decide | omega) (by first | decide | omega)] at e51
          have lo53 : (0 : Int) ≤ v51 := by omega
          have tn53 : (((v51).toNat : Nat) : Int) = v51 := Int.toNat_of_nonneg lo53
          refine And.intro (lo53) (And.intro (show _ < (600 : Int) from by omega) ?_)
          intro M53 e53
          have hS : pq_pr (pq_Pd c) M M53 := by
            rw [e53]
            exact pq_pr_u hS (by unfold pq_Pd pq_Pw pz_lb; first | decide | omega) (by unfold pz_iok; first | decide | omega)
          have hI : pz_ic M53 := hS.1 hI0
          have T53_0 := pz_uve e53 c 7
          intro r55 e55 k55
          have R55 := pz_kdA k55 (by decide) (by decide)
          have Q55 := pz_nm e55 k_d.1 (by decide) (by decide) rfl
          have W55 : r55 = 45 := e55
          have L55 : r55 = 45 := e55
          intro v61 e61 a61 b61
          try rw [pz_wi (by first | decide | omega) (by first | decide | omega)] at e61
          have lo63 : (0 : Int) ≤ v61 := by omega
          have tn63 : (((v61).toNat : Nat) : Int) = v61 := Int.toNat_of_nonneg lo63
          refine And.intro (lo63) (And.intro (show _ < (600 : Int) from by omega) ?_)
          intro M63 e63
          have hS : pq_pr (pq_Pd c) M M63 := by
            rw [e63]
            exact pq_pr_u hS (by unfold pq_Pd pq_Pw pz_lb; first | decide | omega) (by unfold pz_iok; first | decide | omega)
          have hI : pz_ic M63 := hS.1 hI0
          have T63_0 := pz_uve e63 c 7
          intro r65 e65 k65
          have R65 := pz_kdA k65 (by decide) (by decide)
          have Q65 := pz_nm e65 k_d.1 (by decide) (by decide) rfl
          have W65 : r65 = 45 := e65
          have L65 : r65 = 45 := e65
          intro v71 e71 a71 b71
          try rw [pz_wi (by first | decide | omega) (by first | decide | omega)] at e71
          have lo74 : (0 : Int) ≤ v71 := by omega
          have tn74 : (((v71).toNat : Nat) : Int) = v71 := Int.toNat_of_nonneg lo74
          refine And.intro (lo74) (And.intro (show _ < (600 : Int) from by omega) ?_)
          intro M74 e74
          have hS : pq_pr (pq_Pd c) M M74 := by
            rw [e74]
            exact pq_pr_u hS (by unfold pq_Pd pq_Pw pz_lb; first | decide | omega) (by unfold pz_iok; first | decide | omega)
          have hI : pz_ic M74 := hS.1 hI0
          have T74_0 := pz_uve e74 c 7
          intro v77 e77 a77 b77
          have I77 := hI.1 c (by first | decide | omega) (by first | decide | omega)
          intro v81 e81 a81 b81
          try rw [pz_wi (by first | decide | omega) (by first | decide | omega)] at e81
          intro M82 e82
          have hS : pq_pr (pq_Pd c) M M82 := by
            rw [e82]
            exact pq_pr_u hS (by unfold pq_Pd pq_Pw pz_lb; first | decide | omega) (by unfold pz_iok; first | decide | omega)
          have hI : pz_ic M82 := hS.1 hI0
          have T82_0 := pz_uve e82 c 7
          refine And.intro rfl ?_
          refine ⟨fun F hF hP hW => ?_, hS⟩
          have h7 := hF.2.2.2.2.1
          have h4 := hF.2.1
          have hb := hW.2.1
          rw [show decide (M c 0 = 0) = true from decide_eq_true (by first | decide | omega)]
          refine sd_note_y R_c hF hP hW (by first | decide | omega) (a := (F 3).toNat) rfl ?_
          rw [e82, e74, e63, e53, e43, L34, L45, L55, L65, show v5.toNat = 4 * (F 3).toNat by omega, show v51.toNat = 4 * (F 3).toNat + 1 by omega, show v61.toNat = 4 * (F 3).toNat + 2 by omega, show v71.toNat = 4 * (F 3).toNat + 3 by omega, e40, h4, show v81 = F 3 + 1 by omega]
        · skip
          refine And.intro rfl ?_
          refine ⟨fun F hF hP hW => ?_, hS⟩
          have h7 := hF.2.2.2.2.1
          have hb := hW.2.1
          have e9 : decide (M c 0 = 0) = false ∨ F 3 = 150 := by
            first
              | exact Or.inl (decide_eq_false (by first | decide | omega))
              | exact Or.inr (by first | decide | omega)
          rw [sd_note_n e9]
          exact ⟨hF, hP⟩
theorem v3_X1_write {fr lo i : Nat} {own : String} (h1 : 0 + 1 ≤ fr) (h2 : 8 + (6 + 11) + 0 ≤ lo) (h3 : .methodLink own i yX1_write ∈ lw_tbl) : pz_cV fr lo own i k3_X1_write :=
  pz_cVk (maxL := 6) (fr' := 0) (lo' := 0) 4 1 h3_X1_write rfl ⟨(pz_nhc_RX1 yX1_write rfl).1, (pz_nhc_RX1 yX1_write rfl).2, pz_ds38⟩ ⟨pz_wq520, pz_wq518, pz_wq519, pz_wq7⟩ (Or.inl ⟨TX1, 2, rfl⟩) (fun a M _ h => by
    have h : (match (generalizing := false) a with | [.inr (.inr (1, d)), .inr (.inr (0, c)), .inl w, .inl i, .inl n] => pz_ic M | _ => False) := h
    split at h
    · exact ⟨_, _, rfl⟩
    · exact h.elim) h1 h2 h3
noncomputable def k3_X1_canAsk : pz_C := (4, 1, fun a M => (match a with | [.inr (.inr (1, d)), .inr (.inr (0, c)), .inl i, .inl n] => pz_ic M | _ => False), fun a M r M' => (match a, r with | [.inr (.inr (1, d)), .inr (.inr (0, c)), .inl i, .inl n], some (.inl v) => ((v = 0 ∨ v = 1) ∧ sd_q M c (fun F => v = 1 ↔ (0 ≤ i ∧ (1 ≤ n ∧ n ≤ 99) ∧ sd_ca F i.toNat))) ∧ M = M' | _, _ => False))
noncomputable abbrev ct3_X1_canAsk : List (Bool × Nat × pz_C) := [(false, 35, k_X11_within), (true, 39, k_X0_at), (true, 43, k_X5_isIn)]
set_option maxRecDepth 100000 in
set_option maxHeartbeats 4000000 in
theorem h3_X1_canAsk : pz_H yX1_canAsk cX1_canAsk 4 (some .boolean) k3_X1_canAsk 1 22 := by
  refine pz_mk (own := RX1) (tb := t_X1_canAsk) (fl := pz_flf fl_RX1) (ci := fun _ => none) (ct := pz_ctf ct3_X1_canAsk) (rz := true) (pz_pfc_RX1 yX1_canAsk rfl) rfl t_X1_canAsk_ok (pz_flk fl_RX1_ok) (fun i v h => by cases h) ?_ ?_ (Or.inr ⟨rfl, rfl⟩) ?_ ?_
  · exact fun i k' h => pz_ctk (l := ct3_X1_canAsk) (P := fun b i k => b = true → pz_cV 1 22 RX1 i k) (List.forall_mem_cons.mpr ⟨((fun z => by cases z)), List.forall_mem_cons.mpr ⟨(fun _ => v_X0_at (by decide) (by decide) pz_wq457), List.forall_mem_cons.mpr ⟨(fun _ => v_X5_isIn (by decide) (by decide) pz_wq458), fun _ h => absurd h List.not_mem_nil⟩⟩⟩) true i k' h rfl
  · exact fun i k' h => pz_ctk (l := ct3_X1_canAsk) (P := fun b i k => b = false → (pz_cS 1 22 RX1 i k ∨ (k = pz_kac ∧ 1 ≤ 1 ∧ 60 ≤ 22 ∧ Cond.methodLink RX1 i arraycopyName ∈ pz_tbl))) (List.forall_mem_cons.mpr ⟨(fun _ => Or.inl (s_X11_within (by decide) (by decide) (Or.inr ⟨rfl, rfl, rfl⟩))), List.forall_mem_cons.mpr ⟨((fun z => by cases z)), List.forall_mem_cons.mpr ⟨((fun z => by cases z)), fun _ h => absurd h List.not_mem_nil⟩⟩⟩) false i k' h rfl
  · intro a M hlen hpre
    obtain ⟨d, c, i, n, rfl, hpre⟩ : ∃ d c i n, a = [.inr (.inr (1, d)), .inr (.inr (0, c)), .inl i, .inl n] ∧ (pz_ic M) := by
      have hpre : (match (generalizing := false) a with | [.inr (.inr (1, d)), .inr (.inr (0, c)), .inl i, .inl n] => pz_ic M | _ => False) := hpre
      split at hpre
      · exact ⟨_, _, _, _, rfl, hpre⟩
      · exact hpre.elim
    exact Nat.le_of_ble_eq_true rfl
  · intro a M hlen hcan hM hpre Ok hgo
    obtain ⟨d, c, i, n, rfl, hpre⟩ : ∃ d c i n, a = [.inr (.inr (1, d)), .inr (.inr (0, c)), .inl i, .inl n] ∧ (pz_ic M) := by
      have hpre : (match (generalizing := false) a with | [.inr (.inr (1, d)), .inr (.inr (0, c)), .inl i, .inl n] => pz_ic M | _ => False) := hpre
      split at hpre
      · exact ⟨_, _, _, _, rfl, hpre⟩
      · exact hpre.elim
    obtain ⟨k_d, hc_d⟩ := pz_tlm hcan
    have k_d : pz_kd d = 1 ∧ d < 231 := k_d
    have R_d := pz_kd1 k_d.1
    subst R_d
    obtain ⟨k_c, hc_c⟩ := pz_tlm hc_d
    have k_c : pz_kd c = 0 ∧ c < 231 := k_c
    have R_c := pz_kd0 k_c.1
    obtain ⟨k_i, hc_i⟩ := pz_tlm hc_c
    have l_i : -2147483648 ≤ i := k_i.1
    have u_i : i ≤ 2147483647 := k_i.2
    obtain ⟨k_n, hc_n⟩ := pz_tlm hc_i
    have l_n : -2147483648 ≤ n := k_n.1
    have u_n : n ≤ 2147483647 := k_n.2
    have hI : pz_ic M := hpre
    refine hgo (fun _ => false) 26 0 _ [] M ?_
    refine And.intro (fun h1 => ?_) (fun h1 => ?_)
    · skip
      refine And.intro (by first | decide | omega) ?_
      refine And.intro rfl ?_
      refine ⟨⟨by omega, fun F hF hW => ?_⟩, rfl⟩
      have hn := hF.1
      have hm := hW.1
      first
        | (have b := sd_at R_c hF hW (show 0 ≤ v27 by omega) (show v27 < F 88 by omega) A28
           have b5 := b.2.2.2.2.2.1
           have b7 := b.2.2.2.2.2.2.2
           rw [show 52 + v27.toNat = 52 + (i.toNat + 1) by omega] at b5
           rw [show 76 + v27.toNat = 76 + (i.toNat + 1) by omega] at b7
           have P := hW.2.2 (i.toNat + 1) (by first | decide | omega)
           unfold sd_lw at P
           rw [b5, b7] at q31
           unfold sd_ca sd_in
           split at q31 <;> split at q18 <;> omega)
        | (unfold sd_ca
           split at q18 <;> omega)
        | (unfold sd_ca
           omega)
    · skip
      intro v6 e6 a6 b6
      have I6 := hI.1 c (by first | decide | omega) (by first | decide | omega)
      intro v10 e10 a10 b10
      try rw [pz_wi (by first | decide | omega) (by first | decide | omega)] at e10
      refine And.intro (fun h11 => ?_) (fun h11 => ?_)
      · skip
        refine And.intro (by first | decide | omega) ?_
        refine And.intro rfl ?_
        refine ⟨⟨by omega, fun F hF hW => ?_⟩, rfl⟩
        have hn := hF.1
        have hm := hW.1
        first
          | (have b := sd_at R_c hF hW (show 0 ≤ v27 by omega) (show v27 < F 88 by omega) A28
             have b5 := b.2.2.2.2.2.1
             have b7 := b.2.2.2.2.2.2.2
             rw [show 52 + v27.toNat = 52 + (i.toNat + 1) by omega] at b5
             rw [show 76 + v27.toNat = 76 + (i.toNat + 1) by omega] at b7
             have P := hW.2.2 (i.toNat + 1) (by first | decide | omega)
             unfold sd_lw at P
             rw [b5, b7] at q31
             unfold sd_ca sd_in
             split at q31 <;> split at q18 <;> omega)
          | (unfold sd_ca
             split at q18 <;> omega)
          | (unfold sd_ca
             omega)
      · skip
        refine And.intro (True.intro) ?_
        intro v18 M18 a18 b18 q18
        obtain ⟨q18, z18⟩ := q18
        subst z18
        refine And.intro (fun h21 => ?_) (fun h21 => ?_)
        · skip
          refine And.intro (by first | decide | omega) ?_
          refine And.intro rfl ?_
          refine ⟨⟨by omega, fun F hF hW => ?_⟩, rfl⟩
          have hn := hF.1
          have hm := hW.1
          first
            | (have b := sd_at R_c hF hW (show 0 ≤ v27 by omega) (show v27 < F 88 by omega) A28
               have b5 := b.2.2.2.2.2.1
               have b7 := b.2.2.2.2.2.2.2
               rw [show 52 + v27.toNat = 52 + (i.toNat + 1) by omega] at b5
               rw [show 76 + v27.toNat = 76 + (i.toNat + 1) by omega] at b7
               have P := hW.2.2 (i.toNat + 1) (by first | decide | omega)
               unfold sd_lw at P
               rw [b5, b7] at q31
               unfold sd_ca sd_in
               split at q31 <;> split at q18 <;> omega)
            | (unfold sd_ca
               split at q18 <;> omega)
            | (unfold sd_ca
               omega)
        · skip
          intro v27 e27 a27 b27
          try rw [pz_wi (by first | decide | omega) (by first | decide | omega)] at e27
          refine And.intro (True.intro) ?_
          intro r28 M28 k28 q28
          have R28 := pz_kd5 k28
          obtain ⟨q28, z28⟩ := q28
          subst z28
          have A28 := pz_at_lk R_c q28
          have B28 : 89 + 13 * (c - 71) ≤ r28 ∧ r28 ≤ 89 + 13 * (c - 71) + 12 := by
            rw [A28]
            exact pz_lnk_c
          refine And.intro (True.intro) ?_
          intro v31 M31 a31 b31 q31
          obtain ⟨q31, z31⟩ := q31
          subst z31
          refine And.intro (fun h34 => ?_) (fun h34 => ?_)
          · skip
            refine And.intro (by first | decide | omega) ?_
            refine And.intro rfl ?_
            refine ⟨⟨by omega, fun F hF hW => ?_⟩, rfl⟩
            have hn := hF.1
            have hm := hW.1
            first
              | (have b := sd_at R_c hF hW (show 0 ≤ v27 by omega) (show v27 < F 88 by omega) A28
                 have b5 := b.2.2.2.2.2.1
                 have b7 := b.2.2.2.2.2.2.2
                 rw [show 52 + v27.toNat = 52 + (i.toNat + 1) by omega] at b5
                 rw [show 76 + v27.toNat = 76 + (i.toNat + 1) by omega] at b7
                 have P := hW.2.2 (i.toNat + 1) (by first | decide | omega)
                 unfold sd_lw at P
                 rw [b5, b7] at q31
                 unfold sd_ca sd_in
                 split at q31 <;> split at q18 <;> omega)
              | (unfold sd_ca
                 split at q18 <;> omega)
              | (unfold sd_ca
                 omega)
          · skip
            refine And.intro (by first | decide | omega) ?_
            refine And.intro rfl ?_
            refine ⟨⟨by omega, fun F hF hW => ?_⟩, rfl⟩
            have hn := hF.1
            have hm := hW.1
            first
              | (have b := sd_at R_c hF hW (show 0 ≤ v27 by omega) (show v27 < F 88 by omega) A28
                 have b5 := b.2.2.2.2.2.1
                 have b7 := b.2.2.2.2.2.2.2
                 rw [show 52 + v27.toNat = 52 + (i.toNat + 1) by omega] at b5
                 rw [show 76 + v27.toNat = 76 + (i.toNat + 1) by omega] at b7
                 have P := hW.2.2 (i.toNat + 1) (by first | decide | omega)
                 unfold sd_lw at P
                 rw [b5, b7] at q31
                 unfold sd_ca sd_in
                 split at q31 <;> split at q18 <;> omega)
              | (unfold sd_ca
                 split at q18 <;> omega)
              | (unfold sd_ca
                 omega)
theorem v3_X1_canAsk {fr lo i : Nat} {own : String} (h1 : 1 + 1 ≤ fr) (h2 : 8 + (4 + 11) + 22 ≤ lo) (h3 : .methodLink own i yX1_canAsk ∈ lw_tbl) : pz_cV fr lo own i k3_X1_canAsk :=
  pz_cVk (maxL := 4) (fr' := 1) (lo' := 22) 3 1 h3_X1_canAsk rfl ⟨(pz_nhc_RX1 yX1_canAsk rfl).1, (pz_nhc_RX1 yX1_canAsk rfl).2, pz_ds37⟩ ⟨pz_wq455, pz_wq453, pz_wq454, pz_wq7⟩ (Or.inl ⟨TX1, 2, rfl⟩) (fun a M _ h => by
    have h : (match (generalizing := false) a with | [.inr (.inr (1, d)), .inr (.inr (0, c)), .inl i, .inl n] => pz_ic M | _ => False) := h
    split at h
    · exact ⟨_, _, rfl⟩
    · exact h.elim) h1 h2 h3
noncomputable def k3_X1_canGetReady : pz_C := (3, 1, fun a M => (match a with | [.inr (.inr (1, d)), .inr (.inr (0, c)), .inl i] => pz_ic M | _ => False), fun a M r M' => (match a, r with | [.inr (.inr (1, d)), .inr (.inr (0, c)), .inl i], some (.inl v) => ((v = 0 ∨ v = 1) ∧ sd_q M c (fun F => v = 1 ↔ (0 ≤ i ∧ sd_cp F i.toNat))) ∧ M = M' | _, _ => False))
noncomputable abbrev ct3_X1_canGetReady : List (Bool × Nat × pz_C) := [(true, 83, k_X0_has), (true, 39, k_X0_at), (true, 43, k_X5_isIn)]
set_option maxRecDepth 100000 in
set_option maxHeartbeats 4000000 in
theorem h3_X1_canGetReady : pz_H yX1_canGetReady cX1_canGetReady 3 (some .boolean) k3_X1_canGetReady 1 21 := by
  refine pz_mk (own := RX1) (tb := t_X1_canGetReady) (fl := pz_flf fl_RX1) (ci := fun _ => none) (ct := pz_ctf ct3_X1_canGetReady) (rz := true) (pz_pfc_RX1 yX1_canGetReady rfl) rfl t_X1_canGetReady_ok (pz_flk fl_RX1_ok) (fun i v h => by cases h) ?_ ?_ (Or.inr ⟨rfl, rfl⟩) ?_ ?_
  · exact fun i k' h => pz_ctk (l := ct3_X1_canGetReady) (P := fun b i k => b = true → pz_cV 1 21 RX1 i k) (List.forall_mem_cons.mpr ⟨(fun _ => v_X0_has (by decide) (by decide) pz_wq542), List.forall_mem_cons.mpr ⟨(fun _ => v_X0_at (by decide) (by decide) pz_wq457), List.forall_mem_cons.mpr ⟨(fun _ => v_X5_isIn (by decide) (by decide) pz_wq458), fun _ h => absurd h List.not_mem_nil⟩⟩⟩) true i k' h rfl
  · exact fun i k' h => pz_ctk (l := ct3_X1_canGetReady) (P := fun b i k => b = false → (pz_cS 1 21 RX1 i k ∨ (k = pz_kac ∧ 1 ≤ 1 ∧ 60 ≤ 21 ∧ Cond.methodLink RX1 i arraycopyName ∈ pz_tbl))) (List.forall_mem_cons.mpr ⟨((fun z => by cases z)), List.forall_mem_cons.mpr ⟨((fun z => by cases z)), List.forall_mem_cons.mpr ⟨((fun z => by cases z)), fun _ h => absurd h List.not_mem_nil⟩⟩⟩) false i k' h rfl
  · intro a M hlen hpre
    obtain ⟨d, c, i, rfl, hpre⟩ : ∃ d c i, a = [.inr (.inr (1, d)), .inr (.inr (0, c)), .inl i] ∧ (pz_ic M) := by
      have hpre : (match (generalizing := false) a with | [.inr (.inr (1, d)), .inr (.inr (0, c)), .inl i] => pz_ic M | _ => False) := hpre
      split at hpre
      · exact ⟨_, _, _, rfl, hpre⟩
      · exact hpre.elim
    exact Nat.le_of_ble_eq_true rfl
  · intro a M hlen hcan hM hpre Ok hgo
    obtain ⟨d, c, i, rfl, hpre⟩ : ∃ d c i, a = [.inr (.inr (1, d)), .inr (.inr (0, c)), .inl i] ∧ (pz_ic M) := by
      have hpre : (match (generalizing := false) a with | [.inr (.inr (1, d)), .inr (.inr (0, c)), .inl i] => pz_ic M | _ => False) := hpre
      split at hpre
      · exact ⟨_, _, _, rfl, hpre⟩
      · exact hpre.elim
    obtain ⟨k_d, hc_d⟩ := pz_tlm hcan
    have k_d : pz_kd d = 1 ∧ d < 231 := k_d
    have R_d := pz_kd1 k_d.1
    subst R_d
    obtain ⟨k_c, hc_c⟩ := pz_tlm hc_d
    have k_c : pz_kd c = 0 ∧ c < 231 := k_c
    have R_c := pz_kd0 k_c.1
    obtain ⟨k_i, hc_i⟩ := pz_tlm hc_c
    have l_i : -2147483648 ≤ i := k_i.1
    have u_i : i ≤ 2147483647 := k_i.2
    have hI : pz_ic M := hpre
    refine hgo (fun _ => false) 20 0 _ [] M ?_
    refine And.intro (True.intro) ?_
    intro v2 M2 a2 b2 q2
    obtain ⟨q2, z2⟩ := q2
    subst z2
    refine And.intro (fun h5 => ?_) (fun h5 => ?_)
    · skip
      refine And.intro (by first | decide | omega) ?_
      refine And.intro rfl ?_
      refine ⟨⟨by omega, fun F hF hW => ?_⟩, rfl⟩
      have hn := hF.1
      have hm := hW.1
      have K2 : (0 ≤ i ∧ i < M c 3 ∧ v2 = 1) ∨ (¬ (0 ≤ i ∧ i < M c 3) ∧ v2 = 0) := by
        split at q2
        · exact Or.inl ⟨by omega, by omega, by omega⟩
        · exact Or.inr ⟨by assumption, by omega⟩
      first
        | (have b4 := (sd_at R_c hF hW (show 0 ≤ i by omega) (by first | decide | omega) A10).2.2.2.2.1
           have b := sd_at R_c hF hW (show 0 ≤ i by omega) (by first | decide | omega) A21
           have b5 := b.2.2.2.2.2.1
           have b7 := b.2.2.2.2.2.2.2
           have P := hW.2.2 i.toNat (by first | decide | omega)
           unfold sd_lw at P
           rw [b5, b7] at q24
           unfold sd_cp sd_in
           split at q24 <;> omega)
        | (have b4 := (sd_at R_c hF hW (show 0 ≤ i by omega) (by first | decide | omega) A10).2.2.2.2.1
           have P := hW.2.2 i.toNat (by first | decide | omega)
           unfold sd_lw at P
           unfold sd_cp
           omega)
        | (unfold sd_cp
           omega)
    · skip
      refine And.intro (True.intro) ?_
      intro r10 M10 k10 q10
      have R10 := pz_kd5 k10
      obtain ⟨q10, z10⟩ := q10
      subst z10
      have A10 := pz_at_lk R_c q10
      have B10 : 89 + 13 * (c - 71) ≤ r10 ∧ r10 ≤ 89 + 13 * (c - 71) + 12 := by
        rw [A10]
        exact pz_lnk_c
      intro v13 e13 a13 b13
      refine And.intro (fun h16 => ?_) (fun h16 => ?_)
      · skip
        refine And.intro (by first | decide | omega) ?_
        refine And.intro rfl ?_
        refine ⟨⟨by omega, fun F hF hW => ?_⟩, rfl⟩
        have hn := hF.1
        have hm := hW.1
        have K2 : (0 ≤ i ∧ i < M c 3 ∧ v2 = 1) ∨ (¬ (0 ≤ i ∧ i < M c 3) ∧ v2 = 0) := by
          split at q2
          · exact Or.inl ⟨by omega, by omega, by omega⟩
          · exact Or.inr ⟨by assumption, by omega⟩
        first
          | (have b4 := (sd_at R_c hF hW (show 0 ≤ i by omega) (by first | decide | omega) A10).2.2.2.2.1
             have b := sd_at R_c hF hW (show 0 ≤ i by omega) (by first | decide | omega) A21
             have b5 := b.2.2.2.2.2.1
             have b7 := b.2.2.2.2.2.2.2
             have P := hW.2.2 i.toNat (by first | decide | omega)
             unfold sd_lw at P
             rw [b5, b7] at q24
             unfold sd_cp sd_in
             split at q24 <;> omega)
          | (have b4 := (sd_at R_c hF hW (show 0 ≤ i by omega) (by first | decide | omega) A10).2.2.2.2.1
             have P := hW.2.2 i.toNat (by first | decide | omega)
             unfold sd_lw at P
             unfold sd_cp
             omega)
          | (unfold sd_cp
             omega)
      · skip
        refine And.intro (True.intro) ?_
        intro r21 M21 k21 q21
        have R21 := pz_kd5 k21
        obtain ⟨q21, z21⟩ := q21
        subst z21
        have A21 := pz_at_lk R_c q21
        have B21 : 89 + 13 * (c - 71) ≤ r21 ∧ r21 ≤ 89 + 13 * (c - 71) + 12 := by
          rw [A21]
          exact pz_lnk_c
        refine And.intro (True.intro) ?_
        intro v24 M24 a24 b24 q24
        obtain ⟨q24, z24⟩ := q24
        subst z24
        refine And.intro (fun h27 => ?_) (fun h27 => ?_)
        · skip
          refine And.intro (by first | decide | omega) ?_
          refine And.intro rfl ?_
          refine ⟨⟨by omega, fun F hF hW => ?_⟩, rfl⟩
          have hn := hF.1
          have hm := hW.1
          have K2 : (0 ≤ i ∧ i < M c 3 ∧ v2 = 1) ∨ (¬ (0 ≤ i ∧ i < M c 3) ∧ v2 = 0) := by
            split at q2
            · exact Or.inl ⟨by omega, by omega, by omega⟩
            · exact Or.inr ⟨by assumption, by omega⟩
          first
            | (have b4 := (sd_at R_c hF hW (show 0 ≤ i by omega) (by first | decide | omega) A10).2.2.2.2.1
               have b := sd_at R_c hF hW (show 0 ≤ i by omega) (by first | decide | omega) A21
               have b5 := b.2.2.2.2.2.1
               have b7 := b.2.2.2.2.2.2.2
               have P := hW.2.2 i.toNat (by first | decide | omega)
               unfold sd_lw at P
               rw [b5, b7] at q24
               unfold sd_cp sd_in
               split at q24 <;> omega)
            | (have b4 := (sd_at R_c hF hW (show 0 ≤ i by omega) (by first | decide | omega) A10).2.2.2.2.1
               have P := hW.2.2 i.toNat (by first | decide | omega)
               unfold sd_lw at P
               unfold sd_cp
               omega)
            | (unfold sd_cp
               omega)
        · skip
          refine And.intro (by first | decide | omega) ?_
          refine And.intro rfl ?_
          refine ⟨⟨by omega, fun F hF hW => ?_⟩, rfl⟩
          have hn := hF.1
          have hm := hW.1
          have K2 : (0 ≤ i ∧ i < M c 3 ∧ v2 = 1) ∨ (¬ (0 ≤ i ∧ i < M c 3) ∧ v2 = 0) := by
            split at q2
            · exact Or.inl ⟨by omega, by omega, by omega⟩
            · exact Or.inr ⟨by assumption, by omega⟩
          first
            | (have b4 := (sd_at R_c hF hW (show 0 ≤ i by omega) (by first | decide | omega) A10).2.2.2.2.1
               have b := sd_at R_c hF hW (show 0 ≤ i by omega) (by first | decide | omega) A21
               have b5 := b.2.2.2.2.2.1
               have b7 := b.2.2.2.2.2.2.2
               have P := hW.2.2 i.toNat (by first | decide | omega)
               unfold sd_lw at P
               rw [b5, b7] at q24
               unfold sd_cp sd_in
               split at q24 <;> omega)
            | (have b4 := (sd_at R_c hF hW (show 0 ≤ i by omega) (by first | decide | omega) A10).2.2.2.2.1
               have P := hW.2.2 i.toNat (by first | decide | omega)
               unfold sd_lw at P
               unfold sd_cp
               omega)
            | (unfold sd_cp
               omega)
theorem v3_X1_canGetReady {fr lo i : Nat} {own : String} (h1 : 1 + 1 ≤ fr) (h2 : 8 + (3 + 11) + 21 ≤ lo) (h3 : .methodLink own i yX1_canGetReady ∈ lw_tbl) : pz_cV fr lo own i k3_X1_canGetReady :=
  pz_cVk (maxL := 3) (fr' := 1) (lo' := 21) 2 1 h3_X1_canGetReady rfl ⟨(pz_nhc_RX1 yX1_canGetReady rfl).1, (pz_nhc_RX1 yX1_canGetReady rfl).2, pz_ds35⟩ ⟨pz_wq554, pz_wq552, pz_wq553, pz_wq7⟩ (Or.inl ⟨TX1, 2, rfl⟩) (fun a M _ h => by
    have h : (match (generalizing := false) a with | [.inr (.inr (1, d)), .inr (.inr (0, c)), .inl i] => pz_ic M | _ => False) := h
    split at h
    · exact ⟨_, _, rfl⟩
    · exact h.elim) h1 h2 h3
noncomputable def k3_X1_putBridge : pz_C := (3, 0, fun a M => (match a with | [.inr (.inr (1, d)), .inr (.inr (0, c)), .inl i] => pz_ic M | _ => False), fun a M r M' => (match a, r with | [.inr (.inr (1, d)), .inr (.inr (0, c)), .inl i], none => (sd_dd M M' c (fun _ F => 0 ≤ i ∧ sd_cb F i.toNat) (fun tr _ _ F => sd_bri tr F i.toNat)) ∧ pq_pr (pq_Pd c) M M' | _, _ => False))
noncomputable abbrev ct3_X1_putBridge : List (Bool × Nat × pz_C) := [(true, 39, k_X0_at), (true, 76, k3_X1_write)]
set_option maxRecDepth 100000 in
set_option maxHeartbeats 4000000 in
theorem h3_X1_putBridge : pz_H yX1_putBridge cX1_putBridge 3 none k3_X1_putBridge 1 25 := by
  refine pz_mk (own := RX1) (tb := t_X1_putBridge) (fl := pz_flf fl_RX1) (ci := fun _ => none) (ct := pz_ctf ct3_X1_putBridge) (rz := false) (pz_pfc_RX1 yX1_putBridge rfl) rfl t_X1_putBridge_ok (pz_flk fl_RX1_ok) (fun i v h => by cases h) ?_ ?_ (rfl) ?_ ?_
  · exact fun i k' h => pz_ctk (l := ct3_X1_putBridge) (P := fun b i k => b = true → pz_cV 1 25 RX1 i k) (List.forall_mem_cons.mpr ⟨(fun _ => v_X0_at (by decide) (by decide) pz_wq457), List.forall_mem_cons.mpr ⟨(fun _ => v3_X1_write (by decide) (by decide) pz_wq517), fun _ h => absurd h List.not_mem_nil⟩⟩) true i k' h rfl
  · exact fun i k' h => pz_ctk (l := ct3_X1_putBridge) (P := fun b i k => b = false → (pz_cS 1 25 RX1 i k ∨ (k = pz_kac ∧ 1 ≤ 1 ∧ 60 ≤ 25 ∧ Cond.methodLink RX1 i arraycopyName ∈ pz_tbl))) (List.forall_mem_cons.mpr ⟨((fun z => by cases z)), List.forall_mem_cons.mpr ⟨((fun z => by cases z)), fun _ h => absurd h List.not_mem_nil⟩⟩) false i k' h rfl
  · intro a M hlen hpre
    obtain ⟨d, c, i, rfl, hpre⟩ : ∃ d c i, a = [.inr (.inr (1, d)), .inr (.inr (0, c)), .inl i] ∧ (pz_ic M) := by
      have hpre : (match (generalizing := false) a with | [.inr (.inr (1, d)), .inr (.inr (0, c)), .inl i] => pz_ic M | _ => False) := hpre
      split at hpre
      · exact ⟨_, _, _, rfl, hpre⟩
      · exact hpre.elim
    exact Nat.le_of_ble_eq_true rfl
  · intro a M hlen hcan hM hpre Ok hgo
    obtain ⟨d, c, i, rfl, hpre⟩ : ∃ d c i, a = [.inr (.inr (1, d)), .inr (.inr (0, c)), .inl i] ∧ (pz_ic M) := by
      have hpre : (match (generalizing := false) a with | [.inr (.inr (1, d)), .inr (.inr (0, c)), .inl i] => pz_ic M | _ => False) := hpre
      split at hpre
      · exact ⟨_, _, _, rfl, hpre⟩
      · exact hpre.elim
    obtain ⟨k_d, hc_d⟩ := pz_tlm hcan
    have k_d : pz_kd d = 1 ∧ d < 231 := k_d
    have R_d := pz_kd1 k_d.1
    subst R_d
    obtain ⟨k_c, hc_c⟩ := pz_tlm hc_d
    have k_c : pz_kd c = 0 ∧ c < 231 := k_c
    have R_c := pz_kd0 k_c.1
    obtain ⟨k_i, hc_i⟩ := pz_tlm hc_c
    have l_i : -2147483648 ≤ i := k_i.1
    have u_i : i ≤ 2147483647 := k_i.2
    have hI : pz_ic M := hpre
    have hI0 := hI
    have hS : pq_pr (pq_Pd c) M M := pq_pr.rf
    refine hgo (fun _ => false) 14 0 _ [] M ?_
    refine And.intro (True.intro) ?_
    intro r2 M2 k2 q2
    have R2 := pz_kd5 k2
    obtain ⟨q2, z2⟩ := q2
    subst z2
    have A2 := pz_at_lk R_c q2
    have B2 : 89 + 13 * (c - 71) ≤ r2 ∧ r2 ≤ 89 + 13 * (c - 71) + 12 := by
      rw [A2]
      exact pz_lnk_c
    intro M6 e6
    have hS : pq_pr (pq_Pd c) M M6 := by
      rw [e6]
      exact pq_pr_u hS (by unfold pq_Pd pq_Pw pz_lb; first | decide | omega) (by unfold pz_iok; first | decide | omega)
    have hI : pz_ic M6 := hS.1 hI0
    refine And.intro (hI) ?_
    intro M14 q14
    obtain ⟨q14, z14⟩ := q14
    have hS : pq_pr (pq_Pd c) M M14 := hS.tr z14
    have hI : pz_ic M14 := hS.1 hI0
    refine And.intro rfl ?_
    refine ⟨fun ls l1 F hT hF hP hW hp => ?_, hS⟩
    obtain ⟨p0, p1⟩ := hp
    have hm := hW.1
    obtain ⟨p3, p4⟩ := id p1
    obtain ⟨f6, g6, w6, t6⟩ := sd_put (f := 6) (i := i) (v := 1) R_c hF hP hW (by first | decide | omega) (by first | decide | omega) A2 (by decide) e6 (sd_okv_6 (Or.inr ⟨rfl, p1.2.2.1, p1.1⟩))
    have K6 : (sd_u F (sd_fo 6 + i.toNat) 1) 88 = F 88 := (sd_un (by show (88 : Nat) ≠ 64 + i.toNat; omega))
    have q := q14 _ f6 g6 w6
    rw [t6] at q
    have ei : ((i.toNat : Nat) : Int) = i := by omega
    unfold sd_bri
    rw [ei]
    exact ⟨q.1, q.2, sd_note_wf w6⟩
theorem v3_X1_putBridge {fr lo i : Nat} {own : String} (h1 : 1 + 1 ≤ fr) (h2 : 8 + (3 + 11) + 25 ≤ lo) (h3 : .methodLink own i yX1_putBridge ∈ lw_tbl) : pz_cV fr lo own i k3_X1_putBridge :=
  pz_cVk (maxL := 3) (fr' := 1) (lo' := 25) 2 1 h3_X1_putBridge rfl ⟨(pz_nhc_RX1 yX1_putBridge rfl).1, (pz_nhc_RX1 yX1_putBridge rfl).2, pz_ds34⟩ ⟨pz_wq533, pz_wq531, pz_wq532, pz_wq7⟩ (Or.inl ⟨TX1, 2, rfl⟩) (fun a M _ h => by
    have h : (match (generalizing := false) a with | [.inr (.inr (1, d)), .inr (.inr (0, c)), .inl i] => pz_ic M | _ => False) := h
    split at h
    · exact ⟨_, _, rfl⟩
    · exact h.elim) h1 h2 h3
noncomputable def k3_X1_getReady : pz_C := (3, 0, fun a M => (match a with | [.inr (.inr (1, d)), .inr (.inr (0, c)), .inl i] => pz_ic M | _ => False), fun a M r M' => (match a, r with | [.inr (.inr (1, d)), .inr (.inr (0, c)), .inl i], none => (sd_dd M M' c (fun _ F => 0 ≤ i ∧ i < F 88) (fun tr _ _ F => sd_get tr F i.toNat)) ∧ pq_pr (pq_Pd c) M M' | _, _ => False))
noncomputable abbrev ct3_X1_getReady : List (Bool × Nat × pz_C) := [(true, 39, k_X0_at), (true, 76, k3_X1_write)]
set_option maxRecDepth 100000 in
set_option maxHeartbeats 4000000 in
theorem h3_X1_getReady : pz_H yX1_getReady cX1_getReady 3 none k3_X1_getReady 1 25 := by
  refine pz_mk (own := RX1) (tb := t_X1_getReady) (fl := pz_flf fl_RX1) (ci := fun _ => none) (ct := pz_ctf ct3_X1_getReady) (rz := false) (pz_pfc_RX1 yX1_getReady rfl) rfl t_X1_getReady_ok (pz_flk fl_RX1_ok) (fun i v h => by cases h) ?_ ?_ (rfl) ?_ ?_
  · exact fun i k' h => pz_ctk (l := ct3_X1_getReady) (P := fun b i k => b = true → pz_cV 1 25 RX1 i k) (List.forall_mem_cons.mpr ⟨(fun _ => v_X0_at (by decide) (by decide) pz_wq457), List.forall_mem_cons.mpr ⟨(fun _ => v3_X1_write (by decide) (by decide) pz_wq517), fun _ h => absurd h List.not_mem_nil⟩⟩) true i k' h rfl
  · exact fun i k' h => pz_ctk (l := ct3_X1_getReady) (P := fun b i k => b = false → (pz_cS 1 25 RX1 i k ∨ (k = pz_kac ∧ 1 ≤ 1 ∧ 60 ≤ 25 ∧ Cond.methodLink RX1 i arraycopyName ∈ pz_tbl))) (List.forall_mem_cons.mpr ⟨((fun z => by cases z)), List.forall_mem_cons.mpr ⟨((fun z => by cases z)), fun _ h => absurd h List.not_mem_nil⟩⟩) false i k' h rfl
  · intro a M hlen hpre
    obtain ⟨d, c, i, rfl, hpre⟩ : ∃ d c i, a = [.inr (.inr (1, d)), .inr (.inr (0, c)), .inl i] ∧ (pz_ic M) := by
      have hpre : (match (generalizing := false) a with | [.inr (.inr (1, d)), .inr (.inr (0, c)), .inl i] => pz_ic M | _ => False) := hpre
      split at hpre
      · exact ⟨_, _, _, rfl, hpre⟩
      · exact hpre.elim
    exact Nat.le_of_ble_eq_true rfl
  · intro a M hlen hcan hM hpre Ok hgo
    obtain ⟨d, c, i, rfl, hpre⟩ : ∃ d c i, a = [.inr (.inr (1, d)), .inr (.inr (0, c)), .inl i] ∧ (pz_ic M) := by
      have hpre : (match (generalizing := false) a with | [.inr (.inr (1, d)), .inr (.inr (0, c)), .inl i] => pz_ic M | _ => False) := hpre
      split at hpre
      · exact ⟨_, _, _, rfl, hpre⟩
      · exact hpre.elim
    obtain ⟨k_d, hc_d⟩ := pz_tlm hcan
    have k_d : pz_kd d = 1 ∧ d < 231 := k_d
    have R_d := pz_kd1 k_d.1
    subst R_d
    obtain ⟨k_c, hc_c⟩ := pz_tlm hc_d
    have k_c : pz_kd c = 0 ∧ c < 231 := k_c
    have R_c := pz_kd0 k_c.1
    obtain ⟨k_i, hc_i⟩ := pz_tlm hc_c
    have l_i : -2147483648 ≤ i := k_i.1
    have u_i : i ≤ 2147483647 := k_i.2
    have hI : pz_ic M := hpre
    have hI0 := hI
    have hS : pq_pr (pq_Pd c) M M := pq_pr.rf
    refine hgo (fun _ => false) 14 0 _ [] M ?_
    refine And.intro (True.intro) ?_
    intro r2 M2 k2 q2
    have R2 := pz_kd5 k2
    obtain ⟨q2, z2⟩ := q2
    subst z2
    have A2 := pz_at_lk R_c q2
    have B2 : 89 + 13 * (c - 71) ≤ r2 ∧ r2 ≤ 89 + 13 * (c - 71) + 12 := by
      rw [A2]
      exact pz_lnk_c
    intro M6 e6
    have hS : pq_pr (pq_Pd c) M M6 := by
      rw [e6]
      exact pq_pr_u hS (by unfold pq_Pd pq_Pw pz_lb; first | decide | omega) (by unfold pz_iok; first | decide | omega)
    have hI : pz_ic M6 := hS.1 hI0
    refine And.intro (hI) ?_
    intro M14 q14
    obtain ⟨q14, z14⟩ := q14
    have hS : pq_pr (pq_Pd c) M M14 := hS.tr z14
    have hI : pz_ic M14 := hS.1 hI0
    refine And.intro rfl ?_
    refine ⟨fun ls l1 F hT hF hP hW hp => ?_, hS⟩
    obtain ⟨p0, p1⟩ := hp
    have hm := hW.1
    obtain ⟨f6, g6, w6, t6⟩ := sd_put (f := 4) (i := i) (v := 1) R_c hF hP hW (by first | decide | omega) (by first | decide | omega) A2 (by decide) e6 (sd_okv_4 (Or.inr rfl))
    have K6 : (sd_u F (sd_fo 4 + i.toNat) 1) 88 = F 88 := (sd_un (by show (88 : Nat) ≠ 40 + i.toNat; omega))
    have q := q14 _ f6 g6 w6
    rw [t6] at q
    have ei : ((i.toNat : Nat) : Int) = i := by omega
    unfold sd_get
    rw [ei]
    exact ⟨q.1, q.2, sd_note_wf w6⟩
theorem v3_X1_getReady {fr lo i : Nat} {own : String} (h1 : 1 + 1 ≤ fr) (h2 : 8 + (3 + 11) + 25 ≤ lo) (h3 : .methodLink own i yX1_getReady ∈ lw_tbl) : pz_cV fr lo own i k3_X1_getReady :=
  pz_cVk (maxL := 3) (fr' := 1) (lo' := 25) 2 1 h3_X1_getReady rfl ⟨(pz_nhc_RX1 yX1_getReady rfl).1, (pz_nhc_RX1 yX1_getReady rfl).2, pz_ds34⟩ ⟨pz_wq558, pz_wq556, pz_wq557, pz_wq7⟩ (Or.inl ⟨TX1, 2, rfl⟩) (fun a M _ h => by
    have h : (match (generalizing := false) a with | [.inr (.inr (1, d)), .inr (.inr (0, c)), .inl i] => pz_ic M | _ => False) := h
    split at h
    · exact ⟨_, _, rfl⟩
    · exact h.elim) h1 h2 h3
noncomputable def k3_X1_comeIn : pz_C := (3, 0, fun a M => (match a with | [.inr (.inr (1, d)), .inr (.inr (0, c)), .inl i] => pz_ic M | _ => False), fun a M r M' => (match a, r with | [.inr (.inr (1, d)), .inr (.inr (0, c)), .inl i], none => (sd_dd M M' c (fun _ F => 0 ≤ i ∧ i < F 88) (fun tr _ _ F => sd_joi tr F i.toNat)) ∧ pq_pr (pq_Pd c) M M' | _, _ => False))
noncomputable abbrev ct3_X1_comeIn : List (Bool × Nat × pz_C) := [(true, 39, k_X0_at), (true, 76, k3_X1_write)]
set_option maxRecDepth 100000 in
set_option maxHeartbeats 4000000 in
theorem h3_X1_comeIn : pz_H yX1_comeIn cX1_comeIn 3 none k3_X1_comeIn 1 25 := by
  refine pz_mk (own := RX1) (tb := t_X1_comeIn) (fl := pz_flf fl_RX1) (ci := fun _ => none) (ct := pz_ctf ct3_X1_comeIn) (rz := false) (pz_pfc_RX1 yX1_comeIn rfl) rfl t_X1_comeIn_ok (pz_flk fl_RX1_ok) (fun i v h => by cases h) ?_ ?_ (rfl) ?_ ?_
  · exact fun i k' h => pz_ctk (l := ct3_X1_comeIn) (P := fun b i k => b = true → pz_cV 1 25 RX1 i k) (List.forall_mem_cons.mpr ⟨(fun _ => v_X0_at (by decide) (by decide) pz_wq457), List.forall_mem_cons.mpr ⟨(fun _ => v3_X1_write (by decide) (by decide) pz_wq517), fun _ h => absurd h List.not_mem_nil⟩⟩) true i k' h rfl
  · exact fun i k' h => pz_ctk (l := ct3_X1_comeIn) (P := fun b i k => b = false → (pz_cS 1 25 RX1 i k ∨ (k = pz_kac ∧ 1 ≤ 1 ∧ 60 ≤ 25 ∧ Cond.methodLink RX1 i arraycopyName ∈ pz_tbl))) (List.forall_mem_cons.mpr ⟨((fun z => by cases z)), List.forall_mem_cons.mpr ⟨((fun z => by cases z)), fun _ h => absurd h List.not_mem_nil⟩⟩) false i k' h rfl
  · intro a M hlen hpre
    obtain ⟨d, c, i, rfl, hpre⟩ : ∃ d c i, a = [.inr (.inr (1, d)), .inr (.inr (0, c)), .inl i] ∧ (pz_ic M) := by
      have hpre : (match (generalizing := false) a with | [.inr (.inr (1, d)), .inr (.inr (0, c)), .inl i] => pz_ic M | _ => False) := hpre
      split at hpre
      · exact ⟨_, _, _, rfl, hpre⟩
      · exact hpre.elim
    exact Nat.le_of_ble_eq_true rfl
  · intro a M hlen hcan hM hpre Ok hgo
    obtain ⟨d, c, i, rfl, hpre⟩ : ∃ d c i, a = [.inr (.inr (1, d)), .inr (.inr (0, c)), .inl i] ∧ (pz_ic M) := by
      have hpre : (match (generalizing := false) a with | [.inr (.inr (1, d)), .inr (.inr (0, c)), .inl i] => pz_ic M | _ => False) := hpre
      split at hpre
      · exact ⟨_, _, _, rfl, hpre⟩
      · exact hpre.elim
    obtain ⟨k_d, hc_d⟩ := pz_tlm hcan
    have k_d : pz_kd d = 1 ∧ d < 231 := k_d
    have R_d := pz_kd1 k_d.1
    subst R_d
    obtain ⟨k_c, hc_c⟩ := pz_tlm hc_d
    have k_c : pz_kd c = 0 ∧ c < 231 := k_c
    have R_c := pz_kd0 k_c.1
    obtain ⟨k_i, hc_i⟩ := pz_tlm hc_c
    have l_i : -2147483648 ≤ i := k_i.1
    have u_i : i ≤ 2147483647 := k_i.2
    have hI : pz_ic M := hpre
    have hI0 := hI
    have hS : pq_pr (pq_Pd c) M M := pq_pr.rf
    refine hgo (fun _ => false) 19 0 _ [] M ?_
    refine And.intro (True.intro) ?_
    intro r2 M2 k2 q2
    have R2 := pz_kd5 k2
    obtain ⟨q2, z2⟩ := q2
    subst z2
    have A2 := pz_at_lk R_c q2
    have B2 : 89 + 13 * (c - 71) ≤ r2 ∧ r2 ≤ 89 + 13 * (c - 71) + 12 := by
      rw [A2]
      exact pz_lnk_c
    intro M6 e6
    have hS : pq_pr (pq_Pd c) M M6 := by
      rw [e6]
      exact pq_pr_u hS (by unfold pq_Pd pq_Pw pz_lb; first | decide | omega) (by unfold pz_iok; first | decide | omega)
    have hI : pz_ic M6 := hS.1 hI0
    refine And.intro (True.intro) ?_
    intro r11 M11 k11 q11
    have R11 := pz_kd5 k11
    obtain ⟨q11, z11⟩ := q11
    subst z11
    have A11 := pz_at_lk R_c q11
    have B11 : 89 + 13 * (c - 71) ≤ r11 ∧ r11 ≤ 89 + 13 * (c - 71) + 12 := by
      rw [A11]
      exact pz_lnk_c
    intro M15 e15
    have hS : pq_pr (pq_Pd c) M M15 := by
      rw [e15]
      exact pq_pr_u hS (by unfold pq_Pd pq_Pw pz_lb; first | decide | omega) (by unfold pz_iok; first | decide | omega)
    have hI : pz_ic M15 := hS.1 hI0
    refine And.intro (hI) ?_
    intro M24 q24
    obtain ⟨q24, z24⟩ := q24
    have hS : pq_pr (pq_Pd c) M M24 := hS.tr z24
    have hI : pz_ic M24 := hS.1 hI0
    refine And.intro rfl ?_
    refine ⟨fun ls l1 F hT hF hP hW hp => ?_, hS⟩
    obtain ⟨p0, p1⟩ := hp
    have hm := hW.1
    obtain ⟨f6, g6, w6, t6⟩ := sd_put (f := 5) (i := i) (v := 0) R_c hF hP hW (by first | decide | omega) (by first | decide | omega) A2 (by decide) e6 (sd_okv_5 (Or.inl rfl))
    have K6 : (sd_u F (sd_fo 5 + i.toNat) 0) 88 = F 88 := (sd_un (by show (88 : Nat) ≠ 52 + i.toNat; omega))
    obtain ⟨f15, g15, w15, t15⟩ := sd_put (f := 4) (i := i) (v := 0) R_c f6 g6 w6 (by first | decide | omega) (by rw [K6]; omega) A11 (by decide) e15 (sd_okv_4 (Or.inl rfl))
    have K15 : (sd_u (sd_u F (sd_fo 5 + i.toNat) 0) (sd_fo 4 + i.toNat) 0) 88 = F 88 := (sd_un (by show (88 : Nat) ≠ 40 + i.toNat; omega)).trans K6
    have q := q24 _ f15 g15 w15
    rw [t15, t6] at q
    have ei : ((i.toNat : Nat) : Int) = i := by omega
    unfold sd_joi
    rw [ei]
    exact ⟨q.1, q.2, sd_note_wf w15⟩
theorem v3_X1_comeIn {fr lo i : Nat} {own : String} (h1 : 1 + 1 ≤ fr) (h2 : 8 + (3 + 11) + 25 ≤ lo) (h3 : .methodLink own i yX1_comeIn ∈ lw_tbl) : pz_cV fr lo own i k3_X1_comeIn :=
  pz_cVk (maxL := 3) (fr' := 1) (lo' := 25) 2 1 h3_X1_comeIn rfl ⟨(pz_nhc_RX1 yX1_comeIn rfl).1, (pz_nhc_RX1 yX1_comeIn rfl).2, pz_ds34⟩ ⟨pz_wq566, pz_wq564, pz_wq565, pz_wq7⟩ (Or.inl ⟨TX1, 2, rfl⟩) (fun a M _ h => by
    have h : (match (generalizing := false) a with | [.inr (.inr (1, d)), .inr (.inr (0, c)), .inl i] => pz_ic M | _ => False) := h
    split at h
    · exact ⟨_, _, rfl⟩
    · exact h.elim) h1 h2 h3
noncomputable def k3_X0_happens : pz_C := (2, 1, fun a M => (match a with | [.inr (.inr (0, c)), .inl ch] => pz_ic M | _ => False), fun a M r M' => (match a, r with | [.inr (.inr (0, c)), .inl ch], some (.inl v) => (sd_hp M M' c ch v) ∧ pq_pr (pq_Pd c) M M' | _, _ => False))
noncomputable abbrev ct3_X0_happens : List (Bool × Nat × pz_C) := []
set_option maxRecDepth 100000 in
set_option maxHeartbeats 4000000 in
theorem h3_X0_happens : pz_H yX0_happens cX0_happens 2 (some .boolean) k3_X0_happens 0 0 := by
  refine pz_mk (own := RX0) (tb := t_X0_happens) (fl := pz_flf fl_RX0) (ci := pz_cif ci_RX0) (ct := pz_ctf ct3_X0_happens) (rz := true) (pz_pfc_RX0 yX0_happens rfl) rfl t_X0_happens_ok (pz_flk fl_RX0_ok) (pz_cik ci_RX0_ok) ?_ ?_ (Or.inr ⟨rfl, rfl⟩) ?_ ?_
  · exact fun i k' h => pz_ctk (l := ct3_X0_happens) (P := fun b i k => b = true → pz_cV 0 0 RX0 i k) (fun _ h => absurd h List.not_mem_nil) true i k' h rfl
  · exact fun i k' h => pz_ctk (l := ct3_X0_happens) (P := fun b i k => b = false → (pz_cS 0 0 RX0 i k ∨ (k = pz_kac ∧ 1 ≤ 0 ∧ 60 ≤ 0 ∧ Cond.methodLink RX0 i arraycopyName ∈ pz_tbl))) (fun _ h => absurd h List.not_mem_nil) false i k' h rfl
  · intro a M hlen hpre
    obtain ⟨c, ch, rfl, hpre⟩ : ∃ c ch, a = [.inr (.inr (0, c)), .inl ch] ∧ (pz_ic M) := by
      have hpre : (match (generalizing := false) a with | [.inr (.inr (0, c)), .inl ch] => pz_ic M | _ => False) := hpre
      split at hpre
      · exact ⟨_, _, rfl, hpre⟩
      · exact hpre.elim
    exact Nat.le_of_ble_eq_true rfl
  · intro a M hlen hcan hM hpre Ok hgo
    obtain ⟨c, ch, rfl, hpre⟩ : ∃ c ch, a = [.inr (.inr (0, c)), .inl ch] ∧ (pz_ic M) := by
      have hpre : (match (generalizing := false) a with | [.inr (.inr (0, c)), .inl ch] => pz_ic M | _ => False) := hpre
      split at hpre
      · exact ⟨_, _, rfl, hpre⟩
      · exact hpre.elim
    obtain ⟨k_c, hc_c⟩ := pz_tlm hcan
    have k_c : pz_kd c = 0 ∧ c < 231 := k_c
    have R_c := pz_kd0 k_c.1
    obtain ⟨k_ch, hc_ch⟩ := pz_tlm hc_c
    have l_ch : -2147483648 ≤ ch := k_ch.1
    have u_ch : ch ≤ 2147483647 := k_ch.2
    have hI : pz_ic M := hpre
    have hI0 := hI
    have hS : pq_pr (pq_Pd c) M M := pq_pr.rf
    refine hgo (fun _ => false) 32 0 _ [] M ?_
    intro v1 e1 a1 b1
    refine And.intro (fun h4 => ?_) (fun h4 => ?_)
    · skip
      intro v22 e22 a22 b22
      intro v27 e27 a27 b27
      intro v30 e30 a30 b30
      intro M31 e31
      have hS : pq_pr (pq_Pd c) M M31 := by
        rw [e31]
        exact pq_pr_u hS (by unfold pq_Pd pq_Pw pz_lb; first | decide | omega) (by unfold pz_iok; first | decide | omega)
      have hI : pz_ic M31 := hS.1 hI0
      intro v35 e35 a35 b35
      intro v40 e40 a40 b40
      refine And.intro (by first | decide | omega) ?_
      intro v44 e44 a44 b44
      refine And.intro (fun h46 => ?_) (fun h46 => ?_)
      · skip
        refine And.intro (by first | decide | omega) ?_
        refine And.intro rfl ?_
        refine ⟨⟨by omega, ?_, fun F hF hW => ?_⟩, hS⟩
        · intro j
          first
            | rfl
            | (rw [e31]; exact pz_una (by first | decide | omega))
        · have h6 := hF.2.2.2.1
          have hm := hW.1
          first
            | (rw [show decide (M c 0 = 0) = false from decide_eq_false (by first | decide | omega)]
               refine ⟨?_, hF⟩
               show _ ↔ decide ((500 : Int) ≤ ch) = true
               rw [decide_eq_true_iff]
               omega)
            | (rw [show decide (M c 0 = 0) = true from decide_eq_true (by first | decide | omega)]
               have E : v30 = sd_st (F 2) := by
                 unfold sd_st
                 rw [e30, e27, e22, h6, Int.mul_comm]
               have E35 : v35 = sd_st (F 2) := by
                 rw [e35, e31, pz_uu, E]
               have E44 : v44 = sd_ch (sd_st (F 2)) := by
                 unfold sd_ch
                 rw [e44, e40, E35]
                 rfl
               refine ⟨?_, ?_⟩
               · show _ ↔ decide (sd_ch (sd_st (F 2)) < ch) = true
                 rw [decide_eq_true_iff, ← E44]
                 omega
               · show sd_se _ c (sd_u F 2 (sd_st (F 2)))
                 rw [e31, E]
                 exact sd_se_c (k := 2) (f := 6) R_c hF (by first | decide | omega) ⟨by decide, rfl⟩)
      · skip
        refine And.intro (by first | decide | omega) ?_
        refine And.intro rfl ?_
        refine ⟨⟨by omega, ?_, fun F hF hW => ?_⟩, hS⟩
        · intro j
          first
            | rfl
            | (rw [e31]; exact pz_una (by first | decide | omega))
        · have h6 := hF.2.2.2.1
          have hm := hW.1
          first
            | (rw [show decide (M c 0 = 0) = false from decide_eq_false (by first | decide | omega)]
               refine ⟨?_, hF⟩
               show _ ↔ decide ((500 : Int) ≤ ch) = true
               rw [decide_eq_true_iff]
               omega)
            | (rw [show decide (M c 0 = 0) = true from decide_eq_true (by first | decide | omega)]
               have E : v30 = sd_st (F 2) := by
                 unfold sd_st
                 rw [e30, e27, e22, h6, Int.mul_comm]
               have E35 : v35 = sd_st (F 2) := by
                 rw [e35, e31, pz_uu, E]
               have E44 : v44 = sd_ch (sd_st (F 2)) := by
                 unfold sd_ch
                 rw [e44, e40, E35]
                 rfl
               refine ⟨?_, ?_⟩
               · show _ ↔ decide (sd_ch (sd_st (F 2)) < ch) = true
                 rw [decide_eq_true_iff, ← E44]
                 omega
               · show sd_se _ c (sd_u F 2 (sd_st (F 2)))
                 rw [e31, E]
                 exact sd_se_c (k := 2) (f := 6) R_c hF (by first | decide | omega) ⟨by decide, rfl⟩)
    · skip
      refine And.intro (fun h11 => ?_) (fun h11 => ?_)
      · skip
        refine And.intro (by first | decide | omega) ?_
        refine And.intro rfl ?_
        refine ⟨⟨by omega, ?_, fun F hF hW => ?_⟩, hS⟩
        · intro j
          first
            | rfl
            | (rw [e31]; exact pz_una (by first | decide | omega))
        · have h6 := hF.2.2.2.1
          have hm := hW.1
          first
            | (rw [show decide (M c 0 = 0) = false from decide_eq_false (by first | decide | omega)]
               refine ⟨?_, hF⟩
               show _ ↔ decide ((500 : Int) ≤ ch) = true
               rw [decide_eq_true_iff]
               omega)
            | (rw [show decide (M c 0 = 0) = true from decide_eq_true (by first | decide | omega)]
               have E : v30 = sd_st (F 2) := by
                 unfold sd_st
                 rw [e30, e27, e22, h6, Int.mul_comm]
               have E35 : v35 = sd_st (F 2) := by
                 rw [e35, e31, pz_uu, E]
               have E44 : v44 = sd_ch (sd_st (F 2)) := by
                 unfold sd_ch
                 rw [e44, e40, E35]
                 rfl
               refine ⟨?_, ?_⟩
               · show _ ↔ decide (sd_ch (sd_st (F 2)) < ch) = true
                 rw [decide_eq_true_iff, ← E44]
                 omega
               · show sd_se _ c (sd_u F 2 (sd_st (F 2)))
                 rw [e31, E]
                 exact sd_se_c (k := 2) (f := 6) R_c hF (by first | decide | omega) ⟨by decide, rfl⟩)
      · skip
        refine And.intro (by first | decide | omega) ?_
        refine And.intro rfl ?_
        refine ⟨⟨by omega, ?_, fun F hF hW => ?_⟩, hS⟩
        · intro j
          first
            | rfl
            | (rw [e31]; exact pz_una (by first | decide | omega))
        · have h6 := hF.2.2.2.1
          have hm := hW.1
          first
            | (rw [show decide (M c 0 = 0) = false from decide_eq_false (by first | decide | omega)]
               refine ⟨?_, hF⟩
               show _ ↔ decide ((500 : Int) ≤ ch) = true
               rw [decide_eq_true_iff]
               omega)
            | (rw [show decide (M c 0 = 0) = true from decide_eq_true (by first | decide | omega)]
               have E : v30 = sd_st (F 2) := by
                 unfold sd_st
                 rw [e30, e27, e22, h6, Int.mul_comm]
               have E35 : v35 = sd_st (F 2) := by
                 rw [e35, e31, pz_uu, E]
               have E44 : v44 = sd_ch (sd_st (F 2)) := by
                 unfold sd_ch
                 rw [e44, e40, E35]
                 rfl
               refine ⟨?_, ?_⟩
               · show _ ↔ decide (sd_ch (sd_st (F 2)) < ch) = true
                 rw [decide_eq_true_iff, ← E44]
                 omega
               · show sd_se _ c (sd_u F 2 (sd_st (F 2)))
                 rw [e31, E]
                 exact sd_se_c (k := 2) (f := 6) R_c hF (by first | decide | omega) ⟨by decide, rfl⟩)
theorem v3_X0_happens {fr lo i : Nat} {own : String} (h1 : 0 + 1 ≤ fr) (h2 : 8 + (2 + 11) + 0 ≤ lo) (h3 : .methodLink own i yX0_happens ∈ lw_tbl) : pz_cV fr lo own i k3_X0_happens :=
  pz_cVk (maxL := 2) (fr' := 0) (lo' := 0) 1 0 h3_X0_happens rfl ⟨(pz_nhc_RX0 yX0_happens rfl).1, (pz_nhc_RX0 yX0_happens rfl).2, pz_ds9⟩ ⟨pz_wq594, pz_wq592, pz_wq593, pz_wq2⟩ (Or.inl ⟨TX0, 8, rfl⟩) (fun a M _ h => by
    have h : (match (generalizing := false) a with | [.inr (.inr (0, c)), .inl ch] => pz_ic M | _ => False) := h
    split at h
    · exact ⟨_, _, rfl⟩
    · exact h.elim) h1 h2 h3
noncomputable def k3_X1_canHandOver : pz_C := (5, 1, fun a M => (match a with | [.inr (.inr (1, d)), .inr (.inr (0, c)), .inl i, .inl j, .inl n] => pz_ic M | _ => False), fun a M r M' => (match a, r with | [.inr (.inr (1, d)), .inr (.inr (0, c)), .inl i, .inl j, .inl n], some (.inl v) => ((v = 0 ∨ v = 1) ∧ sd_q M c (fun F => v = 1 ↔ (0 ≤ i ∧ 0 ≤ j ∧ (1 ≤ n ∧ n ≤ 99) ∧ sd_c0 F i.toNat j.toNat n))) ∧ M = M' | _, _ => False))
noncomputable abbrev ct3_X1_canHandOver : List (Bool × Nat × pz_C) := [(true, 83, k_X0_has), (false, 35, k_X11_within), (true, 39, k_X0_at)]
set_option maxRecDepth 100000 in
set_option maxHeartbeats 4000000 in
theorem h3_X1_canHandOver : pz_H yX1_canHandOver cX1_canHandOver 5 (some .boolean) k3_X1_canHandOver 1 22 := by
  refine pz_mk (own := RX1) (tb := t_X1_canHandOver) (fl := pz_flf fl_RX1) (ci := fun _ => none) (ct := pz_ctf ct3_X1_canHandOver) (rz := true) (pz_pfc_RX1 yX1_canHandOver rfl) rfl t_X1_canHandOver_ok (pz_flk fl_RX1_ok) (fun i v h => by cases h) ?_ ?_ (Or.inr ⟨rfl, rfl⟩) ?_ ?_
  · exact fun i k' h => pz_ctk (l := ct3_X1_canHandOver) (P := fun b i k => b = true → pz_cV 1 22 RX1 i k) (List.forall_mem_cons.mpr ⟨(fun _ => v_X0_has (by decide) (by decide) pz_wq542), List.forall_mem_cons.mpr ⟨((fun z => by cases z)), List.forall_mem_cons.mpr ⟨(fun _ => v_X0_at (by decide) (by decide) pz_wq457), fun _ h => absurd h List.not_mem_nil⟩⟩⟩) true i k' h rfl
  · exact fun i k' h => pz_ctk (l := ct3_X1_canHandOver) (P := fun b i k => b = false → (pz_cS 1 22 RX1 i k ∨ (k = pz_kac ∧ 1 ≤ 1 ∧ 60 ≤ 22 ∧ Cond.methodLink RX1 i arraycopyName ∈ pz_tbl))) (List.forall_mem_cons.mpr ⟨((fun z => by cases z)), List.forall_mem_cons.mpr ⟨(fun _ => Or.inl (s_X11_within (by decide) (by decide) (Or.inr ⟨rfl, rfl, rfl⟩))), List.forall_mem_cons.mpr ⟨((fun z => by cases z)), fun _ h => absurd h List.not_mem_nil⟩⟩⟩) false i k' h rfl
  · intro a M hlen hpre
    obtain ⟨d, c, i, j, n, rfl, hpre⟩ : ∃ d c i j n, a = [.inr (.inr (1, d)), .inr (.inr (0, c)), .inl i, .inl j, .inl n] ∧ (pz_ic M) := by
      have hpre : (match (generalizing := false) a with | [.inr (.inr (1, d)), .inr (.inr (0, c)), .inl i, .inl j, .inl n] => pz_ic M | _ => False) := hpre
      split at hpre
      · exact ⟨_, _, _, _, _, rfl, hpre⟩
      · exact hpre.elim
    exact Nat.le_of_ble_eq_true rfl
  · intro a M hlen hcan hM hpre Ok hgo
    obtain ⟨d, c, i, j, n, rfl, hpre⟩ : ∃ d c i j n, a = [.inr (.inr (1, d)), .inr (.inr (0, c)), .inl i, .inl j, .inl n] ∧ (pz_ic M) := by
      have hpre : (match (generalizing := false) a with | [.inr (.inr (1, d)), .inr (.inr (0, c)), .inl i, .inl j, .inl n] => pz_ic M | _ => False) := hpre
      split at hpre
      · exact ⟨_, _, _, _, _, rfl, hpre⟩
      · exact hpre.elim
    obtain ⟨k_d, hc_d⟩ := pz_tlm hcan
    have k_d : pz_kd d = 1 ∧ d < 231 := k_d
    have R_d := pz_kd1 k_d.1
    subst R_d
    obtain ⟨k_c, hc_c⟩ := pz_tlm hc_d
    have k_c : pz_kd c = 0 ∧ c < 231 := k_c
    have R_c := pz_kd0 k_c.1
    obtain ⟨k_i, hc_i⟩ := pz_tlm hc_c
    have l_i : -2147483648 ≤ i := k_i.1
    have u_i : i ≤ 2147483647 := k_i.2
    obtain ⟨k_j, hc_j⟩ := pz_tlm hc_i
    have l_j : -2147483648 ≤ j := k_j.1
    have u_j : j ≤ 2147483647 := k_j.2
    obtain ⟨k_n, hc_n⟩ := pz_tlm hc_j
    have l_n : -2147483648 ≤ n := k_n.1
    have u_n : n ≤ 2147483647 := k_n.2
    have hI : pz_ic M := hpre
    refine hgo (fun _ => false) 38 0 _ [] M ?_
    refine And.intro (True.intro) ?_
    intro v2 M2 a2 b2 q2
    obtain ⟨q2, z2⟩ := q2
    subst z2
    refine And.intro (fun h5 => ?_) (fun h5 => ?_)
    · skip
      refine And.intro (by first | decide | omega) ?_
      refine And.intro rfl ?_
      refine ⟨⟨by omega, fun F hF hW => ?_⟩, rfl⟩
      have hn := hF.1
      have hm := hW.1
      unfold sd_c0
      first
        | (have b1 := (sd_at R_c hF hW (show 0 ≤ i by split at q2 <;> omega) (by split at q2 <;> omega) A34).2.1
           have d1 := (sd_at R_c hF hW (show 0 ≤ j by split at q10 <;> omega) (by split at q10 <;> omega) A51).2.1
           have E42 : v42 = pz_w (F (16 + i.toNat) - n) := by rw [e42, e37, b1]
           have E59 : v59 = pz_w (F (16 + j.toNat) + n) := by rw [e59, e54, d1]
           split at q2 <;> split at q10 <;> split at q26 <;> omega)
        | (have b1 := (sd_at R_c hF hW (show 0 ≤ i by split at q2 <;> omega) (by split at q2 <;> omega) A34).2.1
           have E42 : v42 = pz_w (F (16 + i.toNat) - n) := by rw [e42, e37, b1]
           split at q2 <;> split at q10 <;> split at q26 <;> omega)
        | (split at q2 <;> split at q10 <;> split at q26 <;> omega)
        | (split at q2 <;> split at q10 <;> omega)
        | (split at q2 <;> omega)
    · skip
      refine And.intro (True.intro) ?_
      intro v10 M10 a10 b10 q10
      obtain ⟨q10, z10⟩ := q10
      subst z10
      refine And.intro (fun h13 => ?_) (fun h13 => ?_)
      · skip
        refine And.intro (by first | decide | omega) ?_
        refine And.intro rfl ?_
        refine ⟨⟨by omega, fun F hF hW => ?_⟩, rfl⟩
        have hn := hF.1
        have hm := hW.1
        unfold sd_c0
        first
          | (have b1 := (sd_at R_c hF hW (show 0 ≤ i by split at q2 <;> omega) (by split at q2 <;> omega) A34).2.1
             have d1 := (sd_at R_c hF hW (show 0 ≤ j by split at q10 <;> omega) (by split at q10 <;> omega) A51).2.1
             have E42 : v42 = pz_w (F (16 + i.toNat) - n) := by rw [e42, e37, b1]
             have E59 : v59 = pz_w (F (16 + j.toNat) + n) := by rw [e59, e54, d1]
             split at q2 <;> split at q10 <;> split at q26 <;> omega)
          | (have b1 := (sd_at R_c hF hW (show 0 ≤ i by split at q2 <;> omega) (by split at q2 <;> omega) A34).2.1
             have E42 : v42 = pz_w (F (16 + i.toNat) - n) := by rw [e42, e37, b1]
             split at q2 <;> split at q10 <;> split at q26 <;> omega)
          | (split at q2 <;> split at q10 <;> split at q26 <;> omega)
          | (split at q2 <;> split at q10 <;> omega)
          | (split at q2 <;> omega)
      · skip
        refine And.intro (fun h18 => ?_) (fun h18 => ?_)
        · skip
          refine And.intro (by first | decide | omega) ?_
          refine And.intro rfl ?_
          refine ⟨⟨by omega, fun F hF hW => ?_⟩, rfl⟩
          have hn := hF.1
          have hm := hW.1
          unfold sd_c0
          first
            | (have b1 := (sd_at R_c hF hW (show 0 ≤ i by split at q2 <;> omega) (by split at q2 <;> omega) A34).2.1
               have d1 := (sd_at R_c hF hW (show 0 ≤ j by split at q10 <;> omega) (by split at q10 <;> omega) A51).2.1
               have E42 : v42 = pz_w (F (16 + i.toNat) - n) := by rw [e42, e37, b1]
               have E59 : v59 = pz_w (F (16 + j.toNat) + n) := by rw [e59, e54, d1]
               split at q2 <;> split at q10 <;> split at q26 <;> omega)
            | (have b1 := (sd_at R_c hF hW (show 0 ≤ i by split at q2 <;> omega) (by split at q2 <;> omega) A34).2.1
               have E42 : v42 = pz_w (F (16 + i.toNat) - n) := by rw [e42, e37, b1]
               split at q2 <;> split at q10 <;> split at q26 <;> omega)
            | (split at q2 <;> split at q10 <;> split at q26 <;> omega)
            | (split at q2 <;> split at q10 <;> omega)
            | (split at q2 <;> omega)
        · skip
          refine And.intro (True.intro) ?_
          intro v26 M26 a26 b26 q26
          obtain ⟨q26, z26⟩ := q26
          subst z26
          refine And.intro (fun h29 => ?_) (fun h29 => ?_)
          · skip
            refine And.intro (by first | decide | omega) ?_
            refine And.intro rfl ?_
            refine ⟨⟨by omega, fun F hF hW => ?_⟩, rfl⟩
            have hn := hF.1
            have hm := hW.1
            unfold sd_c0
            first
              | (have b1 := (sd_at R_c hF hW (show 0 ≤ i by split at q2 <;> omega) (by split at q2 <;> omega) A34).2.1
                 have d1 := (sd_at R_c hF hW (show 0 ≤ j by split at q10 <;> omega) (by split at q10 <;> omega) A51).2.1
                 have E42 : v42 = pz_w (F (16 + i.toNat) - n) := by rw [e42, e37, b1]
                 have E59 : v59 = pz_w (F (16 + j.toNat) + n) := by rw [e59, e54, d1]
                 split at q2 <;> split at q10 <;> split at q26 <;> omega)
              | (have b1 := (sd_at R_c hF hW (show 0 ≤ i by split at q2 <;> omega) (by split at q2 <;> omega) A34).2.1
                 have E42 : v42 = pz_w (F (16 + i.toNat) - n) := by rw [e42, e37, b1]
                 split at q2 <;> split at q10 <;> split at q26 <;> omega)
              | (split at q2 <;> split at q10 <;> split at q26 <;> omega)
              | (split at q2 <;> split at q10 <;> omega)
              | (split at q2 <;> omega)
          · skip
            refine And.intro (True.intro) ?_
            intro r34 M34 k34 q34
            have R34 := pz_kd5 k34
            obtain ⟨q34, z34⟩ := q34
            subst z34
            have A34 := pz_at_lk R_c q34
            have B34 : 89 + 13 * (c - 71) ≤ r34 ∧ r34 ≤ 89 + 13 * (c - 71) + 12 := by
              rw [A34]
              exact pz_lnk_c
            intro v37 e37 a37 b37
            intro v42 e42 a42 b42
            refine And.intro (fun h46 => ?_) (fun h46 => ?_)
            · skip
              refine And.intro (by first | decide | omega) ?_
              refine And.intro rfl ?_
              refine ⟨⟨by omega, fun F hF hW => ?_⟩, rfl⟩
              have hn := hF.1
              have hm := hW.1
              unfold sd_c0
              first
                | (have b1 := (sd_at R_c hF hW (show 0 ≤ i by split at q2 <;> omega) (by split at q2 <;> omega) A34).2.1
                   have d1 := (sd_at R_c hF hW (show 0 ≤ j by split at q10 <;> omega) (by split at q10 <;> omega) A51).2.1
                   have E42 : v42 = pz_w (F (16 + i.toNat) - n) := by rw [e42, e37, b1]
                   have E59 : v59 = pz_w (F (16 + j.toNat) + n) := by rw [e59, e54, d1]
                   split at q2 <;> split at q10 <;> split at q26 <;> omega)
                | (have b1 := (sd_at R_c hF hW (show 0 ≤ i by split at q2 <;> omega) (by split at q2 <;> omega) A34).2.1
                   have E42 : v42 = pz_w (F (16 + i.toNat) - n) := by rw [e42, e37, b1]
                   split at q2 <;> split at q10 <;> split at q26 <;> omega)
                | (split at q2 <;> split at q10 <;> split at q26 <;> omega)
                | (split at q2 <;> split at q10 <;> omega)
                | (split at q2 <;> omega)
            · skip
              refine And.intro (True.intro) ?_
              intro r51 M51 k51 q51
              have R51 := pz_kd5 k51
              obtain ⟨q51, z51⟩ := q51
              subst z51
              have A51 := pz_at_lk R_c q51
              have B51 : 89 + 13 * (c - 71) ≤ r51 ∧ r51 ≤ 89 + 13 * (c - 71) + 12 := by
                rw [A51]
                exact pz_lnk_c
              intro v54 e54 a54 b54
              intro v59 e59 a59 b59
              refine And.intro (fun h63 => ?_) (fun h63 => ?_)
              · skip
                refine And.intro (by first | decide | omega) ?_
                refine And.intro rfl ?_
                refine ⟨⟨by omega, fun F hF hW => ?_⟩, rfl⟩
                have hn := hF.1
                have hm := hW.1
                unfold sd_c0
                first
                  | (have b1 := (sd_at R_c hF hW (show 0 ≤ i by split at q2 <;> omega) (by split at q2 <;> omega) A34).2.1
                     have d1 := (sd_at R_c hF hW (show 0 ≤ j by split at q10 <;> omega) (by split at q10 <;> omega) A51).2.1
                     have E42 : v42 = pz_w (F (16 + i.toNat) - n) := by rw [e42, e37, b1]
                     have E59 : v59 = pz_w (F (16 + j.toNat) + n) := by rw [e59, e54, d1]
                     split at q2 <;> split at q10 <;> split at q26 <;> omega)
                  | (have b1 := (sd_at R_c hF hW (show 0 ≤ i by split at q2 <;> omega) (by split at q2 <;> omega) A34).2.1
                     have E42 : v42 = pz_w (F (16 + i.toNat) - n) := by rw [e42, e37, b1]
                     split at q2 <;> split at q10 <;> split at q26 <;> omega)
                  | (split at q2 <;> split at q10 <;> split at q26 <;> omega)
                  | (split at q2 <;> split at q10 <;> omega)
                  | (split at q2 <;> omega)
              · skip
                refine And.intro (by first | decide | omega) ?_
                refine And.intro rfl ?_
                refine ⟨⟨by omega, fun F hF hW => ?_⟩, rfl⟩
                have hn := hF.1
                have hm := hW.1
                unfold sd_c0
                first
                  | (have b1 := (sd_at R_c hF hW (show 0 ≤ i by split at q2 <;> omega) (by split at q2 <;> omega) A34).2.1
                     have d1 := (sd_at R_c hF hW (show 0 ≤ j by split at q10 <;> omega) (by split at q10 <;> omega) A51).2.1
                     have E42 : v42 = pz_w (F (16 + i.toNat) - n) := by rw [e42, e37, b1]
                     have E59 : v59 = pz_w (F (16 + j.toNat) + n) := by rw [e59, e54, d1]
                     split at q2 <;> split at q10 <;> split at q26 <;> omega)
                  | (have b1 := (sd_at R_c hF hW (show 0 ≤ i by split at q2 <;> omega) (by split at q2 <;> omega) A34).2.1
                     have E42 : v42 = pz_w (F (16 + i.toNat) - n) := by rw [e42, e37, b1]
                     split at q2 <;> split at q10 <;> split at q26 <;> omega)
                  | (split at q2 <;> split at q10 <;> split at q26 <;> omega)
                  | (split at q2 <;> split at q10 <;> omega)
                  | (split at q2 <;> omega)
theorem v3_X1_canHandOver {fr lo i : Nat} {own : String} (h1 : 1 + 1 ≤ fr) (h2 : 8 + (5 + 11) + 22 ≤ lo) (h3 : .methodLink own i yX1_canHandOver ∈ lw_tbl) : pz_cV fr lo own i k3_X1_canHandOver :=
  pz_cVk (maxL := 5) (fr' := 1) (lo' := 22) 4 1 h3_X1_canHandOver rfl ⟨(pz_nhc_RX1 yX1_canHandOver rfl).1, (pz_nhc_RX1 yX1_canHandOver rfl).2, pz_ds39⟩ ⟨pz_wq541, pz_wq539, pz_wq540, pz_wq7⟩ (Or.inl ⟨TX1, 2, rfl⟩) (fun a M _ h => by
    have h : (match (generalizing := false) a with | [.inr (.inr (1, d)), .inr (.inr (0, c)), .inl i, .inl j, .inl n] => pz_ic M | _ => False) := h
    split at h
    · exact ⟨_, _, rfl⟩
    · exact h.elim) h1 h2 h3
noncomputable def k3_X1_handOver : pz_C := (5, 0, fun a M => (match a with | [.inr (.inr (1, d)), .inr (.inr (0, c)), .inl i, .inl j, .inl n] => pz_ic M | _ => False), fun a M r M' => (match a, r with | [.inr (.inr (1, d)), .inr (.inr (0, c)), .inl i, .inl j, .inl n], none => (sd_dd M M' c (fun _ F => 0 ≤ i ∧ 0 ≤ j ∧ (1 ≤ n ∧ n ≤ 99) ∧ sd_c0 F i.toNat j.toNat n) (fun tr _ _ F => sd_pys tr F i.toNat j.toNat n)) ∧ pq_pr (pq_Pd c) M M' | _, _ => False))
noncomputable abbrev ct3_X1_handOver : List (Bool × Nat × pz_C) := [(true, 39, k_X0_at), (true, 76, k3_X1_write)]
set_option maxRecDepth 100000 in
set_option maxHeartbeats 4000000 in
theorem h3_X1_handOver : pz_H yX1_handOver cX1_handOver 5 none k3_X1_handOver 1 25 := by
  refine pz_mk (own := RX1) (tb := t_X1_handOver) (fl := pz_flf fl_RX1) (ci := fun _ => none) (ct := pz_ctf ct3_X1_handOver) (rz := false) (pz_pfc_RX1 yX1_handOver rfl) rfl t_X1_handOver_ok (pz_flk fl_RX1_ok) (fun i v h => by cases h) ?_ ?_ (rfl) ?_ ?_
  · exact fun i k' h => pz_ctk (l := ct3_X1_handOver) (P := fun b i k => b = true → pz_cV 1 25 RX1 i k) (List.forall_mem_cons.mpr ⟨(fun _ => v_X0_at (by decide) (by decide) pz_wq457), List.forall_mem_cons.mpr ⟨(fun _ => v3_X1_write (by decide) (by decide) pz_wq517), fun _ h => absurd h List.not_mem_nil⟩⟩) true i k' h rfl
  · exact fun i k' h => pz_ctk (l := ct3_X1_handOver) (P := fun b i k => b = false → (pz_cS 1 25 RX1 i k ∨ (k = pz_kac ∧ 1 ≤ 1 ∧ 60 ≤ 25 ∧ Cond.methodLink RX1 i arraycopyName ∈ pz_tbl))) (List.forall_mem_cons.mpr ⟨((fun z => by cases z)), List.forall_mem_cons.mpr ⟨((fun z => by cases z)), fun _ h => absurd h List.not_mem_nil⟩⟩) false i k' h rfl
  · intro a M hlen hpre
    obtain ⟨d, c, i, j, n, rfl, hpre⟩ : ∃ d c i j n, a = [.inr (.inr (1, d)), .inr (.inr (0, c)), .inl i, .inl j, .inl n] ∧ (pz_ic M) := by
      have hpre : (match (generalizing := false) a with | [.inr (.inr (1, d)), .inr (.inr (0, c)), .inl i, .inl j, .inl n] => pz_ic M | _ => False) := hpre
      split at hpre
      · exact ⟨_, _, _, _, _, rfl, hpre⟩
      · exact hpre.elim
    exact Nat.le_of_ble_eq_true rfl
  · intro a M hlen hcan hM hpre Ok hgo
    obtain ⟨d, c, i, j, n, rfl, hpre⟩ : ∃ d c i j n, a = [.inr (.inr (1, d)), .inr (.inr (0, c)), .inl i, .inl j, .inl n] ∧ (pz_ic M) := by
      have hpre : (match (generalizing := false) a with | [.inr (.inr (1, d)), .inr (.inr (0, c)), .inl i, .inl j, .inl n] => pz_ic M | _ => False) := hpre
      split at hpre
      · exact ⟨_, _, _, _, _, rfl, hpre⟩
      · exact hpre.elim
    obtain ⟨k_d, hc_d⟩ := pz_tlm hcan
    have k_d : pz_kd d = 1 ∧ d < 231 := k_d
    have R_d := pz_kd1 k_d.1
    subst R_d
    obtain ⟨k_c, hc_c⟩ := pz_tlm hc_d
    have k_c : pz_kd c = 0 ∧ c < 231 := k_c
    have R_c := pz_kd0 k_c.1
    obtain ⟨k_i, hc_i⟩ := pz_tlm hc_c
    have l_i : -2147483648 ≤ i := k_i.1
    have u_i : i ≤ 2147483647 := k_i.2
    obtain ⟨k_j, hc_j⟩ := pz_tlm hc_i
    have l_j : -2147483648 ≤ j := k_j.1
    have u_j : j ≤ 2147483647 := k_j.2
    obtain ⟨k_n, hc_n⟩ := pz_tlm hc_j
    have l_n : -2147483648 ≤ n := k_n.1
    have u_n : n ≤ 2147483647 := k_n.2
    have hI : pz_ic M := hpre
    have hI0 := hI
    have hS : pq_pr (pq_Pd c) M M := pq_pr.rf
    refine hgo (fun _ => false) 25 0 _ [] M ?_
    refine And.intro (True.intro) ?_
    intro r2 M2 k2 q2
    have R2 := pz_kd5 k2
    obtain ⟨q2, z2⟩ := q2
    subst z2
    have A2 := pz_at_lk R_c q2
    have B2 : 89 + 13 * (c - 71) ≤ r2 ∧ r2 ≤ 89 + 13 * (c - 71) + 12 := by
      rw [A2]
      exact pz_lnk_c
    intro v6 e6 a6 b6
    intro v11 e11 a11 b11
    intro M12 e12
    have hS : pq_pr (pq_Pd c) M M12 := by
      rw [e12]
      exact pq_pr_u hS (by unfold pq_Pd pq_Pw pz_lb; first | decide | omega) (by unfold pz_iok; first | decide | omega)
    have hI : pz_ic M12 := hS.1 hI0
    refine And.intro (True.intro) ?_
    intro r17 M17 k17 q17
    have R17 := pz_kd5 k17
    obtain ⟨q17, z17⟩ := q17
    subst z17
    have A17 := pz_at_lk R_c q17
    have B17 : 89 + 13 * (c - 71) ≤ r17 ∧ r17 ≤ 89 + 13 * (c - 71) + 12 := by
      rw [A17]
      exact pz_lnk_c
    intro v21 e21 a21 b21
    intro v26 e26 a26 b26
    intro M27 e27
    have hS : pq_pr (pq_Pd c) M M27 := by
      rw [e27]
      exact pq_pr_u hS (by unfold pq_Pd pq_Pw pz_lb; first | decide | omega) (by unfold pz_iok; first | decide | omega)
    have hI : pz_ic M27 := hS.1 hI0
    refine And.intro (hI) ?_
    intro M36 q36
    obtain ⟨q36, z36⟩ := q36
    have hS : pq_pr (pq_Pd c) M M36 := hS.tr z36
    have hI : pz_ic M36 := hS.1 hI0
    refine And.intro rfl ?_
    refine ⟨fun ls l1 F hT hF hP hW hp => ?_, hS⟩
    obtain ⟨p0, p2, p3, p1⟩ := hp
    have hm := hW.1
    have pc := sd_pys_c hW p1 p3
    obtain ⟨c1, c2, c3, -⟩ := id p1
    have V11 : v11 = F (16 + i.toNat) - n := by
      rw [e11, e6, (sd_at R_c hF hW p0 (by first | decide | omega) A2).2.1, pz_wi (by first | decide | omega) (by first | decide | omega)]
    rw [V11] at e12
    obtain ⟨f12, g12, w12, t12⟩ := sd_put (f := 1) (i := i) (v := F (16 + i.toNat) - n) R_c hF hP hW p0 (by first | decide | omega) A2 (by decide) e12 (sd_okv_1 pc.1)
    have K88 : sd_u F (sd_fo 1 + i.toNat) (F (16 + i.toNat) - n) 88 = F 88 := sd_un (by show (88 : Nat) ≠ 16 + i.toNat; omega)
    have K16 : sd_u F (sd_fo 1 + i.toNat) (F (16 + i.toNat) - n) (16 + j.toNat) = F (16 + j.toNat) := sd_un (by show 16 + j.toNat ≠ 16 + i.toNat; omega)
    have V26 : v26 = F (16 + j.toNat) + n := by
      rw [e26, e21, (sd_at R_c f12 w12 p2 (by rw [K88]; omega) A17).2.1, K16, pz_wi (by first | decide | omega) (by first | decide | omega)]
    rw [V26] at e27
    obtain ⟨f27, g27, w27, t27⟩ := sd_put (f := 1) (i := j) (v := F (16 + j.toNat) + n) R_c f12 g12 w12 p2 (by rw [K88]; omega) A17 (by decide) e27 (sd_okv_1 pc.2)
    have q := q36 _ f27 g27 w27
    rw [t27, t12] at q
    unfold sd_pys
    rw [show ((i.toNat : Nat) : Int) = i by omega]
    exact ⟨q.1, q.2, sd_note_wf w27⟩
theorem v3_X1_handOver {fr lo i : Nat} {own : String} (h1 : 1 + 1 ≤ fr) (h2 : 8 + (5 + 11) + 25 ≤ lo) (h3 : .methodLink own i yX1_handOver ∈ lw_tbl) : pz_cV fr lo own i k3_X1_handOver :=
  pz_cVk (maxL := 5) (fr' := 1) (lo' := 25) 4 1 h3_X1_handOver rfl ⟨(pz_nhc_RX1 yX1_handOver rfl).1, (pz_nhc_RX1 yX1_handOver rfl).2, pz_ds38⟩ ⟨pz_wq546, pz_wq544, pz_wq545, pz_wq7⟩ (Or.inl ⟨TX1, 2, rfl⟩) (fun a M _ h => by
    have h : (match (generalizing := false) a with | [.inr (.inr (1, d)), .inr (.inr (0, c)), .inl i, .inl j, .inl n] => pz_ic M | _ => False) := h
    split at h
    · exact ⟨_, _, rfl⟩
    · exact h.elim) h1 h2 h3
noncomputable def k3_X1_askFor : pz_C := (4, 1, fun a M => (match a with | [.inr (.inr (1, d)), .inr (.inr (0, c)), .inl i, .inl n] => pz_ic M | _ => False), fun a M r M' => (match a, r with | [.inr (.inr (1, d)), .inr (.inr (0, c)), .inl i, .inl n], some (.inl v) => (sd_av M M' c i n v) ∧ pq_pr (pq_Pd c) M M' | _, _ => False))
noncomputable abbrev ct3_X1_askFor : List (Bool × Nat × pz_C) := [(true, 39, k_X0_at), (false, 52, k_J9_min_7cf53), (true, 64, k3_X3_tells), (false, 73, k_J9_max_7cf53), (true, 76, k3_X1_write)]
set_option maxRecDepth 100000 in
set_option maxHeartbeats 4000000 in
theorem h3_X1_askFor : pz_H yX1_askFor cX1_askFor 6 (some .int) k3_X1_askFor 4 97 := by
  refine pz_mk (own := RX1) (tb := t_X1_askFor) (fl := pz_flf fl_RX1) (ci := fun _ => none) (ct := pz_ctf ct3_X1_askFor) (rz := false) (pz_pfc_RX1 yX1_askFor rfl) rfl t_X1_askFor_ok (pz_flk fl_RX1_ok) (fun i v h => by cases h) ?_ ?_ (Or.inl ⟨rfl, rfl⟩) ?_ ?_
  · exact fun i k' h => pz_ctk (l := ct3_X1_askFor) (P := fun b i k => b = true → pz_cV 4 97 RX1 i k) (List.forall_mem_cons.mpr ⟨(fun _ => v_X0_at (by decide) (by decide) pz_wq457), List.forall_mem_cons.mpr ⟨((fun z => by cases z)), List.forall_mem_cons.mpr ⟨(fun _ => v3_X3_tells (by decide) (by decide) pz_wq482), List.forall_mem_cons.mpr ⟨((fun z => by cases z)), List.forall_mem_cons.mpr ⟨(fun _ => v3_X1_write (by decide) (by decide) pz_wq517), fun _ h => absurd h List.not_mem_nil⟩⟩⟩⟩⟩) true i k' h rfl
  · exact fun i k' h => pz_ctk (l := ct3_X1_askFor) (P := fun b i k => b = false → (pz_cS 4 97 RX1 i k ∨ (k = pz_kac ∧ 1 ≤ 4 ∧ 60 ≤ 97 ∧ Cond.methodLink RX1 i arraycopyName ∈ pz_tbl))) (List.forall_mem_cons.mpr ⟨((fun z => by cases z)), List.forall_mem_cons.mpr ⟨(fun _ => Or.inl (s_J9_min_7cf53 (by decide) (by decide) (Or.inl pz_wq481))), List.forall_mem_cons.mpr ⟨((fun z => by cases z)), List.forall_mem_cons.mpr ⟨(fun _ => Or.inl (s_J9_max_7cf53 (by decide) (by decide) (Or.inl pz_wq516))), List.forall_mem_cons.mpr ⟨((fun z => by cases z)), fun _ h => absurd h List.not_mem_nil⟩⟩⟩⟩⟩) false i k' h rfl
  · intro a M hlen hpre
    obtain ⟨d, c, i, n, rfl, hpre⟩ : ∃ d c i n, a = [.inr (.inr (1, d)), .inr (.inr (0, c)), .inl i, .inl n] ∧ (pz_ic M) := by
      have hpre : (match (generalizing := false) a with | [.inr (.inr (1, d)), .inr (.inr (0, c)), .inl i, .inl n] => pz_ic M | _ => False) := hpre
      split at hpre
      · exact ⟨_, _, _, _, rfl, hpre⟩
      · exact hpre.elim
    exact Nat.le_of_ble_eq_true rfl
  · intro a M hlen hcan hM hpre Ok hgo
    obtain ⟨d, c, i, n, rfl, hpre⟩ : ∃ d c i n, a = [.inr (.inr (1, d)), .inr (.inr (0, c)), .inl i, .inl n] ∧ (pz_ic M) := by
      have hpre : (match (generalizing := false) a with | [.inr (.inr (1, d)), .inr (.inr (0, c)), .inl i, .inl n] => pz_ic M | _ => False) := hpre
      split at hpre
      · exact ⟨_, _, _, _, rfl, hpre⟩
      · exact hpre.elim
    obtain ⟨k_d, hc_d⟩ := pz_tlm hcan
    have k_d : pz_kd d = 1 ∧ d < 231 := k_d
    have R_d := pz_kd1 k_d.1
    subst R_d
    obtain ⟨k_c, hc_c⟩ := pz_tlm hc_d
    have k_c : pz_kd c = 0 ∧ c < 231 := k_c
    have R_c := pz_kd0 k_c.1
    obtain ⟨k_i, hc_i⟩ := pz_tlm hc_c
    have l_i : -2147483648 ≤ i := k_i.1
    have u_i : i ≤ 2147483647 := k_i.2
    obtain ⟨k_n, hc_n⟩ := pz_tlm hc_i
    have l_n : -2147483648 ≤ n := k_n.1
    have u_n : n ≤ 2147483647 := k_n.2
    have hI : pz_ic M := hpre
    have hI0 := hI
    have hS : pq_pr (pq_Pd c) M M := pq_pr.rf
    refine hgo (fun _ => false) 49 0 _ [] M ?_
    intro v3 e3 a3 b3
    refine And.intro (True.intro) ?_
    intro r4 M4 k4 q4
    have R4 := pz_kd5 k4
    obtain ⟨q4, z4⟩ := q4
    subst z4
    have A4 := pz_at_lk R_c q4
    have B4 : 89 + 13 * (c - 71) ≤ r4 ∧ r4 ≤ 89 + 13 * (c - 71) + 12 := by
      rw [A4]
      exact pz_lnk_c
    intro v12 e12 a12 b12
    intro v16 e16 a16 b16
    refine And.intro (True.intro) ?_
    intro v17 M17 a17 b17 q17
    obtain ⟨q17, z17⟩ := q17
    subst z17
    intro r21 e21 k21
    have R21 := pz_kd10 k21
    intro r24 e24 k24
    have R24 := pz_kd3 k24
    have L24 : r24 = 10 := by rw [e24, e21]; rfl
    intro v31 e31 a31 b31
    refine And.intro (hI) ?_
    intro v32 M32 a32 b32 q32
    obtain ⟨q32, z32⟩ := q32
    have hS : pq_pr (pq_Pd c) M M32 := hS.tr z32.dw
    have hI : pz_ic M32 := hS.1 hI0
    refine And.intro (True.intro) ?_
    intro v35 M35 a35 b35 q35
    obtain ⟨q35, z35⟩ := q35
    subst z35
    intro v43 e43 a43 b43
    intro v48 e48 a48 b48
    intro M49 e49
    have hS : pq_pr (pq_Pd c) M M49 := by
      rw [e49]
      exact pq_pr_u hS (by unfold pq_Pd pq_Pw pz_lb; first | decide | omega) (by unfold pz_iok; first | decide | omega)
    have hI : pz_ic M49 := hS.1 hI0
    intro v59 e59 a59 b59
    intro v64 e64 a64 b64
    refine And.intro (True.intro) ?_
    intro v65 M65 a65 b65 q65
    obtain ⟨q65, z65⟩ := q65
    subst z65
    intro M68 e68
    have hS : pq_pr (pq_Pd c) M M68 := by
      rw [e68]
      exact pq_pr_u hS (by unfold pq_Pd pq_Pw pz_lb; first | decide | omega) (by unfold pz_iok; first | decide | omega)
    have hI : pz_ic M68 := hS.1 hI0
    intro v76 e76 a76 b76
    refine And.intro (hI) ?_
    intro M79 q79
    obtain ⟨q79, z79⟩ := q79
    have hS : pq_pr (pq_Pd c) M M79 := hS.tr z79
    have hI : pz_ic M79 := hS.1 hI0
    refine And.intro rfl ?_
    refine ⟨fun ls l1 F hT hF hP hW hp => ?_, hS⟩
    obtain ⟨p0, p3, p1, p4⟩ := hp
    have hm := hW.1
    rw [pz_wi (by first | decide | omega) (by first | decide | omega)] at e3 e31 e76
    have K : i.toNat + 1 = v3.toNat := by omega
    obtain ⟨o0, -, o2, -⟩ := hW.2.2 (i.toNat + 1) (by first | decide | omega)
    have b := sd_at R_c hF hW (show 0 ≤ v3 by omega) (show v3 < F 88 by omega) A4
    rw [← K] at b
    obtain ⟨b0, -, b2, -⟩ := b
    rw [L24] at q32
    have G := sd_tel2 R_c hT hF hW (show 0 ≤ v31 by omega) (show v31 < F 88 by omega) q32.2
    rw [show v31.toNat = i.toNat + 1 by omega] at G
    rw [pz_wi (by first | decide | omega) (by first | decide | omega)] at e16
    have F5 : 4 + (i.toNat + 1) = 5 + i.toNat := by omega
    have F29 : 28 + (i.toNat + 1) = 29 + i.toNat := by omega
    rw [F5] at b0 o0
    rw [F29] at b2 o2
    have V35 : v35 = sd_gi ls F (i.toNat + 1) n := by
      unfold sd_gi
      rw [← G, F5, ← b0]
      omega
    have Gb : 0 ≤ sd_gi ls F (i.toNat + 1) n ∧ sd_gi ls F (i.toNat + 1) n ≤ F (5 + i.toNat) - 1 := by
      unfold sd_gi
      rw [F5]
      have := sd_gv_b (ls := ls) (F := F) (i := i.toNat + 1)
      omega
    have f32 := sd_se_d R_c hF hW z32
    have g32 := sd_pg_d hP z32
    have b := sd_at R_c f32 hW (show 0 ≤ v3 by omega) (show v3 < F 88 by omega) A4
    rw [← K, F5, F29] at b
    have V48 : v48 = F (5 + i.toNat) - sd_gi ls F (i.toNat + 1) n := by
      rw [e48, e43, b.1, V35, pz_wi (by first | decide | omega) (by first | decide | omega)]
    rw [V48] at e49
    have P49 := sd_put (f := 0) (i := v3) (v := F (5 + i.toNat) - sd_gi ls F (i.toNat + 1) n) R_c f32 g32 hW (by first | decide | omega) (by first | decide | omega) A4 (by decide) e49 (sd_okv_0 (by first | decide | omega))
    rw [show sd_fo 0 + v3.toNat = 5 + i.toNat by show 4 + v3.toNat = _; omega] at P49
    obtain ⟨f49, g49, w49, t49⟩ := P49
    have K88 : sd_u F (5 + i.toNat) (F (5 + i.toNat) - sd_gi ls F (i.toNat + 1) n) 88 = F 88 := sd_un (by first | decide | omega)
    have b := (sd_at R_c f49 w49 (show 0 ≤ v3 by omega) (by rw [K88]; omega) A4).2.2.1
    rw [← K, F29, sd_un (by first | decide | omega)] at b
    have V64 : v64 = F (29 + i.toNat) - sd_gi ls F (i.toNat + 1) n := by
      rw [e64, e59, b, V35, pz_wi (by first | decide | omega) (by first | decide | omega)]
    have V65 : v65 = max (-999) (F (29 + i.toNat) - sd_gi ls F (i.toNat + 1) n) := by rw [q65, V64]
    rw [V65] at e68
    have P68 := sd_put (f := 2) (i := v3) (v := max (-999) (F (29 + i.toNat) - sd_gi ls F (i.toNat + 1) n)) R_c f49 g49 w49 (by first | decide | omega) (by rw [K88]; omega) A4 (by decide) e68 (sd_okv_2 (by first | decide | omega))
    rw [show sd_fo 2 + v3.toNat = 29 + i.toNat by show 28 + v3.toNat = _; omega] at P68
    obtain ⟨f68, g68, w68, t68⟩ := P68
    have q := q79 _ f68 g68 w68
    rw [t68, t49, z32.2 c 0 (by unfold pq_Pw; first | decide | omega), V35, show v76 = ((i.toNat : Nat) : Int) + 1 by omega] at q
    exact ⟨V35, q.1, q.2, sd_note_wf w68⟩
theorem v3_X1_askFor {fr lo i : Nat} {own : String} (h1 : 4 + 1 ≤ fr) (h2 : 8 + (6 + 11) + 97 ≤ lo) (h3 : .methodLink own i yX1_askFor ∈ lw_tbl) : pz_cV fr lo own i k3_X1_askFor :=
  pz_cVk (maxL := 6) (fr' := 4) (lo' := 97) 3 1 h3_X1_askFor rfl ⟨(pz_nhc_RX1 yX1_askFor rfl).1, (pz_nhc_RX1 yX1_askFor rfl).2, pz_ds36⟩ ⟨pz_wq480, pz_wq478, pz_wq479, pz_wq7⟩ (Or.inl ⟨TX1, 2, rfl⟩) (fun a M _ h => by
    have h : (match (generalizing := false) a with | [.inr (.inr (1, d)), .inr (.inr (0, c)), .inl i, .inl n] => pz_ic M | _ => False) := h
    split at h
    · exact ⟨_, _, rfl⟩
    · exact h.elim) h1 h2 h3
