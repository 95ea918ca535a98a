noncomputable def k3_X1_write : pz_C := (5, 0, fun a M => (match a with | [.inr (.inr (1, d)), .inr (.inr (0, c)), .inl w, .inl i, .inl n] => pz_ic M | _ => False), fun a M r M' => (match a, r with | [.inr (.inr (1, d)), .inr (.inr (0, c)), .inl w, .inl i, .inl n], none => (sd_wr M M' c w i n) ∧ pq_pr (pq_Pd c) M M' | _, _ => False))
noncomputable abbrev ct3_X1_write : List (Bool × Nat × pz_C) := []
set_option maxRecDepth 100000 in
set_option maxHeartbeats 4000000 in
theorem h3_X1_write : pz_H yX1_write cX1_write 6 none k3_X1_write 0 0 := by
  refine pz_mk (own := RX1) (tb := t_X1_write) (fl := pz_flf fl_RX1) (ci := fun _ => none) (ct := pz_ctf ct3_X1_write) (rz := false) (pz_pfc_RX1 yX1_write rfl) rfl t_X1_write_ok (pz_flk fl_RX1_ok) (fun i v h => by cases h) ?_ ?_ (rfl) ?_ ?_
  · exact fun i k' h => pz_ctk (l := ct3_X1_write) (P := fun b i k => b = true → pz_cV 0 0 RX1 i k) (fun _ h => absurd h List.not_mem_nil) true i k' h rfl
  · exact fun i k' h => pz_ctk (l := ct3_X1_write) (P := fun b i k => b = false → (pz_cS 0 0 RX1 i k ∨ (k = pz_kac ∧ 1 ≤ 0 ∧ 60 ≤ 0 ∧ Cond.methodLink RX1 i arraycopyName ∈ pz_tbl))) (fun _ h => absurd h List.not_mem_nil) false i k' h rfl
  · intro a M hlen hpre
    obtain ⟨d, c, w, i, n, rfl, hpre⟩ : ∃ d c w i n, a = [.inr (.inr (1, d)), .inr (.inr (0, c)), .inl w, .inl i, .inl n] ∧ (pz_ic M) := by
      have hpre : (match (generalizing := false) a with | [.inr (.inr (1, d)), .inr (.inr (0, c)), .inl w, .inl i, .inl n] => pz_ic M | _ => False) := hpre
      split at hpre
      · exact ⟨_, _, _, _, _, rfl, hpre⟩
      · exact hpre.elim
    exact Nat.le_of_ble_eq_true rfl
  · intro a M hlen hcan hM hpre Ok hgo
    obtain ⟨d, c, w, i, n, rfl, hpre⟩ : ∃ d c w i n, a = [.inr (.inr (1, d)), .inr (.inr (0, c)), .inl w, .inl i, .inl n] ∧ (pz_ic M) := by
      have hpre : (match (generalizing := false) a with | [.inr (.inr (1, d)), .inr (.inr (0, c)), .inl w, .inl i, .inl n] => pz_ic M | _ => False) := hpre
      split at hpre
      · exact ⟨_, _, _, _, _, rfl, hpre⟩
      · exact hpre.elim
    obtain ⟨k_d, hc_d⟩ := pz_tlm hcan
    have k_d : pz_kd d = 1 ∧ d < 231 := k_d
    have R_d := pz_kd1 k_d.1
    subst R_d
    obtain ⟨k_c, hc_c⟩ := pz_tlm hc_d
    have k_c : pz_kd c = 0 ∧ c < 231 := k_c
    have R_c := pz_kd0 k_c.1
    obtain ⟨k_w, hc_w⟩ := pz_tlm hc_c
    have l_w : -2147483648 ≤ w := k_w.1
    have u_w : w ≤ 2147483647 := k_w.2
    obtain ⟨k_i, hc_i⟩ := pz_tlm hc_w
    have l_i : -2147483648 ≤ i := k_i.1
    have u_i : i ≤ 2147483647 := k_i.2
    obtain ⟨k_n, hc_n⟩ := pz_tlm hc_i
    have l_n : -2147483648 ≤ n := k_n.1
    have u_n : n ≤ 2147483647 := k_n.2
    have hI : pz_ic M := hpre
    have hI0 := hI
    have hS : pq_pr (pq_Pd c) M M := pq_pr.rf
    refine hgo (fun _ => false) 54 0 _ [] M ?_
    intro v1 e1 a1 b1
    have I1 := hI.1 c (by omega) (by omega)
    intro v5 e5 a5 b5
    rw [pz_wi (by omega) (by omega)] at e5
    intro v9 e9 a9 b9
    refine And.intro (fun h12 => ?_) (fun h12 => ?_)
    · skip
      refine And.intro rfl ?_
      refine ⟨fun F hF hP hW => ?_, hS⟩
      have h7 := hF.2.2.2.2.1
      have hb := hW.2.1
      have e9 : decide (M c 0 = 0) = false ∨ F 3 = 150 := by
        first
          | exact Or.inl (decide_eq_false (by omega))
          | exact Or.inr (by omega)
      rw [sd_note_n e9]
      exact ⟨hF, hP⟩
    · skip
      refine And.intro (fun h17 => ?_) (fun h17 => ?_)
      · skip
        refine And.intro rfl ?_
        refine ⟨fun F hF hP hW => ?_, hS⟩
        have h7 := hF.2.2.2.2.1
        have hb := hW.2.1
        have e9 : decide (M c 0 = 0) = false ∨ F 3 = 150 := by
          first
            | exact Or.inl (decide_eq_false (by omega))
            | exact Or.inr (by omega)
        rw [sd_note_n e9]
        exact ⟨hF, hP⟩
      · skip
        intro v23 e23 a23 b23
        try rw [pz_wi (by omega) (by omega)] at e23
        intro r25 e25 k25
        have R25 := pz_kdA k25 (by decide) (by decide)
        have Q25 := pz_nm e25 k_d.1 (by decide) (by decide) rfl
        have W25 : r25 = 45 := e25
        have Z28 : (((pz_ak 13).2 : Nat) : Int) = 600 := rfl
        refine And.intro (fun h29 => ?_) (fun h29 => ?_)
        · skip
          intro r34 e34 k34
          have R34 := pz_kdA k34 (by decide) (by decide)
          have Q34 := pz_nm e34 k_d.1 (by decide) (by decide) rfl
          have W34 : r34 = 45 := e34
          have L34 : r34 = 45 := e34
          intro v40 e40 a40 b40
          have lo43 : (0 : Int) ≤ v5 := by omega
          have tn43 : (((v5).toNat : Nat) : Int) = v5 := Int.toNat_of_nonneg lo43
          refine And.intro (lo43) (And.intro (show _ < (600 : Int) from by omega) ?_)
          intro M43 e43
          have hS : pq_pr (pq_Pd c) M M43 := by
            rw [e43]
            exact pq_pr_u hS (by unfold pq_Pd pq_Pw pz_lb; omega) (by unfold pz_iok; omega)
          have hI : pz_ic M43 := hS.1 hI0
          have T43_0 := pz_uve e43 c 7
          intro r45 e45 k45
          have R45 := pz_kdA k45 (by decide) (by decide)
          have Q45 := pz_nm e45 k_d.1 (by decide) (by decide) rfl
          have W45 : r45 = 45 := e45
          have L45 : r45 = 45 := e45
          intro v51 e51 a51 b51
          try rw [pz_wi (by omega) (by omega)] at e51
          have lo53 : (0 : Int) ≤ v51 := by omega
          have tn53 : (((v51).toNat : Nat) : Int) = v51 := Int.toNat_of_nonneg lo53
          refine And.intro (lo53) (And.intro (show _ < (600 : Int) from by omega) ?_)
          intro M53 e53
          have hS : pq_pr (pq_Pd c) M M53 := by
            rw [e53]
            exact pq_pr_u hS (by unfold pq_Pd pq_Pw pz_lb; omega) (by unfold pz_iok; omega)
          have hI : pz_ic M53 := hS.1 hI0
          have T53_0 := pz_uve e53 c 7
          intro r55 e55 k55
          have R55 := pz_kdA k55 (by decide) (by decide)
          have Q55 := pz_nm e55 k_d.1 (by decide) (by decide) rfl
          have W55 : r55 = 45 := e55
          have L55 : r55 = 45 := e55
          intro v61 e61 a61 b61
          try rw [pz_wi (by omega) (by omega)] at e61
          have lo63 : (0 : Int) ≤ v61 := by omega
          have tn63 : (((v61).toNat : Nat) : Int) = v61 := Int.toNat_of_nonneg lo63
          refine And.intro (lo63) (And.intro (show _ < (600 : Int) from by omega) ?_)
          intro M63 e63
          have hS : pq_pr (pq_Pd c) M M63 := by
            rw [e63]
            exact pq_pr_u hS (by unfold pq_Pd pq_Pw pz_lb; omega) (by unfold pz_iok; omega)
          have hI : pz_ic M63 := hS.1 hI0
          have T63_0 := pz_uve e63 c 7
          intro r65 e65 k65
          have R65 := pz_kdA k65 (by decide) (by decide)
          have Q65 := pz_nm e65 k_d.1 (by decide) (by decide) rfl
          have W65 : r65 = 45 := e65
          have L65 : r65 = 45 := e65
          intro v71 e71 a71 b71
          try rw [pz_wi (by omega) (by omega)] at e71
          have lo74 : (0 : Int) ≤ v71 := by omega
          have tn74 : (((v71).toNat : Nat) : Int) = v71 := Int.toNat_of_nonneg lo74
          refine And.intro (lo74) (And.intro (show _ < (600 : Int) from by omega) ?_)
          intro M74 e74
          have hS : pq_pr (pq_Pd c) M M74 := by
            rw [e74]
            exact pq_pr_u hS (by unfold pq_Pd pq_Pw pz_lb; omega) (by unfold pz_iok; omega)
          have hI : pz_ic M74 := hS.1 hI0
          have T74_0 := pz_uve e74 c 7
          intro v77 e77 a77 b77
          have I77 := hI.1 c (by omega) (by omega)
          intro v81 e81 a81 b81
          try rw [pz_wi (by omega) (by omega)] at e81
          intro M82 e82
          have hS : pq_pr (pq_Pd c) M M82 := by
            rw [e82]
            exact pq_pr_u hS (by unfold pq_Pd pq_Pw pz_lb; omega) (by unfold pz_iok; omega)
          have hI : pz_ic M82 := hS.1 hI0
          have T82_0 := pz_uve e82 c 7
          refine And.intro rfl ?_
          refine ⟨fun F hF hP hW => ?_, hS⟩
          have h7 := hF.2.2.2.2.1
          have h4 := hF.2.1
          have hb := hW.2.1
          rw [show decide (M c 0 = 0) = true from decide_eq_true (by omega)]
          refine sd_note_y R_c hF hP hW (by omega) (a := (F 3).toNat) rfl ?_
          rw [e82, e74, e63, e53, e43, L34, L45, L55, L65, show v5.toNat = 4 * (F 3).toNat by omega, show v51.toNat = 4 * (F 3).toNat + 1 by omega, show v61.toNat = 4 * (F 3).toNat + 2 by omega, show v71.toNat = 4 * (F 3).toNat + 3 by omega, e40, h4, show v81 = F 3 + 1 by omega]
        · skip
          refine And.intro rfl ?_
          refine ⟨fun F hF hP hW => ?_, hS⟩
          have h7 := hF.2.2.2.2.1
          have hb := hW.2.1
          have e9 : decide (M c 0 = 0) = false ∨ F 3 = 150 := by
            first
              | exact Or.inl (decide_eq_false (by omega))
              | exact Or.inr (by omega)
          rw [sd_note_n e9]
          exact ⟨hF, hP⟩
theorem v3_X1_write {fr lo i : Nat} {own : String} (h1 : 0 + 1 ≤ fr) (h2 : 8 + (6 + 11) + 0 ≤ lo) (h3 : .methodLink own i yX1_write ∈ lw_tbl) : pz_cV fr lo own i k3_X1_write :=
  pz_cVk (maxL := 6) (fr' := 0) (lo' := 0) 4 1 h3_X1_write rfl ⟨(pz_nhc_RX1 yX1_write rfl).1, (pz_nhc_RX1 yX1_write rfl).2, pz_ds38⟩ ⟨pz_wq520, pz_wq518, pz_wq519, pz_wq7⟩ (Or.inl ⟨TX1, 2, rfl⟩) (fun a M _ h => by
    have h : (match (generalizing := false) a with | [.inr (.inr (1, d)), .inr (.inr (0, c)), .inl w, .inl i, .inl n] => pz_ic M | _ => False) := h
    split at h
    · exact ⟨_, _, rfl⟩
    · exact h.elim) h1 h2 h3
noncomputable def k3_X1_canAsk : pz_C := (4, 1, fun a M => (match a with | [.inr (.inr (1, d)), .inr (.inr (0, c)), .inl i, .inl n] => pz_ic M | _ => False), fun a M r M' => (match a, r with | [.inr (.inr (1, d)), .inr (.inr (0, c)), .inl i, .inl n], some (.inl v) => ((v = 0 ∨ v = 1) ∧ sd_q M c (fun F => v = 1 ↔ (0 ≤ i ∧ (1 ≤ n ∧ n ≤ 99) ∧ sd_ca F i.toNat))) ∧ M = M' | _, _ => False))
noncomputable abbrev ct3_X1_canAsk : List (Bool × Nat × pz_C) := [(false, 35, k_X11_within), (true, 39, k_X0_at), (true, 43, k_X5_isIn)]
set_option maxRecDepth 100000 in
set_option maxHeartbeats 4000000 in
theorem h3_X1_canAsk : pz_H yX1_canAsk cX1_canAsk 4 (some .boolean) k3_X1_canAsk 1 22 := by
  refine pz_mk (own := RX1) (tb := t_X1_canAsk) (fl := pz_flf fl_RX1) (ci := fun _ => none) (ct := pz_ctf ct3_X1_canAsk) (rz := true) (pz_pfc_RX1 yX1_canAsk rfl) rfl t_X1_canAsk_ok (pz_flk fl_RX1_ok) (fun i v h => by cases h) ?_ ?_ (Or.inr ⟨rfl, rfl⟩) ?_ ?_
  · exact fun i k' h => pz_ctk (l := ct3_X1_canAsk) (P := fun b i k => b = true → pz_cV 1 22 RX1 i k) (List.forall_mem_cons.mpr ⟨((fun z => by cases z)), List.forall_mem_cons.mpr ⟨(fun _ => v_X0_at (by decide) (by decide) pz_wq457), List.forall_mem_cons.mpr ⟨(fun _ => v_X5_isIn (by decide) (by decide) pz_wq458), fun _ h => absurd h List.not_mem_nil⟩⟩⟩) true i k' h rfl
  · exact fun i k' h => pz_ctk (l := ct3_X1_canAsk) (P := fun b i k => b = false → (pz_cS 1 22 RX1 i k ∨ (k = pz_kac ∧ 1 ≤ 1 ∧ 60 ≤ 22 ∧ Cond.methodLink RX1 i arraycopyName ∈ pz_tbl))) (List.forall_mem_cons.mpr ⟨(fun _ => Or.inl (s_X11_within (by decide) (by decide) (Or.inr ⟨rfl, rfl, rfl⟩))), List.forall_mem_cons.mpr ⟨((fun z => by cases z)), List.forall_mem_cons.mpr ⟨((fun z => by cases z)), fun _ h => absurd h List.not_mem_nil⟩⟩⟩) false i k' h rfl
  · intro a M hlen hpre
    obtain ⟨d, c, i, n, rfl, hpre⟩ : ∃ d c i n, a = [.inr (.inr (1, d)), .inr (.inr (0, c)), .inl i, .inl n] ∧ (pz_ic M) := by
      have hpre : (match (generalizing := false) a with | [.inr (.inr (1, d)), .inr (.inr (0, c)), .inl i, .inl n] => pz_ic M | _ => False) := hpre
      split at hpre
      · exact ⟨_, _, _, _, rfl, hpre⟩
      · exact hpre.elim
    exact Nat.le_of_ble_eq_true rfl
  · intro a M hlen hcan hM hpre Ok hgo
    obtain ⟨d, c, i, n, rfl, hpre⟩ : ∃ d c i n, a = [.inr (.inr (1, d)), .inr (.inr (0, c)), .inl i, .inl n] ∧ (pz_ic M) := by
      have hpre : (match (generalizing := false) a with | [.inr (.inr (1, d)), .inr (.inr (0, c)), .inl i, .inl n] => pz_ic M | _ => False) := hpre
      split at hpre
      · exact ⟨_, _, _, _, rfl, hpre⟩
      · exact hpre.elim
    obtain ⟨k_d, hc_d⟩ := pz_tlm hcan
    have k_d : pz_kd d = 1 ∧ d < 231 := k_d
    have R_d := pz_kd1 k_d.1
    subst R_d
    obtain ⟨k_c, hc_c⟩ := pz_tlm hc_d
    have k_c : pz_kd c = 0 ∧ c < 231 := k_c
    have R_c := pz_kd0 k_c.1
    obtain ⟨k_i, hc_i⟩ := pz_tlm hc_c
    have l_i : -2147483648 ≤ i := k_i.1
    have u_i : i ≤ 2147483647 := k_i.2
    obtain ⟨k_n, hc_n⟩ := pz_tlm hc_i
    have l_n : -2147483648 ≤ n := k_n.1
    have u_n : n ≤ 2147483647 := k_n.2
    have hI : pz_ic M := hpre
    refine hgo (fun _ => false) 26 0 _ [] M ?_
    refine And.intro (fun h1 => ?_) (fun h1 => ?_)
    · skip
      refine And.intro (by omega) ?_
      refine And.intro rfl ?_
      refine ⟨⟨by omega, fun F hF hW => ?_⟩, rfl⟩
      have hn := hF.1
      have hm := hW.1
      first
        | (have b := sd_at R_c hF hW (show 0 ≤ v27 by omega) (show v27 < F 88 by omega) A28
           have b5 := b.2.2.2.2.2.1
           have b7 := b.2.2.2.2.2.2.2
           rw [show 52 + v27.toNat = 52 + (i.toNat + 1) by omega] at b5
           rw [show 76 + v27.toNat = 76 + (i.toNat + 1) by omega] at b7
           have P := hW.2.2 (i.toNat + 1) (by omega)
           unfold sd_lw at P
           rw [b5, b7] at q31
           unfold sd_ca sd_in
           split at q31 <;> split at q18 <;> omega)
        | (unfold sd_ca
           split at q18 <;> omega)
        | (unfold sd_ca
           omega)
    · skip
      intro v6 e6 a6 b6
      have I6 := hI.1 c (by omega) (by omega)
      intro v10 e10 a10 b10
      try rw [pz_wi (by omega) (by omega)] at e10
      refine And.intro (fun h11 => ?_) (fun h11 => ?_)
      · skip
        refine And.intro (by omega) ?_
        refine And.intro rfl ?_
        refine ⟨⟨by omega, fun F hF hW => ?_⟩, rfl⟩
        have hn := hF.1
        have hm := hW.1
        first
          | (have b := sd_at R_c hF hW (show 0 ≤ v27 by omega) (show v27 < F 88 by omega) A28
             have b5 := b.2.2.2.2.2.1
             have b7 := b.2.2.2.2.2.2.2
             rw [show 52 + v27.toNat = 52 + (i.toNat + 1) by omega] at b5
             rw [show 76 + v27.toNat = 76 + (i.toNat + 1) by omega] at b7
             have P := hW.2.2 (i.toNat + 1) (by omega)
             unfold sd_lw at P
             rw [b5, b7] at q31
             unfold sd_ca sd_in
             split at q31 <;> split at q18 <;> omega)
          | (unfold sd_ca
             split at q18 <;> omega)
          | (unfold sd_ca
             omega)
      · skip
        refine And.intro (True.intro) ?_
        intro v18 M18 a18 b18 q18
        obtain ⟨q18, z18⟩ := q18
        subst z18
        refine And.intro (fun h21 => ?_) (fun h21 => ?_)
        · skip
          refine And.intro (by omega) ?_
          refine And.intro rfl ?_
          refine ⟨⟨by omega, fun F hF hW => ?_⟩, rfl⟩
          have hn := hF.1
          have hm := hW.1
          first
            | (have b := sd_at R_c hF hW (show 0 ≤ v27 by omega) (show v27 < F 88 by omega) A28
               have b5 := b.2.2.2.2.2.1
               have b7 := b.2.2.2.2.2.2.2
               rw [show 52 + v27.toNat = 52 + (i.toNat + 1) by omega] at b5
               rw [show 76 + v27.toNat = 76 + (i.toNat + 1) by omega] at b7
               have P := hW.2.2 (i.toNat + 1) (by omega)
               unfold sd_lw at P
               rw [b5, b7] at q31
               unfold sd_ca sd_in
               split at q31 <;> split at q18 <;> omega)
            | (unfold sd_ca
               split at q18 <;> omega)
            | (unfold sd_ca
               omega)
        · skip
          intro v27 e27 a27 b27
          try rw [pz_wi (by omega) (by omega)] at e27
          refine And.intro (True.intro) ?_
          intro r28 M28 k28 q28
          have R28 := pz_kd5 k28
          obtain ⟨q28, z28⟩ := q28
          subst z28
          have A28 := pz_at_lk R_c q28
          have B28 : 89 + 13 * (c - 71) ≤ r28 ∧ r28 ≤ 89 + 13 * (c - 71) + 12 := by
            rw [A28]
            exact pz_lnk_c
          refine And.intro (True.intro) ?_
          intro v31 M31 a31 b31 q31
          obtain ⟨q31, z31⟩ := q31
          subst z31
          refine And.intro (fun h34 => ?_) (fun h34 => ?_)
          · skip
            refine And.intro (by omega) ?_
            refine And.intro rfl ?_
            refine ⟨⟨by omega, fun F hF hW => ?_⟩, rfl⟩
            have hn := hF.1
            have hm := hW.1
            first
              | (have b := sd_at R_c hF hW (show 0 ≤ v27 by omega) (show v27 < F 88 by omega) A28
                 have b5 := b.2.2.2.2.2.1
                 have b7 := b.2.2.2.2.2.2.2
                 rw [show 52 + v27.toNat = 52 + (i.toNat + 1) by omega] at b5
                 rw [show 76 + v27.toNat = 76 + (i.toNat + 1) by omega] at b7
                 have P := hW.2.2 (i.toNat + 1) (by omega)
                 unfold sd_lw at P
                 rw [b5, b7] at q31
                 unfold sd_ca sd_in
                 split at q31 <;> split at q18 <;> omega)
              | (unfold sd_ca
                 split at q18 <;> omega)
              | (unfold sd_ca
                 omega)
          · skip
            refine And.intro (by omega) ?_
            refine And.intro rfl ?_
            refine ⟨⟨by omega, fun F hF hW => ?_⟩, rfl⟩
            have hn := hF.1
            have hm := hW.1
            first
              | (have b := sd_at R_c hF hW (show 0 ≤ v27 by omega) (show v27 < F 88 by omega) A28
                 have b5 := b.2.2.2.2.2.1
                 have b7 := b.2.2.2.2.2.2.2
                 rw [show 52 + v27.toNat = 52 + (i.toNat + 1) by omega] at b5
                 rw [show 76 + v27.toNat = 76 + (i.toNat + 1) by omega] at b7
                 have P := hW.2.2 (i.toNat + 1) (by omega)
                 unfold sd_lw at P
                 rw [b5, b7] at q31
                 unfold sd_ca sd_in
                 split at q31 <;> split at q18 <;> omega)
              | (unfold sd_ca
                 split at q18 <;> omega)
              | (unfold sd_ca
                 omega)
theorem v3_X1_canAsk {fr lo i : Nat} {own : String} (h1 : 1 + 1 ≤ fr) (h2 : 8 + (4 + 11) + 22 ≤ lo) (h3 : .methodLink own i yX1_canAsk ∈ lw_tbl) : pz_cV fr lo own i k3_X1_canAsk :=
  pz_cVk (maxL := 4) (fr' := 1) (lo' := 22) 3 1 h3_X1_canAsk rfl ⟨(pz_nhc_RX1 yX1_canAsk rfl).1, (pz_nhc_RX1 yX1_canAsk rfl).2, pz_ds37⟩ ⟨pz_wq455, pz_wq453, pz_wq454, pz_wq7⟩ (Or.inl ⟨TX1, 2, rfl⟩) (fun a M _ h => by
    have h : (match (generalizing := false) a with | [.inr (.inr (1, d)), .inr (.inr (0, c)), .inl i, .inl n] => pz_ic M | _ => False) := h
    split at h
    · exact ⟨_, _, rfl⟩
    · exact h.elim) h1 h2 h3
