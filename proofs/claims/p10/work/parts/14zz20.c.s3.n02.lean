noncomputable def k3_X1_canGetReady : pz_C := (3, 1, fun a M => (match a with | [.inr (.inr (1, d)), .inr (.inr (0, c)), .inl i] => pz_ic M | _ => False), fun a M r M' => (match a, r with | [.inr (.inr (1, d)), .inr (.inr (0, c)), .inl i], some (.inl v) => ((v = 0 ∨ v = 1) ∧ sd_q M c (fun F => v = 1 ↔ (0 ≤ i ∧ sd_cp F i.toNat))) ∧ M = M' | _, _ => False))
noncomputable abbrev ct3_X1_canGetReady : List (Bool × Nat × pz_C) := [(true, 83, k_X0_has), (true, 39, k_X0_at), (true, 43, k_X5_isIn)]
set_option maxRecDepth 100000 in
set_option maxHeartbeats 4000000 in
theorem h3_X1_canGetReady : pz_H yX1_canGetReady cX1_canGetReady 3 (some .boolean) k3_X1_canGetReady 1 21 := by
  refine pz_mk (own := RX1) (tb := t_X1_canGetReady) (fl := pz_flf fl_RX1) (ci := fun _ => none) (ct := pz_ctf ct3_X1_canGetReady) (rz := true) (pz_pfc_RX1 yX1_canGetReady rfl) rfl t_X1_canGetReady_ok (pz_flk fl_RX1_ok) (fun i v h => by cases h) ?_ ?_ (Or.inr ⟨rfl, rfl⟩) ?_ ?_
  · exact fun i k' h => pz_ctk (l := ct3_X1_canGetReady) (P := fun b i k => b = true → pz_cV 1 21 RX1 i k) (List.forall_mem_cons.mpr ⟨(fun _ => v_X0_has (by decide) (by decide) pz_wq542), List.forall_mem_cons.mpr ⟨(fun _ => v_X0_at (by decide) (by decide) pz_wq457), List.forall_mem_cons.mpr ⟨(fun _ => v_X5_isIn (by decide) (by decide) pz_wq458), fun _ h => absurd h List.not_mem_nil⟩⟩⟩) true i k' h rfl
  · exact fun i k' h => pz_ctk (l := ct3_X1_canGetReady) (P := fun b i k => b = false → (pz_cS 1 21 RX1 i k ∨ (k = pz_kac ∧ 1 ≤ 1 ∧ 60 ≤ 21 ∧ Cond.methodLink RX1 i arraycopyName ∈ pz_tbl))) (List.forall_mem_cons.mpr ⟨((fun z => by cases z)), List.forall_mem_cons.mpr ⟨((fun z => by cases z)), List.forall_mem_cons.mpr ⟨((fun z => by cases z)), fun _ h => absurd h List.not_mem_nil⟩⟩⟩) false i k' h rfl
  · intro a M hlen hpre
    obtain ⟨d, c, i, rfl, hpre⟩ : ∃ d c i, a = [.inr (.inr (1, d)), .inr (.inr (0, c)), .inl i] ∧ (pz_ic M) := by
      have hpre : (match (generalizing := false) a with | [.inr (.inr (1, d)), .inr (.inr (0, c)), .inl i] => pz_ic M | _ => False) := hpre
      split at hpre
      · exact ⟨_, _, _, rfl, hpre⟩
      · exact hpre.elim
    exact Nat.le_of_ble_eq_true rfl
  · intro a M hlen hcan hM hpre Ok hgo
    obtain ⟨d, c, i, rfl, hpre⟩ : ∃ d c i, a = [.inr (.inr (1, d)), .inr (.inr (0, c)), .inl i] ∧ (pz_ic M) := by
      have hpre : (match (generalizing := false) a with | [.inr (.inr (1, d)), .inr (.inr (0, c)), .inl i] => pz_ic M | _ => False) := hpre
      split at hpre
      · exact ⟨_, _, _, rfl, hpre⟩
      · exact hpre.elim
    obtain ⟨k_d, hc_d⟩ := pz_tlm hcan
    have k_d : pz_kd d = 1 ∧ d < 231 := k_d
    have R_d := pz_kd1 k_d.1
    subst R_d
    obtain ⟨k_c, hc_c⟩ := pz_tlm hc_d
    have k_c : pz_kd c = 0 ∧ c < 231 := k_c
    have R_c := pz_kd0 k_c.1
    obtain ⟨k_i, hc_i⟩ := pz_tlm hc_c
    have l_i : -2147483648 ≤ i := k_i.1
    have u_i : i ≤ 2147483647 := k_i.2
    have hI : pz_ic M := hpre
    refine hgo (fun _ => false) 20 0 _ [] M ?_
    refine And.intro (True.intro) ?_
    intro v2 M2 a2 b2 q2
    obtain ⟨q2, z2⟩ := q2
    subst z2
    refine And.intro (fun h5 => ?_) (fun h5 => ?_)
    · skip
      refine And.intro (by omega) ?_
      refine And.intro rfl ?_
      refine ⟨⟨by omega, fun F hF hW => ?_⟩, rfl⟩
      have hn := hF.1
      have hm := hW.1
      have K2 : (0 ≤ i ∧ i < M c 3 ∧ v2 = 1) ∨ (¬ (0 ≤ i ∧ i < M c 3) ∧ v2 = 0) := by
        split at q2
        · exact Or.inl ⟨by omega, by omega, by omega⟩
        · exact Or.inr ⟨by assumption, by omega⟩
      first
        | (have b4 := (sd_at R_c hF hW (show 0 ≤ i by omega) (by omega) A10).2.2.2.2.1
           have b := sd_at R_c hF hW (show 0 ≤ i by omega) (by omega) A21
           have b5 := b.2.2.2.2.2.1
           have b7 := b.2.2.2.2.2.2.2
           have P := hW.2.2 i.toNat (by omega)
           unfold sd_lw at P
           rw [b5, b7] at q24
           unfold sd_cp sd_in
           split at q24 <;> omega)
        | (have b4 := (sd_at R_c hF hW (show 0 ≤ i by omega) (by omega) A10).2.2.2.2.1
           have P := hW.2.2 i.toNat (by omega)
           unfold sd_lw at P
           unfold sd_cp
           omega)
        | (unfold sd_cp
           omega)
    · skip
      refine And.intro (True.intro) ?_
      intro r10 M10 k10 q10
      have R10 := pz_kd5 k10
      obtain ⟨q10, z10⟩ := q10
      subst z10
      have A10 := pz_at_lk R_c q10
      have B10 : 89 + 13 * (c - 71) ≤ r10 ∧ r10 ≤ 89 + 13 * (c - 71) + 12 := by
        rw [A10]
        exact pz_lnk_c
      intro v13 e13 a13 b13
      refine And.intro (fun h16 => ?_) (fun h16 => ?_)
      · skip
        refine And.intro (by omega) ?_
        refine And.intro rfl ?_
        refine ⟨⟨by omega, fun F hF hW => ?_⟩, rfl⟩
        have hn := hF.1
        have hm := hW.1
        have K2 : (0 ≤ i ∧ i < M c 3 ∧ v2 = 1) ∨ (¬ (0 ≤ i ∧ i < M c 3) ∧ v2 = 0) := by
          split at q2
          · exact Or.inl ⟨by omega, by omega, by omega⟩
          · exact Or.inr ⟨by assumption, by omega⟩
        first
          | (have b4 := (sd_at R_c hF hW (show 0 ≤ i by omega) (by omega) A10).2.2.2.2.1
             have b := sd_at R_c hF hW (show 0 ≤ i by omega) (by omega) A21
             have b5 := b.2.2.2.2.2.1
             have b7 := b.2.2.2.2.2.2.2
             have P := hW.2.2 i.toNat (by omega)
             unfold sd_lw at P
             rw [b5, b7] at q24
             unfold sd_cp sd_in
             split at q24 <;> omega)
          | (have b4 := (sd_at R_c hF hW (show 0 ≤ i by omega) (by omega) A10).2.2.2.2.1
             have P := hW.2.2 i.toNat (by omega)
             unfold sd_lw at P
             unfold sd_cp
             omega)
          | (unfold sd_cp
             omega)
      · skip
        refine And.intro (True.intro) ?_
        intro r21 M21 k21 q21
        have R21 := pz_kd5 k21
        obtain ⟨q21, z21⟩ := q21
        subst z21
        have A21 := pz_at_lk R_c q21
        have B21 : 89 + 13 * (c - 71) ≤ r21 ∧ r21 ≤ 89 + 13 * (c - 71) + 12 := by
          rw [A21]
          exact pz_lnk_c
        refine And.intro (True.intro) ?_
        intro v24 M24 a24 b24 q24
        obtain ⟨q24, z24⟩ := q24
        subst z24
        refine And.intro (fun h27 => ?_) (fun h27 => ?_)
        · skip
          refine And.intro (by omega) ?_
          refine And.intro rfl ?_
          refine ⟨⟨by omega, fun F hF hW => ?_⟩, rfl⟩
          have hn := hF.1
          have hm := hW.1
          have K2 : (0 ≤ i ∧ i < M c 3 ∧ v2 = 1) ∨ (¬ (0 ≤ i ∧ i < M c 3) ∧ v2 = 0) := by
            split at q2
            · exact Or.inl ⟨by omega, by omega, by omega⟩
            · exact Or.inr ⟨by assumption, by omega⟩
          first
            | (have b4 := (sd_at R_c hF hW (show 0 ≤ i by omega) (by omega) A10).2.2.2.2.1
               have b := sd_at R_c hF hW (show 0 ≤ i by omega) (by omega) A21
               have b5 := b.2.2.2.2.2.1
               have b7 := b.2.2.2.2.2.2.2
               have P := hW.2.2 i.toNat (by omega)
               unfold sd_lw at P
               rw [b5, b7] at q24
               unfold sd_cp sd_in
               split at q24 <;> omega)
            | (have b4 := (sd_at R_c hF hW (show 0 ≤ i by omega) (by omega) A10).2.2.2.2.1
               have P := hW.2.2 i.toNat (by omega)
               unfold sd_lw at P
               unfold sd_cp
               omega)
            | (unfold sd_cp
               omega)
        · skip
          refine And.intro (by omega) ?_
          refine And.intro rfl ?_
          refine ⟨⟨by omega, fun F hF hW => ?_⟩, rfl⟩
          have hn := hF.1
          have hm := hW.1
          have K2 : (0 ≤ i ∧ i < M c 3 ∧ v2 = 1) ∨ (¬ (0 ≤ i ∧ i < M c 3) ∧ v2 = 0) := by
            split at q2
            · exact Or.inl ⟨by omega, by omega, by omega⟩
            · exact Or.inr ⟨by assumption, by omega⟩
          first
            | (have b4 := (sd_at R_c hF hW (show 0 ≤ i by omega) (by omega) A10).2.2.2.2.1
               have b := sd_at R_c hF hW (show 0 ≤ i by omega) (by omega) A21
               have b5 := b.2.2.2.2.2.1
               have b7 := b.2.2.2.2.2.2.2
               have P := hW.2.2 i.toNat (by omega)
               unfold sd_lw at P
               rw [b5, b7] at q24
               unfold sd_cp sd_in
               split at q24 <;> omega)
            | (have b4 := (sd_at R_c hF hW (show 0 ≤ i by omega) (by omega) A10).2.2.2.2.1
               have P := hW.2.2 i.toNat (by omega)
               unfold sd_lw at P
               unfold sd_cp
               omega)
            | (unfold sd_cp
               omega)
theorem v3_X1_canGetReady {fr lo i : Nat} {own : String} (h1 : 1 + 1 ≤ fr) (h2 : 8 + (3 + 11) + 21 ≤ lo) (h3 : .methodLink own i yX1_canGetReady ∈ lw_tbl) : pz_cV fr lo own i k3_X1_canGetReady :=
  pz_cVk (maxL := 3) (fr' := 1) (lo' := 21) 2 1 h3_X1_canGetReady rfl ⟨(pz_nhc_RX1 yX1_canGetReady rfl).1, (pz_nhc_RX1 yX1_canGetReady rfl).2, pz_ds35⟩ ⟨pz_wq554, pz_wq552, pz_wq553, pz_wq7⟩ (Or.inl ⟨TX1, 2, rfl⟩) (fun a M _ h => by
    have h : (match (generalizing := false) a with | [.inr (.inr (1, d)), .inr (.inr (0, c)), .inl i] => pz_ic M | _ => False) := h
    split at h
    · exact ⟨_, _, rfl⟩
    · exact h.elim) h1 h2 h3
noncomputable def k3_X1_putBridge : pz_C := (3, 0, fun a M => (match a with | [.inr (.inr (1, d)), .inr (.inr (0, c)), .inl i] => pz_ic M | _ => False), fun a M r M' => (match a, r with | [.inr (.inr (1, d)), .inr (.inr (0, c)), .inl i], none => (sd_dd M M' c (fun _ F => 0 ≤ i ∧ sd_cb F i.toNat) (fun tr _ _ F => sd_bri tr F i.toNat)) ∧ pq_pr (pq_Pd c) M M' | _, _ => False))
noncomputable abbrev ct3_X1_putBridge : List (Bool × Nat × pz_C) := [(true, 39, k_X0_at), (true, 76, k3_X1_write)]
set_option maxRecDepth 100000 in
set_option maxHeartbeats 4000000 in
theorem h3_X1_putBridge : pz_H yX1_putBridge cX1_putBridge 3 none k3_X1_putBridge 1 25 := by
  refine pz_mk (own := RX1) (tb := t_X1_putBridge) (fl := pz_flf fl_RX1) (ci := fun _ => none) (ct := pz_ctf ct3_X1_putBridge) (rz := false) (pz_pfc_RX1 yX1_putBridge rfl) rfl t_X1_putBridge_ok (pz_flk fl_RX1_ok) (fun i v h => by cases h) ?_ ?_ (rfl) ?_ ?_
  · exact fun i k' h => pz_ctk (l := ct3_X1_putBridge) (P := fun b i k => b = true → pz_cV 1 25 RX1 i k) (List.forall_mem_cons.mpr ⟨(fun _ => v_X0_at (by decide) (by decide) pz_wq457), List.forall_mem_cons.mpr ⟨(fun _ => v3_X1_write (by decide) (by decide) pz_wq517), fun _ h => absurd h List.not_mem_nil⟩⟩) true i k' h rfl
  · exact fun i k' h => pz_ctk (l := ct3_X1_putBridge) (P := fun b i k => b = false → (pz_cS 1 25 RX1 i k ∨ (k = pz_kac ∧ 1 ≤ 1 ∧ 60 ≤ 25 ∧ Cond.methodLink RX1 i arraycopyName ∈ pz_tbl))) (List.forall_mem_cons.mpr ⟨((fun z => by cases z)), List.forall_mem_cons.mpr ⟨((fun z => by cases z)), fun _ h => absurd h List.not_mem_nil⟩⟩) false i k' h rfl
  · intro a M hlen hpre
    obtain ⟨d, c, i, rfl, hpre⟩ : ∃ d c i, a = [.inr (.inr (1, d)), .inr (.inr (0, c)), .inl i] ∧ (pz_ic M) := by
      have hpre : (match (generalizing := false) a with | [.inr (.inr (1, d)), .inr (.inr (0, c)), .inl i] => pz_ic M | _ => False) := hpre
      split at hpre
      · exact ⟨_, _, _, rfl, hpre⟩
      · exact hpre.elim
    exact Nat.le_of_ble_eq_true rfl
  · intro a M hlen hcan hM hpre Ok hgo
    obtain ⟨d, c, i, rfl, hpre⟩ : ∃ d c i, a = [.inr (.inr (1, d)), .inr (.inr (0, c)), .inl i] ∧ (pz_ic M) := by
      have hpre : (match (generalizing := false) a with | [.inr (.inr (1, d)), .inr (.inr (0, c)), .inl i] => pz_ic M | _ => False) := hpre
      split at hpre
      · exact ⟨_, _, _, rfl, hpre⟩
      · exact hpre.elim
    obtain ⟨k_d, hc_d⟩ := pz_tlm hcan
    have k_d : pz_kd d = 1 ∧ d < 231 := k_d
    have R_d := pz_kd1 k_d.1
    subst R_d
    obtain ⟨k_c, hc_c⟩ := pz_tlm hc_d
    have k_c : pz_kd c = 0 ∧ c < 231 := k_c
    have R_c := pz_kd0 k_c.1
    obtain ⟨k_i, hc_i⟩ := pz_tlm hc_c
    have l_i : -2147483648 ≤ i := k_i.1
    have u_i : i ≤ 2147483647 := k_i.2
    have hI : pz_ic M := hpre
    have hI0 := hI
    have hS : pq_pr (pq_Pd c) M M := pq_pr.rf
    refine hgo (fun _ => false) 14 0 _ [] M ?_
    refine And.intro (True.intro) ?_
    intro r2 M2 k2 q2
    have R2 := pz_kd5 k2
    obtain ⟨q2, z2⟩ := q2
    subst z2
    have A2 := pz_at_lk R_c q2
    have B2 : 89 + 13 * (c - 71) ≤ r2 ∧ r2 ≤ 89 + 13 * (c - 71) + 12 := by
      rw [A2]
      exact pz_lnk_c
    intro M6 e6
    have hS : pq_pr (pq_Pd c) M M6 := by
      rw [e6]
      exact pq_pr_u hS (by unfold pq_Pd pq_Pw pz_lb; omega) (by unfold pz_iok; omega)
    have hI : pz_ic M6 := hS.1 hI0
    refine And.intro (hI) ?_
    intro M14 q14
    obtain ⟨q14, z14⟩ := q14
    have hS : pq_pr (pq_Pd c) M M14 := hS.tr z14
    have hI : pz_ic M14 := hS.1 hI0
    refine And.intro rfl ?_
    refine ⟨fun ls l1 F hT hF hP hW hp => ?_, hS⟩
    obtain ⟨p0, p1⟩ := hp
    have hm := hW.1
    obtain ⟨p3, p4⟩ := id p1
    obtain ⟨f6, g6, w6, t6⟩ := sd_put (f := 6) (i := i) (v := 1) R_c hF hP hW (by omega) (by omega) A2 (by decide) e6 (sd_okv_6 (Or.inr ⟨rfl, p1.2.2.1, p1.1⟩))
    have K6 : (sd_u F (sd_fo 6 + i.toNat) 1) 88 = F 88 := (sd_un (by show (88 : Nat) ≠ 64 + i.toNat; omega))
    have q := q14 _ f6 g6 w6
    rw [t6] at q
    have ei : ((i.toNat : Nat) : Int) = i := by omega
    unfold sd_bri
    rw [ei]
    exact ⟨q.1, q.2, sd_note_wf w6⟩
theorem v3_X1_putBridge {fr lo i : Nat} {own : String} (h1 : 1 + 1 ≤ fr) (h2 : 8 + (3 + 11) + 25 ≤ lo) (h3 : .methodLink own i yX1_putBridge ∈ lw_tbl) : pz_cV fr lo own i k3_X1_putBridge :=
  pz_cVk (maxL := 3) (fr' := 1) (lo' := 25) 2 1 h3_X1_putBridge rfl ⟨(pz_nhc_RX1 yX1_putBridge rfl).1, (pz_nhc_RX1 yX1_putBridge rfl).2, pz_ds34⟩ ⟨pz_wq533, pz_wq531, pz_wq532, pz_wq7⟩ (Or.inl ⟨TX1, 2, rfl⟩) (fun a M _ h => by
    have h : (match (generalizing := false) a with | [.inr (.inr (1, d)), .inr (.inr (0, c)), .inl i] => pz_ic M | _ => False) := h
    split at h
    · exact ⟨_, _, rfl⟩
    · exact h.elim) h1 h2 h3
noncomputable def k3_X1_getReady : pz_C := (3, 0, fun a M => (match a with | [.inr (.inr (1, d)), .inr (.inr (0, c)), .inl i] => pz_ic M | _ => False), fun a M r M' => (match a, r with | [.inr (.inr (1, d)), .inr (.inr (0, c)), .inl i], none => (sd_dd M M' c (fun _ F => 0 ≤ i ∧ i < F 88) (fun tr _ _ F => sd_get tr F i.toNat)) ∧ pq_pr (pq_Pd c) M M' | _, _ => False))
noncomputable abbrev ct3_X1_getReady : List (Bool × Nat × pz_C) := [(true, 39, k_X0_at), (true, 76, k3_X1_write)]
set_option maxRecDepth 100000 in
set_option maxHeartbeats 4000000 in
theorem h3_X1_getReady : pz_H yX1_getReady cX1_getReady 3 none k3_X1_getReady 1 25 := by
  refine pz_mk (own := RX1) (tb := t_X1_getReady) (fl := pz_flf fl_RX1) (ci := fun _ => none) (ct := pz_ctf ct3_X1_getReady) (rz := false) (pz_pfc_RX1 yX1_getReady rfl) rfl t_X1_getReady_ok (pz_flk fl_RX1_ok) (fun i v h => by cases h) ?_ ?_ (rfl) ?_ ?_
  · exact fun i k' h => pz_ctk (l := ct3_X1_getReady) (P := fun b i k => b = true → pz_cV 1 25 RX1 i k) (List.forall_mem_cons.mpr ⟨(fun _ => v_X0_at (by decide) (by decide) pz_wq457), List.forall_mem_cons.mpr ⟨(fun _ => v3_X1_write (by decide) (by decide) pz_wq517), fun _ h => absurd h List.not_mem_nil⟩⟩) true i k' h rfl
  · exact fun i k' h => pz_ctk (l := ct3_X1_getReady) (P := fun b i k => b = false → (pz_cS 1 25 RX1 i k ∨ (k = pz_kac ∧ 1 ≤ 1 ∧ 60 ≤ 25 ∧ Cond.methodLink RX1 i arraycopyName ∈ pz_tbl))) (List.forall_mem_cons.mpr ⟨((fun z => by cases z)), List.forall_mem_cons.mpr ⟨((fun z => by cases z)), fun _ h => absurd h List.not_mem_nil⟩⟩) false i k' h rfl
  · intro a M hlen hpre
    obtain ⟨d, c, i, rfl, hpre⟩ : ∃ d c i, a = [.inr (.inr (1, d)), .inr (.inr (0, c)), .inl i] ∧ (pz_ic M) := by
      have hpre : (match (generalizing := false) a with | [.inr (.inr (1, d)), .inr (.inr (0, c)), .inl i] => pz_ic M | _ => False) := hpre
      split at hpre
      · exact ⟨_, _, _, rfl, hpre⟩
      · exact hpre.elim
    exact Nat.le_of_ble_eq_true rfl
  · intro a M hlen hcan hM hpre Ok hgo
    obtain ⟨d, c, i, rfl, hpre⟩ : ∃ d c i, a = [.inr (.inr (1, d)), .inr (.inr (0, c)), .inl i] ∧ (pz_ic M) := by
      have hpre : (match (generalizing := false) a with | [.inr (.inr (1, d)), .inr (.inr (0, c)), .inl i] => pz_ic M | _ => False) := hpre
      split at hpre
      · exact ⟨_, _, _, rfl, hpre⟩
      · exact hpre.elim
    obtain ⟨k_d, hc_d⟩ := pz_tlm hcan
    have k_d : pz_kd d = 1 ∧ d < 231 := k_d
    have R_d := pz_kd1 k_d.1
    subst R_d
    obtain ⟨k_c, hc_c⟩ := pz_tlm hc_d
    have k_c : pz_kd c = 0 ∧ c < 231 := k_c
    have R_c := pz_kd0 k_c.1
    obtain ⟨k_i, hc_i⟩ := pz_tlm hc_c
    have l_i : -2147483648 ≤ i := k_i.1
    have u_i : i ≤ 2147483647 := k_i.2
    have hI : pz_ic M := hpre
    have hI0 := hI
    have hS : pq_pr (pq_Pd c) M M := pq_pr.rf
    refine hgo (fun _ => false) 14 0 _ [] M ?_
    refine And.intro (True.intro) ?_
    intro r2 M2 k2 q2
    have R2 := pz_kd5 k2
    obtain ⟨q2, z2⟩ := q2
    subst z2
    have A2 := pz_at_lk R_c q2
    have B2 : 89 + 13 * (c - 71) ≤ r2 ∧ r2 ≤ 89 + 13 * (c - 71) + 12 := by
      rw [A2]
      exact pz_lnk_c
    intro M6 e6
    have hS : pq_pr (pq_Pd c) M M6 := by
      rw [e6]
      exact pq_pr_u hS (by unfold pq_Pd pq_Pw pz_lb; omega) (by unfold pz_iok; omega)
    have hI : pz_ic M6 := hS.1 hI0
    refine And.intro (hI) ?_
    intro M14 q14
    obtain ⟨q14, z14⟩ := q14
    have hS : pq_pr (pq_Pd c) M M14 := hS.tr z14
    have hI : pz_ic M14 := hS.1 hI0
    refine And.intro rfl ?_
    refine ⟨fun ls l1 F hT hF hP hW hp => ?_, hS⟩
    obtain ⟨p0, p1⟩ := hp
    have hm := hW.1
    obtain ⟨f6, g6, w6, t6⟩ := sd_put (f := 4) (i := i) (v := 1) R_c hF hP hW (by omega) (by omega) A2 (by decide) e6 (sd_okv_4 (Or.inr rfl))
    have K6 : (sd_u F (sd_fo 4 + i.toNat) 1) 88 = F 88 := (sd_un (by show (88 : Nat) ≠ 40 + i.toNat; omega))
    have q := q14 _ f6 g6 w6
    rw [t6] at q
    have ei : ((i.toNat : Nat) : Int) = i := by omega
    unfold sd_get
    rw [ei]
    exact ⟨q.1, q.2, sd_note_wf w6⟩
theorem v3_X1_getReady {fr lo i : Nat} {own : String} (h1 : 1 + 1 ≤ fr) (h2 : 8 + (3 + 11) + 25 ≤ lo) (h3 : .methodLink own i yX1_getReady ∈ lw_tbl) : pz_cV fr lo own i k3_X1_getReady :=
  pz_cVk (maxL := 3) (fr' := 1) (lo' := 25) 2 1 h3_X1_getReady rfl ⟨(pz_nhc_RX1 yX1_getReady rfl).1, (pz_nhc_RX1 yX1_getReady rfl).2, pz_ds34⟩ ⟨pz_wq558, pz_wq556, pz_wq557, pz_wq7⟩ (Or.inl ⟨TX1, 2, rfl⟩) (fun a M _ h => by
    have h : (match (generalizing := false) a with | [.inr (.inr (1, d)), .inr (.inr (0, c)), .inl i] => pz_ic M | _ => False) := h
    split at h
    · exact ⟨_, _, rfl⟩
    · exact h.elim) h1 h2 h3
