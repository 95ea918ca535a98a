noncomputable def k3_X1_comeIn : pz_C := (3, 0, fun a M => (match a with | [.inr (.inr (1, d)), .inr (.inr (0, c)), .inl i] => pz_ic M | _ => False), fun a M r M' => (match a, r with | [.inr (.inr (1, d)), .inr (.inr (0, c)), .inl i], none => (sd_dd M M' c (fun _ F => 0 ≤ i ∧ i < F 88) (fun tr _ _ F => sd_joi tr F i.toNat)) ∧ pq_pr (pq_Pd c) M M' | _, _ => False))
noncomputable abbrev ct3_X1_comeIn : List (Bool × Nat × pz_C) := [(true, 39, k_X0_at), (true, 76, k3_X1_write)]
set_option maxRecDepth 100000 in
set_option maxHeartbeats 4000000 in
theorem h3_X1_comeIn : pz_H yX1_comeIn cX1_comeIn 3 none k3_X1_comeIn 1 25 := by
  refine pz_mk (own := RX1) (tb := t_X1_comeIn) (fl := pz_flf fl_RX1) (ci := fun _ => none) (ct := pz_ctf ct3_X1_comeIn) (rz := false) (pz_pfc_RX1 yX1_comeIn rfl) rfl t_X1_comeIn_ok (pz_flk fl_RX1_ok) (fun i v h => by cases h) ?_ ?_ (rfl) ?_ ?_
  · exact fun i k' h => pz_ctk (l := ct3_X1_comeIn) (P := fun b i k => b = true → pz_cV 1 25 RX1 i k) (List.forall_mem_cons.mpr ⟨(fun _ => v_X0_at (by decide) (by decide) pz_wq457), List.forall_mem_cons.mpr ⟨(fun _ => v3_X1_write (by decide) (by decide) pz_wq517), fun _ h => absurd h List.not_mem_nil⟩⟩) true i k' h rfl
  · exact fun i k' h => pz_ctk (l := ct3_X1_comeIn) (P := fun b i k => b = false → (pz_cS 1 25 RX1 i k ∨ (k = pz_kac ∧ 1 ≤ 1 ∧ 60 ≤ 25 ∧ Cond.methodLink RX1 i arraycopyName ∈ pz_tbl))) (List.forall_mem_cons.mpr ⟨((fun z => by cases z)), List.forall_mem_cons.mpr ⟨((fun z => by cases z)), fun _ h => absurd h List.not_mem_nil⟩⟩) false i k' h rfl
  · intro a M hlen hpre
    obtain ⟨d, c, i, rfl, hpre⟩ : ∃ d c i, a = [.inr (.inr (1, d)), .inr (.inr (0, c)), .inl i] ∧ (pz_ic M) := by
      have hpre : (match (generalizing := false) a with | [.inr (.inr (1, d)), .inr (.inr (0, c)), .inl i] => pz_ic M | _ => False) := hpre
      split at hpre
      · exact ⟨_, _, _, rfl, hpre⟩
      · exact hpre.elim
    exact Nat.le_of_ble_eq_true rfl
  · intro a M hlen hcan hM hpre Ok hgo
    obtain ⟨d, c, i, rfl, hpre⟩ : ∃ d c i, a = [.inr (.inr (1, d)), .inr (.inr (0, c)), .inl i] ∧ (pz_ic M) := by
      have hpre : (match (generalizing := false) a with | [.inr (.inr (1, d)), .inr (.inr (0, c)), .inl i] => pz_ic M | _ => False) := hpre
      split at hpre
      · exact ⟨_, _, _, rfl, hpre⟩
      · exact hpre.elim
    obtain ⟨k_d, hc_d⟩ := pz_tlm hcan
    have k_d : pz_kd d = 1 ∧ d < 231 := k_d
    have R_d := pz_kd1 k_d.1
    subst R_d
    obtain ⟨k_c, hc_c⟩ := pz_tlm hc_d
    have k_c : pz_kd c = 0 ∧ c < 231 := k_c
    have R_c := pz_kd0 k_c.1
    obtain ⟨k_i, hc_i⟩ := pz_tlm hc_c
    have l_i : -2147483648 ≤ i := k_i.1
    have u_i : i ≤ 2147483647 := k_i.2
    have hI : pz_ic M := hpre
    have hI0 := hI
    have hS : pq_pr (pq_Pd c) M M := pq_pr.rf
    refine hgo (fun _ => false) 19 0 _ [] M ?_
    refine And.intro (True.intro) ?_
    intro r2 M2 k2 q2
    have R2 := pz_kd5 k2
    obtain ⟨q2, z2⟩ := q2
    subst z2
    have A2 := pz_at_lk R_c q2
    have B2 : 89 + 13 * (c - 71) ≤ r2 ∧ r2 ≤ 89 + 13 * (c - 71) + 12 := by
      rw [A2]
      exact pz_lnk_c
    intro M6 e6
    have hS : pq_pr (pq_Pd c) M M6 := by
      rw [e6]
      exact pq_pr_u hS (by unfold pq_Pd pq_Pw pz_lb; omega) (by unfold pz_iok; omega)
    have hI : pz_ic M6 := hS.1 hI0
    refine And.intro (True.intro) ?_
    intro r11 M11 k11 q11
    have R11 := pz_kd5 k11
    obtain ⟨q11, z11⟩ := q11
    subst z11
    have A11 := pz_at_lk R_c q11
    have B11 : 89 + 13 * (c - 71) ≤ r11 ∧ r11 ≤ 89 + 13 * (c - 71) + 12 := by
      rw [A11]
      exact pz_lnk_c
    intro M15 e15
    have hS : pq_pr (pq_Pd c) M M15 := by
      rw [e15]
      exact pq_pr_u hS (by unfold pq_Pd pq_Pw pz_lb; omega) (by unfold pz_iok; omega)
    have hI : pz_ic M15 := hS.1 hI0
    refine And.intro (hI) ?_
    intro M24 q24
    obtain ⟨q24, z24⟩ := q24
    have hS : pq_pr (pq_Pd c) M M24 := hS.tr z24
    have hI : pz_ic M24 := hS.1 hI0
    refine And.intro rfl ?_
    refine ⟨fun ls l1 F hT hF hP hW hp => ?_, hS⟩
    obtain ⟨p0, p1⟩ := hp
    have hm := hW.1
    obtain ⟨f6, g6, w6, t6⟩ := sd_put (f := 5) (i := i) (v := 0) R_c hF hP hW (by omega) (by omega) A2 (by decide) e6 (sd_okv_5 (Or.inl rfl))
    have K6 : (sd_u F (sd_fo 5 + i.toNat) 0) 88 = F 88 := (sd_un (by show (88 : Nat) ≠ 52 + i.toNat; omega))
    obtain ⟨f15, g15, w15, t15⟩ := sd_put (f := 4) (i := i) (v := 0) R_c f6 g6 w6 (by omega) (by rw [K6]; omega) A11 (by decide) e15 (sd_okv_4 (Or.inl rfl))
    have K15 : (sd_u (sd_u F (sd_fo 5 + i.toNat) 0) (sd_fo 4 + i.toNat) 0) 88 = F 88 := (sd_un (by show (88 : Nat) ≠ 40 + i.toNat; omega)).trans K6
    have q := q24 _ f15 g15 w15
    rw [t15, t6] at q
    have ei : ((i.toNat : Nat) : Int) = i := by omega
    unfold sd_joi
    rw [ei]
    exact ⟨q.1, q.2, sd_note_wf w15⟩
theorem v3_X1_comeIn {fr lo i : Nat} {own : String} (h1 : 1 + 1 ≤ fr) (h2 : 8 + (3 + 11) + 25 ≤ lo) (h3 : .methodLink own i yX1_comeIn ∈ lw_tbl) : pz_cV fr lo own i k3_X1_comeIn :=
  pz_cVk (maxL := 3) (fr' := 1) (lo' := 25) 2 1 h3_X1_comeIn rfl ⟨(pz_nhc_RX1 yX1_comeIn rfl).1, (pz_nhc_RX1 yX1_comeIn rfl).2, pz_ds34⟩ ⟨pz_wq566, pz_wq564, pz_wq565, pz_wq7⟩ (Or.inl ⟨TX1, 2, rfl⟩) (fun a M _ h => by
    have h : (match (generalizing := false) a with | [.inr (.inr (1, d)), .inr (.inr (0, c)), .inl i] => pz_ic M | _ => False) := h
    split at h
    · exact ⟨_, _, rfl⟩
    · exact h.elim) h1 h2 h3
noncomputable def k3_X0_happens : pz_C := (2, 1, fun a M => (match a with | [.inr (.inr (0, c)), .inl ch] => pz_ic M | _ => False), fun a M r M' => (match a, r with | [.inr (.inr (0, c)), .inl ch], some (.inl v) => (sd_hp M M' c ch v) ∧ pq_pr (pq_Pd c) M M' | _, _ => False))
noncomputable abbrev ct3_X0_happens : List (Bool × Nat × pz_C) := []
set_option maxRecDepth 100000 in
set_option maxHeartbeats 4000000 in
theorem h3_X0_happens : pz_H yX0_happens cX0_happens 2 (some .boolean) k3_X0_happens 0 0 := by
  refine pz_mk (own := RX0) (tb := t_X0_happens) (fl := pz_flf fl_RX0) (ci := pz_cif ci_RX0) (ct := pz_ctf ct3_X0_happens) (rz := true) (pz_pfc_RX0 yX0_happens rfl) rfl t_X0_happens_ok (pz_flk fl_RX0_ok) (pz_cik ci_RX0_ok) ?_ ?_ (Or.inr ⟨rfl, rfl⟩) ?_ ?_
  · exact fun i k' h => pz_ctk (l := ct3_X0_happens) (P := fun b i k => b = true → pz_cV 0 0 RX0 i k) (fun _ h => absurd h List.not_mem_nil) true i k' h rfl
  · exact fun i k' h => pz_ctk (l := ct3_X0_happens) (P := fun b i k => b = false → (pz_cS 0 0 RX0 i k ∨ (k = pz_kac ∧ 1 ≤ 0 ∧ 60 ≤ 0 ∧ Cond.methodLink RX0 i arraycopyName ∈ pz_tbl))) (fun _ h => absurd h List.not_mem_nil) false i k' h rfl
  · intro a M hlen hpre
    obtain ⟨c, ch, rfl, hpre⟩ : ∃ c ch, a = [.inr (.inr (0, c)), .inl ch] ∧ (pz_ic M) := by
      have hpre : (match (generalizing := false) a with | [.inr (.inr (0, c)), .inl ch] => pz_ic M | _ => False) := hpre
      split at hpre
      · exact ⟨_, _, rfl, hpre⟩
      · exact hpre.elim
    exact Nat.le_of_ble_eq_true rfl
  · intro a M hlen hcan hM hpre Ok hgo
    obtain ⟨c, ch, rfl, hpre⟩ : ∃ c ch, a = [.inr (.inr (0, c)), .inl ch] ∧ (pz_ic M) := by
      have hpre : (match (generalizing := false) a with | [.inr (.inr (0, c)), .inl ch] => pz_ic M | _ => False) := hpre
      split at hpre
      · exact ⟨_, _, rfl, hpre⟩
      · exact hpre.elim
    obtain ⟨k_c, hc_c⟩ := pz_tlm hcan
    have k_c : pz_kd c = 0 ∧ c < 231 := k_c
    have R_c := pz_kd0 k_c.1
    obtain ⟨k_ch, hc_ch⟩ := pz_tlm hc_c
    have l_ch : -2147483648 ≤ ch := k_ch.1
    have u_ch : ch ≤ 2147483647 := k_ch.2
    have hI : pz_ic M := hpre
    have hI0 := hI
    have hS : pq_pr (pq_Pd c) M M := pq_pr.rf
    refine hgo (fun _ => false) 32 0 _ [] M ?_
    intro v1 e1 a1 b1
    refine And.intro (fun h4 => ?_) (fun h4 => ?_)
    · skip
      intro v22 e22 a22 b22
      intro v27 e27 a27 b27
      intro v30 e30 a30 b30
      intro M31 e31
      have hS : pq_pr (pq_Pd c) M M31 := by
        rw [e31]
        exact pq_pr_u hS (by unfold pq_Pd pq_Pw pz_lb; omega) (by unfold pz_iok; omega)
      have hI : pz_ic M31 := hS.1 hI0
      intro v35 e35 a35 b35
      intro v40 e40 a40 b40
      refine And.intro (by omega) ?_
      intro v44 e44 a44 b44
      refine And.intro (fun h46 => ?_) (fun h46 => ?_)
      · skip
        refine And.intro (by omega) ?_
        refine And.intro rfl ?_
        refine ⟨⟨by omega, ?_, fun F hF hW => ?_⟩, hS⟩
        · intro j
          first
            | rfl
            | (rw [e31]; exact pz_una (by omega))
        · have h6 := hF.2.2.2.1
          have hm := hW.1
          first
            | (rw [show decide (M c 0 = 0) = false from decide_eq_false (by omega)]
               refine ⟨?_, hF⟩
               show _ ↔ decide ((500 : Int) ≤ ch) = true
               rw [decide_eq_true_iff]
               omega)
            | (rw [show decide (M c 0 = 0) = true from decide_eq_true (by omega)]
               have E : v30 = sd_st (F 2) := by
                 unfold sd_st
                 rw [e30, e27, e22, h6, Int.mul_comm]
               have E35 : v35 = sd_st (F 2) := by
                 rw [e35, e31, pz_uu, E]
               have E44 : v44 = sd_ch (sd_st (F 2)) := by
                 unfold sd_ch
                 rw [e44, e40, E35]
                 rfl
               refine ⟨?_, ?_⟩
               · show _ ↔ decide (sd_ch (sd_st (F 2)) < ch) = true
                 rw [decide_eq_true_iff, ← E44]
                 omega
               · show sd_se _ c (sd_u F 2 (sd_st (F 2)))
                 rw [e31, E]
                 exact sd_se_c (k := 2) (f := 6) R_c hF (by omega) ⟨by decide, rfl⟩)
      · skip
        refine And.intro (by omega) ?_
        refine And.intro rfl ?_
        refine ⟨⟨by omega, ?_, fun F hF hW => ?_⟩, hS⟩
        · intro j
          first
            | rfl
            | (rw [e31]; exact pz_una (by omega))
        · have h6 := hF.2.2.2.1
          have hm := hW.1
          first
            | (rw [show decide (M c 0 = 0) = false from decide_eq_false (by omega)]
               refine ⟨?_, hF⟩
               show _ ↔ decide ((500 : Int) ≤ ch) = true
               rw [decide_eq_true_iff]
               omega)
            | (rw [show decide (M c 0 = 0) = true from decide_eq_true (by omega)]
               have E : v30 = sd_st (F 2) := by
                 unfold sd_st
                 rw [e30, e27, e22, h6, Int.mul_comm]
               have E35 : v35 = sd_st (F 2) := by
                 rw [e35, e31, pz_uu, E]
               have E44 : v44 = sd_ch (sd_st (F 2)) := by
                 unfold sd_ch
                 rw [e44, e40, E35]
                 rfl
               refine ⟨?_, ?_⟩
               · show _ ↔ decide (sd_ch (sd_st (F 2)) < ch) = true
                 rw [decide_eq_true_iff, ← E44]
                 omega
               · show sd_se _ c (sd_u F 2 (sd_st (F 2)))
                 rw [e31, E]
                 exact sd_se_c (k := 2) (f := 6) R_c hF (by omega) ⟨by decide, rfl⟩)
    · skip
      refine And.intro (fun h11 => ?_) (fun h11 => ?_)
      · skip
        refine And.intro (by omega) ?_
        refine And.intro rfl ?_
        refine ⟨⟨by omega, ?_, fun F hF hW => ?_⟩, hS⟩
        · intro j
          first
            | rfl
            | (rw [e31]; exact pz_una (by omega))
        · have h6 := hF.2.2.2.1
          have hm := hW.1
          first
            | (rw [show decide (M c 0 = 0) = false from decide_eq_false (by omega)]
               refine ⟨?_, hF⟩
               show _ ↔ decide ((500 : Int) ≤ ch) = true
               rw [decide_eq_true_iff]
               omega)
            | (rw [show decide (M c 0 = 0) = true from decide_eq_true (by omega)]
               have E : v30 = sd_st (F 2) := by
                 unfold sd_st
                 rw [e30, e27, e22, h6, Int.mul_comm]
               have E35 : v35 = sd_st (F 2) := by
                 rw [e35, e31, pz_uu, E]
               have E44 : v44 = sd_ch (sd_st (F 2)) := by
                 unfold sd_ch
                 rw [e44, e40, E35]
                 rfl
               refine ⟨?_, ?_⟩
               · show _ ↔ decide (sd_ch (sd_st (F 2)) < ch) = true
                 rw [decide_eq_true_iff, ← E44]
                 omega
               · show sd_se _ c (sd_u F 2 (sd_st (F 2)))
                 rw [e31, E]
                 exact sd_se_c (k := 2) (f := 6) R_c hF (by omega) ⟨by decide, rfl⟩)
      · skip
        refine And.intro (by omega) ?_
        refine And.intro rfl ?_
        refine ⟨⟨by omega, ?_, fun F hF hW => ?_⟩, hS⟩
        · intro j
          first
            | rfl
            | (rw [e31]; exact pz_una (by omega))
        · have h6 := hF.2.2.2.1
          have hm := hW.1
          first
            | (rw [show decide (M c 0 = 0) = false from decide_eq_false (by omega)]
               refine ⟨?_, hF⟩
               show _ ↔ decide ((500 : Int) ≤ ch) = true
               rw [decide_eq_true_iff]
               omega)
            | (rw [show decide (M c 0 = 0) = true from decide_eq_true (by omega)]
               have E : v30 = sd_st (F 2) := by
                 unfold sd_st
                 rw [e30, e27, e22, h6, Int.mul_comm]
               have E35 : v35 = sd_st (F 2) := by
                 rw [e35, e31, pz_uu, E]
               have E44 : v44 = sd_ch (sd_st (F 2)) := by
                 unfold sd_ch
                 rw [e44, e40, E35]
                 rfl
               refine ⟨?_, ?_⟩
               · show _ ↔ decide (sd_ch (sd_st (F 2)) < ch) = true
                 rw [decide_eq_true_iff, ← E44]
                 omega
               · show sd_se _ c (sd_u F 2 (sd_st (F 2)))
                 rw [e31, E]
                 exact sd_se_c (k := 2) (f := 6) R_c hF (by omega) ⟨by decide, rfl⟩)
theorem v3_X0_happens {fr lo i : Nat} {own : String} (h1 : 0 + 1 ≤ fr) (h2 : 8 + (2 + 11) + 0 ≤ lo) (h3 : .methodLink own i yX0_happens ∈ lw_tbl) : pz_cV fr lo own i k3_X0_happens :=
  pz_cVk (maxL := 2) (fr' := 0) (lo' := 0) 1 0 h3_X0_happens rfl ⟨(pz_nhc_RX0 yX0_happens rfl).1, (pz_nhc_RX0 yX0_happens rfl).2, pz_ds9⟩ ⟨pz_wq594, pz_wq592, pz_wq593, pz_wq2⟩ (Or.inl ⟨TX0, 8, rfl⟩) (fun a M _ h => by
    have h : (match (generalizing := false) a with | [.inr (.inr (0, c)), .inl ch] => pz_ic M | _ => False) := h
    split at h
    · exact ⟨_, _, rfl⟩
    · exact h.elim) h1 h2 h3
noncomputable def k3_X1_canHandOver : pz_C := (5, 1, fun a M => (match a with | [.inr (.inr (1, d)), .inr (.inr (0, c)), .inl i, .inl j, .inl n] => pz_ic M | _ => False), fun a M r M' => (match a, r with | [.inr (.inr (1, d)), .inr (.inr (0, c)), .inl i, .inl j, .inl n], some (.inl v) => ((v = 0 ∨ v = 1) ∧ sd_q M c (fun F => v = 1 ↔ (0 ≤ i ∧ 0 ≤ j ∧ (1 ≤ n ∧ n ≤ 99) ∧ sd_c0 F i.toNat j.toNat n))) ∧ M = M' | _, _ => False))
noncomputable abbrev ct3_X1_canHandOver : List (Bool × Nat × pz_C) := [(true, 83, k_X0_has), (false, 35, k_X11_within), (true, 39, k_X0_at)]
set_option maxRecDepth 100000 in
set_option maxHeartbeats 4000000 in
theorem h3_X1_canHandOver : pz_H yX1_canHandOver cX1_canHandOver 5 (some .boolean) k3_X1_canHandOver 1 22 := by
  refine pz_mk (own := RX1) (tb := t_X1_canHandOver) (fl := pz_flf fl_RX1) (ci := fun _ => none) (ct := pz_ctf ct3_X1_canHandOver) (rz := true) (pz_pfc_RX1 yX1_canHandOver rfl) rfl t_X1_canHandOver_ok (pz_flk fl_RX1_ok) (fun i v h => by cases h) ?_ ?_ (Or.inr ⟨rfl, rfl⟩) ?_ ?_
  · exact fun i k' h => pz_ctk (l := ct3_X1_canHandOver) (P := fun b i k => b = true → pz_cV 1 22 RX1 i k) (List.forall_mem_cons.mpr ⟨(fun _ => v_X0_has (by decide) (by decide) pz_wq542), List.forall_mem_cons.mpr ⟨((fun z => by cases z)), List.forall_mem_cons.mpr ⟨(fun _ => v_X0_at (by decide) (by decide) pz_wq457), fun _ h => absurd h List.not_mem_nil⟩⟩⟩) true i k' h rfl
  · exact fun i k' h => pz_ctk (l := ct3_X1_canHandOver) (P := fun b i k => b = false → (pz_cS 1 22 RX1 i k ∨ (k = pz_kac ∧ 1 ≤ 1 ∧ 60 ≤ 22 ∧ Cond.methodLink RX1 i arraycopyName ∈ pz_tbl))) (List.forall_mem_cons.mpr ⟨((fun z => by cases z)), List.forall_mem_cons.mpr ⟨(fun _ => Or.inl (s_X11_within (by decide) (by decide) (Or.inr ⟨rfl, rfl, rfl⟩))), List.forall_mem_cons.mpr ⟨((fun z => by cases z)), fun _ h => absurd h List.not_mem_nil⟩⟩⟩) false i k' h rfl
  · intro a M hlen hpre
    obtain ⟨d, c, i, j, n, rfl, hpre⟩ : ∃ d c i j n, a = [.inr (.inr (1, d)), .inr (.inr (0, c)), .inl i, .inl j, .inl n] ∧ (pz_ic M) := by
      have hpre : (match (generalizing := false) a with | [.inr (.inr (1, d)), .inr (.inr (0, c)), .inl i, .inl j, .inl n] => pz_ic M | _ => False) := hpre
      split at hpre
      · exact ⟨_, _, _, _, _, rfl, hpre⟩
      · exact hpre.elim
    exact Nat.le_of_ble_eq_true rfl
  · intro a M hlen hcan hM hpre Ok hgo
    obtain ⟨d, c, i, j, n, rfl, hpre⟩ : ∃ d c i j n, a = [.inr (.inr (1, d)), .inr (.inr (0, c)), .inl i, .inl j, .inl n] ∧ (pz_ic M) := by
      have hpre : (match (generalizing := false) a with | [.inr (.inr (1, d)), .inr (.inr (0, c)), .inl i, .inl j, .inl n] => pz_ic M | _ => False) := hpre
      split at hpre
      · exact ⟨_, _, _, _, _, rfl, hpre⟩
      · exact hpre.elim
    obtain ⟨k_d, hc_d⟩ := pz_tlm hcan
    have k_d : pz_kd d = 1 ∧ d < 231 := k_d
    have R_d := pz_kd1 k_d.1
    subst R_d
    obtain ⟨k_c, hc_c⟩ := pz_tlm hc_d
    have k_c : pz_kd c = 0 ∧ c < 231 := k_c
    have R_c := pz_kd0 k_c.1
    obtain ⟨k_i, hc_i⟩ := pz_tlm hc_c
    have l_i : -2147483648 ≤ i := k_i.1
    have u_i : i ≤ 2147483647 := k_i.2
    obtain ⟨k_j, hc_j⟩ := pz_tlm hc_i
    have l_j : -2147483648 ≤ j := k_j.1
    have u_j : j ≤ 2147483647 := k_j.2
    obtain ⟨k_n, hc_n⟩ := pz_tlm hc_j
    have l_n : -2147483648 ≤ n := k_n.1
    have u_n : n ≤ 2147483647 := k_n.2
    have hI : pz_ic M := hpre
    refine hgo (fun _ => false) 38 0 _ [] M ?_
    refine And.intro (True.intro) ?_
    intro v2 M2 a2 b2 q2
    obtain ⟨q2, z2⟩ := q2
    subst z2
    refine And.intro (fun h5 => ?_) (fun h5 => ?_)
    · skip
      refine And.intro (by omega) ?_
      refine And.intro rfl ?_
      refine ⟨⟨by omega, fun F hF hW => ?_⟩, rfl⟩
      have hn := hF.1
      have hm := hW.1
      unfold sd_c0
      first
        | (have b1 := (sd_at R_c hF hW (show 0 ≤ i by split at q2 <;> omega) (by split at q2 <;> omega) A34).2.1
           have d1 := (sd_at R_c hF hW (show 0 ≤ j by split at q10 <;> omega) (by split at q10 <;> omega) A51).2.1
           have E42 : v42 = pz_w (F (16 + i.toNat) - n) := by rw [e42, e37, b1]
           have E59 : v59 = pz_w (F (16 + j.toNat) + n) := by rw [e59, e54, d1]
           split at q2 <;> split at q10 <;> split at q26 <;> omega)
        | (have b1 := (sd_at R_c hF hW (show 0 ≤ i by split at q2 <;> omega) (by split at q2 <;> omega) A34).2.1
           have E42 : v42 = pz_w (F (16 + i.toNat) - n) := by rw [e42, e37, b1]
           split at q2 <;> split at q10 <;> split at q26 <;> omega)
        | (split at q2 <;> split at q10 <;> split at q26 <;> omega)
        | (split at q2 <;> split at q10 <;> omega)
        | (split at q2 <;> omega)
    · skip
      refine And.intro (True.intro) ?_
      intro v10 M10 a10 b10 q10
      obtain ⟨q10, z10⟩ := q10
      subst z10
      refine And.intro (fun h13 => ?_) (fun h13 => ?_)
      · skip
        refine And.intro (by omega) ?_
        refine And.intro rfl ?_
        refine ⟨⟨by omega, fun F hF hW => ?_⟩, rfl⟩
        have hn := hF.1
        have hm := hW.1
        unfold sd_c0
        first
          | (have b1 := (sd_at R_c hF hW (show 0 ≤ i by split at q2 <;> omega) (by split at q2 <;> omega) A34).2.1
             have d1 := (sd_at R_c hF hW (show 0 ≤ j by split at q10 <;> omega) (by split at q10 <;> omega) A51).2.1
             have E42 : v42 = pz_w (F (16 + i.toNat) - n) := by rw [e42, e37, b1]
             have E59 : v59 = pz_w (F (16 + j.toNat) + n) := by rw [e59, e54, d1]
             split at q2 <;> split at q10 <;> split at q26 <;> omega)
          | (have b1 := (sd_at R_c hF hW (show 0 ≤ i by split at q2 <;> omega) (by split at q2 <;> omega) A34).2.1
             have E42 : v42 = pz_w (F (16 + i.toNat) - n) := by rw [e42, e37, b1]
             split at q2 <;> split at q10 <;> split at q26 <;> omega)
          | (split at q2 <;> split at q10 <;> split at q26 <;> omega)
          | (split at q2 <;> split at q10 <;> omega)
          | (split at q2 <;> omega)
      · skip
        refine And.intro (fun h18 => ?_) (fun h18 => ?_)
        · skip
          refine And.intro (by omega) ?_
          refine And.intro rfl ?_
          refine ⟨⟨by omega, fun F hF hW => ?_⟩, rfl⟩
          have hn := hF.1
          have hm := hW.1
          unfold sd_c0
          first
            | (have b1 := (sd_at R_c hF hW (show 0 ≤ i by split at q2 <;> omega) (by split at q2 <;> omega) A34).2.1
               have d1 := (sd_at R_c hF hW (show 0 ≤ j by split at q10 <;> omega) (by split at q10 <;> omega) A51).2.1
               have E42 : v42 = pz_w (F (16 + i.toNat) - n) := by rw [e42, e37, b1]
               have E59 : v59 = pz_w (F (16 + j.toNat) + n) := by rw [e59, e54, d1]
               split at q2 <;> split at q10 <;> split at q26 <;> omega)
            | (have b1 := (sd_at R_c hF hW (show 0 ≤ i by split at q2 <;> omega) (by split at q2 <;> omega) A34).2.1
               have E42 : v42 = pz_w (F (16 + i.toNat) - n) := by rw [e42, e37, b1]
               split at q2 <;> split at q10 <;> split at q26 <;> omega)
            | (split at q2 <;> split at q10 <;> split at q26 <;> omega)
            | (split at q2 <;> split at q10 <;> omega)
            | (split at q2 <;> omega)
        · skip
          refine And.intro (True.intro) ?_
          intro v26 M26 a26 b26 q26
          obtain ⟨q26, z26⟩ := q26
          subst z26
          refine And.intro (fun h29 => ?_) (fun h29 => ?_)
          · skip
            refine And.intro (by omega) ?_
            refine And.intro rfl ?_
            refine ⟨⟨by omega, fun F hF hW => ?_⟩, rfl⟩
            have hn := hF.1
            have hm := hW.1
            unfold sd_c0
            first
              | (have b1 := (sd_at R_c hF hW (show 0 ≤ i by split at q2 <;> omega) (by split at q2 <;> omega) A34).2.1
                 have d1 := (sd_at R_c hF hW (show 0 ≤ j by split at q10 <;> omega) (by split at q10 <;> omega) A51).2.1
                 have E42 : v42 = pz_w (F (16 + i.toNat) - n) := by rw [e42, e37, b1]
                 have E59 : v59 = pz_w (F (16 + j.toNat) + n) := by rw [e59, e54, d1]
                 split at q2 <;> split at q10 <;> split at q26 <;> omega)
              | (have b1 := (sd_at R_c hF hW (show 0 ≤ i by split at q2 <;> omega) (by split at q2 <;> omega) A34).2.1
                 have E42 : v42 = pz_w (F (16 + i.toNat) - n) := by rw [e42, e37, b1]
                 split at q2 <;> split at q10 <;> split at q26 <;> omega)
              | (split at q2 <;> split at q10 <;> split at q26 <;> omega)
              | (split at q2 <;> split at q10 <;> omega)
              | (split at q2 <;> omega)
          · skip
            refine And.intro (True.intro) ?_
            intro r34 M34 k34 q34
            have R34 := pz_kd5 k34
            obtain ⟨q34, z34⟩ := q34
            subst z34
            have A34 := pz_at_lk R_c q34
            have B34 : 89 + 13 * (c - 71) ≤ r34 ∧ r34 ≤ 89 + 13 * (c - 71) + 12 := by
              rw [A34]
              exact pz_lnk_c
            intro v37 e37 a37 b37
            intro v42 e42 a42 b42
            refine And.intro (fun h46 => ?_) (fun h46 => ?_)
            · skip
              refine And.intro (by omega) ?_
              refine And.intro rfl ?_
              refine ⟨⟨by omega, fun F hF hW => ?_⟩, rfl⟩
              have hn := hF.1
              have hm := hW.1
              unfold sd_c0
              first
                | (have b1 := (sd_at R_c hF hW (show 0 ≤ i by split at q2 <;> omega) (by split at q2 <;> omega) A34).2.1
                   have d1 := (sd_at R_c hF hW (show 0 ≤ j by split at q10 <;> omega) (by split at q10 <;> omega) A51).2.1
                   have E42 : v42 = pz_w (F (16 + i.toNat) - n) := by rw [e42, e37, b1]
                   have E59 : v59 = pz_w (F (16 + j.toNat) + n) := by rw [e59, e54, d1]
                   split at q2 <;> split at q10 <;> split at q26 <;> omega)
                | (have b1 := (sd_at R_c hF hW (show 0 ≤ i by split at q2 <;> omega) (by split at q2 <;> omega) A34).2.1
                   have E42 : v42 = pz_w (F (16 + i.toNat) - n) := by rw [e42, e37, b1]
                   split at q2 <;> split at q10 <;> split at q26 <;> omega)
                | (split at q2 <;> split at q10 <;> split at q26 <;> omega)
                | (split at q2 <;> split at q10 <;> omega)
                | (split at q2 <;> omega)
            · skip
              refine And.intro (True.intro) ?_
              intro r51 M51 k51 q51
              have R51 := pz_kd5 k51
              obtain ⟨q51, z51⟩ := q51
              subst z51
              have A51 := pz_at_lk R_c q51
              have B51 : 89 + 13 * (c - 71) ≤ r51 ∧ r51 ≤ 89 + 13 * (c - 71) + 12 := by
                rw [A51]
                exact pz_lnk_c
              intro v54 e54 a54 b54
              intro v59 e59 a59 b59
              refine And.intro (fun h63 => ?_) (fun h63 => ?_)
              · skip
                refine And.intro (by omega) ?_
                refine And.intro rfl ?_
                refine ⟨⟨by omega, fun F hF hW => ?_⟩, rfl⟩
                have hn := hF.1
                have hm := hW.1
                unfold sd_c0
                first
                  | (have b1 := (sd_at R_c hF hW (show 0 ≤ i by split at q2 <;> omega) (by split at q2 <;> omega) A34).2.1
                     have d1 := (sd_at R_c hF hW (show 0 ≤ j by split at q10 <;> omega) (by split at q10 <;> omega) A51).2.1
                     have E42 : v42 = pz_w (F (16 + i.toNat) - n) := by rw [e42, e37, b1]
                     have E59 : v59 = pz_w (F (16 + j.toNat) + n) := by rw [e59, e54, d1]
                     split at q2 <;> split at q10 <;> split at q26 <;> omega)
                  | (have b1 := (sd_at R_c hF hW (show 0 ≤ i by split at q2 <;> omega) (by split at q2 <;> omega) A34).2.1
                     have E42 : v42 = pz_w (F (16 + i.toNat) - n) := by rw [e42, e37, b1]
                     split at q2 <;> split at q10 <;> split at q26 <;> omega)
                  | (split at q2 <;> split at q10 <;> split at q26 <;> omega)
                  | (split at q2 <;> split at q10 <;> omega)
                  | (split at q2 <;> omega)
              · skip
                refine And.intro (by omega) ?_
                refine And.intro rfl ?_
                refine ⟨⟨by omega, fun F hF hW => ?_⟩, rfl⟩
                have hn := hF.1
                have hm := hW.1
                unfold sd_c0
                first
                  | (have b1 := (sd_at R_c hF hW (show 0 ≤ i by split at q2 <;> omega) (by split at q2 <;> omega) A34).2.1
                     have d1 := (sd_at R_c hF hW (show 0 ≤ j by split at q10 <;> omega) (by split at q10 <;> omega) A51).2.1
                     have E42 : v42 = pz_w (F (16 + i.toNat) - n) := by rw [e42, e37, b1]
                     have E59 : v59 = pz_w (F (16 + j.toNat) + n) := by rw [e59, e54, d1]
                     split at q2 <;> split at q10 <;> split at q26 <;> omega)
                  | (have b1 := (sd_at R_c hF hW (show 0 ≤ i by split at q2 <;> omega) (by split at q2 <;> omega) A34).2.1
                     have E42 : v42 = pz_w (F (16 + i.toNat) - n) := by rw [e42, e37, b1]
                     split at q2 <;> split at q10 <;> split at q26 <;> omega)
                  | (split at q2 <;> split at q10 <;> split at q26 <;> omega)
                  | (split at q2 <;> split at q10 <;> omega)
                  | (split at q2 <;> omega)
theorem v3_X1_canHandOver {fr lo i : Nat} {own : String} (h1 : 1 + 1 ≤ fr) (h2 : 8 + (5 + 11) + 22 ≤ lo) (h3 : .methodLink own i yX1_canHandOver ∈ lw_tbl) : pz_cV fr lo own i k3_X1_canHandOver :=
  pz_cVk (maxL := 5) (fr' := 1) (lo' := 22) 4 1 h3_X1_canHandOver rfl ⟨(pz_nhc_RX1 yX1_canHandOver rfl).1, (pz_nhc_RX1 yX1_canHandOver rfl).2, pz_ds39⟩ ⟨pz_wq541, pz_wq539, pz_wq540, pz_wq7⟩ (Or.inl ⟨TX1, 2, rfl⟩) (fun a M _ h => by
    have h : (match (generalizing := false) a with | [.inr (.inr (1, d)), .inr (.inr (0, c)), .inl i, .inl j, .inl n] => pz_ic M | _ => False) := h
    split at h
    · exact ⟨_, _, rfl⟩
    · exact h.elim) h1 h2 h3
