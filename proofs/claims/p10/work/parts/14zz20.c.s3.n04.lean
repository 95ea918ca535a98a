noncomputable def k3_X1_handOver : pz_C := (5, 0, fun a M => (match a with | [.inr (.inr (1, d)), .inr (.inr (0, c)), .inl i, .inl j, .inl n] => pz_ic M | _ => False), fun a M r M' => (match a, r with | [.inr (.inr (1, d)), .inr (.inr (0, c)), .inl i, .inl j, .inl n], none => (sd_dd M M' c (fun _ F => 0 ≤ i ∧ 0 ≤ j ∧ (1 ≤ n ∧ n ≤ 99) ∧ sd_c0 F i.toNat j.toNat n) (fun tr _ _ F => sd_pys tr F i.toNat j.toNat n)) ∧ pq_pr (pq_Pd c) M M' | _, _ => False))
noncomputable abbrev ct3_X1_handOver : List (Bool × Nat × pz_C) := [(true, 39, k_X0_at), (true, 76, k3_X1_write)]
set_option maxRecDepth 100000 in
set_option maxHeartbeats 4000000 in
theorem h3_X1_handOver : pz_H yX1_handOver cX1_handOver 5 none k3_X1_handOver 1 25 := by
  refine pz_mk (own := RX1) (tb := t_X1_handOver) (fl := pz_flf fl_RX1) (ci := fun _ => none) (ct := pz_ctf ct3_X1_handOver) (rz := false) (pz_pfc_RX1 yX1_handOver rfl) rfl t_X1_handOver_ok (pz_flk fl_RX1_ok) (fun i v h => by cases h) ?_ ?_ (rfl) ?_ ?_
  · exact fun i k' h => pz_ctk (l := ct3_X1_handOver) (P := fun b i k => b = true → pz_cV 1 25 RX1 i k) (List.forall_mem_cons.mpr ⟨(fun _ => v_X0_at (by decide) (by decide) pz_wq457), List.forall_mem_cons.mpr ⟨(fun _ => v3_X1_write (by decide) (by decide) pz_wq517), fun _ h => absurd h List.not_mem_nil⟩⟩) true i k' h rfl
  · exact fun i k' h => pz_ctk (l := ct3_X1_handOver) (P := fun b i k => b = false → (pz_cS 1 25 RX1 i k ∨ (k = pz_kac ∧ 1 ≤ 1 ∧ 60 ≤ 25 ∧ Cond.methodLink RX1 i arraycopyName ∈ pz_tbl))) (List.forall_mem_cons.mpr ⟨((fun z => by cases z)), List.forall_mem_cons.mpr ⟨((fun z => by cases z)), fun _ h => absurd h List.not_mem_nil⟩⟩) false i k' h rfl
  · intro a M hlen hpre
    obtain ⟨d, c, i, j, n, rfl, hpre⟩ : ∃ d c i j n, a = [.inr (.inr (1, d)), .inr (.inr (0, c)), .inl i, .inl j, .inl n] ∧ (pz_ic M) := by
      have hpre : (match (generalizing := false) a with | [.inr (.inr (1, d)), .inr (.inr (0, c)), .inl i, .inl j, .inl n] => pz_ic M | _ => False) := hpre
      split at hpre
      · exact ⟨_, _, _, _, _, rfl, hpre⟩
      · exact hpre.elim
    exact Nat.le_of_ble_eq_true rfl
  · intro a M hlen hcan hM hpre Ok hgo
    obtain ⟨d, c, i, j, n, rfl, hpre⟩ : ∃ d c i j n, a = [.inr (.inr (1, d)), .inr (.inr (0, c)), .inl i, .inl j, .inl n] ∧ (pz_ic M) := by
      have hpre : (match (generalizing := false) a with | [.inr (.inr (1, d)), .inr (.inr (0, c)), .inl i, .inl j, .inl n] => pz_ic M | _ => False) := hpre
      split at hpre
      · exact ⟨_, _, _, _, _, rfl, hpre⟩
      · exact hpre.elim
    obtain ⟨k_d, hc_d⟩ := pz_tlm hcan
    have k_d : pz_kd d = 1 ∧ d < 231 := k_d
    have R_d := pz_kd1 k_d.1
    subst R_d
    obtain ⟨k_c, hc_c⟩ := pz_tlm hc_d
    have k_c : pz_kd c = 0 ∧ c < 231 := k_c
    have R_c := pz_kd0 k_c.1
    obtain ⟨k_i, hc_i⟩ := pz_tlm hc_c
    have l_i : -2147483648 ≤ i := k_i.1
    have u_i : i ≤ 2147483647 := k_i.2
    obtain ⟨k_j, hc_j⟩ := pz_tlm hc_i
    have l_j : -2147483648 ≤ j := k_j.1
    have u_j : j ≤ 2147483647 := k_j.2
    obtain ⟨k_n, hc_n⟩ := pz_tlm hc_j
    have l_n : -2147483648 ≤ n := k_n.1
    have u_n : n ≤ 2147483647 := k_n.2
    have hI : pz_ic M := hpre
    have hI0 := hI
    have hS : pq_pr (pq_Pd c) M M := pq_pr.rf
    refine hgo (fun _ => false) 25 0 _ [] M ?_
    refine And.intro (True.intro) ?_
    intro r2 M2 k2 q2
    have R2 := pz_kd5 k2
    obtain ⟨q2, z2⟩ := q2
    subst z2
    have A2 := pz_at_lk R_c q2
    have B2 : 89 + 13 * (c - 71) ≤ r2 ∧ r2 ≤ 89 + 13 * (c - 71) + 12 := by
      rw [A2]
      exact pz_lnk_c
    intro v6 e6 a6 b6
    intro v11 e11 a11 b11
    intro M12 e12
    have hS : pq_pr (pq_Pd c) M M12 := by
      rw [e12]
      exact pq_pr_u hS (by unfold pq_Pd pq_Pw pz_lb; omega) (by unfold pz_iok; omega)
    have hI : pz_ic M12 := hS.1 hI0
    refine And.intro (True.intro) ?_
    intro r17 M17 k17 q17
    have R17 := pz_kd5 k17
    obtain ⟨q17, z17⟩ := q17
    subst z17
    have A17 := pz_at_lk R_c q17
    have B17 : 89 + 13 * (c - 71) ≤ r17 ∧ r17 ≤ 89 + 13 * (c - 71) + 12 := by
      rw [A17]
      exact pz_lnk_c
    intro v21 e21 a21 b21
    intro v26 e26 a26 b26
    intro M27 e27
    have hS : pq_pr (pq_Pd c) M M27 := by
      rw [e27]
      exact pq_pr_u hS (by unfold pq_Pd pq_Pw pz_lb; omega) (by unfold pz_iok; omega)
    have hI : pz_ic M27 := hS.1 hI0
    refine And.intro (hI) ?_
    intro M36 q36
    obtain ⟨q36, z36⟩ := q36
    have hS : pq_pr (pq_Pd c) M M36 := hS.tr z36
    have hI : pz_ic M36 := hS.1 hI0
    refine And.intro rfl ?_
    refine ⟨fun ls l1 F hT hF hP hW hp => ?_, hS⟩
    obtain ⟨p0, p2, p3, p1⟩ := hp
    have hm := hW.1
    have pc := sd_pys_c hW p1 p3
    obtain ⟨c1, c2, c3, -⟩ := id p1
    have V11 : v11 = F (16 + i.toNat) - n := by
      rw [e11, e6, (sd_at R_c hF hW p0 (by omega) A2).2.1, pz_wi (by omega) (by omega)]
    rw [V11] at e12
    obtain ⟨f12, g12, w12, t12⟩ := sd_put (f := 1) (i := i) (v := F (16 + i.toNat) - n) R_c hF hP hW p0 (by omega) A2 (by decide) e12 (sd_okv_1 pc.1)
    have K88 : sd_u F (sd_fo 1 + i.toNat) (F (16 + i.toNat) - n) 88 = F 88 := sd_un (by show (88 : Nat) ≠ 16 + i.toNat; omega)
    have K16 : sd_u F (sd_fo 1 + i.toNat) (F (16 + i.toNat) - n) (16 + j.toNat) = F (16 + j.toNat) := sd_un (by show 16 + j.toNat ≠ 16 + i.toNat; omega)
    have V26 : v26 = F (16 + j.toNat) + n := by
      rw [e26, e21, (sd_at R_c f12 w12 p2 (by rw [K88]; omega) A17).2.1, K16, pz_wi (by omega) (by omega)]
    rw [V26] at e27
    obtain ⟨f27, g27, w27, t27⟩ := sd_put (f := 1) (i := j) (v := F (16 + j.toNat) + n) R_c f12 g12 w12 p2 (by rw [K88]; omega) A17 (by decide) e27 (sd_okv_1 pc.2)
    have q := q36 _ f27 g27 w27
    rw [t27, t12] at q
    unfold sd_pys
    rw [show ((i.toNat : Nat) : Int) = i by omega]
    exact ⟨q.1, q.2, sd_note_wf w27⟩
theorem v3_X1_handOver {fr lo i : Nat} {own : String} (h1 : 1 + 1 ≤ fr) (h2 : 8 + (5 + 11) + 25 ≤ lo) (h3 : .methodLink own i yX1_handOver ∈ lw_tbl) : pz_cV fr lo own i k3_X1_handOver :=
  pz_cVk (maxL := 5) (fr' := 1) (lo' := 25) 4 1 h3_X1_handOver rfl ⟨(pz_nhc_RX1 yX1_handOver rfl).1, (pz_nhc_RX1 yX1_handOver rfl).2, pz_ds38⟩ ⟨pz_wq546, pz_wq544, pz_wq545, pz_wq7⟩ (Or.inl ⟨TX1, 2, rfl⟩) (fun a M _ h => by
    have h : (match (generalizing := false) a with | [.inr (.inr (1, d)), .inr (.inr (0, c)), .inl i, .inl j, .inl n] => pz_ic M | _ => False) := h
    split at h
    · exact ⟨_, _, rfl⟩
    · exact h.elim) h1 h2 h3
noncomputable def k3_X1_askFor : pz_C := (4, 1, fun a M => (match a with | [.inr (.inr (1, d)), .inr (.inr (0, c)), .inl i, .inl n] => pz_ic M | _ => False), fun a M r M' => (match a, r with | [.inr (.inr (1, d)), .inr (.inr (0, c)), .inl i, .inl n], some (.inl v) => (sd_av M M' c i n v) ∧ pq_pr (pq_Pd c) M M' | _, _ => False))
noncomputable abbrev ct3_X1_askFor : List (Bool × Nat × pz_C) := [(true, 39, k_X0_at), (false, 52, k_J9_min_7cf53), (true, 64, k3_X3_tells), (false, 73, k_J9_max_7cf53), (true, 76, k3_X1_write)]
set_option maxRecDepth 100000 in
set_option maxHeartbeats 4000000 in
theorem h3_X1_askFor : pz_H yX1_askFor cX1_askFor 6 (some .int) k3_X1_askFor 4 97 := by
  refine pz_mk (own := RX1) (tb := t_X1_askFor) (fl := pz_flf fl_RX1) (ci := fun _ => none) (ct := pz_ctf ct3_X1_askFor) (rz := false) (pz_pfc_RX1 yX1_askFor rfl) rfl t_X1_askFor_ok (pz_flk fl_RX1_ok) (fun i v h => by cases h) ?_ ?_ (Or.inl ⟨rfl, rfl⟩) ?_ ?_
  · exact fun i k' h => pz_ctk (l := ct3_X1_askFor) (P := fun b i k => b = true → pz_cV 4 97 RX1 i k) (List.forall_mem_cons.mpr ⟨(fun _ => v_X0_at (by decide) (by decide) pz_wq457), List.forall_mem_cons.mpr ⟨((fun z => by cases z)), List.forall_mem_cons.mpr ⟨(fun _ => v3_X3_tells (by decide) (by decide) pz_wq482), List.forall_mem_cons.mpr ⟨((fun z => by cases z)), List.forall_mem_cons.mpr ⟨(fun _ => v3_X1_write (by decide) (by decide) pz_wq517), fun _ h => absurd h List.not_mem_nil⟩⟩⟩⟩⟩) true i k' h rfl
  · exact fun i k' h => pz_ctk (l := ct3_X1_askFor) (P := fun b i k => b = false → (pz_cS 4 97 RX1 i k ∨ (k = pz_kac ∧ 1 ≤ 4 ∧ 60 ≤ 97 ∧ Cond.methodLink RX1 i arraycopyName ∈ pz_tbl))) (List.forall_mem_cons.mpr ⟨((fun z => by cases z)), List.forall_mem_cons.mpr ⟨(fun _ => Or.inl (s_J9_min_7cf53 (by decide) (by decide) (Or.inl pz_wq481))), List.forall_mem_cons.mpr ⟨((fun z => by cases z)), List.forall_mem_cons.mpr ⟨(fun _ => Or.inl (s_J9_max_7cf53 (by decide) (by decide) (Or.inl pz_wq516))), List.forall_mem_cons.mpr ⟨((fun z => by cases z)), fun _ h => absurd h List.not_mem_nil⟩⟩⟩⟩⟩) false i k' h rfl
  · intro a M hlen hpre
    obtain ⟨d, c, i, n, rfl, hpre⟩ : ∃ d c i n, a = [.inr (.inr (1, d)), .inr (.inr (0, c)), .inl i, .inl n] ∧ (pz_ic M) := by
      have hpre : (match (generalizing := false) a with | [.inr (.inr (1, d)), .inr (.inr (0, c)), .inl i, .inl n] => pz_ic M | _ => False) := hpre
      split at hpre
      · exact ⟨_, _, _, _, rfl, hpre⟩
      · exact hpre.elim
    exact Nat.le_of_ble_eq_true rfl
  · intro a M hlen hcan hM hpre Ok hgo
    obtain ⟨d, c, i, n, rfl, hpre⟩ : ∃ d c i n, a = [.inr (.inr (1, d)), .inr (.inr (0, c)), .inl i, .inl n] ∧ (pz_ic M) := by
      have hpre : (match (generalizing := false) a with | [.inr (.inr (1, d)), .inr (.inr (0, c)), .inl i, .inl n] => pz_ic M | _ => False) := hpre
      split at hpre
      · exact ⟨_, _, _, _, rfl, hpre⟩
      · exact hpre.elim
    obtain ⟨k_d, hc_d⟩ := pz_tlm hcan
    have k_d : pz_kd d = 1 ∧ d < 231 := k_d
    have R_d := pz_kd1 k_d.1
    subst R_d
    obtain ⟨k_c, hc_c⟩ := pz_tlm hc_d
    have k_c : pz_kd c = 0 ∧ c < 231 := k_c
    have R_c := pz_kd0 k_c.1
    obtain ⟨k_i, hc_i⟩ := pz_tlm hc_c
    have l_i : -2147483648 ≤ i := k_i.1
    have u_i : i ≤ 2147483647 := k_i.2
    obtain ⟨k_n, hc_n⟩ := pz_tlm hc_i
    have l_n : -2147483648 ≤ n := k_n.1
    have u_n : n ≤ 2147483647 := k_n.2
    have hI : pz_ic M := hpre
    have hI0 := hI
    have hS : pq_pr (pq_Pd c) M M := pq_pr.rf
    refine hgo (fun _ => false) 49 0 _ [] M ?_
    intro v3 e3 a3 b3
    refine And.intro (True.intro) ?_
    intro r4 M4 k4 q4
    have R4 := pz_kd5 k4
    obtain ⟨q4, z4⟩ := q4
    subst z4
    have A4 := pz_at_lk R_c q4
    have B4 : 89 + 13 * (c - 71) ≤ r4 ∧ r4 ≤ 89 + 13 * (c - 71) + 12 := by
      rw [A4]
      exact pz_lnk_c
    intro v12 e12 a12 b12
    intro v16 e16 a16 b16
    refine And.intro (True.intro) ?_
    intro v17 M17 a17 b17 q17
    obtain ⟨q17, z17⟩ := q17
    subst z17
    intro r21 e21 k21
    have R21 := pz_kd10 k21
    intro r24 e24 k24
    have R24 := pz_kd3 k24
    have L24 : r24 = 10 := by rw [e24, e21]; rfl
    intro v31 e31 a31 b31
    refine And.intro (hI) ?_
    intro v32 M32 a32 b32 q32
    obtain ⟨q32, z32⟩ := q32
    have hS : pq_pr (pq_Pd c) M M32 := hS.tr z32.dw
    have hI : pz_ic M32 := hS.1 hI0
    refine And.intro (True.intro) ?_
    intro v35 M35 a35 b35 q35
    obtain ⟨q35, z35⟩ := q35
    subst z35
    intro v43 e43 a43 b43
    intro v48 e48 a48 b48
    intro M49 e49
    have hS : pq_pr (pq_Pd c) M M49 := by
      rw [e49]
      exact pq_pr_u hS (by unfold pq_Pd pq_Pw pz_lb; omega) (by unfold pz_iok; omega)
    have hI : pz_ic M49 := hS.1 hI0
    intro v59 e59 a59 b59
    intro v64 e64 a64 b64
    refine And.intro (True.intro) ?_
    intro v65 M65 a65 b65 q65
    obtain ⟨q65, z65⟩ := q65
    subst z65
    intro M68 e68
    have hS : pq_pr (pq_Pd c) M M68 := by
      rw [e68]
      exact pq_pr_u hS (by unfold pq_Pd pq_Pw pz_lb; omega) (by unfold pz_iok; omega)
    have hI : pz_ic M68 := hS.1 hI0
    intro v76 e76 a76 b76
    refine And.intro (hI) ?_
    intro M79 q79
    obtain ⟨q79, z79⟩ := q79
    have hS : pq_pr (pq_Pd c) M M79 := hS.tr z79
    have hI : pz_ic M79 := hS.1 hI0
    refine And.intro rfl ?_
    refine ⟨fun ls l1 F hT hF hP hW hp => ?_, hS⟩
    obtain ⟨p0, p3, p1, p4⟩ := hp
    have hm := hW.1
    rw [pz_wi (by omega) (by omega)] at e3 e31 e76
    have K : i.toNat + 1 = v3.toNat := by omega
    obtain ⟨o0, -, o2, -⟩ := hW.2.2 (i.toNat + 1) (by omega)
    have b := sd_at R_c hF hW (show 0 ≤ v3 by omega) (show v3 < F 88 by omega) A4
    rw [← K] at b
    obtain ⟨b0, -, b2, -⟩ := b
    rw [L24] at q32
    have G := sd_tel2 R_c hT hF hW (show 0 ≤ v31 by omega) (show v31 < F 88 by omega) q32.2
    rw [show v31.toNat = i.toNat + 1 by omega] at G
    rw [pz_wi (by omega) (by omega)] at e16
    have F5 : 4 + (i.toNat + 1) = 5 + i.toNat := by omega
    have F29 : 28 + (i.toNat + 1) = 29 + i.toNat := by omega
    rw [F5] at b0 o0
    rw [F29] at b2 o2
    have V35 : v35 = sd_gi ls F (i.toNat + 1) n := by
      unfold sd_gi
      rw [← G, F5, ← b0]
      omega
    have Gb : 0 ≤ sd_gi ls F (i.toNat + 1) n ∧ sd_gi ls F (i.toNat + 1) n ≤ F (5 + i.toNat) - 1 := by
      unfold sd_gi
      rw [F5]
      have := sd_gv_b (ls := ls) (F := F) (i := i.toNat + 1)
      omega
    have f32 := sd_se_d R_c hF hW z32
    have g32 := sd_pg_d hP z32
    have b := sd_at R_c f32 hW (show 0 ≤ v3 by omega) (show v3 < F 88 by omega) A4
    rw [← K, F5, F29] at b
    have V48 : v48 = F (5 + i.toNat) - sd_gi ls F (i.toNat + 1) n := by
      rw [e48, e43, b.1, V35, pz_wi (by omega) (by omega)]
    rw [V48] at e49
    have P49 := sd_put (f := 0) (i := v3) (v := F (5 + i.toNat) - sd_gi ls F (i.toNat + 1) n) R_c f32 g32 hW (by omega) (by omega) A4 (by decide) e49 (sd_okv_0 (by omega))
    rw [show sd_fo 0 + v3.toNat = 5 + i.toNat by show 4 + v3.toNat = _; omega] at P49
    obtain ⟨f49, g49, w49, t49⟩ := P49
    have K88 : sd_u F (5 + i.toNat) (F (5 + i.toNat) - sd_gi ls F (i.toNat + 1) n) 88 = F 88 := sd_un (by omega)
    have b := (sd_at R_c f49 w49 (show 0 ≤ v3 by omega) (by rw [K88]; omega) A4).2.2.1
    rw [← K, F29, sd_un (by omega)] at b
    have V64 : v64 = F (29 + i.toNat) - sd_gi ls F (i.toNat + 1) n := by
      rw [e64, e59, b, V35, pz_wi (by omega) (by omega)]
    have V65 : v65 = max (-999) (F (29 + i.toNat) - sd_gi ls F (i.toNat + 1) n) := by rw [q65, V64]
    rw [V65] at e68
    have P68 := sd_put (f := 2) (i := v3) (v := max (-999) (F (29 + i.toNat) - sd_gi ls F (i.toNat + 1) n)) R_c f49 g49 w49 (by omega) (by rw [K88]; omega) A4 (by decide) e68 (sd_okv_2 (by omega))
    rw [show sd_fo 2 + v3.toNat = 29 + i.toNat by show 28 + v3.toNat = _; omega] at P68
    obtain ⟨f68, g68, w68, t68⟩ := P68
    have q := q79 _ f68 g68 w68
    rw [t68, t49, z32.2 c 0 (by unfold pq_Pw; omega), V35, show v76 = ((i.toNat : Nat) : Int) + 1 by omega] at q
    exact ⟨V35, q.1, q.2, sd_note_wf w68⟩
theorem v3_X1_askFor {fr lo i : Nat} {own : String} (h1 : 4 + 1 ≤ fr) (h2 : 8 + (6 + 11) + 97 ≤ lo) (h3 : .methodLink own i yX1_askFor ∈ lw_tbl) : pz_cV fr lo own i k3_X1_askFor :=
  pz_cVk (maxL := 6) (fr' := 4) (lo' := 97) 3 1 h3_X1_askFor rfl ⟨(pz_nhc_RX1 yX1_askFor rfl).1, (pz_nhc_RX1 yX1_askFor rfl).2, pz_ds36⟩ ⟨pz_wq480, pz_wq478, pz_wq479, pz_wq7⟩ (Or.inl ⟨TX1, 2, rfl⟩) (fun a M _ h => by
    have h : (match (generalizing := false) a with | [.inr (.inr (1, d)), .inr (.inr (0, c)), .inl i, .inl n] => pz_ic M | _ => False) := h
    split at h
    · exact ⟨_, _, rfl⟩
    · exact h.elim) h1 h2 h3
