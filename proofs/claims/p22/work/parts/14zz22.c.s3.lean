section
noncomputable def k3_X11_state : pz_C := (2, 1, fun a M => (match a with | [.inr (.inr (11, th)), .inl n] => pz_ic M | _ => False), fun a M r M' => (match a, r with | [.inr (.inr (11, th)), .inl n], some (.inl v) => (v = M 71 6 ∧ M' = pz_u (pz_u M 71 6 n) 3 2 0) ∧ pz_sW M M' | _, _ => False))
noncomputable abbrev ct3_X11_state : List (Bool × Nat × pz_C) := [(true, 97, k_X2_forgetAll)]
set_option maxRecDepth 100000 in
set_option maxHeartbeats 4000000 in
theorem h3_X11_state : pz_H yX11_state cX11_state 3 (some .int) k3_X11_state 1 20 := by
  refine pz_mk (own := RX11) (tb := t_X11_state) (fl := pz_flf fl_RX11) (ci := pz_cif ci_RX11) (ct := pz_ctf ct3_X11_state) (rz := false) (pz_pfc_RX11 yX11_state rfl) rfl t_X11_state_ok (pz_flk fl_RX11_ok) (pz_cik ci_RX11_ok) ?_ ?_ (Or.inl ⟨rfl, rfl⟩) ?_ ?_
  · exact fun i k' h => pz_ctk (l := ct3_X11_state) (P := fun b i k => b = true → pz_cV 1 20 RX11 i k) (List.forall_mem_cons.mpr ⟨(fun _ => v_X2_forgetAll (by decide) (by decide) pz_wq414), fun _ h => absurd h List.not_mem_nil⟩) true i k' h rfl
  · exact fun i k' h => pz_ctk (l := ct3_X11_state) (P := fun b i k => b = false → (pz_cS 1 20 RX11 i k ∨ (k = pz_kac ∧ 1 ≤ 1 ∧ 60 ≤ 20 ∧ Cond.methodLink RX11 i arraycopyName ∈ pz_tbl))) (List.forall_mem_cons.mpr ⟨((fun z => by cases z)), fun _ h => absurd h List.not_mem_nil⟩) false i k' h rfl
  · intro a M hlen hpre
    obtain ⟨th, n, rfl, hpre⟩ : ∃ th n, a = [.inr (.inr (11, th)), .inl n] ∧ (pz_ic M) := by
      have hpre : (match (generalizing := false) a with | [.inr (.inr (11, th)), .inl n] => pz_ic M | _ => False) := hpre
      split at hpre
      · exact ⟨_, _, rfl, hpre⟩
      · exact hpre.elim
    exact Nat.le_of_ble_eq_true rfl
  · intro a M hlen hcan hM hpre Ok hgo
    obtain ⟨th, n, rfl, hpre⟩ : ∃ th n, a = [.inr (.inr (11, th)), .inl n] ∧ (pz_ic M) := by
      have hpre : (match (generalizing := false) a with | [.inr (.inr (11, th)), .inl n] => pz_ic M | _ => False) := hpre
      split at hpre
      · exact ⟨_, _, rfl, hpre⟩
      · exact hpre.elim
    obtain ⟨k_th, hc_th⟩ := pz_tlm hcan
    have k_th : pz_kd th = 11 ∧ th < 231 := k_th
    have R_th := pz_kd11 k_th.1
    subst R_th
    obtain ⟨k_n, hc_n⟩ := pz_tlm hc_th
    have l_n : -2147483648 ≤ n := k_n.1
    have u_n : n ≤ 2147483647 := k_n.2
    have hI : pz_ic M := hpre
    have hI0 := hI
    have hS : pz_sW M M := pz_sW.rf
    refine hgo (fun _ => false) 15 0 _ [] M ?_
    refine pz_nrc (c := 71) rfl ?_
    intro v4 e4 a4 b4
    refine pz_nrc (c := 71) rfl ?_
    intro M13 e13
    have hS : pz_sW M M13 := by
      rw [e13]
      exact hS.tr (pz_st.sw (pz_st_u pz_st.rf (by unfold pz_md pz_kx pz_mid; first | decide | omega) (by first | decide | omega) (by unfold pz_iok; first | decide | omega)))
    have hI : pz_ic M13 := hS.1.1 hI0
    refine pz_nrc (c := 3) rfl ?_
    refine And.intro (hI) ?_
    intro M20 q20
    obtain ⟨q20, z20⟩ := q20
    have hS : pz_sW M M20 := hS.tr z20
    have hI : pz_ic M20 := hS.1.1 hI0
    refine And.intro rfl ?_
    exact ⟨⟨e4, by rw [q20, e13]⟩, hS⟩
theorem v3_X11_state {fr lo i : Nat} {own : String} (h1 : 1 + 1 ≤ fr) (h2 : 8 + (3 + 11) + 20 ≤ lo) (h3 : .methodLink own i yX11_state ∈ lw_tbl) : pz_cV fr lo own i k3_X11_state :=
  pz_cVk (maxL := 3) (fr' := 1) (lo' := 20) 1 11 h3_X11_state rfl ⟨(pz_nhc_RX11 yX11_state rfl).1, (pz_nhc_RX11 yX11_state rfl).2, pz_ds5⟩ ⟨pz_wq413, pz_wq411, pz_wq412, pz_wq1⟩ (Or.inl ⟨TX11, 14, rfl⟩) (fun a M _ h => by
    have h : (match (generalizing := false) a with | [.inr (.inr (11, th)), .inl n] => pz_ic M | _ => False) := h
    split at h
    · exact ⟨_, _, rfl⟩
    · exact h.elim) h1 h2 h3
noncomputable def k3_X11_end : pz_C := (2, 1, fun a M => (match a with | [.inr (.inr (11, th)), .inl n] => pz_ic M | _ => False), fun a M r M' => (match a, r with | [.inr (.inr (11, th)), .inl n], some (.inl v) => ((if 0 ≤ n ∧ n ≤ M 4 1 then v = 1 ∧ M' 4 1 = n else v = 0 ∧ M' 4 1 = M 4 1)) ∧ pq_pr pq_Pe M M' | _, _ => False))
noncomputable abbrev ct3_X11_end : List (Bool × Nat × pz_C) := [(false, 137, k_X11_within)]
set_option maxRecDepth 100000 in
set_option maxHeartbeats 4000000 in
theorem h3_X11_end : pz_H yX11_end cX11_end 2 (some .boolean) k3_X11_end 1 22 := by
  refine pz_mk (own := RX11) (tb := t_X11_end) (fl := pz_flf fl_RX11) (ci := pz_cif ci_RX11) (ct := pz_ctf ct3_X11_end) (rz := true) (pz_pfc_RX11 yX11_end rfl) rfl t_X11_end_ok (pz_flk fl_RX11_ok) (pz_cik ci_RX11_ok) ?_ ?_ (Or.inr ⟨rfl, rfl⟩) ?_ ?_
  · exact fun i k' h => pz_ctk (l := ct3_X11_end) (P := fun b i k => b = true → pz_cV 1 22 RX11 i k) (List.forall_mem_cons.mpr ⟨((fun z => by cases z)), fun _ h => absurd h List.not_mem_nil⟩) true i k' h rfl
  · exact fun i k' h => pz_ctk (l := ct3_X11_end) (P := fun b i k => b = false → (pz_cS 1 22 RX11 i k ∨ (k = pz_kac ∧ 1 ≤ 1 ∧ 60 ≤ 22 ∧ Cond.methodLink RX11 i arraycopyName ∈ pz_tbl))) (List.forall_mem_cons.mpr ⟨(fun _ => Or.inl (s_X11_within (by decide) (by decide) (Or.inl pz_wq425))), fun _ h => absurd h List.not_mem_nil⟩) false i k' h rfl
  · intro a M hlen hpre
    obtain ⟨th, n, rfl, hpre⟩ : ∃ th n, a = [.inr (.inr (11, th)), .inl n] ∧ (pz_ic M) := by
      have hpre : (match (generalizing := false) a with | [.inr (.inr (11, th)), .inl n] => pz_ic M | _ => False) := hpre
      split at hpre
      · exact ⟨_, _, rfl, hpre⟩
      · exact hpre.elim
    exact Nat.le_of_ble_eq_true rfl
  · intro a M hlen hcan hM hpre Ok hgo
    obtain ⟨th, n, rfl, hpre⟩ : ∃ th n, a = [.inr (.inr (11, th)), .inl n] ∧ (pz_ic M) := by
      have hpre : (match (generalizing := false) a with | [.inr (.inr (11, th)), .inl n] => pz_ic M | _ => False) := hpre
      split at hpre
      · exact ⟨_, _, rfl, hpre⟩
      · exact hpre.elim
    obtain ⟨k_th, hc_th⟩ := pz_tlm hcan
    have k_th : pz_kd th = 11 ∧ th < 231 := k_th
    have R_th := pz_kd11 k_th.1
    subst R_th
    obtain ⟨k_n, hc_n⟩ := pz_tlm hc_th
    have l_n : -2147483648 ≤ n := k_n.1
    have u_n : n ≤ 2147483647 := k_n.2
    have hI : pz_ic M := hpre
    have hI0 := hI
    have hS : pq_pr pq_Pe M M := pq_pr.rf
    refine hgo (fun _ => false) 17 0 _ [] M ?_
    intro r3 e3 k3
    have R3 := pz_kd7 k3
    intro v6 e6 a6 b6
    rw [R3] at e6
    have I6 := hI.2.2.2.2.1
    refine And.intro (True.intro) ?_
    intro v9 M9 a9 b9 q9
    obtain ⟨q9, z9⟩ := q9
    subst z9
    have H9 : v9 = (if 0 ≤ n ∧ n ≤ v6 then 1 else 0) := q9
    refine And.intro (fun h12 => ?_) (fun h12 => ?_)
    · skip
      intro r18 e18 k18
      have R18 := pz_kd7 k18
      intro M22 e22
      have hS : pq_pr pq_Pe M M22 := by
        rw [e22]
        exact pq_pr_u hS (by unfold pq_Pe; first | decide | omega) (by unfold pz_iok; first | decide | omega)
      have hI : pz_ic M22 := hS.1 hI0
      have T22_0 := pz_uve e22 4 1
      refine And.intro (by first | decide | omega) ?_
      refine And.intro rfl ?_
      refine And.intro ?_ hS
      split at q9 <;> split <;> omega
    · skip
      refine And.intro (by first | decide | omega) ?_
      refine And.intro rfl ?_
      refine And.intro ?_ hS
      split at q9 <;> split <;> omega
theorem v3_X11_end {fr lo i : Nat} {own : String} (h1 : 1 + 1 ≤ fr) (h2 : 8 + (2 + 11) + 22 ≤ lo) (h3 : .methodLink own i yX11_end ∈ lw_tbl) : pz_cV fr lo own i k3_X11_end :=
  pz_cVk (maxL := 2) (fr' := 1) (lo' := 22) 1 11 h3_X11_end rfl ⟨(pz_nhc_RX11 yX11_end rfl).1, (pz_nhc_RX11 yX11_end rfl).2, pz_ds9⟩ ⟨pz_wq654, pz_wq652, pz_wq653, pz_wq1⟩ (Or.inl ⟨TX11, 14, rfl⟩) (fun a M _ h => by
    have h : (match (generalizing := false) a with | [.inr (.inr (11, th)), .inl n] => pz_ic M | _ => False) := h
    split at h
    · exact ⟨_, _, rfl⟩
    · exact h.elim) h1 h2 h3
noncomputable def k3_X11_ask : pz_C := (3, 1, fun a M => (match a with | [.inr (.inr (11, th)), .inl i, .inl n] => pz_ic M | _ => False), fun a M r M' => (match a, r with | [.inr (.inr (11, th)), .inl i, .inl n], some (.inl v) => (sd_da M M' v (-1) (fun F => 0 ≤ i ∧ (1 ≤ n ∧ n ≤ 99) ∧ sd_ca F i.toNat) (fun ls F => sd_gi ls F (i.toNat + 1) n) (fun ls F => sd_ask true ls F i.toNat n)) ∧ pz_sW M M' | _, _ => False))
noncomputable abbrev ct3_X11_ask : List (Bool × Nat × pz_C) := [(true, 141, k3_X1_canAsk), (true, 145, k_X2_keep), (true, 149, k3_X1_askFor)]
set_option maxRecDepth 100000 in
set_option maxHeartbeats 4000000 in
theorem h3_X11_ask : pz_H yX11_ask cX11_ask 3 (some .int) k3_X11_ask 5 122 := by
  refine pz_mk (own := RX11) (tb := t_X11_ask) (fl := pz_flf fl_RX11) (ci := pz_cif ci_RX11) (ct := pz_ctf ct3_X11_ask) (rz := false) (pz_pfc_RX11 yX11_ask rfl) rfl t_X11_ask_ok (pz_flk fl_RX11_ok) (pz_cik ci_RX11_ok) ?_ ?_ (Or.inl ⟨rfl, rfl⟩) ?_ ?_
  · exact fun i k' h => pz_ctk (l := ct3_X11_ask) (P := fun b i k => b = true → pz_cV 5 122 RX11 i k) (List.forall_mem_cons.mpr ⟨(fun _ => v3_X1_canAsk (by decide) (by decide) pz_wq452), List.forall_mem_cons.mpr ⟨(fun _ => v_X2_keep (by decide) (by decide) pz_wq462), List.forall_mem_cons.mpr ⟨(fun _ => v3_X1_askFor (by decide) (by decide) pz_wq477), fun _ h => absurd h List.not_mem_nil⟩⟩⟩) true i k' h rfl
  · exact fun i k' h => pz_ctk (l := ct3_X11_ask) (P := fun b i k => b = false → (pz_cS 5 122 RX11 i k ∨ (k = pz_kac ∧ 1 ≤ 5 ∧ 60 ≤ 122 ∧ Cond.methodLink RX11 i arraycopyName ∈ pz_tbl))) (List.forall_mem_cons.mpr ⟨((fun z => by cases z)), List.forall_mem_cons.mpr ⟨((fun z => by cases z)), List.forall_mem_cons.mpr ⟨((fun z => by cases z)), fun _ h => absurd h List.not_mem_nil⟩⟩⟩) false i k' h rfl
  · intro a M hlen hpre
    obtain ⟨th, i, n, rfl, hpre⟩ : ∃ th i n, a = [.inr (.inr (11, th)), .inl i, .inl n] ∧ (pz_ic M) := by
      have hpre : (match (generalizing := false) a with | [.inr (.inr (11, th)), .inl i, .inl n] => pz_ic M | _ => False) := hpre
      split at hpre
      · exact ⟨_, _, _, rfl, hpre⟩
      · exact hpre.elim
    exact Nat.le_of_ble_eq_true rfl
  · intro a M hlen hcan hM hpre Ok hgo
    obtain ⟨th, i, n, rfl, hpre⟩ : ∃ th i n, a = [.inr (.inr (11, th)), .inl i, .inl n] ∧ (pz_ic M) := by
      have hpre : (match (generalizing := false) a with | [.inr (.inr (11, th)), .inl i, .inl n] => pz_ic M | _ => False) := hpre
      split at hpre
      · exact ⟨_, _, _, rfl, hpre⟩
      · exact hpre.elim
    obtain ⟨k_th, hc_th⟩ := pz_tlm hcan
    have k_th : pz_kd th = 11 ∧ th < 231 := k_th
    have R_th := pz_kd11 k_th.1
    subst R_th
    obtain ⟨k_i, hc_i⟩ := pz_tlm hc_th
    have l_i : -2147483648 ≤ i := k_i.1
    have u_i : i ≤ 2147483647 := k_i.2
    obtain ⟨k_n, hc_n⟩ := pz_tlm hc_i
    have l_n : -2147483648 ≤ n := k_n.1
    have u_n : n ≤ 2147483647 := k_n.2
    have hI : pz_ic M := hpre
    have hI0 := hI
    have hS : pz_sW M M := pz_sW.rf
    refine hgo (fun _ => false) 25 0 _ [] M ?_
    refine pz_nrc (c := 2) rfl ?_
    refine pz_nrc (c := 71) rfl ?_
    refine And.intro (hI) ?_
    intro v10 M10 a10 b10 q10
    obtain ⟨q10, z10⟩ := q10
    subst z10
    refine And.intro (fun h13 => ?_) (fun h13 => ?_)
    · skip
      refine pz_nrc (c := 3) rfl ?_
      refine pz_nrc (c := 71) rfl ?_
      refine And.intro (And.intro hI (by first | decide | omega)) ?_
      intro M26 q26
      obtain ⟨q26, z26⟩ := q26
      have hS : pz_sW M M26 := hS.tr z26
      have hI : pz_ic M26 := hS.1.1 hI0
      refine pz_nrc (c := 2) rfl ?_
      refine pz_nrc (c := 71) rfl ?_
      refine And.intro (hI) ?_
      intro v39 M39 a39 b39 q39
      obtain ⟨q39, z39⟩ := q39
      have hS : pz_sW M M39 := hS.tr z39.dsW
      have hI : pz_ic M39 := hS.1.1 hI0
      refine And.intro rfl ?_
      refine ⟨fun F hF hW => ⟨fun hn => absurd ((q10.2 F hF hW).mp (by first | decide | omega)) hn, fun hp => ?_⟩, hS⟩
      have hd : pq_pr (pq_Pd 71) (pz_kf M) M39 := by
        rw [← q26]
        exact z39
      rw [q26] at q39
      refine ⟨hd, fun ls l1 hT hP h0 => ?_⟩
      have m := hW.1
      have tr : decide (pz_kf M 71 0 = 0) = true := decide_eq_true ((sd_kf_o hI0 (by first | decide | omega)).trans h0)
      have z := q39 ls l1 F (sd_kf_tx hI0 hT) (sd_kf_se hI0 hF (by first | decide | omega)) (sd_kf_pg hI0 hP) hW hp
      rw [tr] at z
      exact z
    · skip
      refine And.intro rfl ?_
      refine ⟨fun F hF hW => ⟨fun _ => ⟨rfl, rfl⟩, fun hp => ?_⟩, hS⟩
      have a := (q10.2 F hF hW).mpr hp
      exfalso
      omega
theorem v3_X11_ask {fr lo i : Nat} {own : String} (h1 : 5 + 1 ≤ fr) (h2 : 8 + (3 + 11) + 122 ≤ lo) (h3 : .methodLink own i yX11_ask ∈ lw_tbl) : pz_cV fr lo own i k3_X11_ask :=
  pz_cVk (maxL := 3) (fr' := 5) (lo' := 122) 2 11 h3_X11_ask rfl ⟨(pz_nhc_RX11 yX11_ask rfl).1, (pz_nhc_RX11 yX11_ask rfl).2, pz_ds10⟩ ⟨pz_wq451, pz_wq449, pz_wq450, pz_wq1⟩ (Or.inl ⟨TX11, 14, rfl⟩) (fun a M _ h => by
    have h : (match (generalizing := false) a with | [.inr (.inr (11, th)), .inl i, .inl n] => pz_ic M | _ => False) := h
    split at h
    · exact ⟨_, _, rfl⟩
    · exact h.elim) h1 h2 h3
noncomputable def k3_X11_bridge : pz_C := (2, 1, fun a M => (match a with | [.inr (.inr (11, th)), .inl i] => pz_ic M | _ => False), fun a M r M' => (match a, r with | [.inr (.inr (11, th)), .inl i], some (.inl v) => (sd_da M M' v (0) (fun F => 0 ≤ i ∧ sd_cb F i.toNat) (fun ls F => 1) (fun ls F => sd_bri true F i.toNat)) ∧ pz_sW M M' | _, _ => False))
noncomputable abbrev ct3_X11_bridge : List (Bool × Nat × pz_C) := [(true, 153, k3_X0_canBridge), (true, 145, k_X2_keep), (true, 156, k3_X1_putBridge)]
set_option maxRecDepth 100000 in
set_option maxHeartbeats 4000000 in
theorem h3_X11_bridge : pz_H yX11_bridge cX11_bridge 2 (some .boolean) k3_X11_bridge 3 64 := by
  refine pz_mk (own := RX11) (tb := t_X11_bridge) (fl := pz_flf fl_RX11) (ci := pz_cif ci_RX11) (ct := pz_ctf ct3_X11_bridge) (rz := true) (pz_pfc_RX11 yX11_bridge rfl) rfl t_X11_bridge_ok (pz_flk fl_RX11_ok) (pz_cik ci_RX11_ok) ?_ ?_ (Or.inr ⟨rfl, rfl⟩) ?_ ?_
  · exact fun i k' h => pz_ctk (l := ct3_X11_bridge) (P := fun b i k => b = true → pz_cV 3 64 RX11 i k) (List.forall_mem_cons.mpr ⟨(fun _ => v3_X0_canBridge (by decide) (by decide) pz_wq525), List.forall_mem_cons.mpr ⟨(fun _ => v_X2_keep (by decide) (by decide) pz_wq462), List.forall_mem_cons.mpr ⟨(fun _ => v3_X1_putBridge (by decide) (by decide) pz_wq530), fun _ h => absurd h List.not_mem_nil⟩⟩⟩) true i k' h rfl
  · exact fun i k' h => pz_ctk (l := ct3_X11_bridge) (P := fun b i k => b = false → (pz_cS 3 64 RX11 i k ∨ (k = pz_kac ∧ 1 ≤ 3 ∧ 60 ≤ 64 ∧ Cond.methodLink RX11 i arraycopyName ∈ pz_tbl))) (List.forall_mem_cons.mpr ⟨((fun z => by cases z)), List.forall_mem_cons.mpr ⟨((fun z => by cases z)), List.forall_mem_cons.mpr ⟨((fun z => by cases z)), fun _ h => absurd h List.not_mem_nil⟩⟩⟩) false i k' h rfl
  · intro a M hlen hpre
    obtain ⟨th, i, rfl, hpre⟩ : ∃ th i, a = [.inr (.inr (11, th)), .inl i] ∧ (pz_ic M) := by
      have hpre : (match (generalizing := false) a with | [.inr (.inr (11, th)), .inl i] => pz_ic M | _ => False) := hpre
      split at hpre
      · exact ⟨_, _, rfl, hpre⟩
      · exact hpre.elim
    exact Nat.le_of_ble_eq_true rfl
  · intro a M hlen hcan hM hpre Ok hgo
    obtain ⟨th, i, rfl, hpre⟩ : ∃ th i, a = [.inr (.inr (11, th)), .inl i] ∧ (pz_ic M) := by
      have hpre : (match (generalizing := false) a with | [.inr (.inr (11, th)), .inl i] => pz_ic M | _ => False) := hpre
      split at hpre
      · exact ⟨_, _, rfl, hpre⟩
      · exact hpre.elim
    obtain ⟨k_th, hc_th⟩ := pz_tlm hcan
    have k_th : pz_kd th = 11 ∧ th < 231 := k_th
    have R_th := pz_kd11 k_th.1
    subst R_th
    obtain ⟨k_i, hc_i⟩ := pz_tlm hc_th
    have l_i : -2147483648 ≤ i := k_i.1
    have u_i : i ≤ 2147483647 := k_i.2
    have hI : pz_ic M := hpre
    have hI0 := hI
    have hS : pz_sW M M := pz_sW.rf
    refine hgo (fun _ => false) 22 0 _ [] M ?_
    refine pz_nrc (c := 71) rfl ?_
    refine And.intro (hI) ?_
    intro v5 M5 a5 b5 q5
    obtain ⟨q5, z5⟩ := q5
    subst z5
    refine And.intro (fun h8 => ?_) (fun h8 => ?_)
    · skip
      refine pz_nrc (c := 3) rfl ?_
      refine pz_nrc (c := 71) rfl ?_
      refine And.intro (And.intro hI (by first | decide | omega)) ?_
      intro M21 q21
      obtain ⟨q21, z21⟩ := q21
      have hS : pz_sW M M21 := hS.tr z21
      have hI : pz_ic M21 := hS.1.1 hI0
      refine pz_nrc (c := 2) rfl ?_
      refine pz_nrc (c := 71) rfl ?_
      refine And.intro (hI) ?_
      intro M33 q33
      obtain ⟨q33, z33⟩ := q33
      have hS : pz_sW M M33 := hS.tr z33.dsW
      have hI : pz_ic M33 := hS.1.1 hI0
      refine And.intro (by first | decide | omega) ?_
      refine And.intro rfl ?_
      refine ⟨fun F hF hW => ⟨fun hn => absurd ((q5.2 F hF hW).mp (by first | decide | omega)) hn, fun hp => ?_⟩, hS⟩
      have hd : pq_pr (pq_Pd 71) (pz_kf M) M33 := by
        rw [← q21]
        exact z33
      rw [q21] at q33
      refine ⟨hd, fun ls l1 hT hP h0 => ?_⟩
      have m := hW.1
      have tr : decide (pz_kf M 71 0 = 0) = true := decide_eq_true ((sd_kf_o hI0 (by first | decide | omega)).trans h0)
      have z := q33 ls l1 F (sd_kf_tx hI0 hT) (sd_kf_se hI0 hF (by first | decide | omega)) (sd_kf_pg hI0 hP) hW hp
      rw [tr] at z
      exact ⟨rfl, z⟩
    · skip
      refine And.intro (by first | decide | omega) ?_
      refine And.intro rfl ?_
      refine ⟨fun F hF hW => ⟨fun _ => ⟨rfl, rfl⟩, fun hp => ?_⟩, hS⟩
      have a := (q5.2 F hF hW).mpr hp
      exfalso
      omega
theorem v3_X11_bridge {fr lo i : Nat} {own : String} (h1 : 3 + 1 ≤ fr) (h2 : 8 + (2 + 11) + 64 ≤ lo) (h3 : .methodLink own i yX11_bridge ∈ lw_tbl) : pz_cV fr lo own i k3_X11_bridge :=
  pz_cVk (maxL := 2) (fr' := 3) (lo' := 64) 1 11 h3_X11_bridge rfl ⟨(pz_nhc_RX11 yX11_bridge rfl).1, (pz_nhc_RX11 yX11_bridge rfl).2, pz_ds9⟩ ⟨pz_wq524, pz_wq522, pz_wq523, pz_wq1⟩ (Or.inl ⟨TX11, 14, rfl⟩) (fun a M _ h => by
    have h : (match (generalizing := false) a with | [.inr (.inr (11, th)), .inl i] => pz_ic M | _ => False) := h
    split at h
    · exact ⟨_, _, rfl⟩
    · exact h.elim) h1 h2 h3
noncomputable def k3_X11_pay : pz_C := (4, 1, fun a M => (match a with | [.inr (.inr (11, th)), .inl i, .inl j, .inl n] => pz_ic M | _ => False), fun a M r M' => (match a, r with | [.inr (.inr (11, th)), .inl i, .inl j, .inl n], some (.inl v) => (sd_da M M' v (0) (fun F => 0 ≤ i ∧ 0 ≤ j ∧ (1 ≤ n ∧ n ≤ 99) ∧ sd_c0 F i.toNat j.toNat n) (fun ls F => 1) (fun ls F => sd_pys true F i.toNat j.toNat n)) ∧ pz_sW M M' | _, _ => False))
noncomputable abbrev ct3_X11_pay : List (Bool × Nat × pz_C) := [(true, 160, k3_X1_canHandOver), (true, 145, k_X2_keep), (true, 164, k3_X1_handOver)]
set_option maxRecDepth 100000 in
set_option maxHeartbeats 4000000 in
theorem h3_X11_pay : pz_H yX11_pay cX11_pay 4 (some .boolean) k3_X11_pay 3 64 := by
  refine pz_mk (own := RX11) (tb := t_X11_pay) (fl := pz_flf fl_RX11) (ci := pz_cif ci_RX11) (ct := pz_ctf ct3_X11_pay) (rz := true) (pz_pfc_RX11 yX11_pay rfl) rfl t_X11_pay_ok (pz_flk fl_RX11_ok) (pz_cik ci_RX11_ok) ?_ ?_ (Or.inr ⟨rfl, rfl⟩) ?_ ?_
  · exact fun i k' h => pz_ctk (l := ct3_X11_pay) (P := fun b i k => b = true → pz_cV 3 64 RX11 i k) (List.forall_mem_cons.mpr ⟨(fun _ => v3_X1_canHandOver (by decide) (by decide) pz_wq538), List.forall_mem_cons.mpr ⟨(fun _ => v_X2_keep (by decide) (by decide) pz_wq462), List.forall_mem_cons.mpr ⟨(fun _ => v3_X1_handOver (by decide) (by decide) pz_wq543), fun _ h => absurd h List.not_mem_nil⟩⟩⟩) true i k' h rfl
  · exact fun i k' h => pz_ctk (l := ct3_X11_pay) (P := fun b i k => b = false → (pz_cS 3 64 RX11 i k ∨ (k = pz_kac ∧ 1 ≤ 3 ∧ 60 ≤ 64 ∧ Cond.methodLink RX11 i arraycopyName ∈ pz_tbl))) (List.forall_mem_cons.mpr ⟨((fun z => by cases z)), List.forall_mem_cons.mpr ⟨((fun z => by cases z)), List.forall_mem_cons.mpr ⟨((fun z => by cases z)), fun _ h => absurd h List.not_mem_nil⟩⟩⟩) false i k' h rfl
  · intro a M hlen hpre
    obtain ⟨th, i, j, n, rfl, hpre⟩ : ∃ th i j n, a = [.inr (.inr (11, th)), .inl i, .inl j, .inl n] ∧ (pz_ic M) := by
      have hpre : (match (generalizing := false) a with | [.inr (.inr (11, th)), .inl i, .inl j, .inl n] => pz_ic M | _ => False) := hpre
      split at hpre
      · exact ⟨_, _, _, _, rfl, hpre⟩
      · exact hpre.elim
    exact Nat.le_of_ble_eq_true rfl
  · intro a M hlen hcan hM hpre Ok hgo
    obtain ⟨th, i, j, n, rfl, hpre⟩ : ∃ th i j n, a = [.inr (.inr (11, th)), .inl i, .inl j, .inl n] ∧ (pz_ic M) := by
      have hpre : (match (generalizing := false) a with | [.inr (.inr (11, th)), .inl i, .inl j, .inl n] => pz_ic M | _ => False) := hpre
      split at hpre
      · exact ⟨_, _, _, _, rfl, hpre⟩
      · exact hpre.elim
    obtain ⟨k_th, hc_th⟩ := pz_tlm hcan
    have k_th : pz_kd th = 11 ∧ th < 231 := k_th
    have R_th := pz_kd11 k_th.1
    subst R_th
    obtain ⟨k_i, hc_i⟩ := pz_tlm hc_th
    have l_i : -2147483648 ≤ i := k_i.1
    have u_i : i ≤ 2147483647 := k_i.2
    obtain ⟨k_j, hc_j⟩ := pz_tlm hc_i
    have l_j : -2147483648 ≤ j := k_j.1
    have u_j : j ≤ 2147483647 := k_j.2
    obtain ⟨k_n, hc_n⟩ := pz_tlm hc_j
    have l_n : -2147483648 ≤ n := k_n.1
    have u_n : n ≤ 2147483647 := k_n.2
    have hI : pz_ic M := hpre
    have hI0 := hI
    have hS : pz_sW M M := pz_sW.rf
    refine hgo (fun _ => false) 28 0 _ [] M ?_
    refine pz_nrc (c := 2) rfl ?_
    refine pz_nrc (c := 71) rfl ?_
    refine And.intro (hI) ?_
    intro v11 M11 a11 b11 q11
    obtain ⟨q11, z11⟩ := q11
    subst z11
    refine And.intro (fun h14 => ?_) (fun h14 => ?_)
    · skip
      refine pz_nrc (c := 3) rfl ?_
      refine pz_nrc (c := 71) rfl ?_
      refine And.intro (And.intro hI (by first | decide | omega)) ?_
      intro M27 q27
      obtain ⟨q27, z27⟩ := q27
      have hS : pz_sW M M27 := hS.tr z27
      have hI : pz_ic M27 := hS.1.1 hI0
      refine pz_nrc (c := 2) rfl ?_
      refine pz_nrc (c := 71) rfl ?_
      refine And.intro (hI) ?_
      intro M41 q41
      obtain ⟨q41, z41⟩ := q41
      have hS : pz_sW M M41 := hS.tr z41.dsW
      have hI : pz_ic M41 := hS.1.1 hI0
      refine And.intro (by first | decide | omega) ?_
      refine And.intro rfl ?_
      refine ⟨fun F hF hW => ⟨fun hn => absurd ((q11.2 F hF hW).mp (by first | decide | omega)) hn, fun hp => ?_⟩, hS⟩
      have hd : pq_pr (pq_Pd 71) (pz_kf M) M41 := by
        rw [← q27]
        exact z41
      rw [q27] at q41
      refine ⟨hd, fun ls l1 hT hP h0 => ?_⟩
      have m := hW.1
      have tr : decide (pz_kf M 71 0 = 0) = true := decide_eq_true ((sd_kf_o hI0 (by first | decide | omega)).trans h0)
      have z := q41 ls l1 F (sd_kf_tx hI0 hT) (sd_kf_se hI0 hF (by first | decide | omega)) (sd_kf_pg hI0 hP) hW hp
      rw [tr] at z
      exact ⟨rfl, z⟩
    · skip
      refine And.intro (by first | decide | omega) ?_
      refine And.intro rfl ?_
      refine ⟨fun F hF hW => ⟨fun _ => ⟨rfl, rfl⟩, fun hp => ?_⟩, hS⟩
      have a := (q11.2 F hF hW).mpr hp
      exfalso
      omega
theorem v3_X11_pay {fr lo i : Nat} {own : String} (h1 : 3 + 1 ≤ fr) (h2 : 8 + (4 + 11) + 64 ≤ lo) (h3 : .methodLink own i yX11_pay ∈ lw_tbl) : pz_cV fr lo own i k3_X11_pay :=
  pz_cVk (maxL := 4) (fr' := 3) (lo' := 64) 3 11 h3_X11_pay rfl ⟨(pz_nhc_RX11 yX11_pay rfl).1, (pz_nhc_RX11 yX11_pay rfl).2, pz_ds17⟩ ⟨pz_wq537, pz_wq535, pz_wq536, pz_wq1⟩ (Or.inl ⟨TX11, 14, rfl⟩) (fun a M _ h => by
    have h : (match (generalizing := false) a with | [.inr (.inr (11, th)), .inl i, .inl j, .inl n] => pz_ic M | _ => False) := h
    split at h
    · exact ⟨_, _, rfl⟩
    · exact h.elim) h1 h2 h3
noncomputable def k3_X11_paper : pz_C := (2, 1, fun a M => (match a with | [.inr (.inr (11, th)), .inl i] => pz_ic M | _ => False), fun a M r M' => (match a, r with | [.inr (.inr (11, th)), .inl i], some (.inl v) => (sd_da M M' v (0) (fun F => 0 ≤ i ∧ sd_cp F i.toNat) (fun ls F => 1) (fun ls F => sd_get true F i.toNat)) ∧ pz_sW M M' | _, _ => False))
noncomputable abbrev ct3_X11_paper : List (Bool × Nat × pz_C) := [(true, 168, k3_X1_canGetReady), (true, 145, k_X2_keep), (true, 172, k3_X1_getReady)]
set_option maxRecDepth 100000 in
set_option maxHeartbeats 4000000 in
theorem h3_X11_paper : pz_H yX11_paper cX11_paper 2 (some .boolean) k3_X11_paper 3 64 := by
  refine pz_mk (own := RX11) (tb := t_X11_paper) (fl := pz_flf fl_RX11) (ci := pz_cif ci_RX11) (ct := pz_ctf ct3_X11_paper) (rz := true) (pz_pfc_RX11 yX11_paper rfl) rfl t_X11_paper_ok (pz_flk fl_RX11_ok) (pz_cik ci_RX11_ok) ?_ ?_ (Or.inr ⟨rfl, rfl⟩) ?_ ?_
  · exact fun i k' h => pz_ctk (l := ct3_X11_paper) (P := fun b i k => b = true → pz_cV 3 64 RX11 i k) (List.forall_mem_cons.mpr ⟨(fun _ => v3_X1_canGetReady (by decide) (by decide) pz_wq551), List.forall_mem_cons.mpr ⟨(fun _ => v_X2_keep (by decide) (by decide) pz_wq462), List.forall_mem_cons.mpr ⟨(fun _ => v3_X1_getReady (by decide) (by decide) pz_wq555), fun _ h => absurd h List.not_mem_nil⟩⟩⟩) true i k' h rfl
  · exact fun i k' h => pz_ctk (l := ct3_X11_paper) (P := fun b i k => b = false → (pz_cS 3 64 RX11 i k ∨ (k = pz_kac ∧ 1 ≤ 3 ∧ 60 ≤ 64 ∧ Cond.methodLink RX11 i arraycopyName ∈ pz_tbl))) (List.forall_mem_cons.mpr ⟨((fun z => by cases z)), List.forall_mem_cons.mpr ⟨((fun z => by cases z)), List.forall_mem_cons.mpr ⟨((fun z => by cases z)), fun _ h => absurd h List.not_mem_nil⟩⟩⟩) false i k' h rfl
  · intro a M hlen hpre
    obtain ⟨th, i, rfl, hpre⟩ : ∃ th i, a = [.inr (.inr (11, th)), .inl i] ∧ (pz_ic M) := by
      have hpre : (match (generalizing := false) a with | [.inr (.inr (11, th)), .inl i] => pz_ic M | _ => False) := hpre
      split at hpre
      · exact ⟨_, _, rfl, hpre⟩
      · exact hpre.elim
    exact Nat.le_of_ble_eq_true rfl
  · intro a M hlen hcan hM hpre Ok hgo
    obtain ⟨th, i, rfl, hpre⟩ : ∃ th i, a = [.inr (.inr (11, th)), .inl i] ∧ (pz_ic M) := by
      have hpre : (match (generalizing := false) a with | [.inr (.inr (11, th)), .inl i] => pz_ic M | _ => False) := hpre
      split at hpre
      · exact ⟨_, _, rfl, hpre⟩
      · exact hpre.elim
    obtain ⟨k_th, hc_th⟩ := pz_tlm hcan
    have k_th : pz_kd th = 11 ∧ th < 231 := k_th
    have R_th := pz_kd11 k_th.1
    subst R_th
    obtain ⟨k_i, hc_i⟩ := pz_tlm hc_th
    have l_i : -2147483648 ≤ i := k_i.1
    have u_i : i ≤ 2147483647 := k_i.2
    have hI : pz_ic M := hpre
    have hI0 := hI
    have hS : pz_sW M M := pz_sW.rf
    refine hgo (fun _ => false) 24 0 _ [] M ?_
    refine pz_nrc (c := 2) rfl ?_
    refine pz_nrc (c := 71) rfl ?_
    refine And.intro (hI) ?_
    intro v9 M9 a9 b9 q9
    obtain ⟨q9, z9⟩ := q9
    subst z9
    refine And.intro (fun h12 => ?_) (fun h12 => ?_)
    · skip
      refine pz_nrc (c := 3) rfl ?_
      refine pz_nrc (c := 71) rfl ?_
      refine And.intro (And.intro hI (by first | decide | omega)) ?_
      intro M25 q25
      obtain ⟨q25, z25⟩ := q25
      have hS : pz_sW M M25 := hS.tr z25
      have hI : pz_ic M25 := hS.1.1 hI0
      refine pz_nrc (c := 2) rfl ?_
      refine pz_nrc (c := 71) rfl ?_
      refine And.intro (hI) ?_
      intro M37 q37
      obtain ⟨q37, z37⟩ := q37
      have hS : pz_sW M M37 := hS.tr z37.dsW
      have hI : pz_ic M37 := hS.1.1 hI0
      refine And.intro (by first | decide | omega) ?_
      refine And.intro rfl ?_
      refine ⟨fun F hF hW => ⟨fun hn => absurd ((q9.2 F hF hW).mp (by first | decide | omega)) hn, fun hp => ?_⟩, hS⟩
      have hd : pq_pr (pq_Pd 71) (pz_kf M) M37 := by
        rw [← q25]
        exact z37
      rw [q25] at q37
      refine ⟨hd, fun ls l1 hT hP h0 => ?_⟩
      have m := hW.1
      have tr : decide (pz_kf M 71 0 = 0) = true := decide_eq_true ((sd_kf_o hI0 (by first | decide | omega)).trans h0)
      have z := q37 ls l1 F (sd_kf_tx hI0 hT) (sd_kf_se hI0 hF (by first | decide | omega)) (sd_kf_pg hI0 hP) hW ⟨hp.1, by have := hp.2.1; omega⟩
      rw [tr] at z
      exact ⟨rfl, z⟩
    · skip
      refine And.intro (by first | decide | omega) ?_
      refine And.intro rfl ?_
      refine ⟨fun F hF hW => ⟨fun _ => ⟨rfl, rfl⟩, fun hp => ?_⟩, hS⟩
      have a := (q9.2 F hF hW).mpr hp
      exfalso
      omega
theorem v3_X11_paper {fr lo i : Nat} {own : String} (h1 : 3 + 1 ≤ fr) (h2 : 8 + (2 + 11) + 64 ≤ lo) (h3 : .methodLink own i yX11_paper ∈ lw_tbl) : pz_cV fr lo own i k3_X11_paper :=
  pz_cVk (maxL := 2) (fr' := 3) (lo' := 64) 1 11 h3_X11_paper rfl ⟨(pz_nhc_RX11 yX11_paper rfl).1, (pz_nhc_RX11 yX11_paper rfl).2, pz_ds9⟩ ⟨pz_wq550, pz_wq548, pz_wq549, pz_wq1⟩ (Or.inl ⟨TX11, 14, rfl⟩) (fun a M _ h => by
    have h : (match (generalizing := false) a with | [.inr (.inr (11, th)), .inl i] => pz_ic M | _ => False) := h
    split at h
    · exact ⟨_, _, rfl⟩
    · exact h.elim) h1 h2 h3
noncomputable def k3_X11_join : pz_C := (2, 1, fun a M => (match a with | [.inr (.inr (11, th)), .inl i] => pz_ic M | _ => False), fun a M r M' => (match a, r with | [.inr (.inr (11, th)), .inl i], some (.inl v) => (sd_da M M' v 0 (fun F => 0 ≤ i ∧ i < F 88 ∧ F (52 + i.toNat) = 1) (fun ls F => 1) (fun ls F => sd_joi true F i.toNat)) ∧ pz_sW M M' | _, _ => False))
noncomputable abbrev ct3_X11_join : List (Bool × Nat × pz_C) := [(true, 118, k_X0_has), (true, 107, k_X0_at), (true, 145, k_X2_keep), (true, 178, k3_X1_comeIn)]
set_option maxRecDepth 100000 in
set_option maxHeartbeats 4000000 in
theorem h3_X11_join : pz_H yX11_join cX11_join 2 (some .boolean) k3_X11_join 3 64 := by
  refine pz_mk (own := RX11) (tb := t_X11_join) (fl := pz_flf fl_RX11) (ci := pz_cif ci_RX11) (ct := pz_ctf ct3_X11_join) (rz := true) (pz_pfc_RX11 yX11_join rfl) rfl t_X11_join_ok (pz_flk fl_RX11_ok) (pz_cik ci_RX11_ok) ?_ ?_ (Or.inr ⟨rfl, rfl⟩) ?_ ?_
  · exact fun i k' h => pz_ctk (l := ct3_X11_join) (P := fun b i k => b = true → pz_cV 3 64 RX11 i k) (List.forall_mem_cons.mpr ⟨(fun _ => v_X0_has (by decide) (by decide) pz_wq444), List.forall_mem_cons.mpr ⟨(fun _ => v_X0_at (by decide) (by decide) pz_wq428), List.forall_mem_cons.mpr ⟨(fun _ => v_X2_keep (by decide) (by decide) pz_wq462), List.forall_mem_cons.mpr ⟨(fun _ => v3_X1_comeIn (by decide) (by decide) pz_wq563), fun _ h => absurd h List.not_mem_nil⟩⟩⟩⟩) true i k' h rfl
  · exact fun i k' h => pz_ctk (l := ct3_X11_join) (P := fun b i k => b = false → (pz_cS 3 64 RX11 i k ∨ (k = pz_kac ∧ 1 ≤ 3 ∧ 60 ≤ 64 ∧ Cond.methodLink RX11 i arraycopyName ∈ pz_tbl))) (List.forall_mem_cons.mpr ⟨((fun z => by cases z)), List.forall_mem_cons.mpr ⟨((fun z => by cases z)), List.forall_mem_cons.mpr ⟨((fun z => by cases z)), List.forall_mem_cons.mpr ⟨((fun z => by cases z)), fun _ h => absurd h List.not_mem_nil⟩⟩⟩⟩) false i k' h rfl
  · intro a M hlen hpre
    obtain ⟨th, i, rfl, hpre⟩ : ∃ th i, a = [.inr (.inr (11, th)), .inl i] ∧ (pz_ic M) := by
      have hpre : (match (generalizing := false) a with | [.inr (.inr (11, th)), .inl i] => pz_ic M | _ => False) := hpre
      split at hpre
      · exact ⟨_, _, rfl, hpre⟩
      · exact hpre.elim
    exact Nat.le_of_ble_eq_true rfl
  · intro a M hlen hcan hM hpre Ok hgo
    obtain ⟨th, i, rfl, hpre⟩ : ∃ th i, a = [.inr (.inr (11, th)), .inl i] ∧ (pz_ic M) := by
      have hpre : (match (generalizing := false) a with | [.inr (.inr (11, th)), .inl i] => pz_ic M | _ => False) := hpre
      split at hpre
      · exact ⟨_, _, rfl, hpre⟩
      · exact hpre.elim
    obtain ⟨k_th, hc_th⟩ := pz_tlm hcan
    have k_th : pz_kd th = 11 ∧ th < 231 := k_th
    have R_th := pz_kd11 k_th.1
    subst R_th
    obtain ⟨k_i, hc_i⟩ := pz_tlm hc_th
    have l_i : -2147483648 ≤ i := k_i.1
    have u_i : i ≤ 2147483647 := k_i.2
    have hI : pz_ic M := hpre
    have hI0 := hI
    have hS : pz_sW M M := pz_sW.rf
    refine hgo (fun _ => false) 28 0 _ [] M ?_
    refine pz_nrc (c := 71) rfl ?_
    refine And.intro (True.intro) ?_
    intro v5 M5 a5 b5 q5
    obtain ⟨q5, z5⟩ := q5
    subst z5
    refine And.intro (fun h8 => ?_) (fun h8 => ?_)
    · skip
      refine And.intro (by first | decide | omega) ?_
      refine And.intro rfl ?_
      refine ⟨fun F hF hW => ⟨fun _ => ⟨rfl, rfl⟩, fun hp => ?_⟩, hS⟩
      obtain ⟨p0, p1, p2⟩ := hp
      have m := hW.1
      have n9 := hF.1
      exfalso
      first
        | (have b := (sd_at (show 71 ≤ 71 ∧ 71 < 80 by omega) hF hW p0 p1 A16).2.2.2.2.2.1
           omega)
        | (split at q5 <;> omega)
    · skip
      refine pz_nrc (c := 71) rfl ?_
      refine And.intro (True.intro) ?_
      intro r16 M16 k16 q16
      have R16 := pz_kd5 k16
      obtain ⟨q16, z16⟩ := q16
      subst z16
      have A16 := pz_at_lk (show 71 ≤ 71 ∧ 71 < 80 by omega) q16
      have B16 : 89 + 13 * (71 - 71) ≤ r16 ∧ r16 ≤ 89 + 13 * (71 - 71) + 12 := by
        rw [A16]
        exact pz_lnk_c
      intro v19 e19 a19 b19
      refine And.intro (fun h22 => ?_) (fun h22 => ?_)
      · skip
        refine pz_nrc (c := 3) rfl ?_
        refine pz_nrc (c := 71) rfl ?_
        refine And.intro (And.intro hI (by first | decide | omega)) ?_
        intro M35 q35
        obtain ⟨q35, z35⟩ := q35
        have hS : pz_sW M M35 := hS.tr z35
        have hI : pz_ic M35 := hS.1.1 hI0
        refine pz_nrc (c := 2) rfl ?_
        refine pz_nrc (c := 71) rfl ?_
        refine And.intro (hI) ?_
        intro M47 q47
        obtain ⟨q47, z47⟩ := q47
        have hS : pz_sW M M47 := hS.tr z47.dsW
        have hI : pz_ic M47 := hS.1.1 hI0
        refine And.intro (by first | decide | omega) ?_
        refine And.intro rfl ?_
        have p0 : 0 ≤ i ∧ i < M 71 3 := by
          split at q5
          · assumption
          · omega
        refine ⟨fun F hF hW => ⟨fun hn => absurd ?_ hn, fun hp => ?_⟩, hS⟩
        · have m := hW.1
          have n9 := hF.1
          have b := (sd_at (show 71 ≤ 71 ∧ 71 < 80 by omega) hF hW p0.1 (by first | decide | omega) A16).2.2.2.2.2.1
          have w := (hW.2.2 i.toNat (by first | decide | omega)).2.2.2.2.2.1
          exact ⟨p0.1, by omega, by omega⟩
        · have hd : pq_pr (pq_Pd 71) (pz_kf M) M47 := by
            rw [← q35]
            exact z47
          rw [q35] at q47
          refine ⟨hd, fun ls l1 hT hP h0 => ?_⟩
          have m := hW.1
          have tr : decide (pz_kf M 71 0 = 0) = true := decide_eq_true ((sd_kf_o hI0 (by first | decide | omega)).trans h0)
          have z := q47 ls l1 F (sd_kf_tx hI0 hT) (sd_kf_se hI0 hF (by first | decide | omega)) (sd_kf_pg hI0 hP) hW ⟨hp.1, hp.2.1⟩
          rw [tr] at z
          exact ⟨rfl, z⟩
      · skip
        refine And.intro (by first | decide | omega) ?_
        refine And.intro rfl ?_
        refine ⟨fun F hF hW => ⟨fun _ => ⟨rfl, rfl⟩, fun hp => ?_⟩, hS⟩
        obtain ⟨p0, p1, p2⟩ := hp
        have m := hW.1
        have n9 := hF.1
        exfalso
        first
          | (have b := (sd_at (show 71 ≤ 71 ∧ 71 < 80 by omega) hF hW p0 p1 A16).2.2.2.2.2.1
             omega)
          | (split at q5 <;> omega)
theorem v3_X11_join {fr lo i : Nat} {own : String} (h1 : 3 + 1 ≤ fr) (h2 : 8 + (2 + 11) + 64 ≤ lo) (h3 : .methodLink own i yX11_join ∈ lw_tbl) : pz_cV fr lo own i k3_X11_join :=
  pz_cVk (maxL := 2) (fr' := 3) (lo' := 64) 1 11 h3_X11_join rfl ⟨(pz_nhc_RX11 yX11_join rfl).1, (pz_nhc_RX11 yX11_join rfl).2, pz_ds9⟩ ⟨pz_wq562, pz_wq560, pz_wq561, pz_wq1⟩ (Or.inl ⟨TX11, 14, rfl⟩) (fun a M _ h => by
    have h : (match (generalizing := false) a with | [.inr (.inr (11, th)), .inl i] => pz_ic M | _ => False) := h
    split at h
    · exact ⟨_, _, rfl⟩
    · exact h.elim) h1 h2 h3
noncomputable def k3_X11_days : pz_C := (2, 1, fun a M => (match a with | [.inr (.inr (11, th)), .inl n] => pz_ic M | _ => False), fun a M r M' => (match a, r with | [.inr (.inr (11, th)), .inl n], some (.inl v) => (sd_dc M M' n v) ∧ pz_sW M M' | _, _ => False))
noncomputable abbrev ct3_X11_days : List (Bool × Nat × pz_C) := [(false, 137, k_X11_within), (true, 145, k_X2_keep), (true, 184, k3_X1_oneDay)]
set_option maxRecDepth 100000 in
set_option maxHeartbeats 4000000 in
theorem h3_X11_days : pz_H yX11_days cX11_days 4 (some .int) k3_X11_days 7 169 := by
  refine pz_mk (own := RX11) (tb := t_X11_days) (fl := pz_flf fl_RX11) (ci := pz_cif ci_RX11) (ct := pz_ctf ct3_X11_days) (rz := false) (pz_pfc_RX11 yX11_days rfl) rfl t_X11_days_ok (pz_flk fl_RX11_ok) (pz_cik ci_RX11_ok) ?_ ?_ (Or.inl ⟨rfl, rfl⟩) ?_ ?_
  · exact fun i k' h => pz_ctk (l := ct3_X11_days) (P := fun b i k => b = true → pz_cV 7 169 RX11 i k) (List.forall_mem_cons.mpr ⟨((fun z => by cases z)), List.forall_mem_cons.mpr ⟨(fun _ => v_X2_keep (by decide) (by decide) pz_wq462), List.forall_mem_cons.mpr ⟨(fun _ => v3_X1_oneDay (by decide) (by decide) pz_wq571), fun _ h => absurd h List.not_mem_nil⟩⟩⟩) true i k' h rfl
  · exact fun i k' h => pz_ctk (l := ct3_X11_days) (P := fun b i k => b = false → (pz_cS 7 169 RX11 i k ∨ (k = pz_kac ∧ 1 ≤ 7 ∧ 60 ≤ 169 ∧ Cond.methodLink RX11 i arraycopyName ∈ pz_tbl))) (List.forall_mem_cons.mpr ⟨(fun _ => Or.inl (s_X11_within (by decide) (by decide) (Or.inl pz_wq425))), List.forall_mem_cons.mpr ⟨((fun z => by cases z)), List.forall_mem_cons.mpr ⟨((fun z => by cases z)), fun _ h => absurd h List.not_mem_nil⟩⟩⟩) false i k' h rfl
  · intro a M hlen hpre
    obtain ⟨th, n, rfl, hpre⟩ : ∃ th n, a = [.inr (.inr (11, th)), .inl n] ∧ (pz_ic M) := by
      have hpre : (match (generalizing := false) a with | [.inr (.inr (11, th)), .inl n] => pz_ic M | _ => False) := hpre
      split at hpre
      · exact ⟨_, _, rfl, hpre⟩
      · exact hpre.elim
    exact Nat.le_of_ble_eq_true rfl
  · intro a M hlen hcan hM hpre Ok hgo
    obtain ⟨th, n, rfl, hpre⟩ : ∃ th n, a = [.inr (.inr (11, th)), .inl n] ∧ (pz_ic M) := by
      have hpre : (match (generalizing := false) a with | [.inr (.inr (11, th)), .inl n] => pz_ic M | _ => False) := hpre
      split at hpre
      · exact ⟨_, _, rfl, hpre⟩
      · exact hpre.elim
    obtain ⟨k_th, hc_th⟩ := pz_tlm hcan
    have k_th : pz_kd th = 11 ∧ th < 231 := k_th
    have R_th := pz_kd11 k_th.1
    subst R_th
    obtain ⟨k_n, hc_n⟩ := pz_tlm hc_th
    have l_n : -2147483648 ≤ n := k_n.1
    have u_n : n ≤ 2147483647 := k_n.2
    have hI : pz_ic M := hpre
    have hI0 := hI
    have hS : pz_sW M M := pz_sW.rf
    have L31 : ∀ (fu : Nat) (x2 : Int) (x3 : Int) (N31 : pz_M), (60 - x3).toNat < fu → (pz_sW M N31) → (0 ≤ x3) → (n ≤ 60) → (0 ≤ n) → (x3 ≤ n) → (1 ≤ n) → (sd_dcI M N31 n x3 x2) → (pq_pr pq_Pz M N31) → (n ≤ 60 ∧ pz_w (M 71 4 + n) ≤ 9999) → Ok 31 [some (.inr (.inr (11, 0))), some (.inl n), some (.inl x2), some (.inl x3)] [] N31 := by
      intro fu
      induction fu with
      | zero => exact fun _ _ _ hn => absurd hn (Nat.not_lt_zero _)
      | succ fu ih31 =>
        intro x2 x3 N31 hn31 hS g31_1 g31_2 g31_3 g31_4 g31_5 g31_6 g31_7 g31_8
        have hI : pz_ic N31 := hS.1.1 hI0
        have hS31 := hS
        have ID31 : sd_dcI M N31 n x3 x2 := by assumption
        have IP31 : pq_pr pq_Pz M N31 := by assumption
        refine hgo (fun p => Nat.beq p 31) 40 31 _ _ _ ?_
        refine And.intro (fun h33 => ?_) (fun h33 => ?_)
        · skip
          refine And.intro rfl ?_
          refine ⟨fun F hF hW => ⟨fun hn => absurd ?_ hn, fun hp => ?_⟩, hS⟩
          · have n9 := hF.2.1
            unfold sd_dn
            rw [← n9]
            omega
          · exact ⟨IP31, fun ls l1 L hT hP h0 hK => sd_dcI_z ID31 (by first | decide | omega) F hF hW ls l1 L hT hP h0 hK⟩
        · skip
          refine pz_nrc (c := 3) rfl ?_
          refine pz_nrc (c := 71) rfl ?_
          refine And.intro (And.intro hI (by first | decide | omega)) ?_
          intro M44 q44
          obtain ⟨q44, z44⟩ := q44
          have hS : pz_sW M M44 := hS.tr z44
          have hI : pz_ic M44 := hS.1.1 hI0
          have P44 : pq_pr pq_Pz M M44 := by
            rw [q44]
            exact IP31.tr (sd_kf_pz (hS31.1.1 hI0) (by rw [← q44]; exact z44.1.1))
          refine pz_nrc (c := 2) rfl ?_
          refine pz_nrc (c := 71) rfl ?_
          refine And.intro (hI) ?_
          intro v56 M56 a56 b56 q56
          obtain ⟨q56, z56⟩ := q56
          have hS : pz_sW M M56 := hS.tr z56.dsW
          have hI : pz_ic M56 := hS.1.1 hI0
          have P56 : pq_pr pq_Pz M M56 := P44.tr z56.d71
          intro v59 e59 a59 b59
          intro v61 e61 a61 b61
          rw [pz_wi (by first | decide | omega) (by first | decide | omega)] at e61
          have G61 : sd_dcI M M56 n v61 v59 := sd_dcI_s ID31 (hS31.1.1 hI0) (by first | decide | omega) e61 q44 q56 z56 e59
          exact ih31 _ _ _ (by first | decide | omega) hS (by first | omega | assumption | exact sd_dcI_0 | exact pq_pr.rfl') (by first | omega | assumption | exact sd_dcI_0 | exact pq_pr.rfl') (by first | omega | assumption | exact sd_dcI_0 | exact pq_pr.rfl') (by first | omega | assumption | exact sd_dcI_0 | exact pq_pr.rfl') (by first | omega | assumption | exact sd_dcI_0 | exact pq_pr.rfl') (by first | omega | assumption | exact sd_dcI_0 | exact pq_pr.rfl') (by first | omega | assumption | exact sd_dcI_0 | exact pq_pr.rfl') (by first | omega | assumption | exact sd_dcI_0 | exact pq_pr.rfl')
    refine hgo (fun p => Nat.beq p 31) 40 0 _ [] M ?_
    refine And.intro (True.intro) ?_
    intro v4 M4 a4 b4 q4
    obtain ⟨q4, z4⟩ := q4
    subst z4
    refine And.intro (fun h7 => ?_) (fun h7 => ?_)
    · skip
      refine And.intro rfl ?_
      refine ⟨fun F hF hW => ⟨fun _ => ⟨rfl, rfl⟩, fun hp => ?_⟩, hS⟩
      have n9 := hF.2.1
      unfold sd_dn at hp
      exfalso
      first
        | (split at q4 <;> omega)
        | (rw [e18, e14, n9] at h22
           omega)
    · skip
      refine pz_nrc (c := 71) rfl ?_
      intro v14 e14 a14 b14
      intro v18 e18 a18 b18
      refine And.intro (fun h22 => ?_) (fun h22 => ?_)
      · skip
        rw [e18, e14] at h22
        have GP : 1 ≤ n ∧ n ≤ 60 := by
          split at q4 <;> omega
        exact L31 _ _ _ _ (Nat.lt_succ_self _) hS (by first | omega | assumption | exact sd_dcI_0 | exact pq_pr.rfl') (by first | omega | assumption | exact sd_dcI_0 | exact pq_pr.rfl') (by first | omega | assumption | exact sd_dcI_0 | exact pq_pr.rfl') (by first | omega | assumption | exact sd_dcI_0 | exact pq_pr.rfl') (by first | omega | assumption | exact sd_dcI_0 | exact pq_pr.rfl') (by first | omega | assumption | exact sd_dcI_0 | exact pq_pr.rfl') (by first | omega | assumption | exact sd_dcI_0 | exact pq_pr.rfl') (by first | omega | assumption | exact sd_dcI_0 | exact pq_pr.rfl')
      · skip
        skip
        refine And.intro rfl ?_
        refine ⟨fun F hF hW => ⟨fun _ => ⟨rfl, rfl⟩, fun hp => ?_⟩, hS⟩
        have n9 := hF.2.1
        unfold sd_dn at hp
        exfalso
        first
          | (split at q4 <;> omega)
          | (rw [e18, e14, n9] at h22
             omega)
theorem v3_X11_days {fr lo i : Nat} {own : String} (h1 : 7 + 1 ≤ fr) (h2 : 8 + (4 + 11) + 169 ≤ lo) (h3 : .methodLink own i yX11_days ∈ lw_tbl) : pz_cV fr lo own i k3_X11_days :=
  pz_cVk (maxL := 4) (fr' := 7) (lo' := 169) 1 11 h3_X11_days rfl ⟨(pz_nhc_RX11 yX11_days rfl).1, (pz_nhc_RX11 yX11_days rfl).2, pz_ds5⟩ ⟨pz_wq570, pz_wq568, pz_wq569, pz_wq1⟩ (Or.inl ⟨TX11, 14, rfl⟩) (fun a M _ h => by
    have h : (match (generalizing := false) a with | [.inr (.inr (11, th)), .inl n] => pz_ic M | _ => False) := h
    split at h
    · exact ⟨_, _, rfl⟩
    · exact h.elim) h1 h2 h3
noncomputable def k3_X0_latestMove : pz_C := (1, 1, fun a M => (match a with | [.inr (.inr (0, c))] => pz_ic M | _ => False), fun a M r M' => (match a, r with | [.inr (.inr (0, c))], some (.inl v) => (sd_q M c (fun F => v = sd_lat F (sd_n F) 0 (-1))) ∧ M = M' | _, _ => False))
noncomputable abbrev ct3_X0_latestMove : List (Bool × Nat × pz_C) := [(true, 48, k_X0_at), (false, 58, k_J9_max_7cf53)]
set_option maxRecDepth 100000 in
set_option maxHeartbeats 4000000 in
theorem h3_X0_latestMove : pz_H yX0_latestMove cX0_latestMove 3 (some .int) k3_X0_latestMove 1 21 := by
  refine pz_mk (own := RX0) (tb := t_X0_latestMove) (fl := pz_flf fl_RX0) (ci := pz_cif ci_RX0) (ct := pz_ctf ct3_X0_latestMove) (rz := false) (pz_pfc_RX0 yX0_latestMove rfl) rfl t_X0_latestMove_ok (pz_flk fl_RX0_ok) (pz_cik ci_RX0_ok) ?_ ?_ (Or.inl ⟨rfl, rfl⟩) ?_ ?_
  · exact fun i k' h => pz_ctk (l := ct3_X0_latestMove) (P := fun b i k => b = true → pz_cV 1 21 RX0 i k) (List.forall_mem_cons.mpr ⟨(fun _ => v_X0_at (by decide) (by decide) pz_wq494), List.forall_mem_cons.mpr ⟨((fun z => by cases z)), fun _ h => absurd h List.not_mem_nil⟩⟩) true i k' h rfl
  · exact fun i k' h => pz_ctk (l := ct3_X0_latestMove) (P := fun b i k => b = false → (pz_cS 1 21 RX0 i k ∨ (k = pz_kac ∧ 1 ≤ 1 ∧ 60 ≤ 21 ∧ Cond.methodLink RX0 i arraycopyName ∈ pz_tbl))) (List.forall_mem_cons.mpr ⟨((fun z => by cases z)), List.forall_mem_cons.mpr ⟨(fun _ => Or.inl (s_J9_max_7cf53 (by decide) (by decide) (Or.inl pz_wq634))), fun _ h => absurd h List.not_mem_nil⟩⟩) false i k' h rfl
  · intro a M hlen hpre
    obtain ⟨c, rfl, hpre⟩ : ∃ c, a = [.inr (.inr (0, c))] ∧ (pz_ic M) := by
      have hpre : (match (generalizing := false) a with | [.inr (.inr (0, c))] => pz_ic M | _ => False) := hpre
      split at hpre
      · exact ⟨_, rfl, hpre⟩
      · exact hpre.elim
    exact Nat.le_of_ble_eq_true rfl
  · intro a M hlen hcan hM hpre Ok hgo
    obtain ⟨c, rfl, hpre⟩ : ∃ c, a = [.inr (.inr (0, c))] ∧ (pz_ic M) := by
      have hpre : (match (generalizing := false) a with | [.inr (.inr (0, c))] => pz_ic M | _ => False) := hpre
      split at hpre
      · exact ⟨_, rfl, hpre⟩
      · exact hpre.elim
    obtain ⟨k_c, hc_c⟩ := pz_tlm hcan
    have k_c : pz_kd c = 0 ∧ c < 231 := k_c
    have R_c := pz_kd0 k_c.1
    have hI : pz_ic M := hpre
    have L4 : ∀ (fu : Nat) (x1 : Int) (x2 : Int), (M c 3 - x2).toNat < fu → (0 ≤ x2) → (sd_q M c (fun F => x2 ≤ F 88 ∧ sd_lat F (sd_n F - (x2).toNat) (x2).toNat x1 = sd_lat F (sd_n F) 0 (-1))) → Ok 4 [some (.inr (.inr (0, c))), some (.inl x1), some (.inl x2)] [] M := by
      intro fu
      induction fu with
      | zero => exact fun _ _ hn => absurd hn (Nat.not_lt_zero _)
      | succ fu ih4 =>
        intro x1 x2 hn4 g4_0 g4_1
        refine hgo (fun p => Nat.beq p 4) 29 4 _ _ _ ?_
        intro v6 e6 a6 b6
        have I6 := hI.1 c (by first | decide | omega) (by first | decide | omega)
        refine And.intro (fun h9 => ?_) (fun h9 => ?_)
        · skip
          refine And.intro rfl ?_
          refine ⟨fun F hF hW => ?_, rfl⟩
          obtain ⟨g1, g2⟩ := g4_1 F hF hW
          have hn := hF.1
          have hm := hW.1
          have hk := sd_n_i hW
          rw [← g2, show sd_n F - x2.toNat = 0 by omega]
          rfl
        · skip
          refine And.intro (True.intro) ?_
          intro r14 M14 k14 q14
          have R14 := pz_kd5 k14
          obtain ⟨q14, z14⟩ := q14
          subst z14
          have A14 := pz_at_lk R_c q14
          have B14 : 89 + 13 * (c - 71) ≤ r14 ∧ r14 ≤ 89 + 13 * (c - 71) + 12 := by
            rw [A14]
            exact pz_lnk_c
          intro v17 e17 a17 b17
          refine And.intro (fun h21 => ?_) (fun h21 => ?_)
          · skip
            refine And.intro (True.intro) ?_
            intro r29 M29 k29 q29
            have R29 := pz_kd5 k29
            obtain ⟨q29, z29⟩ := q29
            subst z29
            have A29 := pz_at_lk R_c q29
            have B29 : 89 + 13 * (c - 71) ≤ r29 ∧ r29 ≤ 89 + 13 * (c - 71) + 12 := by
              rw [A29]
              exact pz_lnk_c
            intro v32 e32 a32 b32
            refine And.intro (True.intro) ?_
            intro v35 M35 a35 b35 q35
            obtain ⟨q35, z35⟩ := q35
            subst z35
            intro v39 e39 a39 b39
            rw [pz_wi (by first | decide | omega) (by first | decide | omega)] at e39
            have G39 : sd_q M c (fun F => v39 ≤ F 88 ∧ sd_lat F (sd_n F - (v39).toNat) (v39).toNat v35 = sd_lat F (sd_n F) 0 (-1)) := fun F hF hW => by
              obtain ⟨g1, g2⟩ := g4_1 F hF hW
              have hn := hF.1
              have hm := hW.1
              have hk := sd_n_i hW
              have b := (sd_at R_c hF hW g4_0 (by first | decide | omega) A29).2.2.2.2.2.2.2
              have d := (sd_at R_c hF hW g4_0 (by first | decide | omega) A14).2.2.2.2.2.2.2
              refine ⟨by omega, ?_⟩
              rw [← g2, show sd_n F - x2.toNat = (sd_n F - (x2.toNat + 1)) + 1 by omega, show v39.toNat = x2.toNat + 1 by omega, q35, e32, b]
              exact (if_neg (by first | decide | omega)).symm
            exact ih4 _ _ (by first | decide | omega) (by first | omega | assumption | exact fun F hF hW => ⟨hW.1.1, rfl⟩) (by first | omega | assumption | exact fun F hF hW => ⟨hW.1.1, rfl⟩)
          · skip
            refine And.intro rfl ?_
            refine ⟨fun F hF hW => ?_, rfl⟩
            obtain ⟨g1, g2⟩ := g4_1 F hF hW
            have hn := hF.1
            have hm := hW.1
            have hk := sd_n_i hW
            have d := (sd_at R_c hF hW g4_0 (by first | decide | omega) A14).2.2.2.2.2.2.2
            rw [← g2, show sd_n F - x2.toNat = (sd_n F - (x2.toNat + 1)) + 1 by omega]
            exact (if_pos (by first | decide | omega)).symm
    refine hgo (fun p => Nat.beq p 4) 29 0 _ [] M ?_
    exact L4 _ _ _ (Nat.lt_succ_self _) (by first | omega | assumption | exact fun F hF hW => ⟨hW.1.1, rfl⟩) (by first | omega | assumption | exact fun F hF hW => ⟨hW.1.1, rfl⟩)
theorem v3_X0_latestMove {fr lo i : Nat} {own : String} (h1 : 1 + 1 ≤ fr) (h2 : 8 + (3 + 11) + 21 ≤ lo) (h3 : .methodLink own i yX0_latestMove ∈ lw_tbl) : pz_cV fr lo own i k3_X0_latestMove :=
  pz_cVk (maxL := 3) (fr' := 1) (lo' := 21) 0 0 h3_X0_latestMove rfl ⟨(pz_nhc_RX0 yX0_latestMove rfl).1, (pz_nhc_RX0 yX0_latestMove rfl).2, pz_ds1⟩ ⟨pz_wq879, pz_wq877, pz_wq878, pz_wq2⟩ (Or.inl ⟨TX0, 8, rfl⟩) (fun a M _ h => by
    have h : (match (generalizing := false) a with | [.inr (.inr (0, c))] => pz_ic M | _ => False) := h
    split at h
    · exact ⟨_, _, rfl⟩
    · exact h.elim) h1 h2 h3
noncomputable def k3_X11_goes : pz_C := (3, 1, fun a M => (match a with | [.inr (.inr (11, th)), .inl n, .inl w] => pz_ic M | _ => False), fun a M r M' => (match a, r with | [.inr (.inr (11, th)), .inl n, .inl w], some (.inl v) => (sd_gc M M' n w v) ∧ pq_pr pq_Pg M M' | _, _ => False))
noncomputable abbrev ct3_X11_goes : List (Bool × Nat × pz_C) := [(false, 137, k_X11_within), (true, 237, k_X0_take), (true, 184, k3_X1_oneDay), (true, 240, k3_X0_movedOnes), (false, 244, k_J6_bitCount_0f7a4), (true, 249, k3_X0_latestMove)]
set_option maxRecDepth 100000 in
set_option maxHeartbeats 4000000 in
theorem h3_X11_goes : pz_H yX11_goes cX11_goes 4 (some .int) k3_X11_goes 7 169 := by
  refine pz_mk (own := RX11) (tb := t_X11_goes) (fl := pz_flf fl_RX11) (ci := pz_cif ci_RX11) (ct := pz_ctf ct3_X11_goes) (rz := false) (pz_pfc_RX11 yX11_goes rfl) rfl t_X11_goes_ok (pz_flk fl_RX11_ok) (pz_cik ci_RX11_ok) ?_ ?_ (Or.inl ⟨rfl, rfl⟩) ?_ ?_
  · exact fun i k' h => pz_ctk (l := ct3_X11_goes) (P := fun b i k => b = true → pz_cV 7 169 RX11 i k) (List.forall_mem_cons.mpr ⟨((fun z => by cases z)), List.forall_mem_cons.mpr ⟨(fun _ => v_X0_take (by decide) (by decide) pz_wq870), List.forall_mem_cons.mpr ⟨(fun _ => v3_X1_oneDay (by decide) (by decide) pz_wq571), List.forall_mem_cons.mpr ⟨(fun _ => v3_X0_movedOnes (by decide) (by decide) pz_wq871), List.forall_mem_cons.mpr ⟨((fun z => by cases z)), List.forall_mem_cons.mpr ⟨(fun _ => v3_X0_latestMove (by decide) (by decide) pz_wq876), fun _ h => absurd h List.not_mem_nil⟩⟩⟩⟩⟩⟩) true i k' h rfl
  · exact fun i k' h => pz_ctk (l := ct3_X11_goes) (P := fun b i k => b = false → (pz_cS 7 169 RX11 i k ∨ (k = pz_kac ∧ 1 ≤ 7 ∧ 60 ≤ 169 ∧ Cond.methodLink RX11 i arraycopyName ∈ pz_tbl))) (List.forall_mem_cons.mpr ⟨(fun _ => Or.inl (s_X11_within (by decide) (by decide) (Or.inl pz_wq425))), List.forall_mem_cons.mpr ⟨((fun z => by cases z)), List.forall_mem_cons.mpr ⟨((fun z => by cases z)), List.forall_mem_cons.mpr ⟨((fun z => by cases z)), List.forall_mem_cons.mpr ⟨(fun _ => Or.inl (s_J6_bitCount_0f7a4 (by decide) (by decide) (Or.inl pz_wq875))), List.forall_mem_cons.mpr ⟨((fun z => by cases z)), fun _ h => absurd h List.not_mem_nil⟩⟩⟩⟩⟩⟩) false i k' h rfl
  · intro a M hlen hpre
    obtain ⟨th, n, w, rfl, hpre⟩ : ∃ th n w, a = [.inr (.inr (11, th)), .inl n, .inl w] ∧ (pz_ic M) := by
      have hpre : (match (generalizing := false) a with | [.inr (.inr (11, th)), .inl n, .inl w] => pz_ic M | _ => False) := hpre
      split at hpre
      · exact ⟨_, _, _, rfl, hpre⟩
      · exact hpre.elim
    exact Nat.le_of_ble_eq_true rfl
  · intro a M hlen hcan hM hpre Ok hgo
    obtain ⟨th, n, w, rfl, hpre⟩ : ∃ th n w, a = [.inr (.inr (11, th)), .inl n, .inl w] ∧ (pz_ic M) := by
      have hpre : (match (generalizing := false) a with | [.inr (.inr (11, th)), .inl n, .inl w] => pz_ic M | _ => False) := hpre
      split at hpre
      · exact ⟨_, _, _, rfl, hpre⟩
      · exact hpre.elim
    obtain ⟨k_th, hc_th⟩ := pz_tlm hcan
    have k_th : pz_kd th = 11 ∧ th < 231 := k_th
    have R_th := pz_kd11 k_th.1
    subst R_th
    obtain ⟨k_n, hc_n⟩ := pz_tlm hc_th
    have l_n : -2147483648 ≤ n := k_n.1
    have u_n : n ≤ 2147483647 := k_n.2
    obtain ⟨k_w, hc_w⟩ := pz_tlm hc_n
    have l_w : -2147483648 ≤ w := k_w.1
    have u_w : w ≤ 2147483647 := k_w.2
    have hI : pz_ic M := hpre
    have hI0 := hI
    have hS : pq_pr pq_Pg M M := pq_pr.rf
    have L35 : ∀ (fu : Nat) (x3 : Int) (N35 : pz_M), (99 - x3).toNat < fu → (pq_pr pq_Pg M N35) → (0 ≤ x3) → (n ≤ 99) → (x3 ≤ n) → (sd_gq n w) → (sd_gcI M N35 n x3) → Ok 35 [some (.inr (.inr (11, 0))), some (.inl n), some (.inl w), some (.inl x3)] [] N35 := by
      intro fu
      induction fu with
      | zero => exact fun _ _ hn => absurd hn (Nat.not_lt_zero _)
      | succ fu ih35 =>
        intro x3 N35 hn35 hS g35_1 g35_2 g35_3 g35_4 g35_5
        have hI : pz_ic N35 := hS.1 hI0
        refine hgo (fun p => Nat.beq p 35) 47 35 _ _ _ ?_
        refine And.intro (fun h37 => ?_) (fun h37 => ?_)
        · skip
          refine And.intro ?_ ?_
          · skip
            refine And.intro (fun h59 => ?_) ?_
            · skip
              refine pz_nrc (c := 72) rfl ?_
              refine And.intro (hI) ?_
              intro v88 M88 a88 b88 q88
              obtain ⟨q88, z88⟩ := q88
              subst z88
              refine And.intro (True.intro) ?_
              intro v91 M91 a91 b91 q91
              obtain ⟨q91, z91⟩ := q91
              subst z91
              refine And.intro rfl ?_
              refine ⟨⟨fun hn => absurd (by assumption) hn, fun ls l1 F hT hF hP hW h0 => ?_⟩, hS⟩
              obtain ⟨s, g, p⟩ := sd_gcI_z (x := x3) (n := n) (by assumption) (by first | decide | omega) hT hF hP hW h0
              refine ⟨fun _ => ?_, p⟩
              unfold sd_gw
              rw [if_pos (by first | decide | omega)]
              exact q91 _ (q88 _ s g)
            refine And.intro (fun h59 => ?_) ?_
            · skip
              refine pz_nrc (c := 72) rfl ?_
              refine And.intro (hI) ?_
              intro v99 M99 a99 b99 q99
              obtain ⟨q99, z99⟩ := q99
              subst z99
              refine And.intro rfl ?_
              refine ⟨⟨fun hn => absurd (by assumption) hn, fun ls l1 F hT hF hP hW h0 => ?_⟩, hS⟩
              obtain ⟨s, g, p⟩ := sd_gcI_z (x := x3) (n := n) (by assumption) (by first | decide | omega) hT hF hP hW h0
              refine ⟨fun _ => ?_, p⟩
              unfold sd_gw
              rw [if_neg (by first | decide | omega), if_pos (by first | decide | omega)]
              exact q99 _ s g
            exact True.intro
          · intro h59_0 h59_1
            refine pz_nrc (c := 72) rfl ?_
            intro v107 e107 a107 b107
            refine And.intro rfl ?_
            refine ⟨⟨fun hn => absurd (by assumption) hn, fun ls l1 F hT hF hP hW h0 => ?_⟩, hS⟩
            obtain ⟨s, g, p⟩ := sd_gcI_z (x := x3) (n := n) (by assumption) (by first | decide | omega) hT hF hP hW h0
            refine ⟨fun _ => ?_, p⟩
            unfold sd_gw
            rw [if_neg (by first | decide | omega), if_neg (by first | decide | omega)]
            exact e107.trans s.2.2.1
        · skip
          refine pz_nrc (c := 2) rfl ?_
          refine pz_nrc (c := 72) rfl ?_
          refine And.intro (hI) ?_
          intro v48 M48 a48 b48 q48
          obtain ⟨q48, z48⟩ := q48
          have hS : pq_pr pq_Pg M M48 := hS.tr z48.d72
          have hI : pz_ic M48 := hS.1 hI0
          intro v52 e52 a52 b52
          rw [pz_wi (by first | decide | omega) (by first | decide | omega)] at e52
          have G52 : sd_gcI M M48 n v52 := sd_gcI_s (by assumption) (by first | decide | omega) e52 q48 z48
          exact ih35 _ _ (by first | decide | omega) hS (by first | omega | assumption) (by first | omega | assumption) (by first | omega | assumption) (by first | omega | assumption) (by first | omega | assumption)
    refine hgo (fun p => Nat.beq p 35) 47 0 _ [] M ?_
    refine And.intro (True.intro) ?_
    intro v4 M4 a4 b4 q4
    obtain ⟨q4, z4⟩ := q4
    subst z4
    refine And.intro (fun h7 => ?_) (fun h7 => ?_)
    · skip
      refine And.intro rfl ?_
      refine ⟨⟨fun _ => rfl, fun ls l1 F hT hF hP hW h0 => ⟨fun hq => ?_, fun k hk => rfl⟩⟩, hS⟩
      unfold sd_gq at hq
      exfalso
      first
        | omega
        | (split at q4 <;> omega)
        | (split at q4 <;> split at q13 <;> omega)
    · skip
      refine And.intro (True.intro) ?_
      intro v13 M13 a13 b13 q13
      obtain ⟨q13, z13⟩ := q13
      subst z13
      refine And.intro (fun h16 => ?_) (fun h16 => ?_)
      · skip
        refine pz_nrc (c := 72) rfl ?_
        refine pz_nrc (c := 71) rfl ?_
        refine And.intro (hI) ?_
        intro M30 q30
        obtain ⟨q30, z30⟩ := q30
        have hS : pq_pr pq_Pg M M30 := hS.tr (pz_tf_72 q30 z30)
        have hI : pz_ic M30 := hS.1 hI0
        have G30 : sd_gcI M M30 n 0 := sd_gcI_0 q30
        have GQ : sd_gq n w := by
          unfold sd_gq
          first
            | omega
            | (split at q4 <;> omega)
            | (split at q4 <;> split at q13 <;> omega)
        exact L35 _ _ _ (Nat.lt_succ_self _) hS (by first | omega | assumption) (by first | omega | assumption) (by first | omega | assumption) (by first | omega | assumption) (by first | omega | assumption)
      · skip
        refine And.intro rfl ?_
        refine ⟨⟨fun _ => rfl, fun ls l1 F hT hF hP hW h0 => ⟨fun hq => ?_, fun k hk => rfl⟩⟩, hS⟩
        unfold sd_gq at hq
        exfalso
        first
          | omega
          | (split at q4 <;> omega)
          | (split at q4 <;> split at q13 <;> omega)
theorem v3_X11_goes {fr lo i : Nat} {own : String} (h1 : 7 + 1 ≤ fr) (h2 : 8 + (4 + 11) + 169 ≤ lo) (h3 : .methodLink own i yX11_goes ∈ lw_tbl) : pz_cV fr lo own i k3_X11_goes :=
  pz_cVk (maxL := 4) (fr' := 7) (lo' := 169) 2 11 h3_X11_goes rfl ⟨(pz_nhc_RX11 yX11_goes rfl).1, (pz_nhc_RX11 yX11_goes rfl).2, pz_ds10⟩ ⟨pz_wq869, pz_wq867, pz_wq868, pz_wq1⟩ (Or.inl ⟨TX11, 14, rfl⟩) (fun a M _ h => by
    have h : (match (generalizing := false) a with | [.inr (.inr (11, th)), .inl n, .inl w] => pz_ic M | _ => False) := h
    split at h
    · exact ⟨_, _, rfl⟩
    · exact h.elim) h1 h2 h3
end
section
noncomputable def k3_X12_state : pz_C := (2, 1, fun a M => (match a with | [.inr (.inr (12, th)), .inl x] => pz_im M | _ => False), fun a M r M' => (match a, r with | [.inr (.inr (12, th)), .inl x], some (.inl v) => (v = M 60 2 ∧ M' = pz_u (pz_u M 60 2 x) 1 4 0) ∧ pz_rl pz_QX M M' | _, _ => False))
noncomputable abbrev ct3_X12_state : List (Bool × Nat × pz_C) := [(true, 71, k_X12_forgets)]
set_option maxRecDepth 100000 in
set_option maxHeartbeats 4000000 in
theorem h3_X12_state : pz_H yX12_state cX12_state 3 (some .int) k3_X12_state 1 20 := by
  refine pz_mk (own := RX12) (tb := t_X12_state) (fl := pz_flf fl_RX12) (ci := pz_cif ci_RX12) (ct := pz_ctf ct3_X12_state) (rz := false) (pz_pfc_RX12 yX12_state rfl) rfl t_X12_state_ok (pz_flk fl_RX12_ok) (pz_cik ci_RX12_ok) ?_ ?_ (Or.inl ⟨rfl, rfl⟩) ?_ ?_
  · exact fun i k' h => pz_ctk (l := ct3_X12_state) (P := fun b i k => b = true → pz_cV 1 20 RX12 i k) (List.forall_mem_cons.mpr ⟨(fun _ => v_X12_forgets (by decide) (by decide) pz_wq1209), fun _ h => absurd h List.not_mem_nil⟩) true i k' h rfl
  · exact fun i k' h => pz_ctk (l := ct3_X12_state) (P := fun b i k => b = false → (pz_cS 1 20 RX12 i k ∨ (k = pz_kac ∧ 1 ≤ 1 ∧ 60 ≤ 20 ∧ Cond.methodLink RX12 i arraycopyName ∈ pz_tbl))) (List.forall_mem_cons.mpr ⟨((fun z => by cases z)), fun _ h => absurd h List.not_mem_nil⟩) false i k' h rfl
  · intro a M hlen hpre
    obtain ⟨th, x, rfl, hpre⟩ : ∃ th x, a = [.inr (.inr (12, th)), .inl x] ∧ (pz_im M) := by
      have hpre : (match (generalizing := false) a with | [.inr (.inr (12, th)), .inl x] => pz_im M | _ => False) := hpre
      split at hpre
      · exact ⟨_, _, rfl, hpre⟩
      · exact hpre.elim
    exact Nat.le_of_ble_eq_true rfl
  · intro a M hlen hcan hM hpre Ok hgo
    obtain ⟨th, x, rfl, hpre⟩ : ∃ th x, a = [.inr (.inr (12, th)), .inl x] ∧ (pz_im M) := by
      have hpre : (match (generalizing := false) a with | [.inr (.inr (12, th)), .inl x] => pz_im M | _ => False) := hpre
      split at hpre
      · exact ⟨_, _, rfl, hpre⟩
      · exact hpre.elim
    obtain ⟨k_th, hc_th⟩ := pz_tlm hcan
    have k_th : pz_kd th = 12 ∧ th < 231 := k_th
    have R_th := pz_kd12 k_th.1
    subst R_th
    clear k_th
    obtain ⟨k_x, hc_x⟩ := pz_tlm hc_th
    have l_x : -2147483648 ≤ x := k_x.1
    have u_x : x ≤ 2147483647 := k_x.2
    have hI : pz_im M := hpre
    have hI0 := hI
    have hS : pz_rl pz_QX M M := pz_rl.rf
    refine hgo (fun _ => false) 16 0 _ [] M ?_
    refine pz_nrc (c := 60) rfl ?_
    refine And.intro (by first | decide | omega) (And.intro (show _ < (1725 : Int) from by omega) ?_)
    intro v5 e5 a5 b5
    replace e5 : v5 = M 60 2 := e5
    refine pz_nrc (c := 60) rfl ?_
    refine And.intro (by first | decide | omega) (And.intro (show _ < (1725 : Int) from by omega) ?_)
    intro M13 e13
    have hS : pz_rl pz_QX M M13 := by
      rw [e13]
      exact pz_rl_u hS (by unfold pz_QX; first | decide | omega) (pz_iom_w0 (by first | decide | omega))
    have hI : pz_im M13 := hS.1 hI0
    refine And.intro (hI) ?_
    intro M15 q15
    obtain ⟨q15, z15⟩ := q15
    have hS : pz_rl pz_QX M M15 := hS.tr (pz_rl_fg (by unfold pz_QX; first | decide | omega) q15 z15)
    have T15a := z15.2
    have T15b := z15.1.2
    have hI : pz_im M15 := hS.1 hI0
    refine And.intro rfl ?_
    exact ⟨⟨e5, by rw [q15, e13]; rfl⟩, hS⟩
theorem v3_X12_state {fr lo i : Nat} {own : String} (h1 : 1 + 1 ≤ fr) (h2 : 8 + (3 + 11) + 20 ≤ lo) (h3 : .methodLink own i yX12_state ∈ lw_tbl) : pz_cV fr lo own i k3_X12_state :=
  pz_cVk (maxL := 3) (fr' := 1) (lo' := 20) 1 12 h3_X12_state rfl ⟨(pz_nhc_RX12 yX12_state rfl).1, (pz_nhc_RX12 yX12_state rfl).2, pz_ds5⟩ ⟨pz_wq1208, pz_wq1206, pz_wq1207, pz_wq13⟩ (Or.inl ⟨TX12, 28, rfl⟩) (fun a M _ h => by
    have h : (match (generalizing := false) a with | [.inr (.inr (12, th)), .inl x] => pz_im M | _ => False) := h
    split at h
    · exact ⟨_, _, rfl⟩
    · exact h.elim) h1 h2 h3
noncomputable def k3_X12_end : pz_C := (2, 1, fun a M => (match a with | [.inr (.inr (12, th)), .inl n] => pz_im M | _ => False), fun a M r M' => (match a, r with | [.inr (.inr (12, th)), .inl n], some (.inl v) => ((if 0 ≤ n ∧ n ≤ M 1 16 then v = 1 ∧ M' 1 16 = n else v = 0 ∧ M' 1 16 = M 1 16)) ∧ pz_rl pz_QN M M' | _, _ => False))
noncomputable abbrev ct3_X12_end : List (Bool × Nat × pz_C) := [(false, 54, k_X12_isIn)]
set_option maxRecDepth 100000 in
set_option maxHeartbeats 4000000 in
theorem h3_X12_end : pz_H yX12_end cX12_end 2 (some .boolean) k3_X12_end 1 22 := by
  refine pz_mk (own := RX12) (tb := t_X12_end) (fl := pz_flf fl_RX12) (ci := pz_cif ci_RX12) (ct := pz_ctf ct3_X12_end) (rz := true) (pz_pfc_RX12 yX12_end rfl) rfl t_X12_end_ok (pz_flk fl_RX12_ok) (pz_cik ci_RX12_ok) ?_ ?_ (Or.inr ⟨rfl, rfl⟩) ?_ ?_
  · exact fun i k' h => pz_ctk (l := ct3_X12_end) (P := fun b i k => b = true → pz_cV 1 22 RX12 i k) (List.forall_mem_cons.mpr ⟨((fun z => by cases z)), fun _ h => absurd h List.not_mem_nil⟩) true i k' h rfl
  · exact fun i k' h => pz_ctk (l := ct3_X12_end) (P := fun b i k => b = false → (pz_cS 1 22 RX12 i k ∨ (k = pz_kac ∧ 1 ≤ 1 ∧ 60 ≤ 22 ∧ Cond.methodLink RX12 i arraycopyName ∈ pz_tbl))) (List.forall_mem_cons.mpr ⟨(fun _ => Or.inl (s_X12_isIn (by decide) (by decide) (Or.inl pz_wq1217))), fun _ h => absurd h List.not_mem_nil⟩) false i k' h rfl
  · intro a M hlen hpre
    obtain ⟨th, n, rfl, hpre⟩ : ∃ th n, a = [.inr (.inr (12, th)), .inl n] ∧ (pz_im M) := by
      have hpre : (match (generalizing := false) a with | [.inr (.inr (12, th)), .inl n] => pz_im M | _ => False) := hpre
      split at hpre
      · exact ⟨_, _, rfl, hpre⟩
      · exact hpre.elim
    exact Nat.le_of_ble_eq_true rfl
  · intro a M hlen hcan hM hpre Ok hgo
    obtain ⟨th, n, rfl, hpre⟩ : ∃ th n, a = [.inr (.inr (12, th)), .inl n] ∧ (pz_im M) := by
      have hpre : (match (generalizing := false) a with | [.inr (.inr (12, th)), .inl n] => pz_im M | _ => False) := hpre
      split at hpre
      · exact ⟨_, _, rfl, hpre⟩
      · exact hpre.elim
    obtain ⟨k_th, hc_th⟩ := pz_tlm hcan
    have k_th : pz_kd th = 12 ∧ th < 231 := k_th
    have R_th := pz_kd12 k_th.1
    subst R_th
    clear k_th
    obtain ⟨k_n, hc_n⟩ := pz_tlm hc_th
    have l_n : -2147483648 ≤ n := k_n.1
    have u_n : n ≤ 2147483647 := k_n.2
    have hI : pz_im M := hpre
    have hI0 := hI
    have hS : pz_rl pz_QN M M := pz_rl.rf
    refine hgo (fun _ => false) 15 0 _ [] M ?_
    intro v3 e3 a3 b3
    have I3 : 0 ≤ v3 ∧ v3 ≤ 400 := by
      rw [e3]
      exact hI.2.1.2.1
    clear a3 b3
    have N3 := hI.2.1.2.1
    refine And.intro (True.intro) ?_
    intro v6 M6 a6 b6 q6
    obtain ⟨q6, z6⟩ := q6
    subst z6
    clear a6 b6
    refine And.intro (fun h9 => ?_) (fun h9 => ?_)
    · skip
      replace q6 := q6.resolve_right (fun z => h9 z.1)
      clear h9
      intro M16 e16
      have hS : pz_rl pz_QN M M16 := by
        rw [e16]
        exact pz_rl_u hS (by unfold pz_QN; decide) (pz_iom_16 (by first | decide | omega))
      have hI : pz_im M16 := hS.1 hI0
      have T16_0 : M16 1 16 = n := by rw [e16]; exact pz_uu
      refine And.intro (by first | decide | omega) ?_
      refine And.intro rfl ?_
      refine And.intro ?_ hS
      split <;> omega
    · skip
      replace q6 := q6.resolve_left (fun z => absurd (z.1.symm.trans h9) (by decide))
      clear h9
      refine And.intro (by first | decide | omega) ?_
      refine And.intro rfl ?_
      refine And.intro ?_ hS
      split <;> omega
theorem v3_X12_end {fr lo i : Nat} {own : String} (h1 : 1 + 1 ≤ fr) (h2 : 8 + (2 + 11) + 22 ≤ lo) (h3 : .methodLink own i yX12_end ∈ lw_tbl) : pz_cV fr lo own i k3_X12_end :=
  pz_cVk (maxL := 2) (fr' := 1) (lo' := 22) 1 12 h3_X12_end rfl ⟨(pz_nhc_RX12 yX12_end rfl).1, (pz_nhc_RX12 yX12_end rfl).2, pz_ds9⟩ ⟨pz_wq1238, pz_wq1236, pz_wq1237, pz_wq13⟩ (Or.inl ⟨TX12, 28, rfl⟩) (fun a M _ h => by
    have h : (match (generalizing := false) a with | [.inr (.inr (12, th)), .inl n] => pz_im M | _ => False) := h
    split at h
    · exact ⟨_, _, rfl⟩
    · exact h.elim) h1 h2 h3
noncomputable def k3_X12_ask : pz_C := (3, 1, fun a M => (match a with | [.inr (.inr (12, th)), .inl i, .inl n] => pz_im M | _ => False), fun a M r M' => (match a, r with | [.inr (.inr (12, th)), .inl i, .inl n], some (.inl v) => (sd_ma M M' v (-1) (fun F => 0 ≤ i ∧ (1 ≤ n ∧ n ≤ 99) ∧ sd_ca F i.toNat) (fun ls F => sd_gi ls F (i.toNat + 1) n) (fun ls F => sd_ask true ls F i.toNat n)) ∧ pz_rl pz_QX M M' | _, _ => False))
noncomputable abbrev ct3_X12_ask : List (Bool × Nat × pz_C) := [(true, 327, k3_X12_canAsk), (false, 54, k_X12_isIn), (true, 330, k3_X12_keeps), (true, 333, k3_X12_asks)]
theorem pz_wk_QE_QX : ∀ b j, pz_QE b j → pz_QX b j := by
  intro b j q
  unfold pz_QE at q
  unfold pz_QX
  omega
theorem pz_wk_QD_QX : ∀ b j, pz_QD b j → pz_QX b j := by
  intro b j q
  unfold pz_QD at q
  unfold pz_QX
  omega
set_option maxRecDepth 100000 in
set_option maxHeartbeats 4000000 in
theorem h3_X12_ask : pz_H yX12_ask cX12_ask 3 (some .int) k3_X12_ask 6 140 := by
  refine pz_mk (own := RX12) (tb := t_X12_ask) (fl := pz_flf fl_RX12) (ci := pz_cif ci_RX12) (ct := pz_ctf ct3_X12_ask) (rz := false) (pz_pfc_RX12 yX12_ask rfl) rfl t_X12_ask_ok (pz_flk fl_RX12_ok) (pz_cik ci_RX12_ok) ?_ ?_ (Or.inl ⟨rfl, rfl⟩) ?_ ?_
  · exact fun i k' h => pz_ctk (l := ct3_X12_ask) (P := fun b i k => b = true → pz_cV 6 140 RX12 i k) (List.forall_mem_cons.mpr ⟨(fun _ => v3_X12_canAsk (by decide) (by decide) pz_wq1411), List.forall_mem_cons.mpr ⟨((fun z => by cases z)), List.forall_mem_cons.mpr ⟨(fun _ => v3_X12_keeps (by decide) (by decide) pz_wq1427), List.forall_mem_cons.mpr ⟨(fun _ => v3_X12_asks (by decide) (by decide) pz_wq1431), fun _ h => absurd h List.not_mem_nil⟩⟩⟩⟩) true i k' h rfl
  · exact fun i k' h => pz_ctk (l := ct3_X12_ask) (P := fun b i k => b = false → (pz_cS 6 140 RX12 i k ∨ (k = pz_kac ∧ 1 ≤ 6 ∧ 60 ≤ 140 ∧ Cond.methodLink RX12 i arraycopyName ∈ pz_tbl))) (List.forall_mem_cons.mpr ⟨((fun z => by cases z)), List.forall_mem_cons.mpr ⟨(fun _ => Or.inl (s_X12_isIn (by decide) (by decide) (Or.inl pz_wq1217))), List.forall_mem_cons.mpr ⟨((fun z => by cases z)), List.forall_mem_cons.mpr ⟨((fun z => by cases z)), fun _ h => absurd h List.not_mem_nil⟩⟩⟩⟩) false i k' h rfl
  · intro a M hlen hpre
    obtain ⟨th, i, n, rfl, hpre⟩ : ∃ th i n, a = [.inr (.inr (12, th)), .inl i, .inl n] ∧ (pz_im M) := by
      have hpre : (match (generalizing := false) a with | [.inr (.inr (12, th)), .inl i, .inl n] => pz_im M | _ => False) := hpre
      split at hpre
      · exact ⟨_, _, _, rfl, hpre⟩
      · exact hpre.elim
    exact Nat.le_of_ble_eq_true rfl
  · intro a M hlen hcan hM hpre Ok hgo
    obtain ⟨th, i, n, rfl, hpre⟩ : ∃ th i n, a = [.inr (.inr (12, th)), .inl i, .inl n] ∧ (pz_im M) := by
      have hpre : (match (generalizing := false) a with | [.inr (.inr (12, th)), .inl i, .inl n] => pz_im M | _ => False) := hpre
      split at hpre
      · exact ⟨_, _, _, rfl, hpre⟩
      · exact hpre.elim
    obtain ⟨k_th, hc_th⟩ := pz_tlm hcan
    have k_th : pz_kd th = 12 ∧ th < 231 := k_th
    have R_th := pz_kd12 k_th.1
    subst R_th
    clear k_th
    obtain ⟨k_i, hc_i⟩ := pz_tlm hc_th
    have l_i : -2147483648 ≤ i := k_i.1
    have u_i : i ≤ 2147483647 := k_i.2
    obtain ⟨k_n, hc_n⟩ := pz_tlm hc_i
    have l_n : -2147483648 ≤ n := k_n.1
    have u_n : n ≤ 2147483647 := k_n.2
    have hI : pz_im M := hpre
    have hI0 := hI
    have hS : pz_rl pz_QX M M := pz_rl.rf
    have I88 := hI.1.1
    refine hgo (fun _ => false) 20 0 _ [] M ?_
    refine And.intro (hI) ?_
    intro v2 M2 a2 b2 q2
    obtain ⟨q2, z2⟩ := q2
    subst z2
    clear a2 b2
    refine And.intro (fun h5 => ?_) (fun h5 => ?_)
    · skip
      replace q2 := q2.resolve_left (fun z => absurd (z.1.symm.trans h5) (by decide))
      refine And.intro rfl ?_
      refine ⟨⟨fun _ => ⟨rfl, rfl⟩, fun hp => ?_⟩, hS⟩
      have hp : 0 ≤ i ∧ (1 ≤ n ∧ n ≤ 99) ∧ sd_ca (M 60) i.toNat := hp
      exfalso
      unfold sd_ca sd_in at hp
      rw [show (52 + (i + 1)).toNat = 52 + (i.toNat + 1) by omega, show (76 + (i + 1)).toNat = 76 + (i.toNat + 1) by omega] at q2
      omega
    · skip
      replace q2 := q2.resolve_right (fun z => h5 z.1)
      refine And.intro (True.intro) ?_
      intro v12 M12 a12 b12 q12
      obtain ⟨q12, z12⟩ := q12
      subst z12
      clear a12 b12
      refine And.intro (fun h15 => ?_) (fun h15 => ?_)
      · skip
        replace q12 := q12.resolve_right (fun z => h15 z.1)
        clear h15
        refine And.intro (hI) ?_
        intro M21 q21
        obtain ⟨q21, z21⟩ := q21
        have hS : pz_rl pz_QX M M21 := hS.tr (pz_rl.wk pz_wk_QE_QX z21)
        have hI : pz_im M21 := hS.1 hI0
        refine And.intro (And.intro hI (And.intro (by first | decide | omega) (by first | decide | omega))) ?_
        intro v27 M27 a27 b27 q27
        obtain ⟨q27, z27⟩ := q27
        have hS : pz_rl pz_QX M M27 := hS.tr (pz_rl.wk pz_wk_QD_QX z27)
        have hI : pz_im M27 := hS.1 hI0
        refine And.intro rfl ?_
        refine ⟨⟨fun hn => absurd ?_ hn, fun hp => ?_⟩, hS⟩
        · show 0 ≤ i ∧ (1 ≤ n ∧ n ≤ 99) ∧ sd_ca (M 60) i.toNat
          rw [show (52 + (i + 1)).toNat = 52 + (i.toNat + 1) by omega, show (76 + (i + 1)).toNat = 76 + (i.toNat + 1) by omega] at q2
          unfold sd_ca sd_in
          omega
        · have W : M21 60 = M 60 := funext fun j => z21.2 60 j (by unfold pz_QE; first | decide | omega)
          have T : sd_Tr M21 = true := by
            unfold sd_Tr
            exact decide_eq_true (by rw [q21.1]; decide)
          have FR : ∀ b j : Nat, b = 62 ∨ (b = 1 ∧ j = 4) → M27 b j = M21 b j := fun b j y => z27.2 b j (by unfold pz_QD; first | decide | omega)
          refine ⟨⟨(FR 1 4 (by first | decide | omega)).trans q21.2.1, fun k => (FR 62 k (by first | decide | omega)).trans (q21.2.2 k)⟩, fun ls hl hq hW => ?_⟩
          rw [W, T] at q27
          exact q27 ls hl hq hW (by have := hp.2.2.1; have := hp.1; omega) hp.2.1
      · skip
        replace q12 := q12.resolve_left (fun z => absurd (z.1.symm.trans h15) (by decide))
        clear h15
        refine And.intro rfl ?_
        refine ⟨⟨fun _ => ⟨rfl, rfl⟩, fun hp => ?_⟩, hS⟩
        have hp : 0 ≤ i ∧ (1 ≤ n ∧ n ≤ 99) ∧ sd_ca (M 60) i.toNat := hp
        exfalso
        unfold sd_ca sd_in at hp
        rw [show (52 + (i + 1)).toNat = 52 + (i.toNat + 1) by omega, show (76 + (i + 1)).toNat = 76 + (i.toNat + 1) by omega] at q2
        omega
theorem v3_X12_ask {fr lo i : Nat} {own : String} (h1 : 6 + 1 ≤ fr) (h2 : 8 + (3 + 11) + 140 ≤ lo) (h3 : .methodLink own i yX12_ask ∈ lw_tbl) : pz_cV fr lo own i k3_X12_ask :=
  pz_cVk (maxL := 3) (fr' := 6) (lo' := 140) 2 12 h3_X12_ask rfl ⟨(pz_nhc_RX12 yX12_ask rfl).1, (pz_nhc_RX12 yX12_ask rfl).2, pz_ds10⟩ ⟨pz_wq1410, pz_wq1408, pz_wq1409, pz_wq13⟩ (Or.inl ⟨TX12, 28, rfl⟩) (fun a M _ h => by
    have h : (match (generalizing := false) a with | [.inr (.inr (12, th)), .inl i, .inl n] => pz_im M | _ => False) := h
    split at h
    · exact ⟨_, _, rfl⟩
    · exact h.elim) h1 h2 h3
noncomputable def k3_X12_bridge : pz_C := (2, 1, fun a M => (match a with | [.inr (.inr (12, th)), .inl i] => pz_im M | _ => False), fun a M r M' => (match a, r with | [.inr (.inr (12, th)), .inl i], some (.inl v) => (sd_ma M M' v (0) (fun F => 0 ≤ i ∧ sd_cb F i.toNat) (fun ls F => 1) (fun ls F => sd_bri true F i.toNat)) ∧ pz_rl pz_QX M M' | _, _ => False))
noncomputable abbrev ct3_X12_bridge : List (Bool × Nat × pz_C) := [(true, 336, k3_X12_canBridge), (true, 330, k3_X12_keeps), (true, 339, k3_X12_bridges0)]
set_option maxRecDepth 100000 in
set_option maxHeartbeats 4000000 in
theorem h3_X12_bridge : pz_H yX12_bridge cX12_bridge 2 (some .boolean) k3_X12_bridge 4 85 := by
  refine pz_mk (own := RX12) (tb := t_X12_bridge) (fl := pz_flf fl_RX12) (ci := pz_cif ci_RX12) (ct := pz_ctf ct3_X12_bridge) (rz := true) (pz_pfc_RX12 yX12_bridge rfl) rfl t_X12_bridge_ok (pz_flk fl_RX12_ok) (pz_cik ci_RX12_ok) ?_ ?_ (Or.inr ⟨rfl, rfl⟩) ?_ ?_
  · exact fun i k' h => pz_ctk (l := ct3_X12_bridge) (P := fun b i k => b = true → pz_cV 4 85 RX12 i k) (List.forall_mem_cons.mpr ⟨(fun _ => v3_X12_canBridge (by decide) (by decide) pz_wq1491), List.forall_mem_cons.mpr ⟨(fun _ => v3_X12_keeps (by decide) (by decide) pz_wq1427), List.forall_mem_cons.mpr ⟨(fun _ => v3_X12_bridges0 (by decide) (by decide) pz_wq1495), fun _ h => absurd h List.not_mem_nil⟩⟩⟩) true i k' h rfl
  · exact fun i k' h => pz_ctk (l := ct3_X12_bridge) (P := fun b i k => b = false → (pz_cS 4 85 RX12 i k ∨ (k = pz_kac ∧ 1 ≤ 4 ∧ 60 ≤ 85 ∧ Cond.methodLink RX12 i arraycopyName ∈ pz_tbl))) (List.forall_mem_cons.mpr ⟨((fun z => by cases z)), List.forall_mem_cons.mpr ⟨((fun z => by cases z)), List.forall_mem_cons.mpr ⟨((fun z => by cases z)), fun _ h => absurd h List.not_mem_nil⟩⟩⟩) false i k' h rfl
  · intro a M hlen hpre
    obtain ⟨th, i, rfl, hpre⟩ : ∃ th i, a = [.inr (.inr (12, th)), .inl i] ∧ (pz_im M) := by
      have hpre : (match (generalizing := false) a with | [.inr (.inr (12, th)), .inl i] => pz_im M | _ => False) := hpre
      split at hpre
      · exact ⟨_, _, rfl, hpre⟩
      · exact hpre.elim
    exact Nat.le_of_ble_eq_true rfl
  · intro a M hlen hcan hM hpre Ok hgo
    obtain ⟨th, i, rfl, hpre⟩ : ∃ th i, a = [.inr (.inr (12, th)), .inl i] ∧ (pz_im M) := by
      have hpre : (match (generalizing := false) a with | [.inr (.inr (12, th)), .inl i] => pz_im M | _ => False) := hpre
      split at hpre
      · exact ⟨_, _, rfl, hpre⟩
      · exact hpre.elim
    obtain ⟨k_th, hc_th⟩ := pz_tlm hcan
    have k_th : pz_kd th = 12 ∧ th < 231 := k_th
    have R_th := pz_kd12 k_th.1
    subst R_th
    clear k_th
    obtain ⟨k_i, hc_i⟩ := pz_tlm hc_th
    have l_i : -2147483648 ≤ i := k_i.1
    have u_i : i ≤ 2147483647 := k_i.2
    have hI : pz_im M := hpre
    have hI0 := hI
    have hS : pz_rl pz_QX M M := pz_rl.rf
    have I88 := hI.1.1
    refine hgo (fun _ => false) 15 0 _ [] M ?_
    refine And.intro (hI) ?_
    intro v2 M2 a2 b2 q2
    obtain ⟨q2, z2⟩ := q2
    subst z2
    clear a2 b2
    refine And.intro (fun h5 => ?_) (fun h5 => ?_)
    · skip
      replace q2 := q2.resolve_right (fun z => h5 z.1)
      refine And.intro (hI) ?_
      intro M11 q11
      obtain ⟨q11, z11⟩ := q11
      have hS : pz_rl pz_QX M M11 := hS.tr (pz_rl.wk pz_wk_QE_QX z11)
      have hI : pz_im M11 := hS.1 hI0
      refine And.intro (And.intro hI (And.intro (by first | decide | omega) (by first | decide | omega))) ?_
      intro M16 q16
      obtain ⟨q16, z16⟩ := q16
      have hS : pz_rl pz_QX M M16 := hS.tr (pz_rl.wk pz_wk_QD_QX z16)
      have hI : pz_im M16 := hS.1 hI0
      refine And.intro (by first | decide | omega) ?_
      refine And.intro rfl ?_
      refine ⟨⟨fun hn => absurd ?_ hn, fun hp => ?_⟩, hS⟩
      · show 0 ≤ i ∧ sd_cb (M 60) i.toNat
        rw [show (52 + i).toNat = 52 + i.toNat by omega, show (76 + i).toNat = 76 + i.toNat by omega, show (64 + i).toNat = 64 + i.toNat by omega] at q2
        unfold sd_cb sd_in
        omega
      · have W : M11 60 = M 60 := funext fun j => z11.2 60 j (by unfold pz_QE; first | decide | omega)
        have T : sd_Tr M11 = true := by
          unfold sd_Tr
          exact decide_eq_true (by rw [q11.1]; decide)
        have FR : ∀ b j : Nat, b = 62 ∨ (b = 1 ∧ j = 4) → M16 b j = M11 b j := fun b j y => z16.2 b j (by unfold pz_QD; first | decide | omega)
        refine ⟨⟨(FR 1 4 (by first | decide | omega)).trans q11.2.1, fun k => (FR 62 k (by first | decide | omega)).trans (q11.2.2 k)⟩, fun ls hl hq hW => ?_⟩
        rw [W, T] at q16
        exact ⟨rfl, q16⟩
    · skip
      replace q2 := q2.resolve_left (fun z => absurd (z.1.symm.trans h5) (by decide))
      refine And.intro (by first | decide | omega) ?_
      refine And.intro rfl ?_
      refine ⟨⟨fun _ => ⟨rfl, rfl⟩, fun hp => ?_⟩, hS⟩
      have hp : 0 ≤ i ∧ sd_cb (M 60) i.toNat := hp
      exfalso
      unfold sd_cb sd_in at hp
      rw [show (52 + i).toNat = 52 + i.toNat by omega, show (76 + i).toNat = 76 + i.toNat by omega, show (64 + i).toNat = 64 + i.toNat by omega] at q2
      omega
theorem v3_X12_bridge {fr lo i : Nat} {own : String} (h1 : 4 + 1 ≤ fr) (h2 : 8 + (2 + 11) + 85 ≤ lo) (h3 : .methodLink own i yX12_bridge ∈ lw_tbl) : pz_cV fr lo own i k3_X12_bridge :=
  pz_cVk (maxL := 2) (fr' := 4) (lo' := 85) 1 12 h3_X12_bridge rfl ⟨(pz_nhc_RX12 yX12_bridge rfl).1, (pz_nhc_RX12 yX12_bridge rfl).2, pz_ds9⟩ ⟨pz_wq1490, pz_wq1488, pz_wq1489, pz_wq13⟩ (Or.inl ⟨TX12, 28, rfl⟩) (fun a M _ h => by
    have h : (match (generalizing := false) a with | [.inr (.inr (12, th)), .inl i] => pz_im M | _ => False) := h
    split at h
    · exact ⟨_, _, rfl⟩
    · exact h.elim) h1 h2 h3
noncomputable def k3_X12_pay : pz_C := (4, 1, fun a M => (match a with | [.inr (.inr (12, th)), .inl i, .inl j, .inl n] => pz_im M | _ => False), fun a M r M' => (match a, r with | [.inr (.inr (12, th)), .inl i, .inl j, .inl n], some (.inl v) => (sd_ma M M' v (0) (fun F => 0 ≤ i ∧ 0 ≤ j ∧ (1 ≤ n ∧ n ≤ 99) ∧ sd_c0 F i.toNat j.toNat n) (fun ls F => 1) (fun ls F => sd_pys true F i.toNat j.toNat n)) ∧ pz_rl pz_QX M M' | _, _ => False))
noncomputable abbrev ct3_X12_pay : List (Bool × Nat × pz_C) := [(false, 54, k_X12_isIn), (true, 343, k3_X12_canPay0), (true, 330, k3_X12_keeps), (true, 346, k3_X12_pays)]
set_option maxRecDepth 100000 in
set_option maxHeartbeats 4000000 in
theorem h3_X12_pay : pz_H yX12_pay cX12_pay 4 (some .boolean) k3_X12_pay 3 66 := by
  refine pz_mk (own := RX12) (tb := t_X12_pay) (fl := pz_flf fl_RX12) (ci := pz_cif ci_RX12) (ct := pz_ctf ct3_X12_pay) (rz := true) (pz_pfc_RX12 yX12_pay rfl) rfl t_X12_pay_ok (pz_flk fl_RX12_ok) (pz_cik ci_RX12_ok) ?_ ?_ (Or.inr ⟨rfl, rfl⟩) ?_ ?_
  · exact fun i k' h => pz_ctk (l := ct3_X12_pay) (P := fun b i k => b = true → pz_cV 3 66 RX12 i k) (List.forall_mem_cons.mpr ⟨((fun z => by cases z)), List.forall_mem_cons.mpr ⟨(fun _ => v3_X12_canPay0 (by decide) (by decide) pz_wq1503), List.forall_mem_cons.mpr ⟨(fun _ => v3_X12_keeps (by decide) (by decide) pz_wq1427), List.forall_mem_cons.mpr ⟨(fun _ => v3_X12_pays (by decide) (by decide) pz_wq1507), fun _ h => absurd h List.not_mem_nil⟩⟩⟩⟩) true i k' h rfl
  · exact fun i k' h => pz_ctk (l := ct3_X12_pay) (P := fun b i k => b = false → (pz_cS 3 66 RX12 i k ∨ (k = pz_kac ∧ 1 ≤ 3 ∧ 60 ≤ 66 ∧ Cond.methodLink RX12 i arraycopyName ∈ pz_tbl))) (List.forall_mem_cons.mpr ⟨(fun _ => Or.inl (s_X12_isIn (by decide) (by decide) (Or.inl pz_wq1217))), List.forall_mem_cons.mpr ⟨((fun z => by cases z)), List.forall_mem_cons.mpr ⟨((fun z => by cases z)), List.forall_mem_cons.mpr ⟨((fun z => by cases z)), fun _ h => absurd h List.not_mem_nil⟩⟩⟩⟩) false i k' h rfl
  · intro a M hlen hpre
    obtain ⟨th, i, j, n, rfl, hpre⟩ : ∃ th i j n, a = [.inr (.inr (12, th)), .inl i, .inl j, .inl n] ∧ (pz_im M) := by
      have hpre : (match (generalizing := false) a with | [.inr (.inr (12, th)), .inl i, .inl j, .inl n] => pz_im M | _ => False) := hpre
      split at hpre
      · exact ⟨_, _, _, _, rfl, hpre⟩
      · exact hpre.elim
    exact Nat.le_of_ble_eq_true rfl
  · intro a M hlen hcan hM hpre Ok hgo
    obtain ⟨th, i, j, n, rfl, hpre⟩ : ∃ th i j n, a = [.inr (.inr (12, th)), .inl i, .inl j, .inl n] ∧ (pz_im M) := by
      have hpre : (match (generalizing := false) a with | [.inr (.inr (12, th)), .inl i, .inl j, .inl n] => pz_im M | _ => False) := hpre
      split at hpre
      · exact ⟨_, _, _, _, rfl, hpre⟩
      · exact hpre.elim
    obtain ⟨k_th, hc_th⟩ := pz_tlm hcan
    have k_th : pz_kd th = 12 ∧ th < 231 := k_th
    have R_th := pz_kd12 k_th.1
    subst R_th
    clear k_th
    obtain ⟨k_i, hc_i⟩ := pz_tlm hc_th
    have l_i : -2147483648 ≤ i := k_i.1
    have u_i : i ≤ 2147483647 := k_i.2
    obtain ⟨k_j, hc_j⟩ := pz_tlm hc_i
    have l_j : -2147483648 ≤ j := k_j.1
    have u_j : j ≤ 2147483647 := k_j.2
    obtain ⟨k_n, hc_n⟩ := pz_tlm hc_j
    have l_n : -2147483648 ≤ n := k_n.1
    have u_n : n ≤ 2147483647 := k_n.2
    have hI : pz_im M := hpre
    have hI0 := hI
    have hS : pz_rl pz_QX M M := pz_rl.rf
    have I88 := hI.1.1
    refine hgo (fun _ => false) 24 0 _ [] M ?_
    refine And.intro (True.intro) ?_
    intro v4 M4 a4 b4 q4
    obtain ⟨q4, z4⟩ := q4
    subst z4
    clear a4 b4
    refine And.intro (fun h7 => ?_) (fun h7 => ?_)
    · skip
      replace q4 := q4.resolve_left (fun z => absurd (z.1.symm.trans h7) (by decide))
      clear h7
      refine And.intro (by first | decide | omega) ?_
      refine And.intro rfl ?_
      refine ⟨⟨fun _ => ⟨rfl, rfl⟩, fun hp => ?_⟩, hS⟩
      have hp : 0 ≤ i ∧ 0 ≤ j ∧ (1 ≤ n ∧ n ≤ 99) ∧ sd_c0 (M 60) i.toNat j.toNat n := hp
      exfalso
      unfold sd_c0 at hp
      first
        | omega
        | (rw [show (16 + i).toNat = 16 + i.toNat by omega, show (16 + j).toNat = 16 + j.toNat by omega] at q14
           omega)
    · skip
      replace q4 := q4.resolve_right (fun z => h7 z.1)
      clear h7
      refine And.intro (hI) ?_
      intro v14 M14 a14 b14 q14
      obtain ⟨q14, z14⟩ := q14
      subst z14
      clear a14 b14
      refine And.intro (fun h17 => ?_) (fun h17 => ?_)
      · skip
        replace q14 := q14.resolve_right (fun z => h17 z.1)
        refine And.intro (hI) ?_
        intro M23 q23
        obtain ⟨q23, z23⟩ := q23
        have hS : pz_rl pz_QX M M23 := hS.tr (pz_rl.wk pz_wk_QE_QX z23)
        have hI : pz_im M23 := hS.1 hI0
        refine And.intro (And.intro hI (And.intro (by first | decide | omega) (And.intro (by first | decide | omega) (And.intro (by first | decide | omega) (by first | decide | omega))))) ?_
        intro M30 q30
        obtain ⟨q30, z30⟩ := q30
        have hS : pz_rl pz_QX M M30 := hS.tr (pz_rl.wk pz_wk_QD_QX z30)
        have hI : pz_im M30 := hS.1 hI0
        refine And.intro (by first | decide | omega) ?_
        refine And.intro rfl ?_
        refine ⟨⟨fun hn => absurd ?_ hn, fun hp => ?_⟩, hS⟩
        · show 0 ≤ i ∧ 0 ≤ j ∧ (1 ≤ n ∧ n ≤ 99) ∧ sd_c0 (M 60) i.toNat j.toNat n
          rw [show (16 + i).toNat = 16 + i.toNat by omega, show (16 + j).toNat = 16 + j.toNat by omega] at q14
          unfold sd_c0
          omega
        · have W : M23 60 = M 60 := funext fun j => z23.2 60 j (by unfold pz_QE; first | decide | omega)
          have T : sd_Tr M23 = true := by
            unfold sd_Tr
            exact decide_eq_true (by rw [q23.1]; decide)
          have FR : ∀ b j : Nat, b = 62 ∨ (b = 1 ∧ j = 4) → M30 b j = M23 b j := fun b j y => z30.2 b j (by unfold pz_QD; first | decide | omega)
          refine ⟨⟨(FR 1 4 (by first | decide | omega)).trans q23.2.1, fun k => (FR 62 k (by first | decide | omega)).trans (q23.2.2 k)⟩, fun ls hl hq hW => ?_⟩
          rw [W, T] at q30
          exact ⟨rfl, q30 hW hp.2.2.2 hp.2.2.1⟩
      · skip
        replace q14 := q14.resolve_left (fun z => absurd (z.1.symm.trans h17) (by decide))
        refine And.intro (by first | decide | omega) ?_
        refine And.intro rfl ?_
        refine ⟨⟨fun _ => ⟨rfl, rfl⟩, fun hp => ?_⟩, hS⟩
        have hp : 0 ≤ i ∧ 0 ≤ j ∧ (1 ≤ n ∧ n ≤ 99) ∧ sd_c0 (M 60) i.toNat j.toNat n := hp
        exfalso
        unfold sd_c0 at hp
        first
          | omega
          | (rw [show (16 + i).toNat = 16 + i.toNat by omega, show (16 + j).toNat = 16 + j.toNat by omega] at q14
             omega)
theorem v3_X12_pay {fr lo i : Nat} {own : String} (h1 : 3 + 1 ≤ fr) (h2 : 8 + (4 + 11) + 66 ≤ lo) (h3 : .methodLink own i yX12_pay ∈ lw_tbl) : pz_cV fr lo own i k3_X12_pay :=
  pz_cVk (maxL := 4) (fr' := 3) (lo' := 66) 3 12 h3_X12_pay rfl ⟨(pz_nhc_RX12 yX12_pay rfl).1, (pz_nhc_RX12 yX12_pay rfl).2, pz_ds17⟩ ⟨pz_wq1502, pz_wq1500, pz_wq1501, pz_wq13⟩ (Or.inl ⟨TX12, 28, rfl⟩) (fun a M _ h => by
    have h : (match (generalizing := false) a with | [.inr (.inr (12, th)), .inl i, .inl j, .inl n] => pz_im M | _ => False) := h
    split at h
    · exact ⟨_, _, rfl⟩
    · exact h.elim) h1 h2 h3
noncomputable def k3_X12_paper : pz_C := (2, 1, fun a M => (match a with | [.inr (.inr (12, th)), .inl i] => pz_im M | _ => False), fun a M r M' => (match a, r with | [.inr (.inr (12, th)), .inl i], some (.inl v) => (sd_ma M M' v (0) (fun F => 0 ≤ i ∧ sd_cp F i.toNat) (fun ls F => 1) (fun ls F => sd_get true F i.toNat)) ∧ pz_rl pz_QX M M' | _, _ => False))
noncomputable abbrev ct3_X12_paper : List (Bool × Nat × pz_C) := [(true, 349, k3_X12_canPaper), (true, 330, k3_X12_keeps), (true, 352, k3_X12_getsReady)]
set_option maxRecDepth 100000 in
set_option maxHeartbeats 4000000 in
theorem h3_X12_paper : pz_H yX12_paper cX12_paper 2 (some .boolean) k3_X12_paper 4 85 := by
  refine pz_mk (own := RX12) (tb := t_X12_paper) (fl := pz_flf fl_RX12) (ci := pz_cif ci_RX12) (ct := pz_ctf ct3_X12_paper) (rz := true) (pz_pfc_RX12 yX12_paper rfl) rfl t_X12_paper_ok (pz_flk fl_RX12_ok) (pz_cik ci_RX12_ok) ?_ ?_ (Or.inr ⟨rfl, rfl⟩) ?_ ?_
  · exact fun i k' h => pz_ctk (l := ct3_X12_paper) (P := fun b i k => b = true → pz_cV 4 85 RX12 i k) (List.forall_mem_cons.mpr ⟨(fun _ => v3_X12_canPaper (by decide) (by decide) pz_wq1515), List.forall_mem_cons.mpr ⟨(fun _ => v3_X12_keeps (by decide) (by decide) pz_wq1427), List.forall_mem_cons.mpr ⟨(fun _ => v3_X12_getsReady (by decide) (by decide) pz_wq1519), fun _ h => absurd h List.not_mem_nil⟩⟩⟩) true i k' h rfl
  · exact fun i k' h => pz_ctk (l := ct3_X12_paper) (P := fun b i k => b = false → (pz_cS 4 85 RX12 i k ∨ (k = pz_kac ∧ 1 ≤ 4 ∧ 60 ≤ 85 ∧ Cond.methodLink RX12 i arraycopyName ∈ pz_tbl))) (List.forall_mem_cons.mpr ⟨((fun z => by cases z)), List.forall_mem_cons.mpr ⟨((fun z => by cases z)), List.forall_mem_cons.mpr ⟨((fun z => by cases z)), fun _ h => absurd h List.not_mem_nil⟩⟩⟩) false i k' h rfl
  · intro a M hlen hpre
    obtain ⟨th, i, rfl, hpre⟩ : ∃ th i, a = [.inr (.inr (12, th)), .inl i] ∧ (pz_im M) := by
      have hpre : (match (generalizing := false) a with | [.inr (.inr (12, th)), .inl i] => pz_im M | _ => False) := hpre
      split at hpre
      · exact ⟨_, _, rfl, hpre⟩
      · exact hpre.elim
    exact Nat.le_of_ble_eq_true rfl
  · intro a M hlen hcan hM hpre Ok hgo
    obtain ⟨th, i, rfl, hpre⟩ : ∃ th i, a = [.inr (.inr (12, th)), .inl i] ∧ (pz_im M) := by
      have hpre : (match (generalizing := false) a with | [.inr (.inr (12, th)), .inl i] => pz_im M | _ => False) := hpre
      split at hpre
      · exact ⟨_, _, rfl, hpre⟩
      · exact hpre.elim
    obtain ⟨k_th, hc_th⟩ := pz_tlm hcan
    have k_th : pz_kd th = 12 ∧ th < 231 := k_th
    have R_th := pz_kd12 k_th.1
    subst R_th
    clear k_th
    obtain ⟨k_i, hc_i⟩ := pz_tlm hc_th
    have l_i : -2147483648 ≤ i := k_i.1
    have u_i : i ≤ 2147483647 := k_i.2
    have hI : pz_im M := hpre
    have hI0 := hI
    have hS : pz_rl pz_QX M M := pz_rl.rf
    have I88 := hI.1.1
    refine hgo (fun _ => false) 15 0 _ [] M ?_
    refine And.intro (hI) ?_
    intro v2 M2 a2 b2 q2
    obtain ⟨q2, z2⟩ := q2
    subst z2
    clear a2 b2
    refine And.intro (fun h5 => ?_) (fun h5 => ?_)
    · skip
      replace q2 := q2.resolve_right (fun z => h5 z.1)
      refine And.intro (hI) ?_
      intro M11 q11
      obtain ⟨q11, z11⟩ := q11
      have hS : pz_rl pz_QX M M11 := hS.tr (pz_rl.wk pz_wk_QE_QX z11)
      have hI : pz_im M11 := hS.1 hI0
      refine And.intro (And.intro hI (And.intro (by first | decide | omega) (by first | decide | omega))) ?_
      intro M16 q16
      obtain ⟨q16, z16⟩ := q16
      have hS : pz_rl pz_QX M M16 := hS.tr (pz_rl.wk pz_wk_QD_QX z16)
      have hI : pz_im M16 := hS.1 hI0
      refine And.intro (by first | decide | omega) ?_
      refine And.intro rfl ?_
      refine ⟨⟨fun hn => absurd ?_ hn, fun hp => ?_⟩, hS⟩
      · show 0 ≤ i ∧ sd_cp (M 60) i.toNat
        rw [show (52 + i).toNat = 52 + i.toNat by omega, show (76 + i).toNat = 76 + i.toNat by omega, show (40 + i).toNat = 40 + i.toNat by omega] at q2
        unfold sd_cp sd_in
        omega
      · have W : M11 60 = M 60 := funext fun j => z11.2 60 j (by unfold pz_QE; first | decide | omega)
        have T : sd_Tr M11 = true := by
          unfold sd_Tr
          exact decide_eq_true (by rw [q11.1]; decide)
        have FR : ∀ b j : Nat, b = 62 ∨ (b = 1 ∧ j = 4) → M16 b j = M11 b j := fun b j y => z16.2 b j (by unfold pz_QD; first | decide | omega)
        refine ⟨⟨(FR 1 4 (by first | decide | omega)).trans q11.2.1, fun k => (FR 62 k (by first | decide | omega)).trans (q11.2.2 k)⟩, fun ls hl hq hW => ?_⟩
        rw [W, T] at q16
        exact ⟨rfl, q16⟩
    · skip
      replace q2 := q2.resolve_left (fun z => absurd (z.1.symm.trans h5) (by decide))
      refine And.intro (by first | decide | omega) ?_
      refine And.intro rfl ?_
      refine ⟨⟨fun _ => ⟨rfl, rfl⟩, fun hp => ?_⟩, hS⟩
      have hp : 0 ≤ i ∧ sd_cp (M 60) i.toNat := hp
      exfalso
      unfold sd_cp sd_in at hp
      rw [show (52 + i).toNat = 52 + i.toNat by omega, show (76 + i).toNat = 76 + i.toNat by omega, show (40 + i).toNat = 40 + i.toNat by omega] at q2
      omega
theorem v3_X12_paper {fr lo i : Nat} {own : String} (h1 : 4 + 1 ≤ fr) (h2 : 8 + (2 + 11) + 85 ≤ lo) (h3 : .methodLink own i yX12_paper ∈ lw_tbl) : pz_cV fr lo own i k3_X12_paper :=
  pz_cVk (maxL := 2) (fr' := 4) (lo' := 85) 1 12 h3_X12_paper rfl ⟨(pz_nhc_RX12 yX12_paper rfl).1, (pz_nhc_RX12 yX12_paper rfl).2, pz_ds9⟩ ⟨pz_wq1514, pz_wq1512, pz_wq1513, pz_wq13⟩ (Or.inl ⟨TX12, 28, rfl⟩) (fun a M _ h => by
    have h : (match (generalizing := false) a with | [.inr (.inr (12, th)), .inl i] => pz_im M | _ => False) := h
    split at h
    · exact ⟨_, _, rfl⟩
    · exact h.elim) h1 h2 h3
noncomputable def k3_X12_join : pz_C := (2, 1, fun a M => (match a with | [.inr (.inr (12, th)), .inl i] => pz_im M | _ => False), fun a M r M' => (match a, r with | [.inr (.inr (12, th)), .inl i], some (.inl v) => (sd_ma M M' v (0) (fun F => 0 ≤ i ∧ i < F 88 ∧ F (52 + i.toNat) = 1) (fun ls F => 1) (fun ls F => sd_joi true F i.toNat)) ∧ pz_rl pz_QX M M' | _, _ => False))
noncomputable abbrev ct3_X12_join : List (Bool × Nat × pz_C) := [(true, 58, k_X12_isLink), (true, 62, k3_X12_isOut), (true, 330, k3_X12_keeps), (true, 323, k3_X12_notes)]
set_option maxRecDepth 100000 in
set_option maxHeartbeats 4000000 in
theorem h3_X12_join : pz_H yX12_join cX12_join 2 (some .boolean) k3_X12_join 2 43 := by
  refine pz_mk (own := RX12) (tb := t_X12_join) (fl := pz_flf fl_RX12) (ci := pz_cif ci_RX12) (ct := pz_ctf ct3_X12_join) (rz := true) (pz_pfc_RX12 yX12_join rfl) rfl t_X12_join_ok (pz_flk fl_RX12_ok) (pz_cik ci_RX12_ok) ?_ ?_ (Or.inr ⟨rfl, rfl⟩) ?_ ?_
  · exact fun i k' h => pz_ctk (l := ct3_X12_join) (P := fun b i k => b = true → pz_cV 2 43 RX12 i k) (List.forall_mem_cons.mpr ⟨(fun _ => v_X12_isLink (by decide) (by decide) pz_wq1224), List.forall_mem_cons.mpr ⟨(fun _ => v3_X12_isOut (by decide) (by decide) pz_wq1419), List.forall_mem_cons.mpr ⟨(fun _ => v3_X12_keeps (by decide) (by decide) pz_wq1427), List.forall_mem_cons.mpr ⟨(fun _ => v3_X12_notes (by decide) (by decide) pz_wq1483), fun _ h => absurd h List.not_mem_nil⟩⟩⟩⟩) true i k' h rfl
  · exact fun i k' h => pz_ctk (l := ct3_X12_join) (P := fun b i k => b = false → (pz_cS 2 43 RX12 i k ∨ (k = pz_kac ∧ 1 ≤ 2 ∧ 60 ≤ 43 ∧ Cond.methodLink RX12 i arraycopyName ∈ pz_tbl))) (List.forall_mem_cons.mpr ⟨((fun z => by cases z)), List.forall_mem_cons.mpr ⟨((fun z => by cases z)), List.forall_mem_cons.mpr ⟨((fun z => by cases z)), List.forall_mem_cons.mpr ⟨((fun z => by cases z)), fun _ h => absurd h List.not_mem_nil⟩⟩⟩⟩) false i k' h rfl
  · intro a M hlen hpre
    obtain ⟨th, i, rfl, hpre⟩ : ∃ th i, a = [.inr (.inr (12, th)), .inl i] ∧ (pz_im M) := by
      have hpre : (match (generalizing := false) a with | [.inr (.inr (12, th)), .inl i] => pz_im M | _ => False) := hpre
      split at hpre
      · exact ⟨_, _, rfl, hpre⟩
      · exact hpre.elim
    exact Nat.le_of_ble_eq_true rfl
  · intro a M hlen hcan hM hpre Ok hgo
    obtain ⟨th, i, rfl, hpre⟩ : ∃ th i, a = [.inr (.inr (12, th)), .inl i] ∧ (pz_im M) := by
      have hpre : (match (generalizing := false) a with | [.inr (.inr (12, th)), .inl i] => pz_im M | _ => False) := hpre
      split at hpre
      · exact ⟨_, _, rfl, hpre⟩
      · exact hpre.elim
    obtain ⟨k_th, hc_th⟩ := pz_tlm hcan
    have k_th : pz_kd th = 12 ∧ th < 231 := k_th
    have R_th := pz_kd12 k_th.1
    subst R_th
    clear k_th
    obtain ⟨k_i, hc_i⟩ := pz_tlm hc_th
    have l_i : -2147483648 ≤ i := k_i.1
    have u_i : i ≤ 2147483647 := k_i.2
    have hI : pz_im M := hpre
    have hI0 := hI
    have hS : pz_rl pz_QX M M := pz_rl.rf
    have I88 := hI.1.1
    refine hgo (fun _ => false) 35 0 _ [] M ?_
    refine And.intro (hI) ?_
    intro v2 M2 a2 b2 q2
    obtain ⟨q2, z2⟩ := q2
    subst z2
    clear a2 b2
    refine And.intro (fun h5 => ?_) (fun h5 => ?_)
    · skip
      replace q2 := q2.resolve_left (fun z => absurd (z.1.symm.trans h5) (by decide))
      clear h5
      refine And.intro (by first | decide | omega) ?_
      refine And.intro rfl ?_
      refine ⟨⟨fun _ => ⟨rfl, rfl⟩, fun hp => ?_⟩, hS⟩
      have hp : 0 ≤ i ∧ i < M 60 88 ∧ M 60 (52 + i.toNat) = 1 := hp
      exfalso
      first
        | omega
        | (rw [show (52 + i).toNat = 52 + i.toNat by omega] at q10
           omega)
    · skip
      replace q2 := q2.resolve_right (fun z => h5 z.1)
      clear h5
      refine And.intro (And.intro hI (And.intro (by first | decide | omega) (by first | decide | omega))) ?_
      intro v10 M10 a10 b10 q10
      obtain ⟨q10, z10⟩ := q10
      subst z10
      clear a10 b10
      refine And.intro (fun h13 => ?_) (fun h13 => ?_)
      · skip
        replace q10 := q10.resolve_right (fun z => h13 z.1)
        refine And.intro (hI) ?_
        intro M19 q19
        obtain ⟨q19, z19⟩ := q19
        have hS : pz_rl pz_QX M M19 := hS.tr (pz_rl.wk pz_wk_QE_QX z19)
        have hI : pz_im M19 := hS.1 hI0
        refine pz_nrc (c := 60) rfl ?_
        intro v29 e29 a29 b29
        rw [pz_wi (by first | decide | omega) (by first | decide | omega)] at e29
        clear a29 b29
        have lo31 : (0 : Int) ≤ v29 := by omega
        have tn31 : (((v29).toNat : Nat) : Int) = v29 := Int.toNat_of_nonneg lo31
        refine And.intro (lo31) (And.intro (show _ < (1725 : Int) from by omega) ?_)
        intro M31 e31
        have hS : pz_rl pz_QX M M31 := by
          rw [e31]
          exact pz_rl_u hS (by unfold pz_QX; first | decide | omega) (pz_iom_w1 (by first | decide | omega) (by first | decide | omega))
        have hI : pz_im M31 := hS.1 hI0
        refine pz_nrc (c := 60) rfl ?_
        intro v39 e39 a39 b39
        rw [pz_wi (by first | decide | omega) (by first | decide | omega)] at e39
        clear a39 b39
        have lo41 : (0 : Int) ≤ v39 := by omega
        have tn41 : (((v39).toNat : Nat) : Int) = v39 := Int.toNat_of_nonneg lo41
        refine And.intro (lo41) (And.intro (show _ < (1725 : Int) from by omega) ?_)
        intro M41 e41
        have hS : pz_rl pz_QX M M41 := by
          rw [e41]
          exact pz_rl_u hS (by unfold pz_QX; first | decide | omega) (pz_iom_w1 (by first | decide | omega) (by first | decide | omega))
        have hI : pz_im M41 := hS.1 hI0
        refine And.intro (hI) ?_
        intro M47 q47
        obtain ⟨q47, z47⟩ := q47
        have hS : pz_rl pz_QX M M47 := hS.tr (pz_rl.wk pz_wk_QD_QX z47)
        have hI : pz_im M47 := hS.1 hI0
        refine And.intro (by first | decide | omega) ?_
        refine And.intro rfl ?_
        refine ⟨⟨fun hn => absurd ?_ hn, fun hp => ?_⟩, hS⟩
        · show 0 ≤ i ∧ i < M 60 88 ∧ M 60 (52 + i.toNat) = 1
          rw [show (52 + i).toNat = 52 + i.toNat by omega] at q10
          omega
        · have W : M19 60 = M 60 := funext fun j => z19.2 60 j (by unfold pz_QE; first | decide | omega)
          have T : sd_Tr M19 = true := by
            unfold sd_Tr
            exact decide_eq_true (by rw [q19.1]; decide)
          have FR : ∀ b j : Nat, b = 62 ∨ (b = 1 ∧ j = 4) → M47 b j = M19 b j := fun b j y => (z47.2 b j (by unfold pz_QD; first | decide | omega)).trans (by rw [e41, pz_una (by first | decide | omega), e31, pz_una (by first | decide | omega)])
          refine ⟨⟨(FR 1 4 (by first | decide | omega)).trans q19.2.1, fun k => (FR 62 k (by first | decide | omega)).trans (q19.2.2 k)⟩, fun ls hl hq hW => ?_⟩
          have T41 : sd_Tr M41 = true := by
            unfold sd_Tr
            rw [e41, pz_una (by decide), e31, pz_una (by decide)]
            exact T
          rw [T41, e41, sd_um, e31, sd_um, W, show v29.toNat = 52 + i.toNat by omega, show v39.toNat = 40 + i.toNat by omega] at q47
          refine ⟨rfl, ?_⟩
          rw [q47]
          show sd_note true _ 6 i 0 = sd_note true _ 6 ((i.toNat : Nat) : Int) 0
          rw [show ((i.toNat : Nat) : Int) = i by omega]
      · skip
        replace q10 := q10.resolve_left (fun z => absurd (z.1.symm.trans h13) (by decide))
        refine And.intro (by first | decide | omega) ?_
        refine And.intro rfl ?_
        refine ⟨⟨fun _ => ⟨rfl, rfl⟩, fun hp => ?_⟩, hS⟩
        have hp : 0 ≤ i ∧ i < M 60 88 ∧ M 60 (52 + i.toNat) = 1 := hp
        exfalso
        first
          | omega
          | (rw [show (52 + i).toNat = 52 + i.toNat by omega] at q10
             omega)
theorem v3_X12_join {fr lo i : Nat} {own : String} (h1 : 2 + 1 ≤ fr) (h2 : 8 + (2 + 11) + 43 ≤ lo) (h3 : .methodLink own i yX12_join ∈ lw_tbl) : pz_cV fr lo own i k3_X12_join :=
  pz_cVk (maxL := 2) (fr' := 2) (lo' := 43) 1 12 h3_X12_join rfl ⟨(pz_nhc_RX12 yX12_join rfl).1, (pz_nhc_RX12 yX12_join rfl).2, pz_ds9⟩ ⟨pz_wq1526, pz_wq1524, pz_wq1525, pz_wq13⟩ (Or.inl ⟨TX12, 28, rfl⟩) (fun a M _ h => by
    have h : (match (generalizing := false) a with | [.inr (.inr (12, th)), .inl i] => pz_im M | _ => False) := h
    split at h
    · exact ⟨_, _, rfl⟩
    · exact h.elim) h1 h2 h3
noncomputable def k3_X12_days : pz_C := (2, 1, fun a M => (match a with | [.inr (.inr (12, th)), .inl n] => pz_im M | _ => False), fun a M r M' => (match a, r with | [.inr (.inr (12, th)), .inl n], some (.inl v) => (sd_dm M M' n v) ∧ pz_rl pz_QX M M' | _, _ => False))
noncomputable abbrev ct3_X12_days : List (Bool × Nat × pz_C) := [(false, 54, k_X12_isIn), (true, 330, k3_X12_keeps), (true, 388, k3_X12_aDay)]
set_option maxRecDepth 100000 in
set_option maxHeartbeats 4000000 in
theorem h3_X12_days : pz_H yX12_days cX12_days 4 (some .int) k3_X12_days 8 184 := by
  refine pz_mk (own := RX12) (tb := t_X12_days) (fl := pz_flf fl_RX12) (ci := pz_cif ci_RX12) (ct := pz_ctf ct3_X12_days) (rz := false) (pz_pfc_RX12 yX12_days rfl) rfl t_X12_days_ok (pz_flk fl_RX12_ok) (pz_cik ci_RX12_ok) ?_ ?_ (Or.inl ⟨rfl, rfl⟩) ?_ ?_
  · exact fun i k' h => pz_ctk (l := ct3_X12_days) (P := fun b i k => b = true → pz_cV 8 184 RX12 i k) (List.forall_mem_cons.mpr ⟨((fun z => by cases z)), List.forall_mem_cons.mpr ⟨(fun _ => v3_X12_keeps (by decide) (by decide) pz_wq1427), List.forall_mem_cons.mpr ⟨(fun _ => v3_X12_aDay (by decide) (by decide) pz_wq1531), fun _ h => absurd h List.not_mem_nil⟩⟩⟩) true i k' h rfl
  · exact fun i k' h => pz_ctk (l := ct3_X12_days) (P := fun b i k => b = false → (pz_cS 8 184 RX12 i k ∨ (k = pz_kac ∧ 1 ≤ 8 ∧ 60 ≤ 184 ∧ Cond.methodLink RX12 i arraycopyName ∈ pz_tbl))) (List.forall_mem_cons.mpr ⟨(fun _ => Or.inl (s_X12_isIn (by decide) (by decide) (Or.inl pz_wq1217))), List.forall_mem_cons.mpr ⟨((fun z => by cases z)), List.forall_mem_cons.mpr ⟨((fun z => by cases z)), fun _ h => absurd h List.not_mem_nil⟩⟩⟩) false i k' h rfl
  · intro a M hlen hpre
    obtain ⟨th, n, rfl, hpre⟩ : ∃ th n, a = [.inr (.inr (12, th)), .inl n] ∧ (pz_im M) := by
      have hpre : (match (generalizing := false) a with | [.inr (.inr (12, th)), .inl n] => pz_im M | _ => False) := hpre
      split at hpre
      · exact ⟨_, _, rfl, hpre⟩
      · exact hpre.elim
    exact Nat.le_of_ble_eq_true rfl
  · intro a M hlen hcan hM hpre Ok hgo
    obtain ⟨th, n, rfl, hpre⟩ : ∃ th n, a = [.inr (.inr (12, th)), .inl n] ∧ (pz_im M) := by
      have hpre : (match (generalizing := false) a with | [.inr (.inr (12, th)), .inl n] => pz_im M | _ => False) := hpre
      split at hpre
      · exact ⟨_, _, rfl, hpre⟩
      · exact hpre.elim
    obtain ⟨k_th, hc_th⟩ := pz_tlm hcan
    have k_th : pz_kd th = 12 ∧ th < 231 := k_th
    have R_th := pz_kd12 k_th.1
    subst R_th
    clear k_th
    obtain ⟨k_n, hc_n⟩ := pz_tlm hc_th
    have l_n : -2147483648 ≤ n := k_n.1
    have u_n : n ≤ 2147483647 := k_n.2
    have hI : pz_im M := hpre
    have hI0 := hI
    have hS : pz_rl pz_QX M M := pz_rl.rf
    have L30 : ∀ (fu : Nat) (x2 : Int) (x3 : Int) (N30 : pz_M), (60 - x3).toNat < fu → (pz_rl pz_QX M N30) → (0 ≤ x3) → (n ≤ 60) → (x3 ≤ n) → (1 ≤ n) → (sd_dmI M N30 n x3 x2) → (pz_w (M 60 0 + n) ≤ 9999) → Ok 30 [some (.inr (.inr (12, 1))), some (.inl n), some (.inl x2), some (.inl x3)] [] N30 := by
      intro fu
      induction fu with
      | zero => exact fun _ _ _ hn => absurd hn (Nat.not_lt_zero _)
      | succ fu ih30 =>
        intro x2 x3 N30 hn30 hS g30_1 g30_2 g30_3 g30_4 g30_5 g30_6
        have hI : pz_im N30 := hS.1 hI0
        have hS30 := hS
        refine hgo (fun p => Nat.beq p 30) 35 30 _ _ _ ?_
        refine And.intro (fun h32 => ?_) (fun h32 => ?_)
        · skip
          refine And.intro rfl ?_
          have G53 : sd_dmI M N30 n x3 x2 := by assumption
          refine ⟨⟨fun hn => absurd ?_ hn, fun _ => sd_dmI_z G53 (by first | decide | omega)⟩, hS⟩
          unfold sd_dn
          omega
        · skip
          refine And.intro (hI) ?_
          intro M36 q36
          obtain ⟨q36, z36⟩ := q36
          have hS : pz_rl pz_QX M M36 := hS.tr (pz_rl.wk pz_wk_QE_QX z36)
          have hI : pz_im M36 := hS.1 hI0
          refine And.intro (hI) ?_
          intro v41 M41 a41 b41 q41
          obtain ⟨q41, z41⟩ := q41
          have hS : pz_rl pz_QX M M41 := hS.tr (pz_rl.wk pz_wk_QD_QX z41)
          have hI : pz_im M41 := hS.1 hI0
          intro v44 e44 a44 b44
          intro v46 e46 a46 b46
          rw [pz_wi (by first | decide | omega) (by first | decide | omega)] at e46
          have G46 : sd_dmI M M41 n v46 v44 := sd_dmI_s (by assumption) (by first | decide | omega) e46 q36 z36 q41 z41 e44
          exact ih30 _ _ _ (by first | decide | omega) hS (by first | omega | assumption | exact sd_dmI_0) (by first | omega | assumption | exact sd_dmI_0) (by first | omega | assumption | exact sd_dmI_0) (by first | omega | assumption | exact sd_dmI_0) (by first | omega | assumption | exact sd_dmI_0) (by first | omega | assumption | exact sd_dmI_0)
    refine hgo (fun p => Nat.beq p 30) 35 0 _ [] M ?_
    refine And.intro (True.intro) ?_
    intro v4 M4 a4 b4 q4
    obtain ⟨q4, z4⟩ := q4
    subst z4
    clear a4 b4
    refine And.intro (fun h7 => ?_) (fun h7 => ?_)
    · skip
      replace q4 := q4.resolve_left (fun z => absurd (z.1.symm.trans h7) (by decide))
      clear h7
      refine And.intro rfl ?_
      refine ⟨⟨fun _ => ⟨rfl, rfl⟩, fun hp => ?_⟩, hS⟩
      unfold sd_dn at hp
      exfalso
      first
        | omega
        | (rw [e17, e15] at h21
           omega)
    · skip
      replace q4 := q4.resolve_right (fun z => h7 z.1)
      clear h7
      refine pz_nrc (c := 60) rfl ?_
      refine And.intro (by first | decide | omega) (And.intro (show _ < (1725 : Int) from by omega) ?_)
      intro v15 e15 a15 b15
      replace e15 : v15 = M 60 0 := e15
      intro v17 e17 a17 b17
      refine And.intro (fun h21 => ?_) (fun h21 => ?_)
      · skip
        rw [e17, e15] at h21
        exact L30 _ _ _ _ (Nat.lt_succ_self _) hS (by first | omega | assumption | exact sd_dmI_0) (by first | omega | assumption | exact sd_dmI_0) (by first | omega | assumption | exact sd_dmI_0) (by first | omega | assumption | exact sd_dmI_0) (by first | omega | assumption | exact sd_dmI_0) (by first | omega | assumption | exact sd_dmI_0)
      · skip
        skip
        refine And.intro rfl ?_
        refine ⟨⟨fun _ => ⟨rfl, rfl⟩, fun hp => ?_⟩, hS⟩
        unfold sd_dn at hp
        exfalso
        first
          | omega
          | (rw [e17, e15] at h21
             omega)
theorem v3_X12_days {fr lo i : Nat} {own : String} (h1 : 8 + 1 ≤ fr) (h2 : 8 + (4 + 11) + 184 ≤ lo) (h3 : .methodLink own i yX12_days ∈ lw_tbl) : pz_cV fr lo own i k3_X12_days :=
  pz_cVk (maxL := 4) (fr' := 8) (lo' := 184) 1 12 h3_X12_days rfl ⟨(pz_nhc_RX12 yX12_days rfl).1, (pz_nhc_RX12 yX12_days rfl).2, pz_ds5⟩ ⟨pz_wq1530, pz_wq1528, pz_wq1529, pz_wq13⟩ (Or.inl ⟨TX12, 28, rfl⟩) (fun a M _ h => by
    have h : (match (generalizing := false) a with | [.inr (.inr (12, th)), .inl n] => pz_im M | _ => False) := h
    split at h
    · exact ⟨_, _, rfl⟩
    · exact h.elim) h1 h2 h3
end
section
noncomputable def k3_X12_goes : pz_C := (3, 1, fun a M => (match a with | [.inr (.inr (12, th)), .inl n, .inl w] => pz_im M | _ => False), fun a M r M' => (match a, r with | [.inr (.inr (12, th)), .inl n, .inl w], some (.inl v) => (sd_gm M M' n w v) ∧ pz_rl pz_QG M M' | _, _ => False))
noncomputable abbrev ct3_X12_goes : List (Bool × Nat × pz_C) := [(false, 54, k_X12_isIn), (true, 388, k3_X12_aDay), (true, 395, k3_X12_movedOnes), (false, 398, k3_X12_count), (true, 401, k3_X12_latestMoved)]
theorem pz_wk_QD_QG : ∀ b j, pz_QD b j → pz_QG b j := by
  intro b j q
  unfold pz_QD at q
  unfold pz_QG
  omega
set_option maxRecDepth 100000 in
set_option maxHeartbeats 4000000 in
theorem h3_X12_goes : pz_H yX12_goes cX12_goes 5 (some .int) k3_X12_goes 8 184 := by
  refine pz_mk (own := RX12) (tb := t_X12_goes) (fl := pz_flf fl_RX12) (ci := pz_cif ci_RX12) (ct := pz_ctf ct3_X12_goes) (rz := false) (pz_pfc_RX12 yX12_goes rfl) rfl t_X12_goes_ok (pz_flk fl_RX12_ok) (pz_cik ci_RX12_ok) ?_ ?_ (Or.inl ⟨rfl, rfl⟩) ?_ ?_
  · exact fun i k' h => pz_ctk (l := ct3_X12_goes) (P := fun b i k => b = true → pz_cV 8 184 RX12 i k) (List.forall_mem_cons.mpr ⟨((fun z => by cases z)), List.forall_mem_cons.mpr ⟨(fun _ => v3_X12_aDay (by decide) (by decide) pz_wq1531), List.forall_mem_cons.mpr ⟨(fun _ => v3_X12_movedOnes (by decide) (by decide) pz_wq1602), List.forall_mem_cons.mpr ⟨((fun z => by cases z)), List.forall_mem_cons.mpr ⟨(fun _ => v3_X12_latestMoved (by decide) (by decide) pz_wq1609), fun _ h => absurd h List.not_mem_nil⟩⟩⟩⟩⟩) true i k' h rfl
  · exact fun i k' h => pz_ctk (l := ct3_X12_goes) (P := fun b i k => b = false → (pz_cS 8 184 RX12 i k ∨ (k = pz_kac ∧ 1 ≤ 8 ∧ 60 ≤ 184 ∧ Cond.methodLink RX12 i arraycopyName ∈ pz_tbl))) (List.forall_mem_cons.mpr ⟨(fun _ => Or.inl (s_X12_isIn (by decide) (by decide) (Or.inl pz_wq1217))), List.forall_mem_cons.mpr ⟨((fun z => by cases z)), List.forall_mem_cons.mpr ⟨((fun z => by cases z)), List.forall_mem_cons.mpr ⟨(fun _ => Or.inl (s3_X12_count (by decide) (by decide) (Or.inl pz_wq1606))), List.forall_mem_cons.mpr ⟨((fun z => by cases z)), fun _ h => absurd h List.not_mem_nil⟩⟩⟩⟩⟩) false i k' h rfl
  · intro a M hlen hpre
    obtain ⟨th, n, w, rfl, hpre⟩ : ∃ th n w, a = [.inr (.inr (12, th)), .inl n, .inl w] ∧ (pz_im M) := by
      have hpre : (match (generalizing := false) a with | [.inr (.inr (12, th)), .inl n, .inl w] => pz_im M | _ => False) := hpre
      split at hpre
      · exact ⟨_, _, _, rfl, hpre⟩
      · exact hpre.elim
    exact Nat.le_of_ble_eq_true rfl
  · intro a M hlen hcan hM hpre Ok hgo
    obtain ⟨th, n, w, rfl, hpre⟩ : ∃ th n w, a = [.inr (.inr (12, th)), .inl n, .inl w] ∧ (pz_im M) := by
      have hpre : (match (generalizing := false) a with | [.inr (.inr (12, th)), .inl n, .inl w] => pz_im M | _ => False) := hpre
      split at hpre
      · exact ⟨_, _, _, rfl, hpre⟩
      · exact hpre.elim
    obtain ⟨k_th, hc_th⟩ := pz_tlm hcan
    have k_th : pz_kd th = 12 ∧ th < 231 := k_th
    have R_th := pz_kd12 k_th.1
    subst R_th
    clear k_th
    obtain ⟨k_n, hc_n⟩ := pz_tlm hc_th
    have l_n : -2147483648 ≤ n := k_n.1
    have u_n : n ≤ 2147483647 := k_n.2
    obtain ⟨k_w, hc_w⟩ := pz_tlm hc_n
    have l_w : -2147483648 ≤ w := k_w.1
    have u_w : w ≤ 2147483647 := k_w.2
    have hI : pz_im M := hpre
    have hI0 := hI
    have hS : pz_rl pz_QG M M := pz_rl.rf
    have L107 : ∀ (fu : Nat) (x3 : Int) (x4 : Int) (N107 : pz_M), (88 - x4).toNat < fu → (pz_rl pz_QG M N107) → (0 ≤ x4) → (x4 ≤ 88) → (sd_gq n w) → (∀ (ls : List pz_lne) (l1 : List (List Int)), sd_tm (M 60) ls l1 → sd_wf (M 60) → x3 = sd_gw (sd_gt ls l1 n.toNat (M 60)) w ∧ sd_no (M 60) (N107 60)) → (∀ j : Nat, j < 88 → N107 63 j = M 60 j) → (∀ j : Nat, (j : Int) < x4 → N107 60 j = M 60 j) → Ok 107 [some (.inr (.inr (12, 1))), some (.inl n), some (.inl w), some (.inl x3), some (.inl x4)] [] N107 := by
      intro fu
      induction fu with
      | zero => exact fun _ _ _ hn => absurd hn (Nat.not_lt_zero _)
      | succ fu ih107 =>
        intro x3 x4 N107 hn107 hS g107_1 g107_2 g107_3 g107_4 g107_5 g107_6
        have hI : pz_im N107 := hS.1 hI0
        refine hgo (fun p => Nat.beq p 24 || Nat.beq p 55 || Nat.beq p 103 || Nat.beq p 107) 76 107 _ _ _ ?_
        refine And.intro (fun h111 => ?_) (fun h111 => ?_)
        · skip
          refine And.intro rfl ?_
          refine ⟨⟨fun hn => absurd (by assumption) hn, fun _ ls l1 hT hW => ?_⟩, hS⟩
          have a : ∀ (ls : List pz_lne) (l1 : List (List Int)), sd_tm (M 60) ls l1 → sd_wf (M 60) → x3 = sd_gw (sd_gt ls l1 n.toNat (M 60)) w ∧ sd_no (M 60) (N107 60) := by assumption
          have b : ∀ j : Nat, (j : Int) < x4 → N107 60 j = M 60 j := by assumption
          obtain ⟨a1, a2⟩ := a ls l1 hT hW
          refine ⟨a1, funext fun j => ?_⟩
          by_cases y : j < 88
          · exact b j (by first | decide | omega)
          · exact a2 j (by first | decide | omega)
        · skip
          refine pz_nrc (c := 60) rfl ?_
          refine pz_nrc (c := 63) rfl ?_
          have lo126 : (0 : Int) ≤ x4 := by omega
          have tn126 : (((x4).toNat : Nat) : Int) = x4 := Int.toNat_of_nonneg lo126
          refine And.intro (lo126) (And.intro (show _ < (88 : Int) from by omega) ?_)
          intro v126 e126 a126 b126
          have J126 : x4 = 3 → 0 ≤ v126 ∧ v126 ≤ 150 := fun q => by
            rw [e126, q]
            exact hI.2.1.2.2.1
          refine And.intro (lo126) (And.intro (show _ < (1725 : Int) from by omega) ?_)
          intro M127 e127
          have hS : pz_rl pz_QG M M127 := by
            rw [e127]
            exact pz_rl_u hS (by unfold pz_QG; first | decide | omega) (pz_iom_u (by first | decide | omega) (fun q => J126 (by first | decide | omega)))
          have hI : pz_im M127 := hS.1 hI0
          have G127a : ∀ j : Nat, j < 88 → M127 63 j = M 60 j := fun j hj => by
            have a : ∀ j : Nat, j < 88 → N107 63 j = M 60 j := by assumption
            rw [e127, pz_una (by decide)]
            exact a j hj
          have G127b : ∀ j : Nat, (j : Int) < x4 + 1 → M127 60 j = M 60 j := fun j hj => by
            have a : ∀ j : Nat, j < 88 → N107 63 j = M 60 j := by assumption
            have b : ∀ j : Nat, (j : Int) < x4 → N107 60 j = M 60 j := by assumption
            rw [pz_u64 e127 j]
            by_cases y : j = x4.toNat
            · rw [if_pos y, e126, a _ (by first | decide | omega), y]
            · rw [if_neg y]
              exact b j (by first | decide | omega)
          have G127c : ∀ (ls : List pz_lne) (l1 : List (List Int)), sd_tm (M 60) ls l1 → sd_wf (M 60) → x3 = sd_gw (sd_gt ls l1 n.toNat (M 60)) w ∧ sd_no (M 60) (M127 60) := fun ls l1 hT hW => by
            have a : ∀ (ls : List pz_lne) (l1 : List (List Int)), sd_tm (M 60) ls l1 → sd_wf (M 60) → x3 = sd_gw (sd_gt ls l1 n.toNat (M 60)) w ∧ sd_no (M 60) (N107 60) := by assumption
            obtain ⟨a1, a2⟩ := a ls l1 hT hW
            refine ⟨a1, fun k hk => ?_⟩
            rw [pz_u64 e127 k, if_neg (by first | decide | omega)]
            exact a2 k hk
          intro v128 e128 a128 b128
          rw [pz_wi (by first | decide | omega) (by first | decide | omega)] at e128
          have G128 : ∀ j : Nat, (j : Int) < v128 → M127 60 j = M 60 j := by
            rw [e128]
            exact G127b
          exact ih107 _ _ _ (by first | decide | omega) hS (by first | omega | assumption | exact fun j hj => absurd hj (by first | decide | omega)) (by first | omega | assumption | exact fun j hj => absurd hj (by first | decide | omega)) (by first | omega | assumption | exact fun j hj => absurd hj (by first | decide | omega)) (by first | omega | assumption | exact fun j hj => absurd hj (by first | decide | omega)) (by first | omega | assumption | exact fun j hj => absurd hj (by first | decide | omega)) (by first | omega | assumption | exact fun j hj => absurd hj (by first | decide | omega))
    have L103 : ∀ (x3 : Int) (d4 : Option pz_V) (s0 : Int) (N103 : pz_M), (pz_rl pz_QG M N103) → (sd_gq n w) → (∀ (ls : List pz_lne) (l1 : List (List Int)), sd_tm (M 60) ls l1 → sd_wf (M 60) → s0 = sd_gw (sd_gt ls l1 n.toNat (M 60)) w ∧ sd_no (M 60) (N103 60)) → (∀ j : Nat, j < 88 → N103 63 j = M 60 j) → Ok 103 [some (.inr (.inr (12, 1))), some (.inl n), some (.inl w), some (.inl x3), d4] [.inl s0] N103 := by
      intro x3 d4 s0 N103 hS g103_1 g103_2 g103_3
      have hI : pz_im N103 := hS.1 hI0
      refine hgo (fun p => Nat.beq p 24 || Nat.beq p 55 || Nat.beq p 103 || Nat.beq p 107) 76 103 _ _ _ ?_
      exact L107 _ _ _ _ (Nat.lt_succ_self _) hS (by first | omega | assumption | exact fun j hj => absurd hj (by first | decide | omega)) (by first | omega | assumption | exact fun j hj => absurd hj (by first | decide | omega)) (by first | omega | assumption | exact fun j hj => absurd hj (by first | decide | omega)) (by first | omega | assumption | exact fun j hj => absurd hj (by first | decide | omega)) (by first | omega | assumption | exact fun j hj => absurd hj (by first | decide | omega)) (by first | omega | assumption | exact fun j hj => absurd hj (by first | decide | omega))
    have L55 : ∀ (fu : Nat) (x3 : Int) (d4 : Option pz_V) (N55 : pz_M), (99 - x3).toNat < fu → (pz_rl pz_QG M N55) → (0 ≤ x3) → (n ≤ 99) → (x3 ≤ n) → (sd_gq n w) → (sd_gmI M N55 n x3) → (∀ j : Nat, j < 88 → N55 63 j = M 60 j) → (N55 1 26 = 0) → Ok 55 [some (.inr (.inr (12, 1))), some (.inl n), some (.inl w), some (.inl x3), d4] [] N55 := by
      intro fu
      induction fu with
      | zero => exact fun _ _ _ hn => absurd hn (Nat.not_lt_zero _)
      | succ fu ih55 =>
        intro x3 d4 N55 hn55 hS g55_1 g55_2 g55_3 g55_4 g55_5 g55_6 g55_7
        have hI : pz_im N55 := hS.1 hI0
        refine hgo (fun p => Nat.beq p 24 || Nat.beq p 55 || Nat.beq p 103 || Nat.beq p 107) 76 55 _ _ _ ?_
        refine And.intro (fun h57 => ?_) (fun h57 => ?_)
        · skip
          refine And.intro (fun h72 => ?_) (fun h72 => ?_)
          · skip
            refine And.intro (fun h87 => ?_) (fun h87 => ?_)
            · skip
              refine pz_nrc (c := 60) rfl ?_
              refine And.intro (by first | decide | omega) (And.intro (show _ < (1725 : Int) from by omega) ?_)
              intro v102 e102 a102 b102
              replace e102 : v102 = N55 60 1 := e102
              have G102 : ∀ (ls : List pz_lne) (l1 : List (List Int)), sd_tm (M 60) ls l1 → sd_wf (M 60) → v102 = sd_gw (sd_gt ls l1 n.toNat (M 60)) w ∧ sd_no (M 60) (N55 60) := fun ls l1 hT hW => by
                have g : sd_gmI M N55 n x3 := by assumption
                obtain ⟨a, b, c⟩ := sd_gmI_z g (by first | decide | omega) hT hW
                refine ⟨?_, c⟩
                unfold sd_gw
                rw [if_neg (by first | decide | omega), if_neg (by first | decide | omega), ← a]
                exact e102
              exact L103 _ _ _ _ hS (by first | omega | assumption) (by first | omega | assumption) (by first | omega | assumption)
            · skip
              refine And.intro (hI) ?_
              intro v91 M91 a91 b91 q91
              obtain ⟨q91, z91⟩ := q91
              subst z91
              have G91 : ∀ (ls : List pz_lne) (l1 : List (List Int)), sd_tm (M 60) ls l1 → sd_wf (M 60) → v91 = sd_gw (sd_gt ls l1 n.toNat (M 60)) w ∧ sd_no (M 60) (N55 60) := fun ls l1 hT hW => by
                have g : sd_gmI M N55 n x3 := by assumption
                obtain ⟨a, b, c⟩ := sd_gmI_z g (by first | decide | omega) hT hW
                refine ⟨?_, c⟩
                unfold sd_gw
                rw [if_neg (by first | decide | omega), if_pos (by first | decide | omega), ← a]
                exact q91
              exact L103 _ _ _ _ hS (by first | omega | assumption) (by first | omega | assumption) (by first | omega | assumption)
          · skip
            refine And.intro (hI) ?_
            intro v76 M76 a76 b76 q76
            obtain ⟨q76, z76⟩ := q76
            subst z76
            refine And.intro (True.intro) ?_
            intro v79 M79 a79 b79 q79
            obtain ⟨q79, z79⟩ := q79
            subst z79
            have G79 : ∀ (ls : List pz_lne) (l1 : List (List Int)), sd_tm (M 60) ls l1 → sd_wf (M 60) → v79 = sd_gw (sd_gt ls l1 n.toNat (M 60)) w ∧ sd_no (M 60) (N55 60) := fun ls l1 hT hW => by
              have g : sd_gmI M N55 n x3 := by assumption
              obtain ⟨a, b, c⟩ := sd_gmI_z g (by first | decide | omega) hT hW
              refine ⟨?_, c⟩
              unfold sd_gw
              rw [if_pos (by first | decide | omega), ← a]
              exact q79 _ q76
            exact L103 _ _ _ _ hS (by first | omega | assumption) (by first | omega | assumption) (by first | omega | assumption)
        · skip
          refine And.intro (hI) ?_
          intro v61 M61 a61 b61 q61
          obtain ⟨q61, z61⟩ := q61
          have hS : pz_rl pz_QG M M61 := hS.tr (pz_rl.wk pz_wk_QD_QG z61)
          have hI : pz_im M61 := hS.1 hI0
          have G61a : ∀ j : Nat, j < 88 → M61 63 j = M 60 j := fun j hj => by
            have a : ∀ j : Nat, j < 88 → N55 63 j = M 60 j := by assumption
            rw [z61.2 63 j (by unfold pz_QD; first | decide | omega)]
            exact a j hj
          have G61b : M61 1 26 = 0 := by
            have a : N55 1 26 = 0 := by assumption
            rw [z61.2 1 26 (by unfold pz_QD; first | decide | omega)]
            exact a
          intro v65 e65 a65 b65
          rw [pz_wi (by first | decide | omega) (by first | decide | omega)] at e65
          have G65 : sd_gmI M M61 n v65 := sd_gmI_s (by assumption) (by first | decide | omega) e65 (by assumption) q61
          exact ih55 _ _ _ (by first | decide | omega) hS (by first | omega | assumption) (by first | omega | assumption) (by first | omega | assumption) (by first | omega | assumption) (by first | omega | assumption) (by first | omega | assumption) (by first | omega | assumption)
    have L24 : ∀ (fu : Nat) (x3 : Int) (d4 : Option pz_V) (N24 : pz_M), (88 - x3).toNat < fu → (pz_rl pz_QG M N24) → (0 ≤ x3) → (n ≤ 99) → (x3 ≤ 88) → (0 ≤ n) → (sd_gq n w) → (∀ j : Nat, (j : Int) < x3 → N24 63 j = M 60 j) → (∀ j : Nat, N24 60 j = M 60 j) → Ok 24 [some (.inr (.inr (12, 1))), some (.inl n), some (.inl w), some (.inl x3), d4] [] N24 := by
      intro fu
      induction fu with
      | zero => exact fun _ _ _ hn => absurd hn (Nat.not_lt_zero _)
      | succ fu ih24 =>
        intro x3 d4 N24 hn24 hS g24_1 g24_2 g24_3 g24_4 g24_5 g24_6 g24_7
        have hI : pz_im N24 := hS.1 hI0
        refine hgo (fun p => Nat.beq p 24 || Nat.beq p 55 || Nat.beq p 103 || Nat.beq p 107) 76 24 _ _ _ ?_
        refine And.intro (fun h27 => ?_) (fun h27 => ?_)
        · skip
          refine And.intro (by first | decide | omega) ?_
          intro M50 e50
          have hS : pz_rl pz_QG M M50 := by
            rw [e50]
            exact pz_rl_u hS (by unfold pz_QG; decide) (pz_iom_f (by decide))
          have hI : pz_im M50 := hS.1 hI0
          have G50a : ∀ j : Nat, j < 88 → M50 63 j = M 60 j := fun j hj => by
            have a : ∀ j : Nat, (j : Int) < x3 → N24 63 j = M 60 j := by assumption
            rw [e50, pz_una (by decide)]
            exact a j (by first | decide | omega)
          have G50b : M50 1 26 = 0 := by
            rw [e50]
            exact pz_uu
          have G50c : sd_gmI M M50 n 0 := sd_gmI_0 (funext fun j => by
            have b : ∀ j : Nat, N24 60 j = M 60 j := by assumption
            rw [e50, pz_una (by decide)]
            exact b j)
          exact L55 _ _ _ _ (Nat.lt_succ_self _) hS (by first | omega | assumption) (by first | omega | assumption) (by first | omega | assumption) (by first | omega | assumption) (by first | omega | assumption) (by first | omega | assumption) (by first | omega | assumption)
        · skip
          refine pz_nrc (c := 63) rfl ?_
          refine pz_nrc (c := 60) rfl ?_
          have lo40 : (0 : Int) ≤ x3 := by omega
          have tn40 : (((x3).toNat : Nat) : Int) = x3 := Int.toNat_of_nonneg lo40
          refine And.intro (lo40) (And.intro (show _ < (1725 : Int) from by omega) ?_)
          intro v40 e40 a40 b40
          have J40 : x3 = 3 → 0 ≤ v40 ∧ v40 ≤ 150 := fun q => by
            rw [e40, q]
            exact hI.1.2.2.2.2
          refine And.intro (lo40) (And.intro (show _ < (88 : Int) from by omega) ?_)
          intro M41 e41
          have hS : pz_rl pz_QG M M41 := by
            rw [e41]
            exact pz_rl_u hS (by unfold pz_QG; first | decide | omega) (pz_iom_63 (fun q => J40 (by first | decide | omega)))
          have hI : pz_im M41 := hS.1 hI0
          have G41a : ∀ j : Nat, (j : Int) < x3 + 1 → M41 63 j = M 60 j := fun j hj => by
            have a : ∀ j : Nat, (j : Int) < x3 → N24 63 j = M 60 j := by assumption
            have b : ∀ j : Nat, N24 60 j = M 60 j := by assumption
            rw [pz_u64 e41 j]
            by_cases y : j = x3.toNat
            · rw [if_pos y, e40, b, y]
            · rw [if_neg y]
              exact a j (by first | decide | omega)
          have G41b : ∀ j : Nat, M41 60 j = M 60 j := fun j => by
            have b : ∀ j : Nat, N24 60 j = M 60 j := by assumption
            rw [e41, pz_una (by decide)]
            exact b j
          intro v42 e42 a42 b42
          rw [pz_wi (by first | decide | omega) (by first | decide | omega)] at e42
          have G42 : ∀ j : Nat, (j : Int) < v42 → M41 63 j = M 60 j := by
            rw [e42]
            exact G41a
          exact ih24 _ _ _ (by first | decide | omega) hS (by first | omega | assumption | exact fun j hj => absurd hj (by first | decide | omega) | exact fun _ => rfl) (by first | omega | assumption | exact fun j hj => absurd hj (by first | decide | omega) | exact fun _ => rfl) (by first | omega | assumption | exact fun j hj => absurd hj (by first | decide | omega) | exact fun _ => rfl) (by first | omega | assumption | exact fun j hj => absurd hj (by first | decide | omega) | exact fun _ => rfl) (by first | omega | assumption | exact fun j hj => absurd hj (by first | decide | omega) | exact fun _ => rfl) (by first | omega | assumption | exact fun j hj => absurd hj (by first | decide | omega) | exact fun _ => rfl) (by first | omega | assumption | exact fun j hj => absurd hj (by first | decide | omega) | exact fun _ => rfl)
    refine hgo (fun p => Nat.beq p 24 || Nat.beq p 55 || Nat.beq p 103 || Nat.beq p 107) 76 0 _ [] M ?_
    refine And.intro (True.intro) ?_
    intro v4 M4 a4 b4 q4
    obtain ⟨q4, z4⟩ := q4
    subst z4
    clear a4 b4
    refine And.intro (fun h7 => ?_) (fun h7 => ?_)
    · skip
      replace q4 := q4.resolve_left (fun z => absurd (z.1.symm.trans h7) (by decide))
      clear h7
      refine And.intro rfl ?_
      refine ⟨⟨fun _ => ⟨rfl, rfl⟩, fun hq => ?_⟩, hS⟩
      unfold sd_gq at hq
      exfalso
      omega
    · skip
      replace q4 := q4.resolve_right (fun z => h7 z.1)
      clear h7
      refine And.intro (True.intro) ?_
      intro v13 M13 a13 b13 q13
      obtain ⟨q13, z13⟩ := q13
      subst z13
      clear a13 b13
      refine And.intro (fun h16 => ?_) (fun h16 => ?_)
      · skip
        have GQ : sd_gq n w := by
          unfold sd_gq
          omega
        replace q13 := q13.resolve_right (fun z => h16 z.1)
        clear h16
        exact L24 _ _ _ _ (Nat.lt_succ_self _) hS (by first | omega | assumption | exact fun j hj => absurd hj (by first | decide | omega) | exact fun _ => rfl) (by first | omega | assumption | exact fun j hj => absurd hj (by first | decide | omega) | exact fun _ => rfl) (by first | omega | assumption | exact fun j hj => absurd hj (by first | decide | omega) | exact fun _ => rfl) (by first | omega | assumption | exact fun j hj => absurd hj (by first | decide | omega) | exact fun _ => rfl) (by first | omega | assumption | exact fun j hj => absurd hj (by first | decide | omega) | exact fun _ => rfl) (by first | omega | assumption | exact fun j hj => absurd hj (by first | decide | omega) | exact fun _ => rfl) (by first | omega | assumption | exact fun j hj => absurd hj (by first | decide | omega) | exact fun _ => rfl)
      · skip
        skip
        replace q13 := q13.resolve_left (fun z => absurd (z.1.symm.trans h16) (by decide))
        clear h16
        refine And.intro rfl ?_
        refine ⟨⟨fun _ => ⟨rfl, rfl⟩, fun hq => ?_⟩, hS⟩
        unfold sd_gq at hq
        exfalso
        omega
theorem v3_X12_goes {fr lo i : Nat} {own : String} (h1 : 8 + 1 ≤ fr) (h2 : 8 + (5 + 11) + 184 ≤ lo) (h3 : .methodLink own i yX12_goes ∈ lw_tbl) : pz_cV fr lo own i k3_X12_goes :=
  pz_cVk (maxL := 5) (fr' := 8) (lo' := 184) 2 12 h3_X12_goes rfl ⟨(pz_nhc_RX12 yX12_goes rfl).1, (pz_nhc_RX12 yX12_goes rfl).2, pz_ds10⟩ ⟨pz_wq1601, pz_wq1599, pz_wq1600, pz_wq13⟩ (Or.inl ⟨TX12, 28, rfl⟩) (fun a M _ h => by
    have h : (match (generalizing := false) a with | [.inr (.inr (12, th)), .inl n, .inl w] => pz_im M | _ => False) := h
    split at h
    · exact ⟨_, _, rfl⟩
    · exact h.elim) h1 h2 h3
end
