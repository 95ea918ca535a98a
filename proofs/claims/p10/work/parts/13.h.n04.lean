section
noncomputable def k_X11_undo : pz_C := (1, 1, fun a M => (match a with | [.inr (.inr (11, th))] => pz_ic M | _ => False), fun a M r M' => (match a, r with | [.inr (.inr (11, th))], some (.inl v) => ((M 3 2 = 0 ∧ v = 0 ∧ M' = M) ∨ (M 3 2 ≠ 0 ∧ v = 1 ∧ M' = pz_bf M)) ∧ pz_sW M M' | _, _ => False))
noncomputable abbrev ct_X11_undo : List (Bool × Nat × pz_C) := [(true, 349, k_X2_goBack)]
set_option maxRecDepth 100000 in
set_option maxHeartbeats 4000000 in
theorem h_X11_undo : pz_H yX11_undo cX11_undo 1 (some .boolean) k_X11_undo 3 64 := by
  refine pz_mk (own := RX11) (tb := t_X11_undo) (fl := pz_flf fl_RX11) (ci := pz_cif ci_RX11) (ct := pz_ctf ct_X11_undo) (rz := true) (pz_pfc_RX11 yX11_undo rfl) rfl t_X11_undo_ok (pz_flk fl_RX11_ok) (pz_cik ci_RX11_ok) ?_ ?_ (Or.inr ⟨rfl, rfl⟩) ?_ ?_
  · exact fun i k' h => pz_ctk (l := ct_X11_undo) (P := fun b i k => b = true → pz_cV 3 64 RX11 i k) (List.forall_mem_cons.mpr ⟨(fun _ => v_X2_goBack (by decide) (by decide) pz_wq1094), fun _ h => absurd h List.not_mem_nil⟩) true i k' h rfl
  · exact fun i k' h => pz_ctk (l := ct_X11_undo) (P := fun b i k => b = false → (pz_cS 3 64 RX11 i k ∨ (k = pz_kac ∧ 1 ≤ 3 ∧ 60 ≤ 64 ∧ Cond.methodLink RX11 i arraycopyName ∈ pz_tbl))) (List.forall_mem_cons.mpr ⟨((fun z => by cases z)), fun _ h => absurd h List.not_mem_nil⟩) false i k' h rfl
  · intro a M hlen hpre
    obtain ⟨th, rfl, hpre⟩ : ∃ th, a = [.inr (.inr (11, th))] ∧ (pz_ic M) := by
      have hpre : (match (generalizing := false) a with | [.inr (.inr (11, th))] => pz_ic M | _ => False) := hpre
      split at hpre
      · exact ⟨_, rfl, hpre⟩
      · exact hpre.elim
    exact Nat.le_of_ble_eq_true rfl
  · intro a M hlen hcan hM hpre Ok hgo
    obtain ⟨th, rfl, hpre⟩ : ∃ th, a = [.inr (.inr (11, th))] ∧ (pz_ic M) := by
      have hpre : (match (generalizing := false) a with | [.inr (.inr (11, th))] => pz_ic M | _ => False) := hpre
      split at hpre
      · exact ⟨_, rfl, hpre⟩
      · exact hpre.elim
    obtain ⟨k_th, hc_th⟩ := pz_tlm hcan
    have k_th : pz_kd th = 11 ∧ th < 231 := k_th
    have R_th := pz_kd11 k_th.1
    subst R_th
    have hI : pz_ic M := hpre
    have hI0 := hI
    have hS : pz_sW M M := pz_sW.rf
    refine hgo (fun _ => false) 8 0 _ [] M ?_
    refine pz_nrc (c := 3) rfl ?_
    refine pz_nrc (c := 71) rfl ?_
    refine And.intro (And.intro hI (by omega)) ?_
    intro v8 M8 a8 b8 q8
    obtain ⟨q8, z8⟩ := q8
    have hS : pz_sW M M8 := hS.tr z8
    have hI : pz_ic M8 := hS.1.1 hI0
    refine And.intro (by omega) ?_
    refine And.intro rfl ?_
    exact ⟨q8, hS⟩
theorem v_X11_undo {fr lo i : Nat} {own : String} (h1 : 3 + 1 ≤ fr) (h2 : 8 + (1 + 11) + 64 ≤ lo) (h3 : .methodLink own i yX11_undo ∈ lw_tbl) : pz_cV fr lo own i k_X11_undo :=
  pz_cVk (maxL := 1) (fr' := 3) (lo' := 64) 0 11 h_X11_undo rfl ⟨(pz_nhc_RX11 yX11_undo rfl).1, (pz_nhc_RX11 yX11_undo rfl).2, pz_ds3⟩ ⟨pz_wq1093, pz_wq1091, pz_wq1092, pz_wq1⟩ (Or.inl ⟨TX11, 14, rfl⟩) (fun a M _ h => by
    have h : (match (generalizing := false) a with | [.inr (.inr (11, th))] => pz_ic M | _ => False) := h
    split at h
    · exact ⟨_, _, rfl⟩
    · exact h.elim) h1 h2 h3
end
section
noncomputable def k_X11_feed : pz_C := (6, 1, fun a M => (match a with | [.inr (.inr (11, th)), .inl p, .inl q, .inl w, .inl s, .inl u] => pz_ic M | _ => False), fun a M r M' => (match a, r with | [.inr (.inr (11, th)), .inl p, .inl q, .inl w, .inl s, .inl u], some (.inl v) => ((M 4 1 + 20 ≤ 400 ∧ v = M 4 1 + 20 ∧ M' 4 1 = M 4 1 + 20 ∧ pz_fb M M' p q w s u) ∨ (¬ M 4 1 + 20 ≤ 400 ∧ v = -1 ∧ M' = M)) ∧ pq_pr pq_Pf M M' | _, _ => False))
noncomputable abbrev ct_X11_feed : List (Bool × Nat × pz_C) := [(true, 191, k_X7_put)]
set_option maxRecDepth 100000 in
set_option maxHeartbeats 4000000 in
theorem h_X11_feed : pz_H yX11_feed cX11_feed 6 (some .int) k_X11_feed 1 22 := by
  refine pz_mk (own := RX11) (tb := t_X11_feed) (fl := pz_flf fl_RX11) (ci := pz_cif ci_RX11) (ct := pz_ctf ct_X11_feed) (rz := false) (pz_pfc_RX11 yX11_feed rfl) rfl t_X11_feed_ok (pz_flk fl_RX11_ok) (pz_cik ci_RX11_ok) ?_ ?_ (Or.inl ⟨rfl, rfl⟩) ?_ ?_
  · exact fun i k' h => pz_ctk (l := ct_X11_feed) (P := fun b i k => b = true → pz_cV 1 22 RX11 i k) (List.forall_mem_cons.mpr ⟨(fun _ => v_X7_put (by decide) (by decide) pz_wq647), fun _ h => absurd h List.not_mem_nil⟩) true i k' h rfl
  · exact fun i k' h => pz_ctk (l := ct_X11_feed) (P := fun b i k => b = false → (pz_cS 1 22 RX11 i k ∨ (k = pz_kac ∧ 1 ≤ 1 ∧ 60 ≤ 22 ∧ Cond.methodLink RX11 i arraycopyName ∈ pz_tbl))) (List.forall_mem_cons.mpr ⟨((fun z => by cases z)), fun _ h => absurd h List.not_mem_nil⟩) false i k' h rfl
  · intro a M hlen hpre
    obtain ⟨th, p, q, w, s, u, rfl, hpre⟩ : ∃ th p q w s u, a = [.inr (.inr (11, th)), .inl p, .inl q, .inl w, .inl s, .inl u] ∧ (pz_ic M) := by
      have hpre : (match (generalizing := false) a with | [.inr (.inr (11, th)), .inl p, .inl q, .inl w, .inl s, .inl u] => pz_ic M | _ => False) := hpre
      split at hpre
      · exact ⟨_, _, _, _, _, _, rfl, hpre⟩
      · exact hpre.elim
    exact Nat.le_of_ble_eq_true rfl
  · intro a M hlen hcan hM hpre Ok hgo
    obtain ⟨th, p, q, w, s, u, rfl, hpre⟩ : ∃ th p q w s u, a = [.inr (.inr (11, th)), .inl p, .inl q, .inl w, .inl s, .inl u] ∧ (pz_ic M) := by
      have hpre : (match (generalizing := false) a with | [.inr (.inr (11, th)), .inl p, .inl q, .inl w, .inl s, .inl u] => pz_ic M | _ => False) := hpre
      split at hpre
      · exact ⟨_, _, _, _, _, _, rfl, hpre⟩
      · exact hpre.elim
    obtain ⟨k_th, hc_th⟩ := pz_tlm hcan
    have k_th : pz_kd th = 11 ∧ th < 231 := k_th
    have R_th := pz_kd11 k_th.1
    subst R_th
    obtain ⟨k_p, hc_p⟩ := pz_tlm hc_th
    have l_p : -2147483648 ≤ p := k_p.1
    have u_p : p ≤ 2147483647 := k_p.2
    obtain ⟨k_q, hc_q⟩ := pz_tlm hc_p
    have l_q : -2147483648 ≤ q := k_q.1
    have u_q : q ≤ 2147483647 := k_q.2
    obtain ⟨k_w, hc_w⟩ := pz_tlm hc_q
    have l_w : -2147483648 ≤ w := k_w.1
    have u_w : w ≤ 2147483647 := k_w.2
    obtain ⟨k_s, hc_s⟩ := pz_tlm hc_w
    have l_s : -2147483648 ≤ s := k_s.1
    have u_s : s ≤ 2147483647 := k_s.2
    obtain ⟨k_u, hc_u⟩ := pz_tlm hc_s
    have l_u : -2147483648 ≤ u := k_u.1
    have u_u : u ≤ 2147483647 := k_u.2
    have hI : pz_ic M := hpre
    have hI0 := hI
    have hS : pq_pr pq_Pf M M := pq_pr.rf
    have I0 := hI.2.2.2.2.1
    refine hgo (fun _ => false) 35 0 _ [] M ?_
    refine pz_nrc (c := 4) rfl ?_
    intro v4 e4 a4 b4
    have I4 := hI.2.2.2.2.1
    intro v9 e9 a9 b9
    try rw [pz_wi (by omega) (by omega)] at e9
    refine And.intro (fun h13 => ?_) (fun h13 => ?_)
    · skip
      refine pz_nrc (c := 4) rfl ?_
      refine And.intro (hI) ?_
      intro M23 q23
      obtain ⟨q23, z23⟩ := q23
      have hS : pq_pr pq_Pf M M23 := hS.tr z23
      have hI : pz_ic M23 := hS.1 hI0
      refine pz_nrc (c := 4) rfl ?_
      refine And.intro (hI) ?_
      intro M31 q31
      obtain ⟨q31, z31⟩ := q31
      have hS : pq_pr pq_Pf M M31 := hS.tr z31
      have hI : pz_ic M31 := hS.1 hI0
      refine pz_nrc (c := 4) rfl ?_
      refine And.intro (hI) ?_
      intro M39 q39
      obtain ⟨q39, z39⟩ := q39
      have hS : pq_pr pq_Pf M M39 := hS.tr z39
      have hI : pz_ic M39 := hS.1 hI0
      refine pz_nrc (c := 4) rfl ?_
      refine And.intro (hI) ?_
      intro M48 q48
      obtain ⟨q48, z48⟩ := q48
      have hS : pq_pr pq_Pf M M48 := hS.tr z48
      have hI : pz_ic M48 := hS.1 hI0
      refine pz_nrc (c := 4) rfl ?_
      refine And.intro (hI) ?_
      intro M57 q57
      obtain ⟨q57, z57⟩ := q57
      have hS : pq_pr pq_Pf M M57 := hS.tr z57
      have hI : pz_ic M57 := hS.1 hI0
      refine pz_nrc (c := 4) rfl ?_
      intro v64 e64 a64 b64
      have I64 := hI.2.2.2.2.1
      refine And.intro rfl ?_
      have F9 := pz_fb_of (by omega) I0.1 q23.1 q31.1 q39.1 q48.1 q57.1
      exact ⟨Or.inl ⟨by omega, by omega, F9.1, F9.2⟩, hS⟩
    · skip
      refine And.intro rfl ?_
      exact ⟨Or.inr ⟨by omega, rfl, rfl⟩, hS⟩
theorem v_X11_feed {fr lo i : Nat} {own : String} (h1 : 1 + 1 ≤ fr) (h2 : 8 + (6 + 11) + 22 ≤ lo) (h3 : .methodLink own i yX11_feed ∈ lw_tbl) : pz_cV fr lo own i k_X11_feed :=
  pz_cVk (maxL := 6) (fr' := 1) (lo' := 22) 5 11 h_X11_feed rfl ⟨(pz_nhc_RX11 yX11_feed rfl).1, (pz_nhc_RX11 yX11_feed rfl).2, pz_ds21⟩ ⟨pz_wq646, pz_wq644, pz_wq645, pz_wq1⟩ (Or.inl ⟨TX11, 14, rfl⟩) (fun a M _ h => by
    have h : (match (generalizing := false) a with | [.inr (.inr (11, th)), .inl p, .inl q, .inl w, .inl s, .inl u] => pz_ic M | _ => False) := h
    split at h
    · exact ⟨_, _, rfl⟩
    · exact h.elim) h1 h2 h3
end
section
theorem pz_iom_w {k : Nat} {v : Int} (h1 : k ≤ 840) (h2 : k ≠ 88) (h3 : k ≠ 89) (h4 : k ≠ 90) (h5 : k ≠ 92) (h6 : k ≠ 3) : pz_iom 60 k v := by unfold pz_iom; omega
theorem pz_iom_w1 {k : Nat} {v : Int} (h1 : 4 ≤ k) (h2 : k ≤ 87) : pz_iom 60 k v := pz_iom_w (by omega) (by omega) (by omega) (by omega) (by omega) (by omega)
theorem pz_iom_w2 {k : Nat} {v : Int} (h1 : 93 ≤ k) (h2 : k ≤ 840) : pz_iom 60 k v := pz_iom_w (by omega) (by omega) (by omega) (by omega) (by omega) (by omega)
theorem pz_iom_88 {v : Int} (h : 0 ≤ v ∧ v ≤ 12) : pz_iom 60 88 v := by unfold pz_iom; omega
theorem pz_iom_90 {v : Int} (h : 0 ≤ v ∧ v ≤ 16) : pz_iom 60 90 v := by unfold pz_iom; omega
theorem pz_iom_92 {v : Int} (h : 0 ≤ v ∧ v ≤ 16) : pz_iom 60 92 v := by unfold pz_iom; omega
theorem pz_iom_3 {v : Int} (h : 0 ≤ v ∧ v ≤ 150) : pz_iom 60 3 v := by unfold pz_iom; omega
theorem pz_iom_u {k : Nat} {v : Int} (h1 : k ≤ 87) (h : k = 3 → 0 ≤ v ∧ v ≤ 150) : pz_iom 60 k v := by
  by_cases q : k = 3
  · rw [q]
    exact pz_iom_3 (h q)
  · exact pz_iom_w (by omega) (by omega) (by omega) (by omega) (by omega) q
theorem pz_iom_62 {k : Nat} {v : Int} (h : k % 88 = 3 → 0 ≤ v ∧ v ≤ 150) : pz_iom 62 k v := by unfold pz_iom; omega
theorem pz_iom_63 {k : Nat} {v : Int} (h : k = 3 → 0 ≤ v ∧ v ≤ 150) : pz_iom 63 k v := by unfold pz_iom; omega
theorem pz_iom_w0 {k : Nat} {v : Int} (h : k ≤ 2) : pz_iom 60 k v := pz_iom_w (by omega) (by omega) (by omega) (by omega) (by omega) (by omega)
theorem pz_iom_a {a k : Nat} {v : Int} (h : 64 ≤ a ∧ a < 71) : pz_iom a k v := by unfold pz_iom; omega
theorem pz_iom_f {k : Nat} {v : Int} (h : k ≠ 4 ∧ k ≠ 13 ∧ k ≠ 14 ∧ k ≠ 15 ∧ k ≠ 16 ∧ k ≠ 17 ∧ k ≠ 19) : pz_iom 1 k v := by unfold pz_iom; omega
theorem pz_iom_4 {v : Int} (h : 0 ≤ v ∧ v ≤ 6) : pz_iom 1 4 v := by unfold pz_iom; omega
theorem pz_iom_13 {v : Int} (h : 0 ≤ v ∧ v ≤ 16) : pz_iom 1 13 v := by unfold pz_iom; omega
theorem pz_iom_14 {v : Int} (h : 0 ≤ v ∧ v ≤ 410) : pz_iom 1 14 v := by unfold pz_iom; omega
theorem pz_iom_15 {v : Int} (h : 0 ≤ v ∧ v ≤ 16) : pz_iom 1 15 v := by unfold pz_iom; omega
theorem pz_iom_16 {v : Int} (h : 0 ≤ v ∧ v ≤ 400) : pz_iom 1 16 v := by unfold pz_iom; omega
theorem pz_iom_17 {v : Int} (h : 0 ≤ v ∧ v ≤ 400) : pz_iom 1 17 v := by unfold pz_iom; omega
theorem pz_iom_19 {v : Int} (h : 0 ≤ v ∧ v ≤ 400) : pz_iom 1 19 v := by unfold pz_iom; omega
noncomputable def k_X12_isIn : pz_C := (3, 1, fun a M => (match a with | [.inl x, .inl y, .inl z] => True | _ => False), fun a M r M' => (match a, r with | [.inl x, .inl y, .inl z], some (.inl v) => ((v = 1 ∧ y ≤ x ∧ x ≤ z) ∨ (v = 0 ∧ ¬ (y ≤ x ∧ x ≤ z))) ∧ M = M' | _, _ => False))
noncomputable abbrev ct_X12_isIn : List (Bool × Nat × pz_C) := []
set_option maxRecDepth 100000 in
set_option maxHeartbeats 4000000 in
theorem h_X12_isIn : pz_H yX12_isIn cX12_isIn 3 (some .boolean) k_X12_isIn 0 0 := by
  refine pz_mk (own := RX12) (tb := t_X12_isIn) (fl := pz_flf fl_RX12) (ci := pz_cif ci_RX12) (ct := pz_ctf ct_X12_isIn) (rz := true) (pz_pfc_RX12 yX12_isIn rfl) rfl t_X12_isIn_ok (pz_flk fl_RX12_ok) (pz_cik ci_RX12_ok) ?_ ?_ (Or.inr ⟨rfl, rfl⟩) ?_ ?_
  · exact fun i k' h => pz_ctk (l := ct_X12_isIn) (P := fun b i k => b = true → pz_cV 0 0 RX12 i k) (fun _ h => absurd h List.not_mem_nil) true i k' h rfl
  · exact fun i k' h => pz_ctk (l := ct_X12_isIn) (P := fun b i k => b = false → (pz_cS 0 0 RX12 i k ∨ (k = pz_kac ∧ 1 ≤ 0 ∧ 60 ≤ 0 ∧ Cond.methodLink RX12 i arraycopyName ∈ pz_tbl))) (fun _ h => absurd h List.not_mem_nil) false i k' h rfl
  · intro a M hlen hpre
    obtain ⟨x, y, z, rfl, hpre⟩ : ∃ x y z, a = [.inl x, .inl y, .inl z] ∧ (True) := by
      have hpre : (match (generalizing := false) a with | [.inl x, .inl y, .inl z] => True | _ => False) := hpre
      split at hpre
      · exact ⟨_, _, _, rfl, hpre⟩
      · exact hpre.elim
    exact Nat.le_of_ble_eq_true rfl
  · intro a M hlen hcan hM hpre Ok hgo
    obtain ⟨x, y, z, rfl, hpre⟩ : ∃ x y z, a = [.inl x, .inl y, .inl z] ∧ (True) := by
      have hpre : (match (generalizing := false) a with | [.inl x, .inl y, .inl z] => True | _ => False) := hpre
      split at hpre
      · exact ⟨_, _, _, rfl, hpre⟩
      · exact hpre.elim
    obtain ⟨k_x, hc_x⟩ := pz_tlm hcan
    have l_x : -2147483648 ≤ x := k_x.1
    have u_x : x ≤ 2147483647 := k_x.2
    obtain ⟨k_y, hc_y⟩ := pz_tlm hc_x
    have l_y : -2147483648 ≤ y := k_y.1
    have u_y : y ≤ 2147483647 := k_y.2
    obtain ⟨k_z, hc_z⟩ := pz_tlm hc_y
    have l_z : -2147483648 ≤ z := k_z.1
    have u_z : z ≤ 2147483647 := k_z.2
    refine hgo (fun _ => false) 12 0 _ [] M ?_
    refine And.intro (fun h2 => ?_) (fun h2 => ?_)
    · skip
      refine And.intro (by omega) ?_
      refine And.intro rfl ?_
      exact ⟨by omega, rfl⟩
    · skip
      refine And.intro (fun h7 => ?_) (fun h7 => ?_)
      · skip
        refine And.intro (by omega) ?_
        refine And.intro rfl ?_
        exact ⟨by omega, rfl⟩
      · skip
        refine And.intro (by omega) ?_
        refine And.intro rfl ?_
        exact ⟨by omega, rfl⟩
theorem s_X12_isIn {fr lo i : Nat} {own : String} (h1 : 0 + 1 ≤ fr) (h2 : 8 + (3 + 11) + 0 ≤ lo) (h3 : .methodLink own i yX12_isIn ∈ lw_tbl ∨ (own = RX1 ∧ i = 35 ∧ yX12_isIn = yX11_within)) : pz_cS fr lo own i k_X12_isIn := pz_cSk (maxL := 3) (fr' := 0) (lo' := 0) 3 h_X12_isIn rfl ⟨(pz_nhc_RX12 yX12_isIn rfl).1, (pz_nhc_RX12 yX12_isIn rfl).2, pz_ds17⟩ ⟨pz_wq1219, pz_wq1218, pz_wq13⟩ h1 h2 h3
noncomputable def k_X12_lesser : pz_C := (2, 1, fun a M => (match a with | [.inl x, .inl y] => True | _ => False), fun a M r M' => (match a, r with | [.inl x, .inl y], some (.inl v) => (v ≤ x ∧ v ≤ y ∧ (v = x ∨ v = y)) ∧ M = M' | _, _ => False))
noncomputable abbrev ct_X12_lesser : List (Bool × Nat × pz_C) := []
set_option maxRecDepth 100000 in
set_option maxHeartbeats 4000000 in
theorem h_X12_lesser : pz_H yX12_lesser cX12_lesser 2 (some .int) k_X12_lesser 0 0 := by
  refine pz_mk (own := RX12) (tb := t_X12_lesser) (fl := pz_flf fl_RX12) (ci := pz_cif ci_RX12) (ct := pz_ctf ct_X12_lesser) (rz := false) (pz_pfc_RX12 yX12_lesser rfl) rfl t_X12_lesser_ok (pz_flk fl_RX12_ok) (pz_cik ci_RX12_ok) ?_ ?_ (Or.inl ⟨rfl, rfl⟩) ?_ ?_
  · exact fun i k' h => pz_ctk (l := ct_X12_lesser) (P := fun b i k => b = true → pz_cV 0 0 RX12 i k) (fun _ h => absurd h List.not_mem_nil) true i k' h rfl
  · exact fun i k' h => pz_ctk (l := ct_X12_lesser) (P := fun b i k => b = false → (pz_cS 0 0 RX12 i k ∨ (k = pz_kac ∧ 1 ≤ 0 ∧ 60 ≤ 0 ∧ Cond.methodLink RX12 i arraycopyName ∈ pz_tbl))) (fun _ h => absurd h List.not_mem_nil) false i k' h rfl
  · intro a M hlen hpre
    obtain ⟨x, y, rfl, hpre⟩ : ∃ x y, a = [.inl x, .inl y] ∧ (True) := by
      have hpre : (match (generalizing := false) a with | [.inl x, .inl y] => True | _ => False) := hpre
      split at hpre
      · exact ⟨_, _, rfl, hpre⟩
      · exact hpre.elim
    exact Nat.le_of_ble_eq_true rfl
  · intro a M hlen hcan hM hpre Ok hgo
    obtain ⟨x, y, rfl, hpre⟩ : ∃ x y, a = [.inl x, .inl y] ∧ (True) := by
      have hpre : (match (generalizing := false) a with | [.inl x, .inl y] => True | _ => False) := hpre
      split at hpre
      · exact ⟨_, _, rfl, hpre⟩
      · exact hpre.elim
    obtain ⟨k_x, hc_x⟩ := pz_tlm hcan
    have l_x : -2147483648 ≤ x := k_x.1
    have u_x : x ≤ 2147483647 := k_x.2
    obtain ⟨k_y, hc_y⟩ := pz_tlm hc_x
    have l_y : -2147483648 ≤ y := k_y.1
    have u_y : y ≤ 2147483647 := k_y.2
    refine hgo (fun _ => false) 9 0 _ [] M ?_
    refine And.intro (fun h2 => ?_) (fun h2 => ?_)
    · skip
      refine And.intro rfl ?_
      exact ⟨by omega, rfl⟩
    · skip
      refine And.intro rfl ?_
      exact ⟨by omega, rfl⟩
theorem s_X12_lesser {fr lo i : Nat} {own : String} (h1 : 0 + 1 ≤ fr) (h2 : 8 + (2 + 11) + 0 ≤ lo) (h3 : .methodLink own i yX12_lesser ∈ lw_tbl ∨ (own = RX1 ∧ i = 35 ∧ yX12_lesser = yX11_within)) : pz_cS fr lo own i k_X12_lesser := pz_cSk (maxL := 2) (fr' := 0) (lo' := 0) 2 h_X12_lesser rfl ⟨(pz_nhc_RX12 yX12_lesser rfl).1, (pz_nhc_RX12 yX12_lesser rfl).2, pz_ds10⟩ ⟨pz_wq1464, pz_wq1463, pz_wq13⟩ h1 h2 h3
noncomputable def k_X12_greater : pz_C := (2, 1, fun a M => (match a with | [.inl x, .inl y] => True | _ => False), fun a M r M' => (match a, r with | [.inl x, .inl y], some (.inl v) => (x ≤ v ∧ y ≤ v ∧ (v = x ∨ v = y)) ∧ M = M' | _, _ => False))
noncomputable abbrev ct_X12_greater : List (Bool × Nat × pz_C) := []
set_option maxRecDepth 100000 in
set_option maxHeartbeats 4000000 in
theorem h_X12_greater : pz_H yX12_greater cX12_greater 2 (some .int) k_X12_greater 0 0 := by
  refine pz_mk (own := RX12) (tb := t_X12_greater) (fl := pz_flf fl_RX12) (ci := pz_cif ci_RX12) (ct := pz_ctf ct_X12_greater) (rz := false) (pz_pfc_RX12 yX12_greater rfl) rfl t_X12_greater_ok (pz_flk fl_RX12_ok) (pz_cik ci_RX12_ok) ?_ ?_ (Or.inl ⟨rfl, rfl⟩) ?_ ?_
  · exact fun i k' h => pz_ctk (l := ct_X12_greater) (P := fun b i k => b = true → pz_cV 0 0 RX12 i k) (fun _ h => absurd h List.not_mem_nil) true i k' h rfl
  · exact fun i k' h => pz_ctk (l := ct_X12_greater) (P := fun b i k => b = false → (pz_cS 0 0 RX12 i k ∨ (k = pz_kac ∧ 1 ≤ 0 ∧ 60 ≤ 0 ∧ Cond.methodLink RX12 i arraycopyName ∈ pz_tbl))) (fun _ h => absurd h List.not_mem_nil) false i k' h rfl
  · intro a M hlen hpre
    obtain ⟨x, y, rfl, hpre⟩ : ∃ x y, a = [.inl x, .inl y] ∧ (True) := by
      have hpre : (match (generalizing := false) a with | [.inl x, .inl y] => True | _ => False) := hpre
      split at hpre
      · exact ⟨_, _, rfl, hpre⟩
      · exact hpre.elim
    exact Nat.le_of_ble_eq_true rfl
  · intro a M hlen hcan hM hpre Ok hgo
    obtain ⟨x, y, rfl, hpre⟩ : ∃ x y, a = [.inl x, .inl y] ∧ (True) := by
      have hpre : (match (generalizing := false) a with | [.inl x, .inl y] => True | _ => False) := hpre
      split at hpre
      · exact ⟨_, _, rfl, hpre⟩
      · exact hpre.elim
    obtain ⟨k_x, hc_x⟩ := pz_tlm hcan
    have l_x : -2147483648 ≤ x := k_x.1
    have u_x : x ≤ 2147483647 := k_x.2
    obtain ⟨k_y, hc_y⟩ := pz_tlm hc_x
    have l_y : -2147483648 ≤ y := k_y.1
    have u_y : y ≤ 2147483647 := k_y.2
    refine hgo (fun _ => false) 9 0 _ [] M ?_
    refine And.intro (fun h2 => ?_) (fun h2 => ?_)
    · skip
      refine And.intro rfl ?_
      exact ⟨by omega, rfl⟩
    · skip
      refine And.intro rfl ?_
      exact ⟨by omega, rfl⟩
theorem s_X12_greater {fr lo i : Nat} {own : String} (h1 : 0 + 1 ≤ fr) (h2 : 8 + (2 + 11) + 0 ≤ lo) (h3 : .methodLink own i yX12_greater ∈ lw_tbl ∨ (own = RX1 ∧ i = 35 ∧ yX12_greater = yX11_within)) : pz_cS fr lo own i k_X12_greater := pz_cSk (maxL := 2) (fr' := 0) (lo' := 0) 2 h_X12_greater rfl ⟨(pz_nhc_RX12 yX12_greater rfl).1, (pz_nhc_RX12 yX12_greater rfl).2, pz_ds10⟩ ⟨pz_wq1449, pz_wq1448, pz_wq13⟩ h1 h2 h3

end
