noncomputable def k_X9_lookAt : pz_C := (2, 0, fun a M => (match a with | [.inr (.inr (9, th)), .inl i] => pz_ic M | _ => False), fun a M r M' => (match a, r with | [.inr (.inr (9, th)), .inl i], none => ((0 ≤ i ∧ i ≤ 400 ∧ M' = pq_la M i) ∨ (¬ (0 ≤ i ∧ i ≤ 400) ∧ M' = M)) ∧ pq_pr pq_Pp M M' | _, _ => False))
noncomputable abbrev ct_X9_lookAt : List (Bool × Nat × pz_C) := []
set_option maxRecDepth 100000 in
set_option maxHeartbeats 4000000 in
theorem h_X9_lookAt : pz_H yX9_lookAt cX9_lookAt 2 none k_X9_lookAt 0 0 := by
  refine pz_mk (own := RX9) (tb := t_X9_lookAt) (fl := pz_flf fl_RX9) (ci := fun _ => none) (ct := pz_ctf ct_X9_lookAt) (rz := false) (pz_pfc_RX9 yX9_lookAt rfl) rfl t_X9_lookAt_ok (pz_flk fl_RX9_ok) (fun i v h => by cases h) ?_ ?_ (rfl) ?_ ?_
  · exact fun i k' h => pz_ctk (l := ct_X9_lookAt) (P := fun b i k => b = true → pz_cV 0 0 RX9 i k) (fun _ h => absurd h List.not_mem_nil) true i k' h rfl
  · exact fun i k' h => pz_ctk (l := ct_X9_lookAt) (P := fun b i k => b = false → (pz_cS 0 0 RX9 i k ∨ (k = pz_kac ∧ 1 ≤ 0 ∧ 60 ≤ 0 ∧ Cond.methodLink RX9 i arraycopyName ∈ pz_tbl))) (fun _ h => absurd h List.not_mem_nil) false i k' h rfl
  · intro a M hlen hpre
    obtain ⟨th, i, rfl, hpre⟩ : ∃ th i, a = [.inr (.inr (9, th)), .inl i] ∧ (pz_ic M) := by
      have hpre : (match (generalizing := false) a with | [.inr (.inr (9, th)), .inl i] => pz_ic M | _ => False) := hpre
      split at hpre
      · exact ⟨_, _, rfl, hpre⟩
      · exact hpre.elim
    exact Nat.le_of_ble_eq_true rfl
  · intro a M hlen hcan hM hpre Ok hgo
    obtain ⟨th, i, rfl, hpre⟩ : ∃ th i, a = [.inr (.inr (9, th)), .inl i] ∧ (pz_ic M) := by
      have hpre : (match (generalizing := false) a with | [.inr (.inr (9, th)), .inl i] => pz_ic M | _ => False) := hpre
      split at hpre
      · exact ⟨_, _, rfl, hpre⟩
      · exact hpre.elim
    obtain ⟨k_th, hc_th⟩ := pz_tlm hcan
    have k_th : pz_kd th = 9 ∧ th < 231 := k_th
    have R_th := pz_kd9 k_th.1
    subst R_th
    obtain ⟨k_i, hc_i⟩ := pz_tlm hc_th
    have l_i : -2147483648 ≤ i := k_i.1
    have u_i : i ≤ 2147483647 := k_i.2
    have hI : pz_ic M := hpre
    have hI0 := hI
    have hS : pq_pr pq_Pp M M := pq_pr.rf
    refine hgo (fun _ => false) 25 0 _ [] M ?_
    refine And.intro (fun h1 => ?_) (fun h1 => ?_)
    · skip
      refine And.intro rfl ?_
      first
        | (have V25 : v25 = M 49 i.toNat := by
             rw [e25, e13]
             exact pz_una (by decide)
           have V38 : v38 = M 50 i.toNat := by
             rw [e38, e26, pz_una (by decide), e13]
             exact pz_una (by decide)
           have F9 : M39 = pq_la M i := by
             rw [e39, V38, e26, V25, e13]
             rfl
           exact ⟨Or.inl ⟨by omega, by omega, F9⟩, hS⟩)
        | exact ⟨Or.inr ⟨by omega, rfl⟩, hS⟩
    · skip
      refine And.intro (fun h8 => ?_) (fun h8 => ?_)
      · skip
        refine And.intro rfl ?_
        first
          | (have V25 : v25 = M 49 i.toNat := by
               rw [e25, e13]
               exact pz_una (by decide)
             have V38 : v38 = M 50 i.toNat := by
               rw [e38, e26, pz_una (by decide), e13]
               exact pz_una (by decide)
             have F9 : M39 = pq_la M i := by
               rw [e39, V38, e26, V25, e13]
               rfl
             exact ⟨Or.inl ⟨by omega, by omega, F9⟩, hS⟩)
          | exact ⟨Or.inr ⟨by omega, rfl⟩, hS⟩
      · skip
        intro M13 e13
        have hS : pq_pr pq_Pp M M13 := by
          rw [e13]
          exact pq_pr_u hS (by unfold pq_Pp; first | decide | omega) (by unfold pz_iok; first | decide | omega)
        have hI : pz_ic M13 := hS.1 hI0
        refine pz_nrc (c := 4) rfl ?_
        refine pz_nrc (c := 49) rfl ?_
        have lo25 : (0 : Int) ≤ i := by omega
        have tn25 : (((i).toNat : Nat) : Int) = i := Int.toNat_of_nonneg lo25
        refine And.intro (lo25) (And.intro (show _ < (401 : Int) from by omega) ?_)
        intro v25 e25 a25 b25
        intro M26 e26
        have hS : pq_pr pq_Pp M M26 := by
          rw [e26]
          exact pq_pr_u hS (by unfold pq_Pp; first | decide | omega) (by unfold pz_iok; first | decide | omega)
        have hI : pz_ic M26 := hS.1 hI0
        refine pz_nrc (c := 4) rfl ?_
        refine pz_nrc (c := 50) rfl ?_
        refine And.intro (lo25) (And.intro (show _ < (401 : Int) from by omega) ?_)
        intro v38 e38 a38 b38
        intro M39 e39
        have hS : pq_pr pq_Pp M M39 := by
          rw [e39]
          exact pq_pr_u hS (by unfold pq_Pp; first | decide | omega) (by unfold pz_iok; first | decide | omega)
        have hI : pz_ic M39 := hS.1 hI0
        refine And.intro rfl ?_
        first
          | (have V25 : v25 = M 49 i.toNat := by
               rw [e25, e13]
               exact pz_una (by decide)
             have V38 : v38 = M 50 i.toNat := by
               rw [e38, e26, pz_una (by decide), e13]
               exact pz_una (by decide)
             have F9 : M39 = pq_la M i := by
               rw [e39, V38, e26, V25, e13]
               rfl
             exact ⟨Or.inl ⟨by omega, by omega, F9⟩, hS⟩)
          | exact ⟨Or.inr ⟨by omega, rfl⟩, hS⟩
theorem v_X9_lookAt {fr lo i : Nat} {own : String} (h1 : 0 + 1 ≤ fr) (h2 : 8 + (2 + 11) + 0 ≤ lo) (h3 : .methodLink own i yX9_lookAt ∈ lw_tbl) : pz_cV fr lo own i k_X9_lookAt :=
  pz_cVk (maxL := 2) (fr' := 0) (lo' := 0) 1 9 h_X9_lookAt rfl ⟨(pz_nhc_RX9 yX9_lookAt rfl).1, (pz_nhc_RX9 yX9_lookAt rfl).2, pz_ds8⟩ ⟨pz_wq744, pz_wq742, pz_wq743, pz_wq10⟩ (Or.inl ⟨TX9, 10, rfl⟩) (fun a M _ h => by
    have h : (match (generalizing := false) a with | [.inr (.inr (9, th)), .inl i] => pz_ic M | _ => False) := h
    split at h
    · exact ⟨_, _, rfl⟩
    · exact h.elim) h1 h2 h3
noncomputable def k_X9_wrong : pz_C := (2, 1, fun a M => (match a with | [.inr (.inr (9, th)), .inl f] => pz_ic M | _ => False), fun a M r M' => (match a, r with | [.inr (.inr (9, th)), .inl f], some (.inl v) => (v = 0 ∧ pq_wr M M' f) ∧ pq_pr pq_Pp M M' | _, _ => False))
noncomputable abbrev ct_X9_wrong : List (Bool × Nat × pz_C) := []
set_option maxRecDepth 100000 in
set_option maxHeartbeats 4000000 in
theorem h_X9_wrong : pz_H yX9_wrong cX9_wrong 2 (some .boolean) k_X9_wrong 0 0 := by
  refine pz_mk (own := RX9) (tb := t_X9_wrong) (fl := pz_flf fl_RX9) (ci := fun _ => none) (ct := pz_ctf ct_X9_wrong) (rz := true) (pz_pfc_RX9 yX9_wrong rfl) rfl t_X9_wrong_ok (pz_flk fl_RX9_ok) (fun i v h => by cases h) ?_ ?_ (Or.inr ⟨rfl, rfl⟩) ?_ ?_
  · exact fun i k' h => pz_ctk (l := ct_X9_wrong) (P := fun b i k => b = true → pz_cV 0 0 RX9 i k) (fun _ h => absurd h List.not_mem_nil) true i k' h rfl
  · exact fun i k' h => pz_ctk (l := ct_X9_wrong) (P := fun b i k => b = false → (pz_cS 0 0 RX9 i k ∨ (k = pz_kac ∧ 1 ≤ 0 ∧ 60 ≤ 0 ∧ Cond.methodLink RX9 i arraycopyName ∈ pz_tbl))) (fun _ h => absurd h List.not_mem_nil) false i k' h rfl
  · intro a M hlen hpre
    obtain ⟨th, f, rfl, hpre⟩ : ∃ th f, a = [.inr (.inr (9, th)), .inl f] ∧ (pz_ic M) := by
      have hpre : (match (generalizing := false) a with | [.inr (.inr (9, th)), .inl f] => pz_ic M | _ => False) := hpre
      split at hpre
      · exact ⟨_, _, rfl, hpre⟩
      · exact hpre.elim
    exact Nat.le_of_ble_eq_true rfl
  · intro a M hlen hcan hM hpre Ok hgo
    obtain ⟨th, f, rfl, hpre⟩ : ∃ th f, a = [.inr (.inr (9, th)), .inl f] ∧ (pz_ic M) := by
      have hpre : (match (generalizing := false) a with | [.inr (.inr (9, th)), .inl f] => pz_ic M | _ => False) := hpre
      split at hpre
      · exact ⟨_, _, rfl, hpre⟩
      · exact hpre.elim
    obtain ⟨k_th, hc_th⟩ := pz_tlm hcan
    have k_th : pz_kd th = 9 ∧ th < 231 := k_th
    have R_th := pz_kd9 k_th.1
    subst R_th
    obtain ⟨k_f, hc_f⟩ := pz_tlm hc_th
    have l_f : -2147483648 ≤ f := k_f.1
    have u_f : f ≤ 2147483647 := k_f.2
    have hI : pz_ic M := hpre
    have hI0 := hI
    have hS : pq_pr pq_Pp M M := pq_pr.rf
    refine hgo (fun _ => false) 24 0 _ [] M ?_
    intro M2 e2
    have hS : pq_pr pq_Pp M M2 := by
      rw [e2]
      exact pq_pr_u hS (by unfold pq_Pp; first | decide | omega) (by unfold pz_iok; first | decide | omega)
    have hI : pz_ic M2 := hS.1 hI0
    have W2 : ∀ b j, ¬ (b = 5 ∧ j = 3) → M2 b j = M b j := fun b j y => by rw [e2]; exact pz_une y
    have W55 := W2 5 5 (by first | decide | omega)
    intro v7 e7 a7 b7
    refine And.intro (fun h10 => ?_) (fun h10 => ?_)
    · skip
      intro M39 e39
      have hS : pq_pr pq_Pp M M39 := by
        rw [e39]
        exact pq_pr_u hS (by unfold pq_Pp; first | decide | omega) (by unfold pz_iok; first | decide | omega)
      have hI : pz_ic M39 := hS.1 hI0
      refine And.intro (by first | decide | omega) ?_
      refine And.intro rfl ?_
      refine ⟨⟨rfl, by rw [e39, pz_une (by decide), e2]; exact pz_uu, fun y y2 => ?_⟩, hS⟩
      first
        | (rw [e39, pz_uu, e34, W2 51 _ (by first | decide | omega), e31, W55]; done)
        | (exfalso; omega)
    · skip
      intro v14 e14 a14 b14
      refine And.intro (fun h20 => ?_) (fun h20 => ?_)
      · skip
        intro M39 e39
        have hS : pq_pr pq_Pp M M39 := by
          rw [e39]
          exact pq_pr_u hS (by unfold pq_Pp; first | decide | omega) (by unfold pz_iok; first | decide | omega)
        have hI : pz_ic M39 := hS.1 hI0
        refine And.intro (by first | decide | omega) ?_
        refine And.intro rfl ?_
        refine ⟨⟨rfl, by rw [e39, pz_une (by decide), e2]; exact pz_uu, fun y y2 => ?_⟩, hS⟩
        first
          | (rw [e39, pz_uu, e34, W2 51 _ (by first | decide | omega), e31, W55]; done)
          | (exfalso; omega)
      · skip
        refine pz_nrc (c := 4) rfl ?_
        refine pz_nrc (c := 51) rfl ?_
        intro v31 e31 a31 b31
        have lo34 : (0 : Int) ≤ v31 := by omega
        have tn34 : (((v31).toNat : Nat) : Int) = v31 := Int.toNat_of_nonneg lo34
        refine And.intro (lo34) (And.intro (show _ < (401 : Int) from by omega) ?_)
        intro v34 e34 a34 b34
        intro M39 e39
        have hS : pq_pr pq_Pp M M39 := by
          rw [e39]
          exact pq_pr_u hS (by unfold pq_Pp; first | decide | omega) (by unfold pz_iok; first | decide | omega)
        have hI : pz_ic M39 := hS.1 hI0
        refine And.intro (by first | decide | omega) ?_
        refine And.intro rfl ?_
        refine ⟨⟨rfl, by rw [e39, pz_une (by decide), e2]; exact pz_uu, fun y y2 => ?_⟩, hS⟩
        first
          | (rw [e39, pz_uu, e34, W2 51 _ (by first | decide | omega), e31, W55]; done)
          | (exfalso; omega)
theorem v_X9_wrong {fr lo i : Nat} {own : String} (h1 : 0 + 1 ≤ fr) (h2 : 8 + (2 + 11) + 0 ≤ lo) (h3 : .methodLink own i yX9_wrong ∈ lw_tbl) : pz_cV fr lo own i k_X9_wrong :=
  pz_cVk (maxL := 2) (fr' := 0) (lo' := 0) 1 9 h_X9_wrong rfl ⟨(pz_nhc_RX9 yX9_wrong rfl).1, (pz_nhc_RX9 yX9_wrong rfl).2, pz_ds9⟩ ⟨pz_wq756, pz_wq754, pz_wq755, pz_wq10⟩ (Or.inl ⟨TX9, 10, rfl⟩) (fun a M _ h => by
    have h : (match (generalizing := false) a with | [.inr (.inr (9, th)), .inl f] => pz_ic M | _ => False) := h
    split at h
    · exact ⟨_, _, rfl⟩
    · exact h.elim) h1 h2 h3
noncomputable def k_X9_accept : pz_C := (2, 1, fun a M => (match a with | [.inr (.inr (9, th)), .inl t] => pz_ic M ∧ pq_cu M ∧ t ≠ 101 | _ => False), fun a M r M' => (match a, r with | [.inr (.inr (9, th)), .inl t], some (.inl v) => ((v = 1 ∧ M 5 6 = t ∧ pq_nx M M' ∧ ∀ b j : Nat, b ≠ 5 → M' b j = M b j) ∨ (v = 0 ∧ M 5 6 ≠ t ∧ pq_wr M M' 1)) ∧ pq_pr pq_Pp M M' | _, _ => False))
noncomputable abbrev ct_X9_accept : List (Bool × Nat × pz_C) := [(true, 100, k_X9_wrong), (true, 50, k_X9_lookAt)]
set_option maxRecDepth 100000 in
set_option maxHeartbeats 4000000 in
theorem h_X9_accept : pz_H yX9_accept cX9_accept 2 (some .boolean) k_X9_accept 1 21 := by
  refine pz_mk (own := RX9) (tb := t_X9_accept) (fl := pz_flf fl_RX9) (ci := fun _ => none) (ct := pz_ctf ct_X9_accept) (rz := true) (pz_pfc_RX9 yX9_accept rfl) rfl t_X9_accept_ok (pz_flk fl_RX9_ok) (fun i v h => by cases h) ?_ ?_ (Or.inr ⟨rfl, rfl⟩) ?_ ?_
  · exact fun i k' h => pz_ctk (l := ct_X9_accept) (P := fun b i k => b = true → pz_cV 1 21 RX9 i k) (List.forall_mem_cons.mpr ⟨(fun _ => v_X9_wrong (by decide) (by decide) pz_wq753), List.forall_mem_cons.mpr ⟨(fun _ => v_X9_lookAt (by decide) (by decide) pz_wq741), fun _ h => absurd h List.not_mem_nil⟩⟩) true i k' h rfl
  · exact fun i k' h => pz_ctk (l := ct_X9_accept) (P := fun b i k => b = false → (pz_cS 1 21 RX9 i k ∨ (k = pz_kac ∧ 1 ≤ 1 ∧ 60 ≤ 21 ∧ Cond.methodLink RX9 i arraycopyName ∈ pz_tbl))) (List.forall_mem_cons.mpr ⟨((fun z => by cases z)), List.forall_mem_cons.mpr ⟨((fun z => by cases z)), fun _ h => absurd h List.not_mem_nil⟩⟩) false i k' h rfl
  · intro a M hlen hpre
    obtain ⟨th, t, rfl, hpre⟩ : ∃ th t, a = [.inr (.inr (9, th)), .inl t] ∧ (pz_ic M ∧ pq_cu M ∧ t ≠ 101) := by
      have hpre : (match (generalizing := false) a with | [.inr (.inr (9, th)), .inl t] => pz_ic M ∧ pq_cu M ∧ t ≠ 101 | _ => False) := hpre
      split at hpre
      · exact ⟨_, _, rfl, hpre⟩
      · exact hpre.elim
    exact Nat.le_of_ble_eq_true rfl
  · intro a M hlen hcan hM hpre Ok hgo
    obtain ⟨th, t, rfl, hpre⟩ : ∃ th t, a = [.inr (.inr (9, th)), .inl t] ∧ (pz_ic M ∧ pq_cu M ∧ t ≠ 101) := by
      have hpre : (match (generalizing := false) a with | [.inr (.inr (9, th)), .inl t] => pz_ic M ∧ pq_cu M ∧ t ≠ 101 | _ => False) := hpre
      split at hpre
      · exact ⟨_, _, rfl, hpre⟩
      · exact hpre.elim
    obtain ⟨k_th, hc_th⟩ := pz_tlm hcan
    have k_th : pz_kd th = 9 ∧ th < 231 := k_th
    have R_th := pz_kd9 k_th.1
    subst R_th
    obtain ⟨k_t, hc_t⟩ := pz_tlm hc_th
    have l_t : -2147483648 ≤ t := k_t.1
    have u_t : t ≤ 2147483647 := k_t.2
    have hI : pz_ic M := hpre.1
    have hI0 := hI
    have hS : pq_pr pq_Pp M M := pq_pr.rf
    have B9 := pq_cu_b hpre.2.1
    have B8 := hpre.2.2
    refine hgo (fun _ => false) 18 0 _ [] M ?_
    intro v1 e1 a1 b1
    refine And.intro (fun h5 => ?_) (fun h5 => ?_)
    · skip
      intro v16 e16 a16 b16
      intro v20 e20 a20 b20
      try rw [pz_wi (by first | decide | omega) (by first | decide | omega)] at e20
      refine And.intro (hI) ?_
      intro M21 q21
      obtain ⟨q21, z21⟩ := q21
      have hS : pq_pr pq_Pp M M21 := hS.tr z21
      have hI : pz_ic M21 := hS.1 hI0
      refine And.intro (by first | omega | exact Or.inl q10.1) ?_
      refine And.intro rfl ?_
      exact ⟨Or.inl ⟨rfl, by omega, pq_cu_la hpre.2.1 (by first | decide | omega) (by first | decide | omega) q21, pq_la_5 q21⟩, hS⟩
    · skip
      refine And.intro (hI) ?_
      intro v10 M10 a10 b10 q10
      obtain ⟨q10, z10⟩ := q10
      have hS : pq_pr pq_Pp M M10 := hS.tr z10
      have hI : pz_ic M10 := hS.1 hI0
      refine And.intro (by first | omega | exact Or.inl q10.1) ?_
      refine And.intro rfl ?_
      exact ⟨Or.inr ⟨q10.1, by omega, q10.2⟩, hS⟩
theorem v_X9_accept {fr lo i : Nat} {own : String} (h1 : 1 + 1 ≤ fr) (h2 : 8 + (2 + 11) + 21 ≤ lo) (h3 : .methodLink own i yX9_accept ∈ lw_tbl) : pz_cV fr lo own i k_X9_accept :=
  pz_cVk (maxL := 2) (fr' := 1) (lo' := 21) 1 9 h_X9_accept rfl ⟨(pz_nhc_RX9 yX9_accept rfl).1, (pz_nhc_RX9 yX9_accept rfl).2, pz_ds9⟩ ⟨pz_wq780, pz_wq778, pz_wq779, pz_wq10⟩ (Or.inl ⟨TX9, 10, rfl⟩) (fun a M _ h => by
    have h : (match (generalizing := false) a with | [.inr (.inr (9, th)), .inl t] => pz_ic M ∧ pq_cu M ∧ t ≠ 101 | _ => False) := h
    split at h
    · exact ⟨_, _, rfl⟩
    · exact h.elim) h1 h2 h3
noncomputable def k_X9_numeral : pz_C := (3, 1, fun a M => (match a with | [.inr (.inr (9, th)), .inl l, .inl h] => pz_ic M ∧ pq_cu M | _ => False), fun a M r M' => (match a, r with | [.inr (.inr (9, th)), .inl l, .inl h], some (.inl v) => (pq_nm M M' l h v) ∧ pq_pr pq_Pp M M' | _, _ => False))
noncomputable abbrev ct_X9_numeral : List (Bool × Nat × pz_C) := [(true, 100, k_X9_wrong), (true, 50, k_X9_lookAt)]
set_option maxRecDepth 100000 in
set_option maxHeartbeats 4000000 in
theorem h_X9_numeral : pz_H yX9_numeral cX9_numeral 4 (some .int) k_X9_numeral 1 21 := by
  refine pz_mk (own := RX9) (tb := t_X9_numeral) (fl := pz_flf fl_RX9) (ci := fun _ => none) (ct := pz_ctf ct_X9_numeral) (rz := false) (pz_pfc_RX9 yX9_numeral rfl) rfl t_X9_numeral_ok (pz_flk fl_RX9_ok) (fun i v h => by cases h) ?_ ?_ (Or.inl ⟨rfl, rfl⟩) ?_ ?_
  · exact fun i k' h => pz_ctk (l := ct_X9_numeral) (P := fun b i k => b = true → pz_cV 1 21 RX9 i k) (List.forall_mem_cons.mpr ⟨(fun _ => v_X9_wrong (by decide) (by decide) pz_wq753), List.forall_mem_cons.mpr ⟨(fun _ => v_X9_lookAt (by decide) (by decide) pz_wq741), fun _ h => absurd h List.not_mem_nil⟩⟩) true i k' h rfl
  · exact fun i k' h => pz_ctk (l := ct_X9_numeral) (P := fun b i k => b = false → (pz_cS 1 21 RX9 i k ∨ (k = pz_kac ∧ 1 ≤ 1 ∧ 60 ≤ 21 ∧ Cond.methodLink RX9 i arraycopyName ∈ pz_tbl))) (List.forall_mem_cons.mpr ⟨((fun z => by cases z)), List.forall_mem_cons.mpr ⟨((fun z => by cases z)), fun _ h => absurd h List.not_mem_nil⟩⟩) false i k' h rfl
  · intro a M hlen hpre
    obtain ⟨th, l, h, rfl, hpre⟩ : ∃ th l h, a = [.inr (.inr (9, th)), .inl l, .inl h] ∧ (pz_ic M ∧ pq_cu M) := by
      have hpre : (match (generalizing := false) a with | [.inr (.inr (9, th)), .inl l, .inl h] => pz_ic M ∧ pq_cu M | _ => False) := hpre
      split at hpre
      · exact ⟨_, _, _, rfl, hpre⟩
      · exact hpre.elim
    exact Nat.le_of_ble_eq_true rfl
  · intro a M hlen hcan hM hpre Ok hgo
    obtain ⟨th, l, h, rfl, hpre⟩ : ∃ th l h, a = [.inr (.inr (9, th)), .inl l, .inl h] ∧ (pz_ic M ∧ pq_cu M) := by
      have hpre : (match (generalizing := false) a with | [.inr (.inr (9, th)), .inl l, .inl h] => pz_ic M ∧ pq_cu M | _ => False) := hpre
      split at hpre
      · exact ⟨_, _, _, rfl, hpre⟩
      · exact hpre.elim
    obtain ⟨k_th, hc_th⟩ := pz_tlm hcan
    have k_th : pz_kd th = 9 ∧ th < 231 := k_th
    have R_th := pz_kd9 k_th.1
    subst R_th
    obtain ⟨k_l, hc_l⟩ := pz_tlm hc_th
    have l_l : -2147483648 ≤ l := k_l.1
    have u_l : l ≤ 2147483647 := k_l.2
    obtain ⟨k_h, hc_h⟩ := pz_tlm hc_l
    have l_h : -2147483648 ≤ h := k_h.1
    have u_h : h ≤ 2147483647 := k_h.2
    have hI : pz_ic M := hpre.1
    have hI0 := hI
    have hS : pq_pr pq_Pp M M := pq_pr.rf
    have B9 := pq_cu_b hpre.2
    refine hgo (fun _ => false) 37 0 _ [] M ?_
    intro v1 e1 a1 b1
    refine And.intro (fun h6 => ?_) (fun h6 => ?_)
    · skip
      intro v27 e27 a27 b27
      refine And.intro (fun h32 => ?_) (fun h32 => ?_)
      · skip
        refine And.intro (hI) ?_
        intro v40 M40 a40 b40 q40
        obtain ⟨q40, z40⟩ := q40
        have hS : pq_pr pq_Pp M M40 := hS.tr z40
        have hI : pz_ic M40 := hS.1 hI0
        refine And.intro rfl ?_
        first
          | exact ⟨Or.inr ⟨rfl, Or.inl ⟨by omega, q40.2⟩⟩, hS⟩
          | exact ⟨Or.inr ⟨rfl, Or.inr ⟨by omega, by omega, q40.2⟩⟩, hS⟩
          | (exfalso; omega)
      · skip
        refine And.intro (hI) ?_
        intro v40 M40 a40 b40 q40
        obtain ⟨q40, z40⟩ := q40
        have hS : pq_pr pq_Pp M M40 := hS.tr z40
        have hI : pz_ic M40 := hS.1 hI0
        refine And.intro rfl ?_
        first
          | exact ⟨Or.inr ⟨rfl, Or.inl ⟨by omega, q40.2⟩⟩, hS⟩
          | exact ⟨Or.inr ⟨rfl, Or.inr ⟨by omega, by omega, q40.2⟩⟩, hS⟩
          | (exfalso; omega)
    · skip
      intro v10 e10 a10 b10
      refine And.intro (fun h14 => ?_) (fun h14 => ?_)
      · skip
        intro v27 e27 a27 b27
        refine And.intro (fun h32 => ?_) (fun h32 => ?_)
        · skip
          refine And.intro (hI) ?_
          intro v40 M40 a40 b40 q40
          obtain ⟨q40, z40⟩ := q40
          have hS : pq_pr pq_Pp M M40 := hS.tr z40
          have hI : pz_ic M40 := hS.1 hI0
          refine And.intro rfl ?_
          first
            | exact ⟨Or.inr ⟨rfl, Or.inl ⟨by omega, q40.2⟩⟩, hS⟩
            | exact ⟨Or.inr ⟨rfl, Or.inr ⟨by omega, by omega, q40.2⟩⟩, hS⟩
            | (exfalso; omega)
        · skip
          refine And.intro (hI) ?_
          intro v40 M40 a40 b40 q40
          obtain ⟨q40, z40⟩ := q40
          have hS : pq_pr pq_Pp M M40 := hS.tr z40
          have hI : pz_ic M40 := hS.1 hI0
          refine And.intro rfl ?_
          first
            | exact ⟨Or.inr ⟨rfl, Or.inl ⟨by omega, q40.2⟩⟩, hS⟩
            | exact ⟨Or.inr ⟨rfl, Or.inr ⟨by omega, by omega, q40.2⟩⟩, hS⟩
            | (exfalso; omega)
      · skip
        intro v18 e18 a18 b18
        refine And.intro (fun h22 => ?_) (fun h22 => ?_)
        · skip
          intro v47 e47 a47 b47
          intro v53 e53 a53 b53
          intro v57 e57 a57 b57
          try rw [pz_wi (by first | decide | omega) (by first | decide | omega)] at e57
          refine And.intro (hI) ?_
          intro M58 q58
          obtain ⟨q58, z58⟩ := q58
          have hS : pq_pr pq_Pp M M58 := hS.tr z58
          have hI : pz_ic M58 := hS.1 hI0
          refine And.intro rfl ?_
          exact ⟨Or.inl ⟨by omega, by omega, by omega, by omega, pq_cu_la hpre.2 (by first | decide | omega) (by first | decide | omega) q58⟩, hS⟩
        · skip
          intro v27 e27 a27 b27
          refine And.intro (fun h32 => ?_) (fun h32 => ?_)
          · skip
            refine And.intro (hI) ?_
            intro v40 M40 a40 b40 q40
            obtain ⟨q40, z40⟩ := q40
            have hS : pq_pr pq_Pp M M40 := hS.tr z40
            have hI : pz_ic M40 := hS.1 hI0
            refine And.intro rfl ?_
            first
              | exact ⟨Or.inr ⟨rfl, Or.inl ⟨by omega, q40.2⟩⟩, hS⟩
              | exact ⟨Or.inr ⟨rfl, Or.inr ⟨by omega, by omega, q40.2⟩⟩, hS⟩
              | (exfalso; omega)
          · skip
            refine And.intro (hI) ?_
            intro v40 M40 a40 b40 q40
            obtain ⟨q40, z40⟩ := q40
            have hS : pq_pr pq_Pp M M40 := hS.tr z40
            have hI : pz_ic M40 := hS.1 hI0
            refine And.intro rfl ?_
            first
              | exact ⟨Or.inr ⟨rfl, Or.inl ⟨by omega, q40.2⟩⟩, hS⟩
              | exact ⟨Or.inr ⟨rfl, Or.inr ⟨by omega, by omega, q40.2⟩⟩, hS⟩
              | (exfalso; omega)
theorem v_X9_numeral {fr lo i : Nat} {own : String} (h1 : 1 + 1 ≤ fr) (h2 : 8 + (4 + 11) + 21 ≤ lo) (h3 : .methodLink own i yX9_numeral ∈ lw_tbl) : pz_cV fr lo own i k_X9_numeral :=
  pz_cVk (maxL := 4) (fr' := 1) (lo' := 21) 2 9 h_X9_numeral rfl ⟨(pz_nhc_RX9 yX9_numeral rfl).1, (pz_nhc_RX9 yX9_numeral rfl).2, pz_ds10⟩ ⟨pz_wq803, pz_wq801, pz_wq802, pz_wq10⟩ (Or.inl ⟨TX9, 10, rfl⟩) (fun a M _ h => by
    have h : (match (generalizing := false) a with | [.inr (.inr (9, th)), .inl l, .inl h] => pz_ic M ∧ pq_cu M | _ => False) := h
    split at h
    · exact ⟨_, _, rfl⟩
    · exact h.elim) h1 h2 h3
noncomputable def k_X9_unit : pz_C := (1, 1, fun a M => (match a with | [.inr (.inr (9, th))] => pz_ic M ∧ pq_cq M | _ => False), fun a M r M' => (match a, r with | [.inr (.inr (9, th))], some (.inl v) => (pq_cgu M M' v) ∧ pq_pr pq_Pp M M' | _, _ => False))
noncomputable abbrev ct_X9_unit : List (Bool × Nat × pz_C) := [(true, 125, k_X3_put), (true, 100, k_X9_wrong), (true, 50, k_X9_lookAt)]
set_option maxRecDepth 100000 in
set_option maxHeartbeats 4000000 in
theorem h_X9_unit : pz_H yX9_unit cX9_unit 1 (some .boolean) k_X9_unit 1 21 := by
  refine pz_mk (own := RX9) (tb := t_X9_unit) (fl := pz_flf fl_RX9) (ci := fun _ => none) (ct := pz_ctf ct_X9_unit) (rz := true) (pz_pfc_RX9 yX9_unit rfl) rfl t_X9_unit_ok (pz_flk fl_RX9_ok) (fun i v h => by cases h) ?_ ?_ (Or.inr ⟨rfl, rfl⟩) ?_ ?_
  · exact fun i k' h => pz_ctk (l := ct_X9_unit) (P := fun b i k => b = true → pz_cV 1 21 RX9 i k) (List.forall_mem_cons.mpr ⟨(fun _ => v_X3_put (by decide) (by decide) pz_wq765), List.forall_mem_cons.mpr ⟨(fun _ => v_X9_wrong (by decide) (by decide) pz_wq753), List.forall_mem_cons.mpr ⟨(fun _ => v_X9_lookAt (by decide) (by decide) pz_wq741), fun _ h => absurd h List.not_mem_nil⟩⟩⟩) true i k' h rfl
  · exact fun i k' h => pz_ctk (l := ct_X9_unit) (P := fun b i k => b = false → (pz_cS 1 21 RX9 i k ∨ (k = pz_kac ∧ 1 ≤ 1 ∧ 60 ≤ 21 ∧ Cond.methodLink RX9 i arraycopyName ∈ pz_tbl))) (List.forall_mem_cons.mpr ⟨((fun z => by cases z)), List.forall_mem_cons.mpr ⟨((fun z => by cases z)), List.forall_mem_cons.mpr ⟨((fun z => by cases z)), fun _ h => absurd h List.not_mem_nil⟩⟩⟩) false i k' h rfl
  · intro a M hlen hpre
    obtain ⟨th, rfl, hpre⟩ : ∃ th, a = [.inr (.inr (9, th))] ∧ (pz_ic M ∧ pq_cq M) := by
      have hpre : (match (generalizing := false) a with | [.inr (.inr (9, th))] => pz_ic M ∧ pq_cq M | _ => False) := hpre
      split at hpre
      · exact ⟨_, rfl, hpre⟩
      · exact hpre.elim
    exact Nat.le_of_ble_eq_true rfl
  · intro a M hlen hcan hM hpre Ok hgo
    obtain ⟨th, rfl, hpre⟩ : ∃ th, a = [.inr (.inr (9, th))] ∧ (pz_ic M ∧ pq_cq M) := by
      have hpre : (match (generalizing := false) a with | [.inr (.inr (9, th))] => pz_ic M ∧ pq_cq M | _ => False) := hpre
      split at hpre
      · exact ⟨_, rfl, hpre⟩
      · exact hpre.elim
    obtain ⟨k_th, hc_th⟩ := pz_tlm hcan
    have k_th : pz_kd th = 9 ∧ th < 231 := k_th
    have R_th := pz_kd9 k_th.1
    subst R_th
    have hI : pz_ic M := hpre.1
    have hI0 := hI
    have hS : pq_pr pq_Pp M M := pq_pr.rf
    have B9 := pq_cu_b hpre.2.1
    refine hgo (fun _ => false) 40 0 _ [] M ?_
    intro v1 e1 a1 b1
    refine And.intro (fun h6 => ?_) (fun h6 => ?_)
    · skip
      intro v24 e24 a24 b24
      refine And.intro (fun h29 => ?_) (fun h29 => ?_)
      · skip
        refine And.intro (hI) ?_
        intro v59 M59 a59 b59 q59
        obtain ⟨q59, z59⟩ := q59
        have hS : pq_pr pq_Pp M M59 := hS.tr z59
        have hI : pz_ic M59 := hS.1 hI0
        refine And.intro (by first | omega | exact Or.inl q59.1) ?_
        refine And.intro rfl ?_
        exact ⟨pq_u_bad hpre.2.1 (by first | decide | omega) q59, hS⟩
      · skip
        intro v33 e33 a33 b33
        refine And.intro (fun h38 => ?_) (fun h38 => ?_)
        · skip
          refine And.intro (hI) ?_
          intro v59 M59 a59 b59 q59
          obtain ⟨q59, z59⟩ := q59
          have hS : pq_pr pq_Pp M M59 := hS.tr z59
          have hI : pz_ic M59 := hS.1 hI0
          refine And.intro (by first | omega | exact Or.inl q59.1) ?_
          refine And.intro rfl ?_
          exact ⟨pq_u_bad hpre.2.1 (by first | decide | omega) q59, hS⟩
        · skip
          refine pz_nrc (c := 12) rfl ?_
          intro v46 e46 a46 b46
          intro v50 e50 a50 b50
          rw [pz_not (by first | decide | omega) (by first | decide | omega)] at e50
          refine And.intro (And.intro hI rfl) ?_
          intro M51 q51
          obtain ⟨q51, z51⟩ := q51
          have hS : pq_pr pq_Pp M M51 := hS.tr z51
          have hI : pz_ic M51 := hS.1 hI0
          have K51 := (pq_put_s q51 hpre.2.2.1 (by have := hpre.2.2.2; omega) hpre.2.1).2.1
          intro v65 e65 a65 b65
          intro v69 e69 a69 b69
          try rw [pz_wi (by first | decide | omega) (by first | decide | omega)] at e69
          refine And.intro (hI) ?_
          intro M70 q70
          obtain ⟨q70, z70⟩ := q70
          have hS : pq_pr pq_Pp M M70 := hS.tr z70
          have hI : pz_ic M70 := hS.1 hI0
          refine And.intro (by first | omega | exact Or.inl q59.1) ?_
          refine And.intro rfl ?_
          first
            | exact ⟨pq_u_ok hpre.2 (by rw [e14] at q17; exact q17) (pq_u_n hpre.2.1 (by first | decide | omega)) rfl (by first | decide | omega) (by first | decide | omega) q70, hS⟩
            | exact ⟨pq_u_ok hpre.2 q51 (pq_u_w hpre.2.1 (by first | decide | omega)) (pq_u_wl (by first | decide | omega) (by first | decide | omega)) (by first | decide | omega) (by first | decide | omega) q70, hS⟩
    · skip
      refine pz_nrc (c := 12) rfl ?_
      intro v14 e14 a14 b14
      refine And.intro (And.intro hI rfl) ?_
      intro M17 q17
      obtain ⟨q17, z17⟩ := q17
      have hS : pq_pr pq_Pp M M17 := hS.tr z17
      have hI : pz_ic M17 := hS.1 hI0
      have K17 := (pq_put_s q17 hpre.2.2.1 (by have := hpre.2.2.2; omega) hpre.2.1).2.1
      intro v65 e65 a65 b65
      intro v69 e69 a69 b69
      try rw [pz_wi (by first | decide | omega) (by first | decide | omega)] at e69
      refine And.intro (hI) ?_
      intro M70 q70
      obtain ⟨q70, z70⟩ := q70
      have hS : pq_pr pq_Pp M M70 := hS.tr z70
      have hI : pz_ic M70 := hS.1 hI0
      refine And.intro (by first | omega | exact Or.inl q59.1) ?_
      refine And.intro rfl ?_
      first
        | exact ⟨pq_u_ok hpre.2 (by rw [e14] at q17; exact q17) (pq_u_n hpre.2.1 (by first | decide | omega)) rfl (by first | decide | omega) (by first | decide | omega) q70, hS⟩
        | exact ⟨pq_u_ok hpre.2 q51 (pq_u_w hpre.2.1 (by first | decide | omega)) (pq_u_wl (by first | decide | omega) (by first | decide | omega)) (by first | decide | omega) (by first | decide | omega) q70, hS⟩
theorem v_X9_unit {fr lo i : Nat} {own : String} (h1 : 1 + 1 ≤ fr) (h2 : 8 + (1 + 11) + 21 ≤ lo) (h3 : .methodLink own i yX9_unit ∈ lw_tbl) : pz_cV fr lo own i k_X9_unit :=
  pz_cVk (maxL := 1) (fr' := 1) (lo' := 21) 0 9 h_X9_unit rfl ⟨(pz_nhc_RX9 yX9_unit rfl).1, (pz_nhc_RX9 yX9_unit rfl).2, pz_ds3⟩ ⟨pz_wq764, pz_wq762, pz_wq763, pz_wq10⟩ (Or.inl ⟨TX9, 10, rfl⟩) (fun a M _ h => by
    have h : (match (generalizing := false) a with | [.inr (.inr (9, th))] => pz_ic M ∧ pq_cq M | _ => False) := h
    split at h
    · exact ⟨_, _, rfl⟩
    · exact h.elim) h1 h2 h3
noncomputable def k_X9_sum : pz_C := (1, 1, fun a M => (match a with | [.inr (.inr (9, th))] => pz_ic M ∧ pq_cq M | _ => False), fun a M r M' => (match a, r with | [.inr (.inr (9, th))], some (.inl v) => (pq_cg 3 0 M M' v) ∧ pq_pr pq_Pp M M' | _, _ => False))
noncomputable abbrev ct_X9_sum : List (Bool × Nat × pz_C) := [(true, 128, k_X9_unit), (true, 50, k_X9_lookAt), (true, 100, k_X9_wrong), (true, 125, k_X3_put)]
set_option maxRecDepth 100000 in
set_option maxHeartbeats 4000000 in
theorem h_X9_sum : pz_H yX9_sum cX9_sum 5 (some .boolean) k_X9_sum 2 41 := by
  refine pz_mk (own := RX9) (tb := t_X9_sum) (fl := pz_flf fl_RX9) (ci := fun _ => none) (ct := pz_ctf ct_X9_sum) (rz := true) (pz_pfc_RX9 yX9_sum rfl) rfl t_X9_sum_ok (pz_flk fl_RX9_ok) (fun i v h => by cases h) ?_ ?_ (Or.inr ⟨rfl, rfl⟩) ?_ ?_
  · exact fun i k' h => pz_ctk (l := ct_X9_sum) (P := fun b i k => b = true → pz_cV 2 41 RX9 i k) (List.forall_mem_cons.mpr ⟨(fun _ => v_X9_unit (by decide) (by decide) pz_wq761), List.forall_mem_cons.mpr ⟨(fun _ => v_X9_lookAt (by decide) (by decide) pz_wq741), List.forall_mem_cons.mpr ⟨(fun _ => v_X9_wrong (by decide) (by decide) pz_wq753), List.forall_mem_cons.mpr ⟨(fun _ => v_X3_put (by decide) (by decide) pz_wq765), fun _ h => absurd h List.not_mem_nil⟩⟩⟩⟩) true i k' h rfl
  · exact fun i k' h => pz_ctk (l := ct_X9_sum) (P := fun b i k => b = false → (pz_cS 2 41 RX9 i k ∨ (k = pz_kac ∧ 1 ≤ 2 ∧ 60 ≤ 41 ∧ Cond.methodLink RX9 i arraycopyName ∈ pz_tbl))) (List.forall_mem_cons.mpr ⟨((fun z => by cases z)), List.forall_mem_cons.mpr ⟨((fun z => by cases z)), List.forall_mem_cons.mpr ⟨((fun z => by cases z)), List.forall_mem_cons.mpr ⟨((fun z => by cases z)), fun _ h => absurd h List.not_mem_nil⟩⟩⟩⟩) false i k' h rfl
  · intro a M hlen hpre
    obtain ⟨th, rfl, hpre⟩ : ∃ th, a = [.inr (.inr (9, th))] ∧ (pz_ic M ∧ pq_cq M) := by
      have hpre : (match (generalizing := false) a with | [.inr (.inr (9, th))] => pz_ic M ∧ pq_cq M | _ => False) := hpre
      split at hpre
      · exact ⟨_, rfl, hpre⟩
      · exact hpre.elim
    exact Nat.le_of_ble_eq_true rfl
  · intro a M hlen hcan hM hpre Ok hgo
    obtain ⟨th, rfl, hpre⟩ : ∃ th, a = [.inr (.inr (9, th))] ∧ (pz_ic M ∧ pq_cq M) := by
      have hpre : (match (generalizing := false) a with | [.inr (.inr (9, th))] => pz_ic M ∧ pq_cq M | _ => False) := hpre
      split at hpre
      · exact ⟨_, rfl, hpre⟩
      · exact hpre.elim
    obtain ⟨k_th, hc_th⟩ := pz_tlm hcan
    have k_th : pz_kd th = 9 ∧ th < 231 := k_th
    have R_th := pz_kd9 k_th.1
    subst R_th
    have hI : pz_ic M := hpre.1
    have hI0 := hI
    have hS : pq_pr pq_Pp M M := pq_pr.rf
    have B9 := pq_cu_b hpre.2.1
    have h12 := hpre.2.2.1
    have L4 : ∀ (fo : Nat) (x1 : Int) (x2 : Int) (d3 : Option pz_V) (d4 : Option pz_V) (N4 : pz_M), (400 - x2).toNat < fo → (pq_pr pq_Pp M N4) → (0 ≤ x2) → (pq_sA M N4 x1) → (2 * x2 ≤ N4 5 5) → Ok 4 [some (.inr (.inr (9, 5))), some (.inl x1), some (.inl x2), d3, d4] [] N4 := by
      intro fo
      induction fo with
      | zero => exact fun _ _ _ _ _ hn => absurd hn (Nat.not_lt_zero _)
      | succ fo ih4 =>
        intro x1 x2 d3 d4 N4 hn4 hS g4_1 g4_2 g4_3
        have hI : pz_ic N4 := hS.1 hI0
        have hC := g4_2.cq
        have T4 := pq_T3_of hS
        have B4 := pq_cu_b g4_2.1
        have L131 : ∀ (x1 : Int) (x2 : Int) (x3 : Int) (d4 : Option pz_V) (N131 : pz_M), (pq_pr pq_Pp M N131) → (0 ≤ x2) → (x2 < 400) → ((400 - x2).toNat < fo + 1) → (pq_sC M N131 x1) → (2 * x2 + 1 ≤ N131 5 5) → Ok 131 [some (.inr (.inr (9, 5))), some (.inl x1), some (.inl x2), some (.inl x3), d4] [] N131 := by
          intro x1 x2 x3 d4 N131 hS g131_1 g131_2 g131_3 g131_4 g131_5
          have hI : pz_ic N131 := hS.1 hI0
          have hC := g131_4.cq
          have T131 := pq_T3_of hS
          have B131 := pq_cu_b g131_4.1
          have W131 := pq_sC_w g131_4
          refine hgo (fun p => Nat.beq p 4 || Nat.beq p 22 || Nat.beq p 131) 100 131 _ _ _ ?_
          refine And.intro (fun h132 => ?_) (fun h132 => ?_)
          · skip
            have G132 := pq_sC_0' g131_4 h132
            intro v146 e146 a146 b146
            refine And.intro (fun h151 => ?_) (fun h151 => ?_)
            · skip
              intro v166 e166 a166 b166
              intro v172 e172 a172 b172
              intro v176 e176 a176 b176
              try rw [pz_wi (by first | decide | omega) (by first | decide | omega)] at e176
              refine And.intro (hI) ?_
              intro M177 q177
              obtain ⟨q177, z177⟩ := q177
              have hS : pq_pr pq_Pp M M177 := hS.tr z177
              have hI : pz_ic M177 := hS.1 hI0
              have G177 : pq_sA M M177 v166 ∧ M177 5 5 = N131 5 5 + 1 := by
                first
                  | (have c := pq_cu_la G132.1 (by first | decide | omega) (by first | decide | omega) q177
                     exact ⟨pq_sD_n G132 T131 (by first | decide | omega) c (by first | decide | omega), c.2.1⟩)
                  | (have c := pq_cu_la G142.1 (by first | decide | omega) (by first | decide | omega) q177
                     exact ⟨pq_sD_n G142 T142 (by first | decide | omega) c (by first | decide | omega), by rw [c.2.1, K142]⟩)
              obtain ⟨G177, K177⟩ := G177
              intro v180 e180 a180 b180
              try rw [pz_wi (by first | decide | omega) (by first | decide | omega)] at e180
              exact ih4 _ _ _ _ _ (by first | decide | omega) hS (by first | omega | exact pq_sA_0 hpre.2 | exact G177) (by first | omega | exact pq_sA_0 hpre.2 | exact G177) (by first | omega | exact pq_sA_0 hpre.2 | exact G177)
            · skip
              intro v155 e155 a155 b155
              refine And.intro (fun h160 => ?_) (fun h160 => ?_)
              · skip
                intro v166 e166 a166 b166
                intro v172 e172 a172 b172
                intro v176 e176 a176 b176
                try rw [pz_wi (by first | decide | omega) (by first | decide | omega)] at e176
                refine And.intro (hI) ?_
                intro M177 q177
                obtain ⟨q177, z177⟩ := q177
                have hS : pq_pr pq_Pp M M177 := hS.tr z177
                have hI : pz_ic M177 := hS.1 hI0
                have G177 : pq_sA M M177 v166 ∧ M177 5 5 = N131 5 5 + 1 := by
                  first
                    | (have c := pq_cu_la G132.1 (by first | decide | omega) (by first | decide | omega) q177
                       exact ⟨pq_sD_n G132 T131 (by first | decide | omega) c (by first | decide | omega), c.2.1⟩)
                    | (have c := pq_cu_la G142.1 (by first | decide | omega) (by first | decide | omega) q177
                       exact ⟨pq_sD_n G142 T142 (by first | decide | omega) c (by first | decide | omega), by rw [c.2.1, K142]⟩)
                obtain ⟨G177, K177⟩ := G177
                intro v180 e180 a180 b180
                try rw [pz_wi (by first | decide | omega) (by first | decide | omega)] at e180
                exact ih4 _ _ _ _ _ (by first | decide | omega) hS (by first | omega | exact pq_sA_0 hpre.2 | exact G177) (by first | omega | exact pq_sA_0 hpre.2 | exact G177) (by first | omega | exact pq_sA_0 hpre.2 | exact G177)
              · skip
                refine And.intro (by first | omega | exact Or.inl q101.1) ?_
                refine And.intro rfl ?_
                first
                  | exact ⟨pq_sD_e G132 T131 (by first | decide | omega), hS⟩
                  | exact ⟨pq_sD_e G142 T142 (by first | decide | omega), hS⟩
          · skip
            skip
            refine pz_nrc (c := 12) rfl ?_
            intro v141 e141 a141 b141
            rw [pz_not (by first | decide | omega) (by first | decide | omega)] at e141
            refine And.intro (And.intro hI rfl) ?_
            intro M142 q142
            obtain ⟨q142, z142⟩ := q142
            have hS : pq_pr pq_Pp M M142 := hS.tr z142
            have hI : pz_ic M142 := hS.1 hI0
            have G142 := pq_sC_p g131_4 h12 h132 e141 q142
            have T142 := pq_T3_of hS
            have K142 := (pq_put_s q142 g131_4.2.2.1 (by have := g131_4.2.1; omega) g131_4.1).2.1
            intro v146 e146 a146 b146
            refine And.intro (fun h151 => ?_) (fun h151 => ?_)
            · skip
              intro v166 e166 a166 b166
              intro v172 e172 a172 b172
              intro v176 e176 a176 b176
              try rw [pz_wi (by first | decide | omega) (by first | decide | omega)] at e176
              refine And.intro (hI) ?_
              intro M177 q177
              obtain ⟨q177, z177⟩ := q177
              have hS : pq_pr pq_Pp M M177 := hS.tr z177
              have hI : pz_ic M177 := hS.1 hI0
              have G177 : pq_sA M M177 v166 ∧ M177 5 5 = N131 5 5 + 1 := by
                first
                  | (have c := pq_cu_la G132.1 (by first | decide | omega) (by first | decide | omega) q177
                     exact ⟨pq_sD_n G132 T131 (by first | decide | omega) c (by first | decide | omega), c.2.1⟩)
                  | (have c := pq_cu_la G142.1 (by first | decide | omega) (by first | decide | omega) q177
                     exact ⟨pq_sD_n G142 T142 (by first | decide | omega) c (by first | decide | omega), by rw [c.2.1, K142]⟩)
              obtain ⟨G177, K177⟩ := G177
              intro v180 e180 a180 b180
              try rw [pz_wi (by first | decide | omega) (by first | decide | omega)] at e180
              exact ih4 _ _ _ _ _ (by first | decide | omega) hS (by first | omega | exact pq_sA_0 hpre.2 | exact G177) (by first | omega | exact pq_sA_0 hpre.2 | exact G177) (by first | omega | exact pq_sA_0 hpre.2 | exact G177)
            · skip
              intro v155 e155 a155 b155
              refine And.intro (fun h160 => ?_) (fun h160 => ?_)
              · skip
                intro v166 e166 a166 b166
                intro v172 e172 a172 b172
                intro v176 e176 a176 b176
                try rw [pz_wi (by first | decide | omega) (by first | decide | omega)] at e176
                refine And.intro (hI) ?_
                intro M177 q177
                obtain ⟨q177, z177⟩ := q177
                have hS : pq_pr pq_Pp M M177 := hS.tr z177
                have hI : pz_ic M177 := hS.1 hI0
                have G177 : pq_sA M M177 v166 ∧ M177 5 5 = N131 5 5 + 1 := by
                  first
                    | (have c := pq_cu_la G132.1 (by first | decide | omega) (by first | decide | omega) q177
                       exact ⟨pq_sD_n G132 T131 (by first | decide | omega) c (by first | decide | omega), c.2.1⟩)
                    | (have c := pq_cu_la G142.1 (by first | decide | omega) (by first | decide | omega) q177
                       exact ⟨pq_sD_n G142 T142 (by first | decide | omega) c (by first | decide | omega), by rw [c.2.1, K142]⟩)
                obtain ⟨G177, K177⟩ := G177
                intro v180 e180 a180 b180
                try rw [pz_wi (by first | decide | omega) (by first | decide | omega)] at e180
                exact ih4 _ _ _ _ _ (by first | decide | omega) hS (by first | omega | exact pq_sA_0 hpre.2 | exact G177) (by first | omega | exact pq_sA_0 hpre.2 | exact G177) (by first | omega | exact pq_sA_0 hpre.2 | exact G177)
              · skip
                refine And.intro (by first | omega | exact Or.inl q101.1) ?_
                refine And.intro rfl ?_
                first
                  | exact ⟨pq_sD_e G132 T131 (by first | decide | omega), hS⟩
                  | exact ⟨pq_sD_e G142 T142 (by first | decide | omega), hS⟩
        have L22 : ∀ (fu : Nat) (x1 : Int) (x2 : Int) (x3 : Int) (d4 : Option pz_V) (N22 : pz_M), (400 - x3).toNat < fu → (pq_pr pq_Pp M N22) → (0 ≤ x3) → (0 ≤ x2) → (x2 < 400) → ((400 - x2).toNat < fo + 1) → (pq_sB M N22 x1) → (2 * x2 + 1 ≤ N22 5 5) → (2 * x3 ≤ N22 5 5) → Ok 22 [some (.inr (.inr (9, 5))), some (.inl x1), some (.inl x2), some (.inl x3), d4] [] N22 := by
          intro fu
          induction fu with
          | zero => exact fun _ _ _ _ _ hn => absurd hn (Nat.not_lt_zero _)
          | succ fu ih22 =>
            intro x1 x2 x3 d4 N22 hn22 hS g22_1 g22_2 g22_3 g22_4 g22_5 g22_6 g22_7
            have hI : pz_ic N22 := hS.1 hI0
            have hC := g22_5.cq
            have T22 := pq_T3_of hS
            have B22 := pq_cu_b g22_5.1
            refine hgo (fun p => Nat.beq p 4 || Nat.beq p 22 || Nat.beq p 131) 100 22 _ _ _ ?_
            refine And.intro (fun h26 => ?_) (fun h26 => ?_)
            · skip
              exfalso; omega
            · skip
              intro v30 e30 a30 b30
              refine And.intro (fun h35 => ?_) (fun h35 => ?_)
              · skip
                intro v48 e48 a48 b48
                intro v55 e55 a55 b55
                intro v59 e59 a59 b59
                try rw [pz_wi (by first | decide | omega) (by first | decide | omega)] at e59
                refine And.intro (hI) ?_
                intro M60 q60
                obtain ⟨q60, z60⟩ := q60
                have hS : pq_pr pq_Pp M M60 := hS.tr z60
                have hI : pz_ic M60 := hS.1 hI0
                have C60 : pq_nx N22 M60 := pq_cu_la g22_5.1 (by first | decide | omega) (by first | decide | omega) q60
                have T60 := pq_T3_of hS
                have hC : pq_cq M60 := C60.cq hC
                have K60 := C60.2.1
                refine And.intro (fun h67 => ?_) (fun h67 => ?_)
                · skip
                  refine And.intro (And.intro hI hC) ?_
                  intro v106 M106 a106 b106 q106
                  obtain ⟨q106, z106⟩ := q106
                  have hS : pq_pr pq_Pp M M106 := hS.tr z106
                  have hI : pz_ic M106 := hS.1 hI0
                  refine And.intro (fun h109 => ?_) (fun h109 => ?_)
                  · skip
                    refine pz_nrc (c := 12) rfl ?_
                    intro v121 e121 a121 b121
                    rw [pz_not (by first | decide | omega) (by first | decide | omega)] at e121
                    refine And.intro (And.intro hI rfl) ?_
                    intro M122 q122
                    obtain ⟨q122, z122⟩ := q122
                    have hS : pq_pr pq_Pp M M122 := hS.tr z122
                    have hI : pz_ic M122 := hS.1 hI0
                    have G122 := pq_sB_x g22_5 T22 T60 h12 (by first | decide | omega) C60 q106 h109 q122
                    have K122 := G122.2
                    intro v125 e125 a125 b125
                    try rw [pz_wi (by first | decide | omega) (by first | decide | omega)] at e125
                    exact ih22 _ _ _ _ _ (by first | decide | omega) hS (by first | omega | exact G15 | exact G122.1) (by first | omega | exact G15 | exact G122.1) (by first | omega | exact G15 | exact G122.1) (by first | omega | exact G15 | exact G122.1) (by first | omega | exact G15 | exact G122.1) (by first | omega | exact G15 | exact G122.1) (by first | omega | exact G15 | exact G122.1)
                  · skip
                    refine And.intro (by first | omega | exact Or.inl q101.1) ?_
                    refine And.intro rfl ?_
                    exact ⟨pq_sB_u g22_5 T22 T60 (by first | decide | omega) C60 q106 h109, hS⟩
                · skip
                  intro v71 e71 a71 b71
                  refine And.intro (fun h76 => ?_) (fun h76 => ?_)
                  · skip
                    intro v88 e88 a88 b88
                    refine And.intro (fun h93 => ?_) (fun h93 => ?_)
                    · skip
                      refine And.intro (hI) ?_
                      intro v101 M101 a101 b101 q101
                      obtain ⟨q101, z101⟩ := q101
                      have hS : pq_pr pq_Pp M M101 := hS.tr z101
                      have hI : pz_ic M101 := hS.1 hI0
                      refine And.intro (by first | omega | exact Or.inl q101.1) ?_
                      refine And.intro rfl ?_
                      exact ⟨by rw [q101.1]; exact pq_sB_w g22_5 T22 T60 (by first | decide | omega) (by first | decide | omega) C60 q101.2, hS⟩
                    · skip
                      refine And.intro (hI) ?_
                      intro v101 M101 a101 b101 q101
                      obtain ⟨q101, z101⟩ := q101
                      have hS : pq_pr pq_Pp M M101 := hS.tr z101
                      have hI : pz_ic M101 := hS.1 hI0
                      refine And.intro (by first | omega | exact Or.inl q101.1) ?_
                      refine And.intro rfl ?_
                      exact ⟨by rw [q101.1]; exact pq_sB_w g22_5 T22 T60 (by first | decide | omega) (by first | decide | omega) C60 q101.2, hS⟩
                  · skip
                    intro v80 e80 a80 b80
                    refine And.intro (fun h83 => ?_) (fun h83 => ?_)
                    · skip
                      refine And.intro (And.intro hI hC) ?_
                      intro v106 M106 a106 b106 q106
                      obtain ⟨q106, z106⟩ := q106
                      have hS : pq_pr pq_Pp M M106 := hS.tr z106
                      have hI : pz_ic M106 := hS.1 hI0
                      refine And.intro (fun h109 => ?_) (fun h109 => ?_)
                      · skip
                        refine pz_nrc (c := 12) rfl ?_
                        intro v121 e121 a121 b121
                        rw [pz_not (by first | decide | omega) (by first | decide | omega)] at e121
                        refine And.intro (And.intro hI rfl) ?_
                        intro M122 q122
                        obtain ⟨q122, z122⟩ := q122
                        have hS : pq_pr pq_Pp M M122 := hS.tr z122
                        have hI : pz_ic M122 := hS.1 hI0
                        have G122 := pq_sB_x g22_5 T22 T60 h12 (by first | decide | omega) C60 q106 h109 q122
                        have K122 := G122.2
                        intro v125 e125 a125 b125
                        try rw [pz_wi (by first | decide | omega) (by first | decide | omega)] at e125
                        exact ih22 _ _ _ _ _ (by first | decide | omega) hS (by first | omega | exact G15 | exact G122.1) (by first | omega | exact G15 | exact G122.1) (by first | omega | exact G15 | exact G122.1) (by first | omega | exact G15 | exact G122.1) (by first | omega | exact G15 | exact G122.1) (by first | omega | exact G15 | exact G122.1) (by first | omega | exact G15 | exact G122.1)
                      · skip
                        refine And.intro (by first | omega | exact Or.inl q101.1) ?_
                        refine And.intro rfl ?_
                        exact ⟨pq_sB_u g22_5 T22 T60 (by first | decide | omega) C60 q106 h109, hS⟩
                    · skip
                      intro v88 e88 a88 b88
                      refine And.intro (fun h93 => ?_) (fun h93 => ?_)
                      · skip
                        refine And.intro (hI) ?_
                        intro v101 M101 a101 b101 q101
                        obtain ⟨q101, z101⟩ := q101
                        have hS : pq_pr pq_Pp M M101 := hS.tr z101
                        have hI : pz_ic M101 := hS.1 hI0
                        refine And.intro (by first | omega | exact Or.inl q101.1) ?_
                        refine And.intro rfl ?_
                        exact ⟨by rw [q101.1]; exact pq_sB_w g22_5 T22 T60 (by first | decide | omega) (by first | decide | omega) C60 q101.2, hS⟩
                      · skip
                        refine And.intro (hI) ?_
                        intro v101 M101 a101 b101 q101
                        obtain ⟨q101, z101⟩ := q101
                        have hS : pq_pr pq_Pp M M101 := hS.tr z101
                        have hI : pz_ic M101 := hS.1 hI0
                        refine And.intro (by first | omega | exact Or.inl q101.1) ?_
                        refine And.intro rfl ?_
                        exact ⟨by rw [q101.1]; exact pq_sB_w g22_5 T22 T60 (by first | decide | omega) (by first | decide | omega) C60 q101.2, hS⟩
              · skip
                intro v39 e39 a39 b39
                refine And.intro (fun h44 => ?_) (fun h44 => ?_)
                · skip
                  have G44 := pq_sB_0 g22_5 T22 (by first | decide | omega)
                  exact L131 _ _ _ _ _ hS (by first | omega | exact G44) (by first | omega | exact G44) (by first | omega | exact G44) (by first | omega | exact G44) (by first | omega | exact G44)
                · skip
                  skip
                  intro v48 e48 a48 b48
                  intro v55 e55 a55 b55
                  intro v59 e59 a59 b59
                  try rw [pz_wi (by first | decide | omega) (by first | decide | omega)] at e59
                  refine And.intro (hI) ?_
                  intro M60 q60
                  obtain ⟨q60, z60⟩ := q60
                  have hS : pq_pr pq_Pp M M60 := hS.tr z60
                  have hI : pz_ic M60 := hS.1 hI0
                  have C60 : pq_nx N22 M60 := pq_cu_la g22_5.1 (by first | decide | omega) (by first | decide | omega) q60
                  have T60 := pq_T3_of hS
                  have hC : pq_cq M60 := C60.cq hC
                  have K60 := C60.2.1
                  refine And.intro (fun h67 => ?_) (fun h67 => ?_)
                  · skip
                    refine And.intro (And.intro hI hC) ?_
                    intro v106 M106 a106 b106 q106
                    obtain ⟨q106, z106⟩ := q106
                    have hS : pq_pr pq_Pp M M106 := hS.tr z106
                    have hI : pz_ic M106 := hS.1 hI0
                    refine And.intro (fun h109 => ?_) (fun h109 => ?_)
                    · skip
                      refine pz_nrc (c := 12) rfl ?_
                      intro v121 e121 a121 b121
                      rw [pz_not (by first | decide | omega) (by first | decide | omega)] at e121
                      refine And.intro (And.intro hI rfl) ?_
                      intro M122 q122
                      obtain ⟨q122, z122⟩ := q122
                      have hS : pq_pr pq_Pp M M122 := hS.tr z122
                      have hI : pz_ic M122 := hS.1 hI0
                      have G122 := pq_sB_x g22_5 T22 T60 h12 (by first | decide | omega) C60 q106 h109 q122
                      have K122 := G122.2
                      intro v125 e125 a125 b125
                      try rw [pz_wi (by first | decide | omega) (by first | decide | omega)] at e125
                      exact ih22 _ _ _ _ _ (by first | decide | omega) hS (by first | omega | exact G15 | exact G122.1) (by first | omega | exact G15 | exact G122.1) (by first | omega | exact G15 | exact G122.1) (by first | omega | exact G15 | exact G122.1) (by first | omega | exact G15 | exact G122.1) (by first | omega | exact G15 | exact G122.1) (by first | omega | exact G15 | exact G122.1)
                    · skip
                      refine And.intro (by first | omega | exact Or.inl q101.1) ?_
                      refine And.intro rfl ?_
                      exact ⟨pq_sB_u g22_5 T22 T60 (by first | decide | omega) C60 q106 h109, hS⟩
                  · skip
                    intro v71 e71 a71 b71
                    refine And.intro (fun h76 => ?_) (fun h76 => ?_)
                    · skip
                      intro v88 e88 a88 b88
                      refine And.intro (fun h93 => ?_) (fun h93 => ?_)
                      · skip
                        refine And.intro (hI) ?_
                        intro v101 M101 a101 b101 q101
                        obtain ⟨q101, z101⟩ := q101
                        have hS : pq_pr pq_Pp M M101 := hS.tr z101
                        have hI : pz_ic M101 := hS.1 hI0
                        refine And.intro (by first | omega | exact Or.inl q101.1) ?_
                        refine And.intro rfl ?_
                        exact ⟨by rw [q101.1]; exact pq_sB_w g22_5 T22 T60 (by first | decide | omega) (by first | decide | omega) C60 q101.2, hS⟩
                      · skip
                        refine And.intro (hI) ?_
                        intro v101 M101 a101 b101 q101
                        obtain ⟨q101, z101⟩ := q101
                        have hS : pq_pr pq_Pp M M101 := hS.tr z101
                        have hI : pz_ic M101 := hS.1 hI0
                        refine And.intro (by first | omega | exact Or.inl q101.1) ?_
                        refine And.intro rfl ?_
                        exact ⟨by rw [q101.1]; exact pq_sB_w g22_5 T22 T60 (by first | decide | omega) (by first | decide | omega) C60 q101.2, hS⟩
                    · skip
                      intro v80 e80 a80 b80
                      refine And.intro (fun h83 => ?_) (fun h83 => ?_)
                      · skip
                        refine And.intro (And.intro hI hC) ?_
                        intro v106 M106 a106 b106 q106
                        obtain ⟨q106, z106⟩ := q106
                        have hS : pq_pr pq_Pp M M106 := hS.tr z106
                        have hI : pz_ic M106 := hS.1 hI0
                        refine And.intro (fun h109 => ?_) (fun h109 => ?_)
                        · skip
                          refine pz_nrc (c := 12) rfl ?_
                          intro v121 e121 a121 b121
                          rw [pz_not (by first | decide | omega) (by first | decide | omega)] at e121
                          refine And.intro (And.intro hI rfl) ?_
                          intro M122 q122
                          obtain ⟨q122, z122⟩ := q122
                          have hS : pq_pr pq_Pp M M122 := hS.tr z122
                          have hI : pz_ic M122 := hS.1 hI0
                          have G122 := pq_sB_x g22_5 T22 T60 h12 (by first | decide | omega) C60 q106 h109 q122
                          have K122 := G122.2
                          intro v125 e125 a125 b125
                          try rw [pz_wi (by first | decide | omega) (by first | decide | omega)] at e125
                          exact ih22 _ _ _ _ _ (by first | decide | omega) hS (by first | omega | exact G15 | exact G122.1) (by first | omega | exact G15 | exact G122.1) (by first | omega | exact G15 | exact G122.1) (by first | omega | exact G15 | exact G122.1) (by first | omega | exact G15 | exact G122.1) (by first | omega | exact G15 | exact G122.1) (by first | omega | exact G15 | exact G122.1)
                        · skip
                          refine And.intro (by first | omega | exact Or.inl q101.1) ?_
                          refine And.intro rfl ?_
                          exact ⟨pq_sB_u g22_5 T22 T60 (by first | decide | omega) C60 q106 h109, hS⟩
                      · skip
                        intro v88 e88 a88 b88
                        refine And.intro (fun h93 => ?_) (fun h93 => ?_)
                        · skip
                          refine And.intro (hI) ?_
                          intro v101 M101 a101 b101 q101
                          obtain ⟨q101, z101⟩ := q101
                          have hS : pq_pr pq_Pp M M101 := hS.tr z101
                          have hI : pz_ic M101 := hS.1 hI0
                          refine And.intro (by first | omega | exact Or.inl q101.1) ?_
                          refine And.intro rfl ?_
                          exact ⟨by rw [q101.1]; exact pq_sB_w g22_5 T22 T60 (by first | decide | omega) (by first | decide | omega) C60 q101.2, hS⟩
                        · skip
                          refine And.intro (hI) ?_
                          intro v101 M101 a101 b101 q101
                          obtain ⟨q101, z101⟩ := q101
                          have hS : pq_pr pq_Pp M M101 := hS.tr z101
                          have hI : pz_ic M101 := hS.1 hI0
                          refine And.intro (by first | omega | exact Or.inl q101.1) ?_
                          refine And.intro rfl ?_
                          exact ⟨by rw [q101.1]; exact pq_sB_w g22_5 T22 T60 (by first | decide | omega) (by first | decide | omega) C60 q101.2, hS⟩
        refine hgo (fun p => Nat.beq p 4 || Nat.beq p 22 || Nat.beq p 131) 100 4 _ _ _ ?_
        refine And.intro (fun h8 => ?_) (fun h8 => ?_)
        · skip
          exfalso; omega
        · skip
          refine And.intro (And.intro hI hC) ?_
          intro v12 M12 a12 b12 q12
          obtain ⟨q12, z12⟩ := q12
          have hS : pq_pr pq_Pp M M12 := hS.tr z12
          have hI : pz_ic M12 := hS.1 hI0
          refine And.intro (fun h15 => ?_) (fun h15 => ?_)
          · skip
            have G15 := pq_sA_u g4_2 ⟨T4.1, T4.2.1⟩ h12 q12 h15
            have K15 := pq_cgu_1 q12 h15
            exact L22 _ _ _ _ _ _ (Nat.lt_succ_self _) hS (by first | omega | exact G15 | exact G122.1) (by first | omega | exact G15 | exact G122.1) (by first | omega | exact G15 | exact G122.1) (by first | omega | exact G15 | exact G122.1) (by first | omega | exact G15 | exact G122.1) (by first | omega | exact G15 | exact G122.1) (by first | omega | exact G15 | exact G122.1)
          · skip
            skip
            refine And.intro (by first | omega | exact Or.inl q101.1) ?_
            refine And.intro rfl ?_
            exact ⟨pq_sA_b g4_2 T4 q12 h15, hS⟩
    refine hgo (fun p => Nat.beq p 4 || Nat.beq p 22 || Nat.beq p 131) 100 0 _ [] M ?_
    exact L4 _ _ _ _ _ _ (Nat.lt_succ_self _) hS (by first | omega | exact pq_sA_0 hpre.2 | exact G177) (by first | omega | exact pq_sA_0 hpre.2 | exact G177) (by first | omega | exact pq_sA_0 hpre.2 | exact G177)
theorem v_X9_sum {fr lo i : Nat} {own : String} (h1 : 2 + 1 ≤ fr) (h2 : 8 + (5 + 11) + 41 ≤ lo) (h3 : .methodLink own i yX9_sum ∈ lw_tbl) : pz_cV fr lo own i k_X9_sum :=
  pz_cVk (maxL := 5) (fr' := 2) (lo' := 41) 0 9 h_X9_sum rfl ⟨(pz_nhc_RX9 yX9_sum rfl).1, (pz_nhc_RX9 yX9_sum rfl).2, pz_ds3⟩ ⟨pz_wq760, pz_wq758, pz_wq759, pz_wq10⟩ (Or.inl ⟨TX9, 10, rfl⟩) (fun a M _ h => by
    have h : (match (generalizing := false) a with | [.inr (.inr (9, th))] => pz_ic M ∧ pq_cq M | _ => False) := h
    split at h
    · exact ⟨_, _, rfl⟩
    · exact h.elim) h1 h2 h3
noncomputable def k_X9_otherLink : pz_C := (2, 1, fun a M => (match a with | [.inr (.inr (9, th)), .inl i] => pz_ic M ∧ pq_cu M ∧ 0 ≤ M 5 8 ∧ M 5 8 ≤ 12 | _ => False), fun a M r M' => (match a, r with | [.inr (.inr (9, th)), .inl i], some (.inl v) => ((M 5 6 = 100 ∧ M 5 7 = i ∧ v = -1 ∧ pq_wr M M' 2) ∨ (¬ (M 5 6 = 100 ∧ M 5 7 = i) ∧ pq_nm M M' 0 (M 5 8 - 1) v)) ∧ pq_pr pq_Pp M M' | _, _ => False))
noncomputable abbrev ct_X9_otherLink : List (Bool × Nat × pz_C) := [(true, 100, k_X9_wrong), (true, 140, k_X9_numeral)]
set_option maxRecDepth 100000 in
set_option maxHeartbeats 4000000 in
theorem h_X9_otherLink : pz_H yX9_otherLink cX9_otherLink 2 (some .int) k_X9_otherLink 2 44 := by
  refine pz_mk (own := RX9) (tb := t_X9_otherLink) (fl := pz_flf fl_RX9) (ci := fun _ => none) (ct := pz_ctf ct_X9_otherLink) (rz := false) (pz_pfc_RX9 yX9_otherLink rfl) rfl t_X9_otherLink_ok (pz_flk fl_RX9_ok) (fun i v h => by cases h) ?_ ?_ (Or.inl ⟨rfl, rfl⟩) ?_ ?_
  · exact fun i k' h => pz_ctk (l := ct_X9_otherLink) (P := fun b i k => b = true → pz_cV 2 44 RX9 i k) (List.forall_mem_cons.mpr ⟨(fun _ => v_X9_wrong (by decide) (by decide) pz_wq753), List.forall_mem_cons.mpr ⟨(fun _ => v_X9_numeral (by decide) (by decide) pz_wq800), fun _ h => absurd h List.not_mem_nil⟩⟩) true i k' h rfl
  · exact fun i k' h => pz_ctk (l := ct_X9_otherLink) (P := fun b i k => b = false → (pz_cS 2 44 RX9 i k ∨ (k = pz_kac ∧ 1 ≤ 2 ∧ 60 ≤ 44 ∧ Cond.methodLink RX9 i arraycopyName ∈ pz_tbl))) (List.forall_mem_cons.mpr ⟨((fun z => by cases z)), List.forall_mem_cons.mpr ⟨((fun z => by cases z)), fun _ h => absurd h List.not_mem_nil⟩⟩) false i k' h rfl
  · intro a M hlen hpre
    obtain ⟨th, i, rfl, hpre⟩ : ∃ th i, a = [.inr (.inr (9, th)), .inl i] ∧ (pz_ic M ∧ pq_cu M ∧ 0 ≤ M 5 8 ∧ M 5 8 ≤ 12) := by
      have hpre : (match (generalizing := false) a with | [.inr (.inr (9, th)), .inl i] => pz_ic M ∧ pq_cu M ∧ 0 ≤ M 5 8 ∧ M 5 8 ≤ 12 | _ => False) := hpre
      split at hpre
      · exact ⟨_, _, rfl, hpre⟩
      · exact hpre.elim
    exact Nat.le_of_ble_eq_true rfl
  · intro a M hlen hcan hM hpre Ok hgo
    obtain ⟨th, i, rfl, hpre⟩ : ∃ th i, a = [.inr (.inr (9, th)), .inl i] ∧ (pz_ic M ∧ pq_cu M ∧ 0 ≤ M 5 8 ∧ M 5 8 ≤ 12) := by
      have hpre : (match (generalizing := false) a with | [.inr (.inr (9, th)), .inl i] => pz_ic M ∧ pq_cu M ∧ 0 ≤ M 5 8 ∧ M 5 8 ≤ 12 | _ => False) := hpre
      split at hpre
      · exact ⟨_, _, rfl, hpre⟩
      · exact hpre.elim
    obtain ⟨k_th, hc_th⟩ := pz_tlm hcan
    have k_th : pz_kd th = 9 ∧ th < 231 := k_th
    have R_th := pz_kd9 k_th.1
    subst R_th
    obtain ⟨k_i, hc_i⟩ := pz_tlm hc_th
    have l_i : -2147483648 ≤ i := k_i.1
    have u_i : i ≤ 2147483647 := k_i.2
    have hI : pz_ic M := hpre.1
    have hI0 := hI
    have hS : pq_pr pq_Pp M M := pq_pr.rf
    obtain ⟨-, hC, p1, p2⟩ := hpre
    have B9 := pq_cu_b hC
    refine hgo (fun _ => false) 24 0 _ [] M ?_
    intro v1 e1 a1 b1
    refine And.intro (fun h6 => ?_) (fun h6 => ?_)
    · skip
      intro v28 e28 a28 b28
      intro v32 e32 a32 b32
      try rw [pz_wi (by first | decide | omega) (by first | decide | omega)] at e32
      refine And.intro (And.intro hI hC) ?_
      intro v33 M33 a33 b33 q33
      obtain ⟨q33, z33⟩ := q33
      have hS : pq_pr pq_Pp M M33 := hS.tr z33
      have hI : pz_ic M33 := hS.1 hI0
      rw [show v32 = M 5 8 - 1 by omega] at q33
      refine And.intro rfl ?_
      exact ⟨Or.inr ⟨by omega, q33⟩, hS⟩
    · skip
      intro v10 e10 a10 b10
      refine And.intro (fun h14 => ?_) (fun h14 => ?_)
      · skip
        intro v28 e28 a28 b28
        intro v32 e32 a32 b32
        try rw [pz_wi (by first | decide | omega) (by first | decide | omega)] at e32
        refine And.intro (And.intro hI hC) ?_
        intro v33 M33 a33 b33 q33
        obtain ⟨q33, z33⟩ := q33
        have hS : pq_pr pq_Pp M M33 := hS.tr z33
        have hI : pz_ic M33 := hS.1 hI0
        rw [show v32 = M 5 8 - 1 by omega] at q33
        refine And.intro rfl ?_
        exact ⟨Or.inr ⟨by omega, q33⟩, hS⟩
      · skip
        refine And.intro (hI) ?_
        intro v19 M19 a19 b19 q19
        obtain ⟨q19, z19⟩ := q19
        have hS : pq_pr pq_Pp M M19 := hS.tr z19
        have hI : pz_ic M19 := hS.1 hI0
        refine And.intro rfl ?_
        exact ⟨Or.inl ⟨by omega, by omega, rfl, q19.2⟩, hS⟩
theorem v_X9_otherLink {fr lo i : Nat} {own : String} (h1 : 2 + 1 ≤ fr) (h2 : 8 + (2 + 11) + 44 ≤ lo) (h3 : .methodLink own i yX9_otherLink ∈ lw_tbl) : pz_cV fr lo own i k_X9_otherLink :=
  pz_cVk (maxL := 2) (fr' := 2) (lo' := 44) 1 9 h_X9_otherLink rfl ⟨(pz_nhc_RX9 yX9_otherLink rfl).1, (pz_nhc_RX9 yX9_otherLink rfl).2, pz_ds5⟩ ⟨pz_wq807, pz_wq805, pz_wq806, pz_wq10⟩ (Or.inl ⟨TX9, 10, rfl⟩) (fun a M _ h => by
    have h : (match (generalizing := false) a with | [.inr (.inr (9, th)), .inl i] => pz_ic M ∧ pq_cu M ∧ 0 ≤ M 5 8 ∧ M 5 8 ≤ 12 | _ => False) := h
    split at h
    · exact ⟨_, _, rfl⟩
    · exact h.elim) h1 h2 h3
noncomputable def k_X9_planLine : pz_C := (1, 1, fun a M => (match a with | [.inr (.inr (9, th))] => pz_ic M ∧ pq_cu M ∧ 0 ≤ M 5 8 ∧ M 5 8 ≤ 12 | _ => False), fun a M r M' => (match a, r with | [.inr (.inr (9, th))], some (.inl v) => (pq_rl (pz_rp (M 5 8) (M 49) (M 50) (M 5 5).toNat) M M' v) ∧ pq_pr pq_Pl M M' | _, _ => False))
noncomputable abbrev ct_X9_planLine : List (Bool × Nat × pz_C) := [(true, 140, k_X9_numeral), (true, 100, k_X9_wrong), (true, 50, k_X9_lookAt), (true, 144, k_X9_otherLink), (true, 148, k_X6_add)]
set_option maxRecDepth 100000 in
set_option maxHeartbeats 4000000 in
theorem h_X9_planLine : pz_H yX9_planLine cX9_planLine 6 (some .boolean) k_X9_planLine 3 65 := by
  refine pz_mk (own := RX9) (tb := t_X9_planLine) (fl := pz_flf fl_RX9) (ci := fun _ => none) (ct := pz_ctf ct_X9_planLine) (rz := true) (pz_pfc_RX9 yX9_planLine rfl) rfl t_X9_planLine_ok (pz_flk fl_RX9_ok) (fun i v h => by cases h) ?_ ?_ (Or.inr ⟨rfl, rfl⟩) ?_ ?_
  · exact fun i k' h => pz_ctk (l := ct_X9_planLine) (P := fun b i k => b = true → pz_cV 3 65 RX9 i k) (List.forall_mem_cons.mpr ⟨(fun _ => v_X9_numeral (by decide) (by decide) pz_wq800), List.forall_mem_cons.mpr ⟨(fun _ => v_X9_wrong (by decide) (by decide) pz_wq753), List.forall_mem_cons.mpr ⟨(fun _ => v_X9_lookAt (by decide) (by decide) pz_wq741), List.forall_mem_cons.mpr ⟨(fun _ => v_X9_otherLink (by decide) (by decide) pz_wq804), List.forall_mem_cons.mpr ⟨(fun _ => v_X6_add (by decide) (by decide) pz_wq808), fun _ h => absurd h List.not_mem_nil⟩⟩⟩⟩⟩) true i k' h rfl
  · exact fun i k' h => pz_ctk (l := ct_X9_planLine) (P := fun b i k => b = false → (pz_cS 3 65 RX9 i k ∨ (k = pz_kac ∧ 1 ≤ 3 ∧ 60 ≤ 65 ∧ Cond.methodLink RX9 i arraycopyName ∈ pz_tbl))) (List.forall_mem_cons.mpr ⟨((fun z => by cases z)), List.forall_mem_cons.mpr ⟨((fun z => by cases z)), List.forall_mem_cons.mpr ⟨((fun z => by cases z)), List.forall_mem_cons.mpr ⟨((fun z => by cases z)), List.forall_mem_cons.mpr ⟨((fun z => by cases z)), fun _ h => absurd h List.not_mem_nil⟩⟩⟩⟩⟩) false i k' h rfl
  · intro a M hlen hpre
    obtain ⟨th, rfl, hpre⟩ : ∃ th, a = [.inr (.inr (9, th))] ∧ (pz_ic M ∧ pq_cu M ∧ 0 ≤ M 5 8 ∧ M 5 8 ≤ 12) := by
      have hpre : (match (generalizing := false) a with | [.inr (.inr (9, th))] => pz_ic M ∧ pq_cu M ∧ 0 ≤ M 5 8 ∧ M 5 8 ≤ 12 | _ => False) := hpre
      split at hpre
      · exact ⟨_, rfl, hpre⟩
      · exact hpre.elim
    exact Nat.le_of_ble_eq_true rfl
  · intro a M hlen hcan hM hpre Ok hgo
    obtain ⟨th, rfl, hpre⟩ : ∃ th, a = [.inr (.inr (9, th))] ∧ (pz_ic M ∧ pq_cu M ∧ 0 ≤ M 5 8 ∧ M 5 8 ≤ 12) := by
      have hpre : (match (generalizing := false) a with | [.inr (.inr (9, th))] => pz_ic M ∧ pq_cu M ∧ 0 ≤ M 5 8 ∧ M 5 8 ≤ 12 | _ => False) := hpre
      split at hpre
      · exact ⟨_, rfl, hpre⟩
      · exact hpre.elim
    obtain ⟨k_th, hc_th⟩ := pz_tlm hcan
    have k_th : pz_kd th = 9 ∧ th < 231 := k_th
    have R_th := pz_kd9 k_th.1
    subst R_th
    have hI : pz_ic M := hpre.1
    have hI0 := hI
    have hS : pq_pr pq_Pl M M := pq_pr.rf
    obtain ⟨-, hC, p1, p2⟩ := hpre
    have B9 := pq_cu_b hC
    have G0 := pq_go_0 hC
    have L116 : ∀ (x1 : Int) (x2 : Int) (x3 : Int) (x4 : Int) (d5 : Option pz_V) (s0 : Int) (N116 : pz_M), (pq_pr pq_Pl M N116) → (pq_pP M N116 x1 x2 x3 x4 s0) → Ok 116 [some (.inr (.inr (9, 5))), some (.inl x1), some (.inl x2), some (.inl x3), some (.inl x4), d5] [.inl s0] N116 := by
      intro x1 x2 x3 x4 d5 s0 N116 hS g116_1
      have hI : pz_ic N116 := hS.1 hI0
      refine hgo (fun p => Nat.beq p 83 || Nat.beq p 116) 86 116 _ _ _ ?_
      refine pz_nrc (c := 19) rfl ?_
      refine And.intro (And.intro hI (by first | decide | omega)) ?_
      intro M129 q129
      obtain ⟨q129, z129⟩ := q129
      have hS : pq_pr pq_Pl M M129 := hS.tr z129
      have hI : pz_ic M129 := hS.1 hI0
      have F129 := pq_pP_e g116_1 q129.1 q129.2
      refine And.intro (fun h135 => ?_) (fun h135 => ?_)
      · skip
        refine And.intro (by first | omega | exact Or.inl q35.1) ?_
        refine And.intro rfl ?_
        first
          | exact ⟨F129.1 (by first | decide | omega), hS⟩
          | exact ⟨F129.2 (by first | decide | omega), hS⟩
      · skip
        refine And.intro (by first | omega | exact Or.inl q35.1) ?_
        refine And.intro rfl ?_
        first
          | exact ⟨F129.1 (by first | decide | omega), hS⟩
          | exact ⟨F129.2 (by first | decide | omega), hS⟩
    have L83 : ∀ (x1 : Int) (x2 : Int) (x3 : Int) (d4 : Option pz_V) (d5 : Option pz_V) (s0 : Int) (N83 : pz_M), (pq_pr pq_Pl M N83) → (pq_pO M N83 x1 x2 x3 s0) → Ok 83 [some (.inr (.inr (9, 5))), some (.inl x1), some (.inl x2), some (.inl x3), d4, d5] [.inl s0] N83 := by
      intro x1 x2 x3 d4 d5 s0 N83 hS g83_1
      have hI : pz_ic N83 := hS.1 hI0
      refine hgo (fun p => Nat.beq p 83 || Nat.beq p 116) 86 83 _ _ _ ?_
      refine And.intro (fun h88 => ?_) (fun h88 => ?_)
      · skip
        obtain ⟨o88, o88g, o88e⟩ := (g83_1.resolve_left (fun z => h88 z.1)).2
        have hC := o88g.1
        refine And.intro (fun h96 => ?_) (fun h96 => ?_)
        · skip
          refine And.intro (And.intro hI hC) ?_
          intro v109 M109 a109 b109 q109
          obtain ⟨q109, z109⟩ := q109
          have hS : pq_pr pq_Pl M M109 := hS.tr z109.pl
          have hI : pz_ic M109 := hS.1 hI0
          exact L116 _ _ _ _ _ _ _ hS (by first | exact pq_pP_q o88g o88e (by first | decide | omega) q109 z109 | exact pq_pP_0 o88g o88e (by first | decide | omega))
        · skip
          refine And.intro (fun h102 => ?_) (fun h102 => ?_)
          · skip
            exact L116 _ _ _ _ _ _ _ hS (by first | exact pq_pP_q o88g o88e (by first | decide | omega) q109 z109 | exact pq_pP_0 o88g o88e (by first | decide | omega))
          · skip
            refine And.intro (And.intro hI hC) ?_
            intro v109 M109 a109 b109 q109
            obtain ⟨q109, z109⟩ := q109
            have hS : pq_pr pq_Pl M M109 := hS.tr z109.pl
            have hI : pz_ic M109 := hS.1 hI0
            exact L116 _ _ _ _ _ _ _ hS (by first | exact pq_pP_q o88g o88e (by first | decide | omega) q109 z109 | exact pq_pP_0 o88g o88e (by first | decide | omega))
      · skip
        skip
        refine And.intro (by first | omega | exact Or.inl q35.1) ?_
        refine And.intro rfl ?_
        exact ⟨(g83_1.resolve_right (fun z => z.1 (by first | decide | omega))).2, hS⟩
    refine hgo (fun p => Nat.beq p 83 || Nat.beq p 116) 86 0 _ [] M ?_
    refine And.intro (And.intro hI hC) ?_
    intro v5 M5 a5 b5 q5
    obtain ⟨q5, z5⟩ := q5
    have hS : pq_pr pq_Pl M M5 := hS.tr z5.pl
    have hI : pz_ic M5 := hS.1 hI0
    refine And.intro (fun h11 => ?_) (fun h11 => ?_)
    · skip
      obtain ⟨G5, g5, l5, u5⟩ := pq_go_y (o := 0) G0 q5 (by first | decide | omega) z5
      have hC := G5.1
      have D5 := pq_go_8 G5
      have t5 := pq_go_t G5
      have B5 := pq_cu_b hC
      intro v17 e17 a17 b17
      have t5w : M 49 ((M 5 5).toNat + 1) = v17 := t5.1.trans e17.symm
      refine And.intro (fun h24 => ?_) (fun h24 => ?_)
      · skip
        refine And.intro (hI) ?_
        intro v35 M35 a35 b35 q35
        obtain ⟨q35, z35⟩ := q35
        have hS : pq_pr pq_Pl M M35 := hS.tr z35.pl
        have hI : pz_ic M35 := hS.1 hI0
        have W35 := q35
        refine And.intro (by first | omega | exact Or.inl q35.1) ?_
        refine And.intro rfl ?_
        exact ⟨by rw [q35.1]; exact pq_rl_w (o := 1) G5 (by unfold pz_rp; rw [g5, if_neg (by first | decide | omega)]) q35.2, hS⟩
      · skip
        refine And.intro (fun h30 => ?_) (fun h30 => ?_)
        · skip
          intro v41 e41 a41 b41
          intro v45 e45 a45 b45
          try rw [pz_wi (by first | decide | omega) (by first | decide | omega)] at e45
          refine And.intro (hI) ?_
          intro M46 q46
          obtain ⟨q46, z46⟩ := q46
          have hS : pq_pr pq_Pl M M46 := hS.tr z46.pl
          have hI : pz_ic M46 := hS.1 hI0
          have N46 : pq_nx M5 M46 := pq_cu_la hC (by first | decide | omega) (by first | decide | omega) q46
          have G46 := pq_go_x G5 N46 z46
          have hC := G46.1
          have D46 := pq_go_8 G46
          intro v52 e52 a52 b52
          intro v56 e56 a56 b56
          try rw [pz_wi (by first | decide | omega) (by first | decide | omega)] at e56
          refine And.intro (And.intro hI hC) ?_
          intro v57 M57 a57 b57 q57
          obtain ⟨q57, z57⟩ := q57
          have hS : pq_pr pq_Pl M M57 := hS.tr z57.pl
          have hI : pz_ic M57 := hS.1 hI0
          rw [show v56 = M 5 8 - 1 by omega] at q57
          refine And.intro (fun h63 => ?_) (fun h63 => ?_)
          · skip
            obtain ⟨G57, g57, l57, u57⟩ := pq_go_y (o := 2) G46 q57 (by first | decide | omega) z57
            have hC := G57.1
            have D57 := pq_go_8 G57
            have t57 := pq_go_t G57
            have E57 : pq_rE M v5 v57 := by
              unfold pq_rE pz_rp
              rw [g5, if_pos (by first | decide | omega), g57]
            refine And.intro (fun h71 => ?_) (fun h71 => ?_)
            · skip
              exact L83 _ _ _ _ _ _ _ hS (by first | exact pq_pO_0 G57 E57 t5w (by first | decide | omega) | exact pq_pO_o G57 E57 t5w (by first | decide | omega) q76 z76)
            · skip
              refine And.intro (And.intro hI (And.intro hC (And.intro (by first | decide | omega) (by first | decide | omega)))) ?_
              intro v76 M76 a76 b76 q76
              obtain ⟨q76, z76⟩ := q76
              have hS : pq_pr pq_Pl M M76 := hS.tr z76.pl
              have hI : pz_ic M76 := hS.1 hI0
              rw [D57] at q76
              exact L83 _ _ _ _ _ _ _ hS (by first | exact pq_pO_0 G57 E57 t5w (by first | decide | omega) | exact pq_pO_o G57 E57 t5w (by first | decide | omega) q76 z76)
          · skip
            skip
            refine And.intro (by first | omega | exact Or.inl q35.1) ?_
            refine And.intro rfl ?_
            exact ⟨by
              obtain ⟨f, g, w⟩ := pq_go_n (o := 2) G46 q57 (by first | decide | omega) (by first | decide | omega)
              exact pq_rl_w G46 (by unfold pz_rp; rw [g5, if_pos (by first | decide | omega), g]) w, hS⟩
        · skip
          refine And.intro (hI) ?_
          intro v35 M35 a35 b35 q35
          obtain ⟨q35, z35⟩ := q35
          have hS : pq_pr pq_Pl M M35 := hS.tr z35.pl
          have hI : pz_ic M35 := hS.1 hI0
          have W35 := q35
          refine And.intro (by first | omega | exact Or.inl q35.1) ?_
          refine And.intro rfl ?_
          exact ⟨by rw [q35.1]; exact pq_rl_w (o := 1) G5 (by unfold pz_rp; rw [g5, if_neg (by first | decide | omega)]) q35.2, hS⟩
    · skip
      skip
      refine And.intro (by first | omega | exact Or.inl q35.1) ?_
      refine And.intro rfl ?_
      exact ⟨by
        obtain ⟨f, g, w⟩ := pq_go_n (o := 0) G0 q5 (by first | decide | omega) (by first | decide | omega)
        exact pq_rl_w G0 (by unfold pz_rp; rw [g]) w, hS⟩
theorem v_X9_planLine {fr lo i : Nat} {own : String} (h1 : 3 + 1 ≤ fr) (h2 : 8 + (6 + 11) + 65 ≤ lo) (h3 : .methodLink own i yX9_planLine ∈ lw_tbl) : pz_cV fr lo own i k_X9_planLine :=
  pz_cVk (maxL := 6) (fr' := 3) (lo' := 65) 0 9 h_X9_planLine rfl ⟨(pz_nhc_RX9 yX9_planLine rfl).1, (pz_nhc_RX9 yX9_planLine rfl).2, pz_ds3⟩ ⟨pz_wq799, pz_wq797, pz_wq798, pz_wq10⟩ (Or.inl ⟨TX9, 10, rfl⟩) (fun a M _ h => by
    have h : (match (generalizing := false) a with | [.inr (.inr (9, th))] => pz_ic M ∧ pq_cu M ∧ 0 ≤ M 5 8 ∧ M 5 8 ≤ 12 | _ => False) := h
    split at h
    · exact ⟨_, _, rfl⟩
    · exact h.elim) h1 h2 h3
noncomputable def k_X9_phoneLine : pz_C := (1, 1, fun a M => (match a with | [.inr (.inr (9, th))] => pz_ic M ∧ pq_cu M ∧ 0 ≤ M 5 8 ∧ M 5 8 ≤ 12 | _ => False), fun a M r M' => (match a, r with | [.inr (.inr (9, th))], some (.inl v) => (pq_rl (pz_rh (M 5 8) (M 49) (M 50) (M 5 5).toNat) M M' v) ∧ pq_pr pq_Pl M M' | _, _ => False))
noncomputable abbrev ct_X9_phoneLine : List (Bool × Nat × pz_C) := [(true, 140, k_X9_numeral), (true, 119, k_X9_accept), (true, 148, k_X6_add)]
set_option maxRecDepth 100000 in
set_option maxHeartbeats 4000000 in
theorem h_X9_phoneLine : pz_H yX9_phoneLine cX9_phoneLine 4 (some .boolean) k_X9_phoneLine 2 44 := by
  refine pz_mk (own := RX9) (tb := t_X9_phoneLine) (fl := pz_flf fl_RX9) (ci := fun _ => none) (ct := pz_ctf ct_X9_phoneLine) (rz := true) (pz_pfc_RX9 yX9_phoneLine rfl) rfl t_X9_phoneLine_ok (pz_flk fl_RX9_ok) (fun i v h => by cases h) ?_ ?_ (Or.inr ⟨rfl, rfl⟩) ?_ ?_
  · exact fun i k' h => pz_ctk (l := ct_X9_phoneLine) (P := fun b i k => b = true → pz_cV 2 44 RX9 i k) (List.forall_mem_cons.mpr ⟨(fun _ => v_X9_numeral (by decide) (by decide) pz_wq800), List.forall_mem_cons.mpr ⟨(fun _ => v_X9_accept (by decide) (by decide) pz_wq777), List.forall_mem_cons.mpr ⟨(fun _ => v_X6_add (by decide) (by decide) pz_wq808), fun _ h => absurd h List.not_mem_nil⟩⟩⟩) true i k' h rfl
  · exact fun i k' h => pz_ctk (l := ct_X9_phoneLine) (P := fun b i k => b = false → (pz_cS 2 44 RX9 i k ∨ (k = pz_kac ∧ 1 ≤ 2 ∧ 60 ≤ 44 ∧ Cond.methodLink RX9 i arraycopyName ∈ pz_tbl))) (List.forall_mem_cons.mpr ⟨((fun z => by cases z)), List.forall_mem_cons.mpr ⟨((fun z => by cases z)), List.forall_mem_cons.mpr ⟨((fun z => by cases z)), fun _ h => absurd h List.not_mem_nil⟩⟩⟩) false i k' h rfl
  · intro a M hlen hpre
    obtain ⟨th, rfl, hpre⟩ : ∃ th, a = [.inr (.inr (9, th))] ∧ (pz_ic M ∧ pq_cu M ∧ 0 ≤ M 5 8 ∧ M 5 8 ≤ 12) := by
      have hpre : (match (generalizing := false) a with | [.inr (.inr (9, th))] => pz_ic M ∧ pq_cu M ∧ 0 ≤ M 5 8 ∧ M 5 8 ≤ 12 | _ => False) := hpre
      split at hpre
      · exact ⟨_, rfl, hpre⟩
      · exact hpre.elim
    exact Nat.le_of_ble_eq_true rfl
  · intro a M hlen hcan hM hpre Ok hgo
    obtain ⟨th, rfl, hpre⟩ : ∃ th, a = [.inr (.inr (9, th))] ∧ (pz_ic M ∧ pq_cu M ∧ 0 ≤ M 5 8 ∧ M 5 8 ≤ 12) := by
      have hpre : (match (generalizing := false) a with | [.inr (.inr (9, th))] => pz_ic M ∧ pq_cu M ∧ 0 ≤ M 5 8 ∧ M 5 8 ≤ 12 | _ => False) := hpre
      split at hpre
      · exact ⟨_, rfl, hpre⟩
      · exact hpre.elim
    obtain ⟨k_th, hc_th⟩ := pz_tlm hcan
    have k_th : pz_kd th = 9 ∧ th < 231 := k_th
    have R_th := pz_kd9 k_th.1
    subst R_th
    have hI : pz_ic M := hpre.1
    have hI0 := hI
    have hS : pq_pr pq_Pl M M := pq_pr.rf
    obtain ⟨-, hC, p1, p2⟩ := hpre
    have B9 := pq_cu_b hC
    have G0 := pq_go_0 hC
    refine hgo (fun _ => false) 55 0 _ [] M ?_
    intro v3 e3 a3 b3
    intro v7 e7 a7 b7
    try rw [pz_wi (by first | decide | omega) (by first | decide | omega)] at e7
    refine And.intro (And.intro hI hC) ?_
    intro v8 M8 a8 b8 q8
    obtain ⟨q8, z8⟩ := q8
    have hS : pq_pr pq_Pl M M8 := hS.tr z8.pl
    have hI : pz_ic M8 := hS.1 hI0
    rw [show v7 = M 5 8 - 1 by omega] at q8
    refine And.intro (fun h14 => ?_) (fun h14 => ?_)
    · skip
      skip
      refine And.intro (by first | decide | omega) ?_
      refine And.intro rfl ?_
      first
        | exact ⟨by
            obtain ⟨f, g, w⟩ := pq_go_n (o := 0) G0 q8 (by first | decide | omega) (by first | decide | omega)
            exact pq_rl_w G0 (by unfold pz_rh; rw [g]) w, hS⟩
        | exact ⟨pq_rl_w (o := 1) G8 (by unfold pz_rh; rw [g8, g20]) w20.2, hS⟩
    · skip
      obtain ⟨G8, g8, l8, u8⟩ := pq_go_y (o := 0) G0 q8 (by first | decide | omega) z8
      have hC := G8.1
      have D8 := pq_go_8 G8
      have t8 := pq_go_t G8
      refine And.intro (And.intro hI (And.intro hC (by decide))) ?_
      intro v20 M20 a20 b20 q20
      obtain ⟨q20, z20⟩ := q20
      have hS : pq_pr pq_Pl M M20 := hS.tr z20.pl
      have hI : pz_ic M20 := hS.1 hI0
      refine And.intro (fun h23 => ?_) (fun h23 => ?_)
      · skip
        obtain ⟨G20, g20⟩ := pq_go_cy (o := 1) G8 (q20.resolve_right (fun y => h23 y.1)).2 z20
        have hC := G20.1
        have D20 := pq_go_8 G20
        refine And.intro (And.intro hI hC) ?_
        intro v33 M33 a33 b33 q33
        obtain ⟨q33, z33⟩ := q33
        have hS : pq_pr pq_Pl M M33 := hS.tr z33.pl
        have hI : pz_ic M33 := hS.1 hI0
        refine And.intro (fun h39 => ?_) (fun h39 => ?_)
        · skip
          skip
          refine And.intro (by first | decide | omega) ?_
          refine And.intro rfl ?_
          first
            | exact ⟨by
                obtain ⟨f, g, w⟩ := pq_go_n (o := 2) G20 q33 (by first | decide | omega) (by first | decide | omega)
                exact pq_rl_w G20 (by unfold pz_rh; rw [g8, g20, g]) w, hS⟩
            | exact ⟨pq_rl_w (o := 3) G33 (by unfold pz_rh; rw [g8, g20, g33, g45]) w45.2, hS⟩
        · skip
          obtain ⟨G33, g33, l33, u33⟩ := pq_go_y (o := 2) G20 q33 (by first | decide | omega) z33
          have hC := G33.1
          have D33 := pq_go_8 G33
          have t33 := pq_go_t G33
          refine And.intro (And.intro hI (And.intro hC (by decide))) ?_
          intro v45 M45 a45 b45 q45
          obtain ⟨q45, z45⟩ := q45
          have hS : pq_pr pq_Pl M M45 := hS.tr z45.pl
          have hI : pz_ic M45 := hS.1 hI0
          refine And.intro (fun h48 => ?_) (fun h48 => ?_)
          · skip
            obtain ⟨G45, g45⟩ := pq_go_cy (o := 3) G33 (q45.resolve_right (fun y => h48 y.1)).2 z45
            have hC := G45.1
            have D45 := pq_go_8 G45
            intro v56 e56 a56 b56
            try rw [pz_wi (by first | decide | omega) (by first | decide | omega)] at e56
            refine And.intro (And.intro hI hC) ?_
            intro v60 M60 a60 b60 q60
            obtain ⟨q60, z60⟩ := q60
            have hS : pq_pr pq_Pl M M60 := hS.tr z60.pl
            have hI : pz_ic M60 := hS.1 hI0
            rw [show v56 = v33 + 1 by omega] at q60
            refine pz_nrc (c := 19) rfl ?_
            refine And.intro (And.intro hI (by first | decide | omega)) ?_
            intro M73 q73
            obtain ⟨q73, z73⟩ := q73
            have hS : pq_pr pq_Pl M M73 := hS.tr z73
            have hI : pz_ic M73 := hS.1 hI0
            have F73 := pq_rl_e (g := pz_rh (M 5 8) (M 49) (M 50) (M 5 5).toNat) (h9 := fun t => [v8, v33, t, 0, 0]) (o := 4) G45 (by unfold pz_rh; rw [g8, g20, g33]; exact g45 _) q60 z60 (by first | decide | omega) q73.1 q73.2
            refine And.intro (fun h78 => ?_) (fun h78 => ?_)
            · skip
              refine And.intro (by first | decide | omega) ?_
              refine And.intro rfl ?_
              first
                | exact ⟨F73.1 (by first | decide | omega), hS⟩
                | exact ⟨F73.2 (by first | decide | omega), hS⟩
            · skip
              refine And.intro (by first | decide | omega) ?_
              refine And.intro rfl ?_
              first
                | exact ⟨F73.1 (by first | decide | omega), hS⟩
                | exact ⟨F73.2 (by first | decide | omega), hS⟩
          · skip
            have w45 := (q45.resolve_left (fun y => absurd (y.1.symm.trans h48) (by decide))).2
            have g45 := pq_go_cn (o := 3) G33 w45
            refine And.intro (by first | decide | omega) ?_
            refine And.intro rfl ?_
            first
              | exact ⟨by
                  obtain ⟨f, g, w⟩ := pq_go_n (o := 2) G20 q33 (by first | decide | omega) (by first | decide | omega)
                  exact pq_rl_w G20 (by unfold pz_rh; rw [g8, g20, g]) w, hS⟩
              | exact ⟨pq_rl_w (o := 3) G33 (by unfold pz_rh; rw [g8, g20, g33, g45]) w45.2, hS⟩
      · skip
        have w20 := (q20.resolve_left (fun y => absurd (y.1.symm.trans h23) (by decide))).2
        have g20 := pq_go_cn (o := 1) G8 w20
        refine And.intro (by first | decide | omega) ?_
        refine And.intro rfl ?_
        first
          | exact ⟨by
              obtain ⟨f, g, w⟩ := pq_go_n (o := 0) G0 q8 (by first | decide | omega) (by first | decide | omega)
              exact pq_rl_w G0 (by unfold pz_rh; rw [g]) w, hS⟩
          | exact ⟨pq_rl_w (o := 1) G8 (by unfold pz_rh; rw [g8, g20]) w20.2, hS⟩
theorem v_X9_phoneLine {fr lo i : Nat} {own : String} (h1 : 2 + 1 ≤ fr) (h2 : 8 + (4 + 11) + 44 ≤ lo) (h3 : .methodLink own i yX9_phoneLine ∈ lw_tbl) : pz_cV fr lo own i k_X9_phoneLine :=
  pz_cVk (maxL := 4) (fr' := 2) (lo' := 44) 0 9 h_X9_phoneLine rfl ⟨(pz_nhc_RX9 yX9_phoneLine rfl).1, (pz_nhc_RX9 yX9_phoneLine rfl).2, pz_ds3⟩ ⟨pz_wq815, pz_wq813, pz_wq814, pz_wq10⟩ (Or.inl ⟨TX9, 10, rfl⟩) (fun a M _ h => by
    have h : (match (generalizing := false) a with | [.inr (.inr (9, th))] => pz_ic M ∧ pq_cu M ∧ 0 ≤ M 5 8 ∧ M 5 8 ≤ 12 | _ => False) := h
    split at h
    · exact ⟨_, _, rfl⟩
    · exact h.elim) h1 h2 h3
noncomputable def k_X9_recordLine : pz_C := (1, 1, fun a M => (match a with | [.inr (.inr (9, th))] => pz_ic M ∧ pq_cu M ∧ 0 ≤ M 5 8 ∧ M 5 8 ≤ 12 | _ => False), fun a M r M' => (match a, r with | [.inr (.inr (9, th))], some (.inl v) => (pq_rl (pz_rd (M 5 8) (M 49) (M 50) (M 5 5).toNat) M M' v) ∧ pq_pr pq_Pl M M' | _, _ => False))
noncomputable abbrev ct_X9_recordLine : List (Bool × Nat × pz_C) := [(true, 140, k_X9_numeral), (true, 119, k_X9_accept), (true, 148, k_X6_add)]
set_option maxRecDepth 100000 in
set_option maxHeartbeats 4000000 in
theorem h_X9_recordLine : pz_H yX9_recordLine cX9_recordLine 3 (some .boolean) k_X9_recordLine 2 44 := by
  refine pz_mk (own := RX9) (tb := t_X9_recordLine) (fl := pz_flf fl_RX9) (ci := fun _ => none) (ct := pz_ctf ct_X9_recordLine) (rz := true) (pz_pfc_RX9 yX9_recordLine rfl) rfl t_X9_recordLine_ok (pz_flk fl_RX9_ok) (fun i v h => by cases h) ?_ ?_ (Or.inr ⟨rfl, rfl⟩) ?_ ?_
  · exact fun i k' h => pz_ctk (l := ct_X9_recordLine) (P := fun b i k => b = true → pz_cV 2 44 RX9 i k) (List.forall_mem_cons.mpr ⟨(fun _ => v_X9_numeral (by decide) (by decide) pz_wq800), List.forall_mem_cons.mpr ⟨(fun _ => v_X9_accept (by decide) (by decide) pz_wq777), List.forall_mem_cons.mpr ⟨(fun _ => v_X6_add (by decide) (by decide) pz_wq808), fun _ h => absurd h List.not_mem_nil⟩⟩⟩) true i k' h rfl
  · exact fun i k' h => pz_ctk (l := ct_X9_recordLine) (P := fun b i k => b = false → (pz_cS 2 44 RX9 i k ∨ (k = pz_kac ∧ 1 ≤ 2 ∧ 60 ≤ 44 ∧ Cond.methodLink RX9 i arraycopyName ∈ pz_tbl))) (List.forall_mem_cons.mpr ⟨((fun z => by cases z)), List.forall_mem_cons.mpr ⟨((fun z => by cases z)), List.forall_mem_cons.mpr ⟨((fun z => by cases z)), fun _ h => absurd h List.not_mem_nil⟩⟩⟩) false i k' h rfl
  · intro a M hlen hpre
    obtain ⟨th, rfl, hpre⟩ : ∃ th, a = [.inr (.inr (9, th))] ∧ (pz_ic M ∧ pq_cu M ∧ 0 ≤ M 5 8 ∧ M 5 8 ≤ 12) := by
      have hpre : (match (generalizing := false) a with | [.inr (.inr (9, th))] => pz_ic M ∧ pq_cu M ∧ 0 ≤ M 5 8 ∧ M 5 8 ≤ 12 | _ => False) := hpre
      split at hpre
      · exact ⟨_, rfl, hpre⟩
      · exact hpre.elim
    exact Nat.le_of_ble_eq_true rfl
  · intro a M hlen hcan hM hpre Ok hgo
    obtain ⟨th, rfl, hpre⟩ : ∃ th, a = [.inr (.inr (9, th))] ∧ (pz_ic M ∧ pq_cu M ∧ 0 ≤ M 5 8 ∧ M 5 8 ≤ 12) := by
      have hpre : (match (generalizing := false) a with | [.inr (.inr (9, th))] => pz_ic M ∧ pq_cu M ∧ 0 ≤ M 5 8 ∧ M 5 8 ≤ 12 | _ => False) := hpre
      split at hpre
      · exact ⟨_, rfl, hpre⟩
      · exact hpre.elim
    obtain ⟨k_th, hc_th⟩ := pz_tlm hcan
    have k_th : pz_kd th = 9 ∧ th < 231 := k_th
    have R_th := pz_kd9 k_th.1
    subst R_th
    have hI : pz_ic M := hpre.1
    have hI0 := hI
    have hS : pq_pr pq_Pl M M := pq_pr.rf
    obtain ⟨-, hC, p1, p2⟩ := hpre
    have B9 := pq_cu_b hC
    have G0 := pq_go_0 hC
    refine hgo (fun _ => false) 39 0 _ [] M ?_
    refine And.intro (And.intro hI hC) ?_
    intro v5 M5 a5 b5 q5
    obtain ⟨q5, z5⟩ := q5
    have hS : pq_pr pq_Pl M M5 := hS.tr z5.pl
    have hI : pz_ic M5 := hS.1 hI0
    refine And.intro (fun h11 => ?_) (fun h11 => ?_)
    · skip
      skip
      refine And.intro (by first | decide | omega) ?_
      refine And.intro rfl ?_
      first
        | exact ⟨by
            obtain ⟨f, g, w⟩ := pq_go_n (o := 0) G0 q5 (by first | decide | omega) (by first | decide | omega)
            exact pq_rl_w G0 (by unfold pz_rd; rw [g]) w, hS⟩
        | exact ⟨pq_rl_w (o := 1) G5 (by unfold pz_rd; rw [g5, g17]) w17.2, hS⟩
    · skip
      obtain ⟨G5, g5, l5, u5⟩ := pq_go_y (o := 0) G0 q5 (by first | decide | omega) z5
      have hC := G5.1
      have D5 := pq_go_8 G5
      have t5 := pq_go_t G5
      refine And.intro (And.intro hI (And.intro hC (by decide))) ?_
      intro v17 M17 a17 b17 q17
      obtain ⟨q17, z17⟩ := q17
      have hS : pq_pr pq_Pl M M17 := hS.tr z17.pl
      have hI : pz_ic M17 := hS.1 hI0
      refine And.intro (fun h20 => ?_) (fun h20 => ?_)
      · skip
        obtain ⟨G17, g17⟩ := pq_go_cy (o := 1) G5 (q17.resolve_right (fun y => h20 y.1)).2 z17
        have hC := G17.1
        have D17 := pq_go_8 G17
        intro v28 e28 a28 b28
        intro v32 e32 a32 b32
        try rw [pz_wi (by first | decide | omega) (by first | decide | omega)] at e32
        refine And.intro (And.intro hI hC) ?_
        intro v33 M33 a33 b33 q33
        obtain ⟨q33, z33⟩ := q33
        have hS : pq_pr pq_Pl M M33 := hS.tr z33.pl
        have hI : pz_ic M33 := hS.1 hI0
        rw [show v32 = M 5 8 - 1 by omega] at q33
        refine pz_nrc (c := 19) rfl ?_
        refine And.intro (And.intro hI (by first | decide | omega)) ?_
        intro M46 q46
        obtain ⟨q46, z46⟩ := q46
        have hS : pq_pr pq_Pl M M46 := hS.tr z46
        have hI : pz_ic M46 := hS.1 hI0
        have F46 := pq_rl_e (g := pz_rd (M 5 8) (M 49) (M 50) (M 5 5).toNat) (h9 := fun l => [v5, l, 0, 0, 0]) (o := 2) G17 (by unfold pz_rd; rw [g5]; exact g17 _) q33 z33 (by first | decide | omega) q46.1 q46.2
        refine And.intro (fun h51 => ?_) (fun h51 => ?_)
        · skip
          refine And.intro (by first | decide | omega) ?_
          refine And.intro rfl ?_
          first
            | exact ⟨F46.1 (by first | decide | omega), hS⟩
            | exact ⟨F46.2 (by first | decide | omega), hS⟩
        · skip
          refine And.intro (by first | decide | omega) ?_
          refine And.intro rfl ?_
          first
            | exact ⟨F46.1 (by first | decide | omega), hS⟩
            | exact ⟨F46.2 (by first | decide | omega), hS⟩
      · skip
        have w17 := (q17.resolve_left (fun y => absurd (y.1.symm.trans h20) (by decide))).2
        have g17 := pq_go_cn (o := 1) G5 w17
        refine And.intro (by first | decide | omega) ?_
        refine And.intro rfl ?_
        first
          | exact ⟨by
              obtain ⟨f, g, w⟩ := pq_go_n (o := 0) G0 q5 (by first | decide | omega) (by first | decide | omega)
              exact pq_rl_w G0 (by unfold pz_rd; rw [g]) w, hS⟩
          | exact ⟨pq_rl_w (o := 1) G5 (by unfold pz_rd; rw [g5, g17]) w17.2, hS⟩
theorem v_X9_recordLine {fr lo i : Nat} {own : String} (h1 : 2 + 1 ≤ fr) (h2 : 8 + (3 + 11) + 44 ≤ lo) (h3 : .methodLink own i yX9_recordLine ∈ lw_tbl) : pz_cV fr lo own i k_X9_recordLine :=
  pz_cVk (maxL := 3) (fr' := 2) (lo' := 44) 0 9 h_X9_recordLine rfl ⟨(pz_nhc_RX9 yX9_recordLine rfl).1, (pz_nhc_RX9 yX9_recordLine rfl).2, pz_ds3⟩ ⟨pz_wq819, pz_wq817, pz_wq818, pz_wq10⟩ (Or.inl ⟨TX9, 10, rfl⟩) (fun a M _ h => by
    have h : (match (generalizing := false) a with | [.inr (.inr (9, th))] => pz_ic M ∧ pq_cu M ∧ 0 ≤ M 5 8 ∧ M 5 8 ≤ 12 | _ => False) := h
    split at h
    · exact ⟨_, _, rfl⟩
    · exact h.elim) h1 h2 h3
noncomputable def k_X9_rowLines : pz_C := (2, 1, fun a M => (match a with | [.inr (.inr (9, th)), .inl k] => pz_ic M ∧ pq_cu M ∧ 0 ≤ M 5 8 ∧ M 5 8 ≤ 12 ∧ 1 ≤ k ∧ k ≤ 3 | _ => False), fun a M r M' => (match a, r with | [.inr (.inr (9, th)), .inl k], some (.inl v) => (pq_rg k M M' v) ∧ pq_pr pq_Pl M M' | _, _ => False))
noncomputable abbrev ct_X9_rowLines : List (Bool × Nat × pz_C) := [(true, 100, k_X9_wrong), (true, 50, k_X9_lookAt), (true, 131, k_X9_planLine), (true, 134, k_X9_phoneLine), (true, 137, k_X9_recordLine), (true, 119, k_X9_accept)]
set_option maxRecDepth 100000 in
set_option maxHeartbeats 4000000 in
theorem h_X9_rowLines : pz_H yX9_rowLines cX9_rowLines 5 (some .boolean) k_X9_rowLines 4 90 := by
  refine pz_mk (own := RX9) (tb := t_X9_rowLines) (fl := pz_flf fl_RX9) (ci := fun _ => none) (ct := pz_ctf ct_X9_rowLines) (rz := true) (pz_pfc_RX9 yX9_rowLines rfl) rfl t_X9_rowLines_ok (pz_flk fl_RX9_ok) (fun i v h => by cases h) ?_ ?_ (Or.inr ⟨rfl, rfl⟩) ?_ ?_
  · exact fun i k' h => pz_ctk (l := ct_X9_rowLines) (P := fun b i k => b = true → pz_cV 4 90 RX9 i k) (List.forall_mem_cons.mpr ⟨(fun _ => v_X9_wrong (by decide) (by decide) pz_wq753), List.forall_mem_cons.mpr ⟨(fun _ => v_X9_lookAt (by decide) (by decide) pz_wq741), List.forall_mem_cons.mpr ⟨(fun _ => v_X9_planLine (by decide) (by decide) pz_wq796), List.forall_mem_cons.mpr ⟨(fun _ => v_X9_phoneLine (by decide) (by decide) pz_wq812), List.forall_mem_cons.mpr ⟨(fun _ => v_X9_recordLine (by decide) (by decide) pz_wq816), List.forall_mem_cons.mpr ⟨(fun _ => v_X9_accept (by decide) (by decide) pz_wq777), fun _ h => absurd h List.not_mem_nil⟩⟩⟩⟩⟩⟩) true i k' h rfl
  · exact fun i k' h => pz_ctk (l := ct_X9_rowLines) (P := fun b i k => b = false → (pz_cS 4 90 RX9 i k ∨ (k = pz_kac ∧ 1 ≤ 4 ∧ 60 ≤ 90 ∧ Cond.methodLink RX9 i arraycopyName ∈ pz_tbl))) (List.forall_mem_cons.mpr ⟨((fun z => by cases z)), List.forall_mem_cons.mpr ⟨((fun z => by cases z)), List.forall_mem_cons.mpr ⟨((fun z => by cases z)), List.forall_mem_cons.mpr ⟨((fun z => by cases z)), List.forall_mem_cons.mpr ⟨((fun z => by cases z)), List.forall_mem_cons.mpr ⟨((fun z => by cases z)), fun _ h => absurd h List.not_mem_nil⟩⟩⟩⟩⟩⟩) false i k' h rfl
  · intro a M hlen hpre
    obtain ⟨th, k, rfl, hpre⟩ : ∃ th k, a = [.inr (.inr (9, th)), .inl k] ∧ (pz_ic M ∧ pq_cu M ∧ 0 ≤ M 5 8 ∧ M 5 8 ≤ 12 ∧ 1 ≤ k ∧ k ≤ 3) := by
      have hpre : (match (generalizing := false) a with | [.inr (.inr (9, th)), .inl k] => pz_ic M ∧ pq_cu M ∧ 0 ≤ M 5 8 ∧ M 5 8 ≤ 12 ∧ 1 ≤ k ∧ k ≤ 3 | _ => False) := hpre
      split at hpre
      · exact ⟨_, _, rfl, hpre⟩
      · exact hpre.elim
    exact Nat.le_of_ble_eq_true rfl
  · intro a M hlen hcan hM hpre Ok hgo
    obtain ⟨th, k, rfl, hpre⟩ : ∃ th k, a = [.inr (.inr (9, th)), .inl k] ∧ (pz_ic M ∧ pq_cu M ∧ 0 ≤ M 5 8 ∧ M 5 8 ≤ 12 ∧ 1 ≤ k ∧ k ≤ 3) := by
      have hpre : (match (generalizing := false) a with | [.inr (.inr (9, th)), .inl k] => pz_ic M ∧ pq_cu M ∧ 0 ≤ M 5 8 ∧ M 5 8 ≤ 12 ∧ 1 ≤ k ∧ k ≤ 3 | _ => False) := hpre
      split at hpre
      · exact ⟨_, _, rfl, hpre⟩
      · exact hpre.elim
    obtain ⟨k_th, hc_th⟩ := pz_tlm hcan
    have k_th : pz_kd th = 9 ∧ th < 231 := k_th
    have R_th := pz_kd9 k_th.1
    subst R_th
    obtain ⟨k_k, hc_k⟩ := pz_tlm hc_th
    have l_k : -2147483648 ≤ k := k_k.1
    have u_k : k ≤ 2147483647 := k_k.2
    have hI : pz_ic M := hpre.1
    have hI0 := hI
    have hS : pq_pr pq_Pl M M := pq_pr.rf
    obtain ⟨-, hC, p1, p2, p3, p4⟩ := hpre
    have L33 : ∀ (fu : Nat) (x2 : Int) (x3 : Int) (d4 : Option pz_V) (N33 : pz_M), (17 - x3).toNat < fu → (pq_pr pq_Pl M N33) → (x2 = pz_fw k) → (0 ≤ x3) → (x3 ≤ 16) → (pq_rn k M N33 x3) → Ok 33 [some (.inr (.inr (9, 5))), some (.inl k), some (.inl x2), some (.inl x3), d4] [] N33 := by
      intro fu
      induction fu with
      | zero => exact fun _ _ _ _ hn => absurd hn (Nat.not_lt_zero _)
      | succ fu ih33 =>
        intro x2 x3 d4 N33 hn33 hS g33_1 g33_2 g33_3 g33_4
        have hI : pz_ic N33 := hS.1 hI0
        have hC := g33_4.1
        have B33 := pq_cu_b hC
        have D33 := g33_4.2.2.1
        have L112 : ∀ (x2 : Int) (x3 : Int) (d4 : Option pz_V) (s0 : Int) (N112 : pz_M), (pq_pr pq_Pl M N112) → (x2 = pz_fw k) → (0 ≤ x3) → (x3 < 16) → ((17 - x3).toNat < fu + 1) → (s0 = 0 ∨ s0 = 1) → (pq_rv k M N112 x3 s0) → Ok 112 [some (.inr (.inr (9, 5))), some (.inl k), some (.inl x2), some (.inl x3), d4] [.inl s0] N112 := by
          intro x2 x3 d4 s0 N112 hS g112_1 g112_2 g112_3 g112_4 g112_5 g112_6
          have hI : pz_ic N112 := hS.1 hI0
          refine hgo (fun p => Nat.beq p 33 || Nat.beq p 112) 75 112 _ _ _ ?_
          refine And.intro (fun h116 => ?_) (fun h116 => ?_)
          · skip
            skip
            refine And.intro (by first | omega | exact Or.inl q58.1 | exact Or.inl q70.1) ?_
            refine And.intro rfl ?_
            first
              | exact ⟨pq_rv_n g112_6 h116 w122.1 w122.2, hS⟩
              | exact ⟨pq_rv_b g112_6 (by first | decide | omega), hS⟩
          · skip
            have hC := And.intro (pq_rv_c g112_6 h116) trivial
            have B112 := pq_cu_b hC.1
            refine And.intro (And.intro hI (And.intro hC.1 (by decide))) ?_
            intro v122 M122 a122 b122 q122
            obtain ⟨q122, z122⟩ := q122
            have hS : pq_pr pq_Pl M M122 := hS.tr z122.pl
            have hI : pz_ic M122 := hS.1 hI0
            refine And.intro (fun h125 => ?_) (fun h125 => ?_)
            · skip
              have n122 := (q122.resolve_right (fun y => h125 y.1)).2
              have G125 := pq_rv_y g112_6 h116 n122.1 n122.2.1 z122
              intro v130 e130 a130 b130
              rw [pz_wi (by first | decide | omega) (by first | decide | omega)] at e130
              exact ih33 _ _ _ _ (by first | decide | omega) hS (by first | omega | exact pz_fw1 (by first | decide | omega) | exact pz_fw2 (by first | decide | omega) | exact pz_fw3 (by first | decide | omega) | exact G28 | (rw [e130]; exact G125)) (by first | omega | exact pz_fw1 (by first | decide | omega) | exact pz_fw2 (by first | decide | omega) | exact pz_fw3 (by first | decide | omega) | exact G28 | (rw [e130]; exact G125)) (by first | omega | exact pz_fw1 (by first | decide | omega) | exact pz_fw2 (by first | decide | omega) | exact pz_fw3 (by first | decide | omega) | exact G28 | (rw [e130]; exact G125)) (by first | omega | exact pz_fw1 (by first | decide | omega) | exact pz_fw2 (by first | decide | omega) | exact pz_fw3 (by first | decide | omega) | exact G28 | (rw [e130]; exact G125))
            · skip
              have w122 := (q122.resolve_left (fun y => absurd (y.1.symm.trans h125) (by decide))).2
              refine And.intro (by first | omega | exact Or.inl q58.1 | exact Or.inl q70.1) ?_
              refine And.intro rfl ?_
              first
                | exact ⟨pq_rv_n g112_6 h116 w122.1 w122.2, hS⟩
                | exact ⟨pq_rv_b g112_6 (by first | decide | omega), hS⟩
        refine hgo (fun p => Nat.beq p 33 || Nat.beq p 112) 75 33 _ _ _ ?_
        refine And.intro (fun h36 => ?_) (fun h36 => ?_)
        · skip
          exfalso; omega
        · skip
          intro v40 e40 a40 b40
          refine And.intro (fun h45 => ?_) (fun h45 => ?_)
          · skip
            refine And.intro (by first | omega | exact Or.inl q58.1 | exact Or.inl q70.1) ?_
            refine And.intro rfl ?_
            exact ⟨pq_rn_z g33_4 (by first | decide | omega), hS⟩
          · skip
            intro v49 e49 a49 b49
            refine And.intro (fun h53 => ?_) (fun h53 => ?_)
            · skip
              refine And.intro (fun h65 => ?_) (fun h65 => ?_)
              · skip
                intro v76 e76 a76 b76
                intro v80 e80 a80 b80
                try rw [pz_wi (by first | decide | omega) (by first | decide | omega)] at e80
                refine And.intro (hI) ?_
                intro M81 q81
                obtain ⟨q81, z81⟩ := q81
                have hS : pq_pr pq_Pl M M81 := hS.tr z81.pl
                have hI : pz_ic M81 := hS.1 hI0
                have C81 : pq_nx N33 M81 := pq_cu_la hC (by first | decide | omega) (by first | decide | omega) q81
                have hC := C81.1
                have D81 : M81 5 8 = M 5 8 := (z81.2 5 8 (by unfold pq_Pp; first | decide | omega)).trans D33
                refine And.intro (fun h86 => ?_) (fun h86 => ?_)
                · skip
                  refine And.intro (fun h98 => ?_) (fun h98 => ?_)
                  · skip
                    refine And.intro (And.intro hI (And.intro hC (And.intro (by first | decide | omega) (by first | decide | omega)))) ?_
                    intro v109 M109 a109 b109 q109
                    obtain ⟨q109, z109⟩ := q109
                    have hS : pq_pr pq_Pl M M109 := hS.tr z109
                    have hI : pz_ic M109 := hS.1 hI0
                    have T109 := pq_T3_pl hS
                    have V109 : M109 5 8 = M 5 8 := hS.2 5 8 (by unfold pq_Pl; first | decide | omega)
                    have R109 : pq_rv k M M109 x3 v109 := pq_rn_r g33_4 (by first | decide | omega) (by first | decide | omega) (by first | decide | omega) C81 z81 (by rw [pz_row3 (by first | decide | omega)]; exact q109) T109 V109
                    exact L112 _ _ _ _ _ hS (by first | omega | assumption | exact R90 | exact R102 | exact R109 | exact pq_rl_01 q90 | exact pq_rl_01 q102 | exact pq_rl_01 q109) (by first | omega | assumption | exact R90 | exact R102 | exact R109 | exact pq_rl_01 q90 | exact pq_rl_01 q102 | exact pq_rl_01 q109) (by first | omega | assumption | exact R90 | exact R102 | exact R109 | exact pq_rl_01 q90 | exact pq_rl_01 q102 | exact pq_rl_01 q109) (by first | omega | assumption | exact R90 | exact R102 | exact R109 | exact pq_rl_01 q90 | exact pq_rl_01 q102 | exact pq_rl_01 q109) (by first | omega | assumption | exact R90 | exact R102 | exact R109 | exact pq_rl_01 q90 | exact pq_rl_01 q102 | exact pq_rl_01 q109) (by first | omega | assumption | exact R90 | exact R102 | exact R109 | exact pq_rl_01 q90 | exact pq_rl_01 q102 | exact pq_rl_01 q109)
                  · skip
                    refine And.intro (And.intro hI (And.intro hC (And.intro (by first | decide | omega) (by first | decide | omega)))) ?_
                    intro v102 M102 a102 b102 q102
                    obtain ⟨q102, z102⟩ := q102
                    have hS : pq_pr pq_Pl M M102 := hS.tr z102
                    have hI : pz_ic M102 := hS.1 hI0
                    have T102 := pq_T3_pl hS
                    have V102 : M102 5 8 = M 5 8 := hS.2 5 8 (by unfold pq_Pl; first | decide | omega)
                    have R102 : pq_rv k M M102 x3 v102 := pq_rn_r g33_4 (by first | decide | omega) (by first | decide | omega) (by first | decide | omega) C81 z81 (by rw [pz_row2 (by first | decide | omega)]; exact q102) T102 V102
                    exact L112 _ _ _ _ _ hS (by first | omega | assumption | exact R90 | exact R102 | exact R109 | exact pq_rl_01 q90 | exact pq_rl_01 q102 | exact pq_rl_01 q109) (by first | omega | assumption | exact R90 | exact R102 | exact R109 | exact pq_rl_01 q90 | exact pq_rl_01 q102 | exact pq_rl_01 q109) (by first | omega | assumption | exact R90 | exact R102 | exact R109 | exact pq_rl_01 q90 | exact pq_rl_01 q102 | exact pq_rl_01 q109) (by first | omega | assumption | exact R90 | exact R102 | exact R109 | exact pq_rl_01 q90 | exact pq_rl_01 q102 | exact pq_rl_01 q109) (by first | omega | assumption | exact R90 | exact R102 | exact R109 | exact pq_rl_01 q90 | exact pq_rl_01 q102 | exact pq_rl_01 q109) (by first | omega | assumption | exact R90 | exact R102 | exact R109 | exact pq_rl_01 q90 | exact pq_rl_01 q102 | exact pq_rl_01 q109)
                · skip
                  refine And.intro (And.intro hI (And.intro hC (And.intro (by first | decide | omega) (by first | decide | omega)))) ?_
                  intro v90 M90 a90 b90 q90
                  obtain ⟨q90, z90⟩ := q90
                  have hS : pq_pr pq_Pl M M90 := hS.tr z90
                  have hI : pz_ic M90 := hS.1 hI0
                  have T90 := pq_T3_pl hS
                  have V90 : M90 5 8 = M 5 8 := hS.2 5 8 (by unfold pq_Pl; first | decide | omega)
                  have R90 : pq_rv k M M90 x3 v90 := pq_rn_r g33_4 (by first | decide | omega) (by first | decide | omega) (by first | decide | omega) C81 z81 (by rw [pz_row1 (by first | decide | omega)]; exact q90) T90 V90
                  exact L112 _ _ _ _ _ hS (by first | omega | assumption | exact R90 | exact R102 | exact R109 | exact pq_rl_01 q90 | exact pq_rl_01 q102 | exact pq_rl_01 q109) (by first | omega | assumption | exact R90 | exact R102 | exact R109 | exact pq_rl_01 q90 | exact pq_rl_01 q102 | exact pq_rl_01 q109) (by first | omega | assumption | exact R90 | exact R102 | exact R109 | exact pq_rl_01 q90 | exact pq_rl_01 q102 | exact pq_rl_01 q109) (by first | omega | assumption | exact R90 | exact R102 | exact R109 | exact pq_rl_01 q90 | exact pq_rl_01 q102 | exact pq_rl_01 q109) (by first | omega | assumption | exact R90 | exact R102 | exact R109 | exact pq_rl_01 q90 | exact pq_rl_01 q102 | exact pq_rl_01 q109) (by first | omega | assumption | exact R90 | exact R102 | exact R109 | exact pq_rl_01 q90 | exact pq_rl_01 q102 | exact pq_rl_01 q109)
              · skip
                refine And.intro (hI) ?_
                intro v70 M70 a70 b70 q70
                obtain ⟨q70, z70⟩ := q70
                have hS : pq_pr pq_Pl M M70 := hS.tr z70.pl
                have hI : pz_ic M70 := hS.1 hI0
                refine And.intro (by first | omega | exact Or.inl q58.1 | exact Or.inl q70.1) ?_
                refine And.intro rfl ?_
                exact ⟨by rw [q70.1]; exact pq_rn_m g33_4 (by first | decide | omega) (by first | decide | omega) (by first | decide | omega) q70.2, hS⟩
            · skip
              refine And.intro (hI) ?_
              intro v58 M58 a58 b58 q58
              obtain ⟨q58, z58⟩ := q58
              have hS : pq_pr pq_Pl M M58 := hS.tr z58.pl
              have hI : pz_ic M58 := hS.1 hI0
              refine And.intro (by first | omega | exact Or.inl q58.1 | exact Or.inl q70.1) ?_
              refine And.intro rfl ?_
              exact ⟨by rw [q58.1]; exact pq_rn_w g33_4 (by first | decide | omega) (by first | decide | omega) q58.2, hS⟩
    refine hgo (fun p => Nat.beq p 33 || Nat.beq p 112) 75 0 _ [] M ?_
    refine And.intro (fun h2 => ?_) (fun h2 => ?_)
    · skip
      refine And.intro (fun h12 => ?_) (fun h12 => ?_)
      · skip
        refine pz_nrc (c := 19) rfl ?_
        intro M28 e28
        have hS : pq_pr pq_Pl M M28 := by
          rw [e28]
          exact pq_pr_u hS (by unfold pq_Pl; first | decide | omega) (by unfold pz_iok; first | decide | omega)
        have hI : pz_ic M28 := hS.1 hI0
        have G28 : pq_rn k M M28 0 := pq_rn_0 hC e28
        exact L33 _ _ _ _ _ (Nat.lt_succ_self _) hS (by first | omega | exact pz_fw1 (by first | decide | omega) | exact pz_fw2 (by first | decide | omega) | exact pz_fw3 (by first | decide | omega) | exact G28 | (rw [e130]; exact G125)) (by first | omega | exact pz_fw1 (by first | decide | omega) | exact pz_fw2 (by first | decide | omega) | exact pz_fw3 (by first | decide | omega) | exact G28 | (rw [e130]; exact G125)) (by first | omega | exact pz_fw1 (by first | decide | omega) | exact pz_fw2 (by first | decide | omega) | exact pz_fw3 (by first | decide | omega) | exact G28 | (rw [e130]; exact G125)) (by first | omega | exact pz_fw1 (by first | decide | omega) | exact pz_fw2 (by first | decide | omega) | exact pz_fw3 (by first | decide | omega) | exact G28 | (rw [e130]; exact G125))
      · skip
        refine pz_nrc (c := 19) rfl ?_
        intro M28 e28
        have hS : pq_pr pq_Pl M M28 := by
          rw [e28]
          exact pq_pr_u hS (by unfold pq_Pl; first | decide | omega) (by unfold pz_iok; first | decide | omega)
        have hI : pz_ic M28 := hS.1 hI0
        have G28 : pq_rn k M M28 0 := pq_rn_0 hC e28
        exact L33 _ _ _ _ _ (Nat.lt_succ_self _) hS (by first | omega | exact pz_fw1 (by first | decide | omega) | exact pz_fw2 (by first | decide | omega) | exact pz_fw3 (by first | decide | omega) | exact G28 | (rw [e130]; exact G125)) (by first | omega | exact pz_fw1 (by first | decide | omega) | exact pz_fw2 (by first | decide | omega) | exact pz_fw3 (by first | decide | omega) | exact G28 | (rw [e130]; exact G125)) (by first | omega | exact pz_fw1 (by first | decide | omega) | exact pz_fw2 (by first | decide | omega) | exact pz_fw3 (by first | decide | omega) | exact G28 | (rw [e130]; exact G125)) (by first | omega | exact pz_fw1 (by first | decide | omega) | exact pz_fw2 (by first | decide | omega) | exact pz_fw3 (by first | decide | omega) | exact G28 | (rw [e130]; exact G125))
    · skip
      refine pz_nrc (c := 19) rfl ?_
      intro M28 e28
      have hS : pq_pr pq_Pl M M28 := by
        rw [e28]
        exact pq_pr_u hS (by unfold pq_Pl; first | decide | omega) (by unfold pz_iok; first | decide | omega)
      have hI : pz_ic M28 := hS.1 hI0
      have G28 : pq_rn k M M28 0 := pq_rn_0 hC e28
      exact L33 _ _ _ _ _ (Nat.lt_succ_self _) hS (by first | omega | exact pz_fw1 (by first | decide | omega) | exact pz_fw2 (by first | decide | omega) | exact pz_fw3 (by first | decide | omega) | exact G28 | (rw [e130]; exact G125)) (by first | omega | exact pz_fw1 (by first | decide | omega) | exact pz_fw2 (by first | decide | omega) | exact pz_fw3 (by first | decide | omega) | exact G28 | (rw [e130]; exact G125)) (by first | omega | exact pz_fw1 (by first | decide | omega) | exact pz_fw2 (by first | decide | omega) | exact pz_fw3 (by first | decide | omega) | exact G28 | (rw [e130]; exact G125)) (by first | omega | exact pz_fw1 (by first | decide | omega) | exact pz_fw2 (by first | decide | omega) | exact pz_fw3 (by first | decide | omega) | exact G28 | (rw [e130]; exact G125))
theorem v_X9_rowLines {fr lo i : Nat} {own : String} (h1 : 4 + 1 ≤ fr) (h2 : 8 + (5 + 11) + 90 ≤ lo) (h3 : .methodLink own i yX9_rowLines ∈ lw_tbl) : pz_cV fr lo own i k_X9_rowLines :=
  pz_cVk (maxL := 5) (fr' := 4) (lo' := 90) 1 9 h_X9_rowLines rfl ⟨(pz_nhc_RX9 yX9_rowLines rfl).1, (pz_nhc_RX9 yX9_rowLines rfl).2, pz_ds9⟩ ⟨pz_wq795, pz_wq793, pz_wq794, pz_wq10⟩ (Or.inl ⟨TX9, 10, rfl⟩) (fun a M _ h => by
    have h : (match (generalizing := false) a with | [.inr (.inr (9, th)), .inl k] => pz_ic M ∧ pq_cu M ∧ 0 ≤ M 5 8 ∧ M 5 8 ≤ 12 ∧ 1 ≤ k ∧ k ≤ 3 | _ => False) := h
    split at h
    · exact ⟨_, _, rfl⟩
    · exact h.elim) h1 h2 h3
