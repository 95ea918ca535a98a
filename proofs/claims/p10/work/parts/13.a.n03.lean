section
noncomputable def k_X6_take : pz_C := (2, 0, fun a M => (match a with | [.inr (.inr (6, r)), .inr (.inr (6, o))] => pz_ic M | _ => False), fun a M r M' => (match a, r with | [.inr (.inr (6, r)), .inr (.inr (6, o))], none => (pz_t6 r o M M') ∧ pz_rt M M' | _, _ => False))
noncomputable abbrev ct_X6_take : List (Bool × Nat × pz_C) := [(false, 19, pz_kac)]
set_option maxRecDepth 100000 in
set_option maxHeartbeats 4000000 in
theorem h_X6_take : pz_H yX6_take cX6_take 2 none k_X6_take 1 60 := by
  refine pz_mk (own := RX6) (tb := t_X6_take) (fl := pz_flf fl_RX6) (ci := fun _ => none) (ct := pz_ctf ct_X6_take) (rz := false) (pz_pfc_RX6 yX6_take rfl) rfl t_X6_take_ok (pz_flk fl_RX6_ok) (fun i v h => by cases h) ?_ ?_ (rfl) ?_ ?_
  · exact fun i k' h => pz_ctk (l := ct_X6_take) (P := fun b i k => b = true → pz_cV 1 60 RX6 i k) (List.forall_mem_cons.mpr ⟨((fun z => by cases z)), fun _ h => absurd h List.not_mem_nil⟩) true i k' h rfl
  · exact fun i k' h => pz_ctk (l := ct_X6_take) (P := fun b i k => b = false → (pz_cS 1 60 RX6 i k ∨ (k = pz_kac ∧ 1 ≤ 1 ∧ 60 ≤ 60 ∧ Cond.methodLink RX6 i arraycopyName ∈ pz_tbl))) (List.forall_mem_cons.mpr ⟨(fun _ => Or.inr ⟨rfl, by decide, by decide, pz_tbl_in (by decide +kernel) rfl⟩), fun _ h => absurd h List.not_mem_nil⟩) false i k' h rfl
  · intro a M hlen hpre
    obtain ⟨r, o, rfl, hpre⟩ : ∃ r o, a = [.inr (.inr (6, r)), .inr (.inr (6, o))] ∧ (pz_ic M) := by
      have hpre : (match (generalizing := false) a with | [.inr (.inr (6, r)), .inr (.inr (6, o))] => pz_ic M | _ => False) := hpre
      split at hpre
      · exact ⟨_, _, rfl, hpre⟩
      · exact hpre.elim
    exact Nat.le_of_ble_eq_true rfl
  · intro a M hlen hcan hM hpre Ok hgo
    obtain ⟨r, o, rfl, hpre⟩ : ∃ r o, a = [.inr (.inr (6, r)), .inr (.inr (6, o))] ∧ (pz_ic M) := by
      have hpre : (match (generalizing := false) a with | [.inr (.inr (6, r)), .inr (.inr (6, o))] => pz_ic M | _ => False) := hpre
      split at hpre
      · exact ⟨_, _, rfl, hpre⟩
      · exact hpre.elim
    obtain ⟨k_r, hc_r⟩ := pz_tlm hcan
    have k_r : pz_kd r = 6 ∧ r < 231 := k_r
    have R_r := pz_kd6 k_r.1
    obtain ⟨k_o, hc_o⟩ := pz_tlm hc_r
    have k_o : pz_kd o = 6 ∧ o < 231 := k_o
    have R_o := pz_kd6 k_o.1
    have hI : pz_ic M := hpre
    have hI0 := hI
    have hS : pz_rt M M := pz_rt.rf
    refine hgo (fun _ => false) 17 0 _ [] M ?_
    intro v2 e2 a2 b2
    have I2 := hI.2.2.1 o (by omega) (by omega)
    intro M5 e5
    have hS : pz_rt M M5 := by
      rw [e5]
      exact pz_rt_u hS (by unfold pz_iok; omega)
    have hI : pz_ic M5 := hS hI0
    intro r9 e9 k9
    have R9 := pz_kdA k9 (by decide) (by decide)
    have Q9 := pz_nm e9 k_o.1 (by decide) (by decide) rfl
    have L9 := e9.trans (pz_rf6 R_o)
    intro r14 e14 k14
    have R14 := pz_kdA k14 (by decide) (by decide)
    have Q14 := pz_nm e14 k_r.1 (by decide) (by decide) rfl
    have L14 := e14.trans (pz_rf6 R_r)
    intro r19 e19 k19
    have R19 := pz_kdA k19 (by decide) (by decide)
    have Q19 := pz_nm e19 k_r.1 (by decide) (by decide) rfl
    have Z22 : (((pz_ak 17).2 : Nat) : Int) = 80 := rfl
    refine And.intro ⟨_, _, _, _, _, _, _, rfl, rfl, rfl, by decide, by decide, by decide, by decide, by decide⟩ ?_
    intro M23 q23
    obtain ⟨k123, a123, k223, a223, sp23, dp23, n23, z123, -, z223⟩ := q23
    cases z123
    have hS : pz_rt M M23 := hS.tr (by
      rw [z223]
      exact pz_rt_c (by omega))
    have hI : pz_ic M23 := hS hI0
    have T23 := pz_t6_of R_r R_o e5 e2 L9 L14 rfl rfl rfl z223
    refine And.intro rfl ?_
    exact ⟨T23, hS⟩
theorem v_X6_take {fr lo i : Nat} {own : String} (h1 : 1 + 1 ≤ fr) (h2 : 8 + (2 + 11) + 60 ≤ lo) (h3 : .methodLink own i yX6_take ∈ lw_tbl) : pz_cV fr lo own i k_X6_take :=
  pz_cVk (maxL := 2) (fr' := 1) (lo' := 60) 1 6 h_X6_take rfl ⟨(pz_nhc_RX6 yX6_take rfl).1, (pz_nhc_RX6 yX6_take rfl).2, pz_ds42⟩ ⟨pz_wq827, pz_wq825, pz_wq826, pz_wq6⟩ (Or.inl ⟨TX6, 2, rfl⟩) (fun a M _ h => by
    have h : (match (generalizing := false) a with | [.inr (.inr (6, r)), .inr (.inr (6, o))] => pz_ic M | _ => False) := h
    split at h
    · exact ⟨_, _, rfl⟩
    · exact h.elim) h1 h2 h3
noncomputable def k_X6_add : pz_C := (6, 0, fun a M => (match a with | [.inr (.inr (6, r)), .inl n1, .inl n2, .inl n3, .inl n4, .inl n5] => pz_ic M ∧ r = 19 | _ => False), fun a M r M' => (match a, r with | [.inr (.inr (6, r)), .inl n1, .inl n2, .inl n3, .inl n4, .inl n5], none => (pq_rz [n1, n2, n3, n4, n5] M M' ∧ ∀ b j : Nat, b ≠ 19 → b ≠ 26 → M' b j = M b j) ∧ pq_pr pq_Pl M M' | _, _ => False))
noncomputable abbrev ct_X6_add : List (Bool × Nat × pz_C) := []
set_option maxRecDepth 100000 in
set_option maxHeartbeats 4000000 in
theorem h_X6_add : pz_H yX6_add cX6_add 7 none k_X6_add 0 0 := by
  refine pz_mk (own := RX6) (tb := t_X6_add) (fl := pz_flf fl_RX6) (ci := fun _ => none) (ct := pz_ctf ct_X6_add) (rz := false) (pz_pfc_RX6 yX6_add rfl) rfl t_X6_add_ok (pz_flk fl_RX6_ok) (fun i v h => by cases h) ?_ ?_ (rfl) ?_ ?_
  · exact fun i k' h => pz_ctk (l := ct_X6_add) (P := fun b i k => b = true → pz_cV 0 0 RX6 i k) (fun _ h => absurd h List.not_mem_nil) true i k' h rfl
  · exact fun i k' h => pz_ctk (l := ct_X6_add) (P := fun b i k => b = false → (pz_cS 0 0 RX6 i k ∨ (k = pz_kac ∧ 1 ≤ 0 ∧ 60 ≤ 0 ∧ Cond.methodLink RX6 i arraycopyName ∈ pz_tbl))) (fun _ h => absurd h List.not_mem_nil) false i k' h rfl
  · intro a M hlen hpre
    obtain ⟨r, n1, n2, n3, n4, n5, rfl, hpre⟩ : ∃ r n1 n2 n3 n4 n5, a = [.inr (.inr (6, r)), .inl n1, .inl n2, .inl n3, .inl n4, .inl n5] ∧ (pz_ic M ∧ r = 19) := by
      have hpre : (match (generalizing := false) a with | [.inr (.inr (6, r)), .inl n1, .inl n2, .inl n3, .inl n4, .inl n5] => pz_ic M ∧ r = 19 | _ => False) := hpre
      split at hpre
      · exact ⟨_, _, _, _, _, _, rfl, hpre⟩
      · exact hpre.elim
    exact Nat.le_of_ble_eq_true rfl
  · intro a M hlen hcan hM hpre Ok hgo
    obtain ⟨r, n1, n2, n3, n4, n5, rfl, hpre⟩ : ∃ r n1 n2 n3 n4 n5, a = [.inr (.inr (6, r)), .inl n1, .inl n2, .inl n3, .inl n4, .inl n5] ∧ (pz_ic M ∧ r = 19) := by
      have hpre : (match (generalizing := false) a with | [.inr (.inr (6, r)), .inl n1, .inl n2, .inl n3, .inl n4, .inl n5] => pz_ic M ∧ r = 19 | _ => False) := hpre
      split at hpre
      · exact ⟨_, _, _, _, _, _, rfl, hpre⟩
      · exact hpre.elim
    obtain ⟨k_r, hc_r⟩ := pz_tlm hcan
    have k_r : pz_kd r = 6 ∧ r < 231 := k_r
    have R_r := pz_kd6 k_r.1
    obtain ⟨k_n1, hc_n1⟩ := pz_tlm hc_r
    have l_n1 : -2147483648 ≤ n1 := k_n1.1
    have u_n1 : n1 ≤ 2147483647 := k_n1.2
    obtain ⟨k_n2, hc_n2⟩ := pz_tlm hc_n1
    have l_n2 : -2147483648 ≤ n2 := k_n2.1
    have u_n2 : n2 ≤ 2147483647 := k_n2.2
    obtain ⟨k_n3, hc_n3⟩ := pz_tlm hc_n2
    have l_n3 : -2147483648 ≤ n3 := k_n3.1
    have u_n3 : n3 ≤ 2147483647 := k_n3.2
    obtain ⟨k_n4, hc_n4⟩ := pz_tlm hc_n3
    have l_n4 : -2147483648 ≤ n4 := k_n4.1
    have u_n4 : n4 ≤ 2147483647 := k_n4.2
    obtain ⟨k_n5, hc_n5⟩ := pz_tlm hc_n4
    have l_n5 : -2147483648 ≤ n5 := k_n5.1
    have u_n5 : n5 ≤ 2147483647 := k_n5.2
    have hI : pz_ic M := hpre.1
    have hI0 := hI
    have hS : pq_pr pq_Pl M M := pq_pr.rf
    have hr : r = 19 := hpre.2
    refine hgo (fun _ => false) 51 0 _ [] M ?_
    intro v1 e1 a1 b1
    have I1 := hI.2.2.1 r (by omega) (by omega)
    refine And.intro (fun h6 => ?_) (fun h6 => ?_)
    · skip
      refine And.intro rfl ?_
      first
        | (have Z69 : v69 = M 19 0 := by
             rw [e69, hr, e66, L57, pz_una (by decide), e55, L46, pz_una (by decide), e44, L36, pz_una (by decide), e34, L26, pz_una (by decide), e24, L18]
             exact pz_una (by decide)
           have F9 : M74 = pz_u (pz_u (pz_u (pz_u (pz_u (pz_u M 26 v14.toNat n1) 26 v32.toNat n2) 26 v42.toNat n3) 26 v52.toNat n4) 26 v63.toNat n5) 19 0 v73 := by
             rw [e74, hr, e66, L57, e55, L46, e44, L36, e34, L26, e24, L18]
           have I19 := hI0.2.2.1 19 (by decide) (by decide)
           have F8 := pq_rz_of I19.1 (by omega) (by omega) (by omega) (by omega) (by omega) (by omega) F9
           exact ⟨⟨F8.1, F8.2⟩, hS⟩)
        | exact ⟨⟨fun y => absurd y (by rw [hr] at e1; omega), fun _ _ _ _ => rfl⟩, hS⟩
    · skip
      intro v10 e10 a10 b10
      have I10 := hI.2.2.1 r (by omega) (by omega)
      intro v14 e14 a14 b14
      try rw [pz_wi (by omega) (by omega)] at e14
      have V14 : v14 = 5 * M 19 0 := by
        rw [hr] at e10
        omega
      intro r18 e18 k18
      have R18 := pz_kdA k18 (by decide) (by decide)
      have Q18 := pz_nm e18 k_r.1 (by decide) (by decide) rfl
      rw [hr] at e18
      have L18 : r18 = 26 := e18
      have lo24 : (0 : Int) ≤ v14 := by omega
      have tn24 : (((v14).toNat : Nat) : Int) = v14 := Int.toNat_of_nonneg lo24
      refine And.intro (lo24) (And.intro (show _ < (80 : Int) from by omega) ?_)
      intro M24 e24
      have hS : pq_pr pq_Pl M M24 := by
        rw [e24]
        exact pq_pr_u hS (by unfold pq_Pl; omega) (by unfold pz_iok; omega)
      have hI : pz_ic M24 := hS.1 hI0
      have T24_0 := pz_uve e24 r 0
      intro r26 e26 k26
      have R26 := pz_kdA k26 (by decide) (by decide)
      have Q26 := pz_nm e26 k_r.1 (by decide) (by decide) rfl
      rw [hr] at e26
      have L26 : r26 = 26 := e26
      intro v32 e32 a32 b32
      try rw [pz_wi (by omega) (by omega)] at e32
      have lo34 : (0 : Int) ≤ v32 := by omega
      have tn34 : (((v32).toNat : Nat) : Int) = v32 := Int.toNat_of_nonneg lo34
      refine And.intro (lo34) (And.intro (show _ < (80 : Int) from by omega) ?_)
      intro M34 e34
      have hS : pq_pr pq_Pl M M34 := by
        rw [e34]
        exact pq_pr_u hS (by unfold pq_Pl; omega) (by unfold pz_iok; omega)
      have hI : pz_ic M34 := hS.1 hI0
      have T34_0 := pz_uve e34 r 0
      intro r36 e36 k36
      have R36 := pz_kdA k36 (by decide) (by decide)
      have Q36 := pz_nm e36 k_r.1 (by decide) (by decide) rfl
      rw [hr] at e36
      have L36 : r36 = 26 := e36
      intro v42 e42 a42 b42
      try rw [pz_wi (by omega) (by omega)] at e42
      have lo44 : (0 : Int) ≤ v42 := by omega
      have tn44 : (((v42).toNat : Nat) : Int) = v42 := Int.toNat_of_nonneg lo44
      refine And.intro (lo44) (And.intro (show _ < (80 : Int) from by omega) ?_)
      intro M44 e44
      have hS : pq_pr pq_Pl M M44 := by
        rw [e44]
        exact pq_pr_u hS (by unfold pq_Pl; omega) (by unfold pz_iok; omega)
      have hI : pz_ic M44 := hS.1 hI0
      have T44_0 := pz_uve e44 r 0
      intro r46 e46 k46
      have R46 := pz_kdA k46 (by decide) (by decide)
      have Q46 := pz_nm e46 k_r.1 (by decide) (by decide) rfl
      rw [hr] at e46
      have L46 : r46 = 26 := e46
      intro v52 e52 a52 b52
      try rw [pz_wi (by omega) (by omega)] at e52
      have lo55 : (0 : Int) ≤ v52 := by omega
      have tn55 : (((v52).toNat : Nat) : Int) = v52 := Int.toNat_of_nonneg lo55
      refine And.intro (lo55) (And.intro (show _ < (80 : Int) from by omega) ?_)
      intro M55 e55
      have hS : pq_pr pq_Pl M M55 := by
        rw [e55]
        exact pq_pr_u hS (by unfold pq_Pl; omega) (by unfold pz_iok; omega)
      have hI : pz_ic M55 := hS.1 hI0
      have T55_0 := pz_uve e55 r 0
      intro r57 e57 k57
      have R57 := pz_kdA k57 (by decide) (by decide)
      have Q57 := pz_nm e57 k_r.1 (by decide) (by decide) rfl
      rw [hr] at e57
      have L57 : r57 = 26 := e57
      intro v63 e63 a63 b63
      try rw [pz_wi (by omega) (by omega)] at e63
      have lo66 : (0 : Int) ≤ v63 := by omega
      have tn66 : (((v63).toNat : Nat) : Int) = v63 := Int.toNat_of_nonneg lo66
      refine And.intro (lo66) (And.intro (show _ < (80 : Int) from by omega) ?_)
      intro M66 e66
      have hS : pq_pr pq_Pl M M66 := by
        rw [e66]
        exact pq_pr_u hS (by unfold pq_Pl; omega) (by unfold pz_iok; omega)
      have hI : pz_ic M66 := hS.1 hI0
      have T66_0 := pz_uve e66 r 0
      intro v69 e69 a69 b69
      have I69 := hI.2.2.1 r (by omega) (by omega)
      intro v73 e73 a73 b73
      try rw [pz_wi (by omega) (by omega)] at e73
      intro M74 e74
      have hS : pq_pr pq_Pl M M74 := by
        rw [e74]
        exact pq_pr_u hS (by unfold pq_Pl; omega) (by unfold pz_iok; omega)
      have hI : pz_ic M74 := hS.1 hI0
      have T74_0 := pz_uve e74 r 0
      refine And.intro rfl ?_
      first
        | (have Z69 : v69 = M 19 0 := by
             rw [e69, hr, e66, L57, pz_una (by decide), e55, L46, pz_una (by decide), e44, L36, pz_una (by decide), e34, L26, pz_una (by decide), e24, L18]
             exact pz_una (by decide)
           have F9 : M74 = pz_u (pz_u (pz_u (pz_u (pz_u (pz_u M 26 v14.toNat n1) 26 v32.toNat n2) 26 v42.toNat n3) 26 v52.toNat n4) 26 v63.toNat n5) 19 0 v73 := by
             rw [e74, hr, e66, L57, e55, L46, e44, L36, e34, L26, e24, L18]
           have I19 := hI0.2.2.1 19 (by decide) (by decide)
           have F8 := pq_rz_of I19.1 (by omega) (by omega) (by omega) (by omega) (by omega) (by omega) F9
           exact ⟨⟨F8.1, F8.2⟩, hS⟩)
        | exact ⟨⟨fun y => absurd y (by rw [hr] at e1; omega), fun _ _ _ _ => rfl⟩, hS⟩
theorem v_X6_add {fr lo i : Nat} {own : String} (h1 : 0 + 1 ≤ fr) (h2 : 8 + (7 + 11) + 0 ≤ lo) (h3 : .methodLink own i yX6_add ∈ lw_tbl) : pz_cV fr lo own i k_X6_add :=
  pz_cVk (maxL := 7) (fr' := 0) (lo' := 0) 5 6 h_X6_add rfl ⟨(pz_nhc_RX6 yX6_add rfl).1, (pz_nhc_RX6 yX6_add rfl).2, pz_ds22⟩ ⟨pz_wq811, pz_wq809, pz_wq810, pz_wq6⟩ (Or.inl ⟨TX6, 2, rfl⟩) (fun a M _ h => by
    have h : (match (generalizing := false) a with | [.inr (.inr (6, r)), .inl n1, .inl n2, .inl n3, .inl n4, .inl n5] => pz_ic M ∧ r = 19 | _ => False) := h
    split at h
    · exact ⟨_, _, rfl⟩
    · exact h.elim) h1 h2 h3
noncomputable def k_X3_clear : pz_C := (1, 0, fun a M => (match a with | [.inr (.inr (3, g))] => pz_ic M ∧ g = 12 | _ => False), fun a M r M' => (match a, r with | [.inr (.inr (3, g))], none => (pq_clr M M') ∧ pq_pr pq_Pl M M' | _, _ => False))
noncomputable abbrev ct_X3_clear : List (Bool × Nat × pz_C) := []
set_option maxRecDepth 100000 in
set_option maxHeartbeats 4000000 in
theorem h_X3_clear : pz_H yX3_clear cX3_clear 1 none k_X3_clear 0 0 := by
  refine pz_mk (own := RX3) (tb := t_X3_clear) (fl := pz_flf fl_RX3) (ci := fun _ => none) (ct := pz_ctf ct_X3_clear) (rz := false) (pz_pfc_RX3 yX3_clear rfl) rfl t_X3_clear_ok (pz_flk fl_RX3_ok) (fun i v h => by cases h) ?_ ?_ (rfl) ?_ ?_
  · exact fun i k' h => pz_ctk (l := ct_X3_clear) (P := fun b i k => b = true → pz_cV 0 0 RX3 i k) (fun _ h => absurd h List.not_mem_nil) true i k' h rfl
  · exact fun i k' h => pz_ctk (l := ct_X3_clear) (P := fun b i k => b = false → (pz_cS 0 0 RX3 i k ∨ (k = pz_kac ∧ 1 ≤ 0 ∧ 60 ≤ 0 ∧ Cond.methodLink RX3 i arraycopyName ∈ pz_tbl))) (fun _ h => absurd h List.not_mem_nil) false i k' h rfl
  · intro a M hlen hpre
    obtain ⟨g, rfl, hpre⟩ : ∃ g, a = [.inr (.inr (3, g))] ∧ (pz_ic M ∧ g = 12) := by
      have hpre : (match (generalizing := false) a with | [.inr (.inr (3, g))] => pz_ic M ∧ g = 12 | _ => False) := hpre
      split at hpre
      · exact ⟨_, rfl, hpre⟩
      · exact hpre.elim
    exact Nat.le_of_ble_eq_true rfl
  · intro a M hlen hcan hM hpre Ok hgo
    obtain ⟨g, rfl, hpre⟩ : ∃ g, a = [.inr (.inr (3, g))] ∧ (pz_ic M ∧ g = 12) := by
      have hpre : (match (generalizing := false) a with | [.inr (.inr (3, g))] => pz_ic M ∧ g = 12 | _ => False) := hpre
      split at hpre
      · exact ⟨_, rfl, hpre⟩
      · exact hpre.elim
    obtain ⟨k_g, hc_g⟩ := pz_tlm hcan
    have k_g : pz_kd g = 3 ∧ g < 231 := k_g
    have R_g := pz_kd3 k_g.1
    have hI : pz_ic M := hpre.1
    have hI0 := hI
    have hS : pq_pr pq_Pl M M := pq_pr.rf
    have hg : g = 12 := hpre.2
    refine hgo (fun _ => false) 9 0 _ [] M ?_
    intro M2 e2
    have hS : pq_pr pq_Pl M M2 := by
      rw [e2]
      exact pq_pr_u hS (by unfold pq_Pl; omega) (by unfold pz_iok; omega)
    have hI : pz_ic M2 := hS.1 hI0
    intro M7 e7
    have hS : pq_pr pq_Pl M M7 := by
      rw [e7]
      exact pq_pr_u hS (by unfold pq_Pl; omega) (by unfold pz_iok; omega)
    have hI : pz_ic M7 := hS.1 hI0
    refine And.intro rfl ?_
    exact ⟨⟨by rw [e7, hg, pz_unk (by decide), e2, hg]; exact pz_uu, by rw [e7, hg]; exact pz_uu, fun b j y => by rw [e7, hg, pz_une (by omega), e2, hg]; exact pz_une (by omega)⟩, hS⟩
theorem v_X3_clear {fr lo i : Nat} {own : String} (h1 : 0 + 1 ≤ fr) (h2 : 8 + (1 + 11) + 0 ≤ lo) (h3 : .methodLink own i yX3_clear ∈ lw_tbl) : pz_cV fr lo own i k_X3_clear :=
  pz_cVk (maxL := 1) (fr' := 0) (lo' := 0) 0 3 h_X3_clear rfl ⟨(pz_nhc_RX3 yX3_clear rfl).1, (pz_nhc_RX3 yX3_clear rfl).2, pz_ds2⟩ ⟨pz_wq752, pz_wq750, pz_wq751, pz_wq5⟩ (Or.inl ⟨TX3, 8, rfl⟩) (fun a M _ h => by
    have h : (match (generalizing := false) a with | [.inr (.inr (3, g))] => pz_ic M ∧ g = 12 | _ => False) := h
    split at h
    · exact ⟨_, _, rfl⟩
    · exact h.elim) h1 h2 h3
noncomputable def k_X3_take : pz_C := (2, 0, fun a M => (match a with | [.inr (.inr (3, g)), .inr (.inr (3, o))] => pz_ic M ∧ g ≠ o | _ => False), fun a M r M' => (match a, r with | [.inr (.inr (3, g)), .inr (.inr (3, o))], none => (pz_t3 g o M M') ∧ pz_rt M M' | _, _ => False))
noncomputable abbrev ct_X3_take : List (Bool × Nat × pz_C) := [(false, 37, pz_kac)]
set_option maxRecDepth 100000 in
set_option maxHeartbeats 4000000 in
theorem h_X3_take : pz_H yX3_take cX3_take 2 none k_X3_take 1 60 := by
  refine pz_mk (own := RX3) (tb := t_X3_take) (fl := pz_flf fl_RX3) (ci := fun _ => none) (ct := pz_ctf ct_X3_take) (rz := false) (pz_pfc_RX3 yX3_take rfl) rfl t_X3_take_ok (pz_flk fl_RX3_ok) (fun i v h => by cases h) ?_ ?_ (rfl) ?_ ?_
  · exact fun i k' h => pz_ctk (l := ct_X3_take) (P := fun b i k => b = true → pz_cV 1 60 RX3 i k) (List.forall_mem_cons.mpr ⟨((fun z => by cases z)), fun _ h => absurd h List.not_mem_nil⟩) true i k' h rfl
  · exact fun i k' h => pz_ctk (l := ct_X3_take) (P := fun b i k => b = false → (pz_cS 1 60 RX3 i k ∨ (k = pz_kac ∧ 1 ≤ 1 ∧ 60 ≤ 60 ∧ Cond.methodLink RX3 i arraycopyName ∈ pz_tbl))) (List.forall_mem_cons.mpr ⟨(fun _ => Or.inr ⟨rfl, by decide, by decide, pz_tbl_in (by decide +kernel) rfl⟩), fun _ h => absurd h List.not_mem_nil⟩) false i k' h rfl
  · intro a M hlen hpre
    obtain ⟨g, o, rfl, hpre⟩ : ∃ g o, a = [.inr (.inr (3, g)), .inr (.inr (3, o))] ∧ (pz_ic M ∧ g ≠ o) := by
      have hpre : (match (generalizing := false) a with | [.inr (.inr (3, g)), .inr (.inr (3, o))] => pz_ic M ∧ g ≠ o | _ => False) := hpre
      split at hpre
      · exact ⟨_, _, rfl, hpre⟩
      · exact hpre.elim
    exact Nat.le_of_ble_eq_true rfl
  · intro a M hlen hcan hM hpre Ok hgo
    obtain ⟨g, o, rfl, hpre⟩ : ∃ g o, a = [.inr (.inr (3, g)), .inr (.inr (3, o))] ∧ (pz_ic M ∧ g ≠ o) := by
      have hpre : (match (generalizing := false) a with | [.inr (.inr (3, g)), .inr (.inr (3, o))] => pz_ic M ∧ g ≠ o | _ => False) := hpre
      split at hpre
      · exact ⟨_, _, rfl, hpre⟩
      · exact hpre.elim
    obtain ⟨k_g, hc_g⟩ := pz_tlm hcan
    have k_g : pz_kd g = 3 ∧ g < 231 := k_g
    have R_g := pz_kd3 k_g.1
    obtain ⟨k_o, hc_o⟩ := pz_tlm hc_g
    have k_o : pz_kd o = 3 ∧ o < 231 := k_o
    have R_o := pz_kd3 k_o.1
    have hI : pz_ic M := hpre.1
    have hI0 := hI
    have hS : pz_rt M M := pz_rt.rf
    refine hgo (fun _ => false) 51 0 _ [] M ?_
    intro v2 e2 a2 b2
    have I2 := hI.2.2.2.1 o (by omega) (by omega)
    intro M5 e5
    have hS : pz_rt M M5 := by
      rw [e5]
      exact pz_rt_u hS (by unfold pz_iok; omega)
    have hI : pz_ic M5 := hS hI0
    intro v10 e10 a10 b10
    have I10 := hI.2.2.2.1 o (by omega) (by omega)
    intro M13 e13
    have hS : pz_rt M M13 := by
      rw [e13]
      exact pz_rt_u hS (by unfold pz_iok; omega)
    have hI : pz_ic M13 := hS hI0
    intro r17 e17 k17
    have R17 := pz_kdA k17 (by decide) (by decide)
    have Q17 := pz_nm e17 k_o.1 (by decide) (by decide) rfl
    have L17 := e17.trans (pz_rf3 R_o).1
    intro r22 e22 k22
    have R22 := pz_kdA k22 (by decide) (by decide)
    have Q22 := pz_nm e22 k_g.1 (by decide) (by decide) rfl
    have L22 := e22.trans (pz_rf3 R_g).1
    refine And.intro ⟨_, _, _, _, _, _, _, rfl, rfl, rfl, by decide, by decide, by decide, by decide, by decide⟩ ?_
    intro M28 q28
    obtain ⟨k128, a128, k228, a228, sp28, dp28, n28, z128, -, z228⟩ := q28
    cases z128
    have hS : pz_rt M M28 := hS.tr (by
      rw [z228]
      exact pz_rt_c (by omega))
    have hI : pz_ic M28 := hS hI0
    intro r32 e32 k32
    have R32 := pz_kdA k32 (by decide) (by decide)
    have Q32 := pz_nm e32 k_o.1 (by decide) (by decide) rfl
    have L32 := e32.trans (pz_rf3 R_o).2.1
    intro r37 e37 k37
    have R37 := pz_kdA k37 (by decide) (by decide)
    have Q37 := pz_nm e37 k_g.1 (by decide) (by decide) rfl
    have L37 := e37.trans (pz_rf3 R_g).2.1
    refine And.intro ⟨_, _, _, _, _, _, _, rfl, rfl, rfl, by decide, by decide, by decide, by decide, by decide⟩ ?_
    intro M43 q43
    obtain ⟨k143, a143, k243, a243, sp43, dp43, n43, z143, -, z243⟩ := q43
    cases z143
    have hS : pz_rt M M43 := hS.tr (by
      rw [z243]
      exact pz_rt_c (by omega))
    have hI : pz_ic M43 := hS hI0
    intro r47 e47 k47
    have R47 := pz_kdA k47 (by decide) (by decide)
    have Q47 := pz_nm e47 k_o.1 (by decide) (by decide) rfl
    have L47 := e47.trans (pz_rf3 R_o).2.2.1
    intro r52 e52 k52
    have R52 := pz_kdA k52 (by decide) (by decide)
    have Q52 := pz_nm e52 k_g.1 (by decide) (by decide) rfl
    have L52 := e52.trans (pz_rf3 R_g).2.2.1
    refine And.intro ⟨_, _, _, _, _, _, _, rfl, rfl, rfl, by decide, by decide, by decide, by decide, by decide⟩ ?_
    intro M58 q58
    obtain ⟨k158, a158, k258, a258, sp58, dp58, n58, z158, -, z258⟩ := q58
    cases z158
    have hS : pz_rt M M58 := hS.tr (by
      rw [z258]
      exact pz_rt_c (by omega))
    have hI : pz_ic M58 := hS hI0
    intro r62 e62 k62
    have R62 := pz_kdA k62 (by decide) (by decide)
    have Q62 := pz_nm e62 k_o.1 (by decide) (by decide) rfl
    have L62 := e62.trans (pz_rf3 R_o).2.2.2.1
    intro r67 e67 k67
    have R67 := pz_kdA k67 (by decide) (by decide)
    have Q67 := pz_nm e67 k_g.1 (by decide) (by decide) rfl
    have L67 := e67.trans (pz_rf3 R_g).2.2.2.1
    refine And.intro ⟨_, _, _, _, _, _, _, rfl, rfl, rfl, by decide, by decide, by decide, by decide, by decide⟩ ?_
    intro M73 q73
    obtain ⟨k173, a173, k273, a273, sp73, dp73, n73, z173, -, z273⟩ := q73
    cases z173
    have hS : pz_rt M M73 := hS.tr (by
      rw [z273]
      exact pz_rt_c (by omega))
    have hI : pz_ic M73 := hS hI0
    intro r77 e77 k77
    have R77 := pz_kdA k77 (by decide) (by decide)
    have Q77 := pz_nm e77 k_o.1 (by decide) (by decide) rfl
    have L77 := e77.trans (pz_rf3 R_o).2.2.2.2
    intro r82 e82 k82
    have R82 := pz_kdA k82 (by decide) (by decide)
    have Q82 := pz_nm e82 k_g.1 (by decide) (by decide) rfl
    have L82 := e82.trans (pz_rf3 R_g).2.2.2.2
    refine And.intro ⟨_, _, _, _, _, _, _, rfl, rfl, rfl, by decide, by decide, by decide, by decide, by decide⟩ ?_
    intro M89 q89
    obtain ⟨k189, a189, k289, a289, sp89, dp89, n89, z189, -, z289⟩ := q89
    cases z189
    have hS : pz_rt M M89 := hS.tr (by
      rw [z289]
      exact pz_rt_c (by omega))
    have hI : pz_ic M89 := hS hI0
    refine And.intro rfl ?_
    exact ⟨pz_t3_of R_g R_o hpre.2 e5 e2 e13 e10 L17 L32 L47 L62 L77 L22 L37 L52 L67 L82 z228 z243 z258 z273 z289, hS⟩
theorem v_X3_take {fr lo i : Nat} {own : String} (h1 : 1 + 1 ≤ fr) (h2 : 8 + (2 + 11) + 60 ≤ lo) (h3 : .methodLink own i yX3_take ∈ lw_tbl) : pz_cV fr lo own i k_X3_take :=
  pz_cVk (maxL := 2) (fr' := 1) (lo' := 60) 1 3 h_X3_take rfl ⟨(pz_nhc_RX3 yX3_take rfl).1, (pz_nhc_RX3 yX3_take rfl).2, pz_ds40⟩ ⟨pz_wq788, pz_wq786, pz_wq787, pz_wq5⟩ (Or.inl ⟨TX3, 8, rfl⟩) (fun a M _ h => by
    have h : (match (generalizing := false) a with | [.inr (.inr (3, g)), .inr (.inr (3, o))] => pz_ic M ∧ g ≠ o | _ => False) := h
    split at h
    · exact ⟨_, _, rfl⟩
    · exact h.elim) h1 h2 h3
end
