section
noncomputable def k_X3_put : pz_C := (2, 0, fun a M => (match a with | [.inr (.inr (3, g)), .inl p] => pz_ic M ∧ g = 12 | _ => False), fun a M r M' => (match a, r with | [.inr (.inr (3, g)), .inl p], none => (pq_put M M' p) ∧ pq_pr pq_Pp M M' | _, _ => False))
noncomputable abbrev ct_X3_put : List (Bool × Nat × pz_C) := []
set_option maxRecDepth 100000 in
set_option maxHeartbeats 4000000 in
theorem h_X3_put : pz_H yX3_put cX3_put 2 none k_X3_put 0 0 := by
  refine pz_mk (own := RX3) (tb := t_X3_put) (fl := pz_flf fl_RX3) (ci := fun _ => none) (ct := pz_ctf ct_X3_put) (rz := false) (pz_pfc_RX3 yX3_put rfl) rfl t_X3_put_ok (pz_flk fl_RX3_ok) (fun i v h => by cases h) ?_ ?_ (rfl) ?_ ?_
  · exact fun i k' h => pz_ctk (l := ct_X3_put) (P := fun b i k => b = true → pz_cV 0 0 RX3 i k) (fun _ h => absurd h List.not_mem_nil) true i k' h rfl
  · exact fun i k' h => pz_ctk (l := ct_X3_put) (P := fun b i k => b = false → (pz_cS 0 0 RX3 i k ∨ (k = pz_kac ∧ 1 ≤ 0 ∧ 60 ≤ 0 ∧ Cond.methodLink RX3 i arraycopyName ∈ pz_tbl))) (fun _ h => absurd h List.not_mem_nil) false i k' h rfl
  · intro a M hlen hpre
    obtain ⟨g, p, rfl, hpre⟩ : ∃ g p, a = [.inr (.inr (3, g)), .inl p] ∧ (pz_ic M ∧ g = 12) := by
      have hpre : (match (generalizing := false) a with | [.inr (.inr (3, g)), .inl p] => pz_ic M ∧ g = 12 | _ => False) := hpre
      split at hpre
      · exact ⟨_, _, rfl, hpre⟩
      · exact hpre.elim
    exact Nat.le_of_ble_eq_true rfl
  · intro a M hlen hcan hM hpre Ok hgo
    obtain ⟨g, p, rfl, hpre⟩ : ∃ g p, a = [.inr (.inr (3, g)), .inl p] ∧ (pz_ic M ∧ g = 12) := by
      have hpre : (match (generalizing := false) a with | [.inr (.inr (3, g)), .inl p] => pz_ic M ∧ g = 12 | _ => False) := hpre
      split at hpre
      · exact ⟨_, _, rfl, hpre⟩
      · exact hpre.elim
    obtain ⟨k_g, hc_g⟩ := pz_tlm hcan
    have k_g : pz_kd g = 3 ∧ g < 231 := k_g
    have R_g := pz_kd3 k_g.1
    obtain ⟨k_p, hc_p⟩ := pz_tlm hc_g
    have l_p : -2147483648 ≤ p := k_p.1
    have u_p : p ≤ 2147483647 := k_p.2
    have hI : pz_ic M := hpre.1
    have hI0 := hI
    have hS : pq_pr pq_Pp M M := pq_pr.rf
    have hg : g = 12 := hpre.2
    refine hgo (fun _ => false) 19 0 _ [] M ?_
    intro v1 e1 a1 b1
    have I1 := hI.2.2.2.1 g (by omega) (by omega)
    refine And.intro (fun h7 => ?_) (fun h7 => ?_)
    · skip
      refine And.intro rfl ?_
      first
        | (have V22 : v22 = M 12 1 := by
             rw [e22, e19, hg, L11]
             exact pz_una (by decide)
           have F9 : M27 = pz_u (pz_u M 43 (M 12 1).toNat p) 12 1 (M 12 1 + 1) := by
             rw [e27, e26, V22, e19, L11, e15, hg]
           have F8 : M 12 1 < 400 := by
             rw [hg] at e1
             omega
           exact ⟨Or.inl ⟨F8, F9⟩, hS⟩)
        | (have F8 : ¬ M 12 1 < 400 := by
             rw [hg] at e1
             omega
           exact ⟨Or.inr ⟨F8, rfl⟩, hS⟩)
    · skip
      intro r11 e11 k11
      have R11 := pz_kdA k11 (by decide) (by decide)
      have Q11 := pz_nm e11 k_g.1 (by decide) (by decide) rfl
      rw [hg] at e11
      have L11 : r11 = 43 := e11
      intro v15 e15 a15 b15
      have I15 := hI.2.2.2.1 g (by omega) (by omega)
      have lo19 : (0 : Int) ≤ v15 := by omega
      have tn19 : (((v15).toNat : Nat) : Int) = v15 := Int.toNat_of_nonneg lo19
      refine And.intro (lo19) (And.intro (show _ < (400 : Int) from by omega) ?_)
      intro M19 e19
      have hS : pq_pr pq_Pp M M19 := by
        rw [e19]
        exact pq_pr_u hS (by unfold pq_Pp; omega) (by unfold pz_iok; omega)
      have hI : pz_ic M19 := hS.1 hI0
      have T19_0 := pz_uve e19 g 1
      intro v22 e22 a22 b22
      have I22 := hI.2.2.2.1 g (by omega) (by omega)
      intro v26 e26 a26 b26
      try rw [pz_wi (by omega) (by omega)] at e26
      intro M27 e27
      have hS : pq_pr pq_Pp M M27 := by
        rw [e27]
        exact pq_pr_u hS (by unfold pq_Pp; omega) (by unfold pz_iok; omega)
      have hI : pz_ic M27 := hS.1 hI0
      have T27_0 := pz_uve e27 g 1
      refine And.intro rfl ?_
      first
        | (have V22 : v22 = M 12 1 := by
             rw [e22, e19, hg, L11]
             exact pz_una (by decide)
           have F9 : M27 = pz_u (pz_u M 43 (M 12 1).toNat p) 12 1 (M 12 1 + 1) := by
             rw [e27, e26, V22, e19, L11, e15, hg]
           have F8 : M 12 1 < 400 := by
             rw [hg] at e1
             omega
           exact ⟨Or.inl ⟨F8, F9⟩, hS⟩)
        | (have F8 : ¬ M 12 1 < 400 := by
             rw [hg] at e1
             omega
           exact ⟨Or.inr ⟨F8, rfl⟩, hS⟩)
theorem v_X3_put {fr lo i : Nat} {own : String} (h1 : 0 + 1 ≤ fr) (h2 : 8 + (2 + 11) + 0 ≤ lo) (h3 : .methodLink own i yX3_put ∈ lw_tbl) : pz_cV fr lo own i k_X3_put :=
  pz_cVk (maxL := 2) (fr' := 0) (lo' := 0) 1 3 h_X3_put rfl ⟨(pz_nhc_RX3 yX3_put rfl).1, (pz_nhc_RX3 yX3_put rfl).2, pz_ds8⟩ ⟨pz_wq768, pz_wq766, pz_wq767, pz_wq5⟩ (Or.inl ⟨TX3, 8, rfl⟩) (fun a M _ h => by
    have h : (match (generalizing := false) a with | [.inr (.inr (3, g)), .inl p] => pz_ic M ∧ g = 12 | _ => False) := h
    split at h
    · exact ⟨_, _, rfl⟩
    · exact h.elim) h1 h2 h3
noncomputable def k_X3_addLine : pz_C := (4, 0, fun a M => (match a with | [.inr (.inr (3, g)), .inl p, .inl q, .inl w] => pz_ic M ∧ g = 12 | _ => False), fun a M r M' => (match a, r with | [.inr (.inr (3, g)), .inl p, .inl q, .inl w], none => (pq_add M M' p q w) ∧ pq_pr pq_Pl M M' | _, _ => False))
noncomputable abbrev ct_X3_addLine : List (Bool × Nat × pz_C) := []
set_option maxRecDepth 100000 in
set_option maxHeartbeats 4000000 in
theorem h_X3_addLine : pz_H yX3_addLine cX3_addLine 4 none k_X3_addLine 0 0 := by
  refine pz_mk (own := RX3) (tb := t_X3_addLine) (fl := pz_flf fl_RX3) (ci := fun _ => none) (ct := pz_ctf ct_X3_addLine) (rz := false) (pz_pfc_RX3 yX3_addLine rfl) rfl t_X3_addLine_ok (pz_flk fl_RX3_ok) (fun i v h => by cases h) ?_ ?_ (rfl) ?_ ?_
  · exact fun i k' h => pz_ctk (l := ct_X3_addLine) (P := fun b i k => b = true → pz_cV 0 0 RX3 i k) (fun _ h => absurd h List.not_mem_nil) true i k' h rfl
  · exact fun i k' h => pz_ctk (l := ct_X3_addLine) (P := fun b i k => b = false → (pz_cS 0 0 RX3 i k ∨ (k = pz_kac ∧ 1 ≤ 0 ∧ 60 ≤ 0 ∧ Cond.methodLink RX3 i arraycopyName ∈ pz_tbl))) (fun _ h => absurd h List.not_mem_nil) false i k' h rfl
  · intro a M hlen hpre
    obtain ⟨g, p, q, w, rfl, hpre⟩ : ∃ g p q w, a = [.inr (.inr (3, g)), .inl p, .inl q, .inl w] ∧ (pz_ic M ∧ g = 12) := by
      have hpre : (match (generalizing := false) a with | [.inr (.inr (3, g)), .inl p, .inl q, .inl w] => pz_ic M ∧ g = 12 | _ => False) := hpre
      split at hpre
      · exact ⟨_, _, _, _, rfl, hpre⟩
      · exact hpre.elim
    exact Nat.le_of_ble_eq_true rfl
  · intro a M hlen hcan hM hpre Ok hgo
    obtain ⟨g, p, q, w, rfl, hpre⟩ : ∃ g p q w, a = [.inr (.inr (3, g)), .inl p, .inl q, .inl w] ∧ (pz_ic M ∧ g = 12) := by
      have hpre : (match (generalizing := false) a with | [.inr (.inr (3, g)), .inl p, .inl q, .inl w] => pz_ic M ∧ g = 12 | _ => False) := hpre
      split at hpre
      · exact ⟨_, _, _, _, rfl, hpre⟩
      · exact hpre.elim
    obtain ⟨k_g, hc_g⟩ := pz_tlm hcan
    have k_g : pz_kd g = 3 ∧ g < 231 := k_g
    have R_g := pz_kd3 k_g.1
    obtain ⟨k_p, hc_p⟩ := pz_tlm hc_g
    have l_p : -2147483648 ≤ p := k_p.1
    have u_p : p ≤ 2147483647 := k_p.2
    obtain ⟨k_q, hc_q⟩ := pz_tlm hc_p
    have l_q : -2147483648 ≤ q := k_q.1
    have u_q : q ≤ 2147483647 := k_q.2
    obtain ⟨k_w, hc_w⟩ := pz_tlm hc_q
    have l_w : -2147483648 ≤ w := k_w.1
    have u_w : w ≤ 2147483647 := k_w.2
    have hI : pz_ic M := hpre.1
    have hI0 := hI
    have hS : pq_pr pq_Pl M M := pq_pr.rf
    have hg : g = 12 := hpre.2
    refine hgo (fun _ => false) 38 0 _ [] M ?_
    intro v1 e1 a1 b1
    have I1 := hI.2.2.2.1 g (by omega) (by omega)
    refine And.intro (fun h6 => ?_) (fun h6 => ?_)
    · skip
      refine And.intro rfl ?_
      first
        | (have V24 : v24 = M 12 0 := by
             rw [e24, e18, hg, L10]
             exact pz_una (by decide)
           have V34 : v34 = M 12 0 := by
             rw [e34, e28, hg, L20, pz_una (by decide), ← V24, e24, hg]
           have V44 : v44 = M 12 0 := by
             rw [e44, e38, hg, L30, pz_una (by decide), ← V34, e34, hg]
           have V48 : v48 = M 12 1 := by
             rw [e48, e38, hg, L30, pz_una (by decide), e28, L20, pz_una (by decide), e18, L10]
             exact pz_una (by decide)
           have V54 : v54 = M 12 0 := by
             rw [e54, e51, hg, L40, pz_una (by decide), ← V44, e44, hg]
           have V14 : v14 = M 12 0 := by rw [e14, hg]
           have F9 : M59 = pz_u (pz_u (pz_u (pz_u (pz_u M 39 (M 12 0).toNat p) 40 (M 12 0).toNat q) 41 (M 12 0).toNat w) 42 (M 12 0).toNat (M 12 1)) 12 0 (M 12 0 + 1) := by
             rw [e59, e58, V54, e51, V44, V48, L40, e38, V34, L30, e28, V24, L20, e18, V14, L10, hg]
           exact ⟨pq_add_of (by omega) F9, hS⟩)
        | exact ⟨fun y => absurd y (by rw [hg] at e1; omega), hS⟩
    · skip
      intro r10 e10 k10
      have R10 := pz_kdA k10 (by decide) (by decide)
      have Q10 := pz_nm e10 k_g.1 (by decide) (by decide) rfl
      rw [hg] at e10
      have L10 : r10 = 39 := e10
      intro v14 e14 a14 b14
      have I14 := hI.2.2.2.1 g (by omega) (by omega)
      have lo18 : (0 : Int) ≤ v14 := by omega
      have tn18 : (((v14).toNat : Nat) : Int) = v14 := Int.toNat_of_nonneg lo18
      refine And.intro (lo18) (And.intro (show _ < (16 : Int) from by omega) ?_)
      intro M18 e18
      have hS : pq_pr pq_Pl M M18 := by
        rw [e18]
        exact pq_pr_u hS (by unfold pq_Pl; omega) (by unfold pz_iok; omega)
      have hI : pz_ic M18 := hS.1 hI0
      have T18_0 := pz_uve e18 g 0
      intro r20 e20 k20
      have R20 := pz_kdA k20 (by decide) (by decide)
      have Q20 := pz_nm e20 k_g.1 (by decide) (by decide) rfl
      rw [hg] at e20
      have L20 : r20 = 40 := e20
      intro v24 e24 a24 b24
      have I24 := hI.2.2.2.1 g (by omega) (by omega)
      have lo28 : (0 : Int) ≤ v24 := by omega
      have tn28 : (((v24).toNat : Nat) : Int) = v24 := Int.toNat_of_nonneg lo28
      refine And.intro (lo28) (And.intro (show _ < (16 : Int) from by omega) ?_)
      intro M28 e28
      have hS : pq_pr pq_Pl M M28 := by
        rw [e28]
        exact pq_pr_u hS (by unfold pq_Pl; omega) (by unfold pz_iok; omega)
      have hI : pz_ic M28 := hS.1 hI0
      have T28_0 := pz_uve e28 g 0
      intro r30 e30 k30
      have R30 := pz_kdA k30 (by decide) (by decide)
      have Q30 := pz_nm e30 k_g.1 (by decide) (by decide) rfl
      rw [hg] at e30
      have L30 : r30 = 41 := e30
      intro v34 e34 a34 b34
      have I34 := hI.2.2.2.1 g (by omega) (by omega)
      have lo38 : (0 : Int) ≤ v34 := by omega
      have tn38 : (((v34).toNat : Nat) : Int) = v34 := Int.toNat_of_nonneg lo38
      refine And.intro (lo38) (And.intro (show _ < (16 : Int) from by omega) ?_)
      intro M38 e38
      have hS : pq_pr pq_Pl M M38 := by
        rw [e38]
        exact pq_pr_u hS (by unfold pq_Pl; omega) (by unfold pz_iok; omega)
      have hI : pz_ic M38 := hS.1 hI0
      have T38_0 := pz_uve e38 g 0
      intro r40 e40 k40
      have R40 := pz_kdA k40 (by decide) (by decide)
      have Q40 := pz_nm e40 k_g.1 (by decide) (by decide) rfl
      rw [hg] at e40
      have L40 : r40 = 42 := e40
      intro v44 e44 a44 b44
      have I44 := hI.2.2.2.1 g (by omega) (by omega)
      intro v48 e48 a48 b48
      have I48 := hI.2.2.2.1 g (by omega) (by omega)
      have lo51 : (0 : Int) ≤ v44 := by omega
      have tn51 : (((v44).toNat : Nat) : Int) = v44 := Int.toNat_of_nonneg lo51
      refine And.intro (lo51) (And.intro (show _ < (16 : Int) from by omega) ?_)
      intro M51 e51
      have hS : pq_pr pq_Pl M M51 := by
        rw [e51]
        exact pq_pr_u hS (by unfold pq_Pl; omega) (by unfold pz_iok; omega)
      have hI : pz_ic M51 := hS.1 hI0
      have T51_0 := pz_uve e51 g 0
      intro v54 e54 a54 b54
      have I54 := hI.2.2.2.1 g (by omega) (by omega)
      intro v58 e58 a58 b58
      try rw [pz_wi (by omega) (by omega)] at e58
      intro M59 e59
      have hS : pq_pr pq_Pl M M59 := by
        rw [e59]
        exact pq_pr_u hS (by unfold pq_Pl; omega) (by unfold pz_iok; omega)
      have hI : pz_ic M59 := hS.1 hI0
      have T59_0 := pz_uve e59 g 0
      refine And.intro rfl ?_
      first
        | (have V24 : v24 = M 12 0 := by
             rw [e24, e18, hg, L10]
             exact pz_una (by decide)
           have V34 : v34 = M 12 0 := by
             rw [e34, e28, hg, L20, pz_una (by decide), ← V24, e24, hg]
           have V44 : v44 = M 12 0 := by
             rw [e44, e38, hg, L30, pz_una (by decide), ← V34, e34, hg]
           have V48 : v48 = M 12 1 := by
             rw [e48, e38, hg, L30, pz_una (by decide), e28, L20, pz_una (by decide), e18, L10]
             exact pz_una (by decide)
           have V54 : v54 = M 12 0 := by
             rw [e54, e51, hg, L40, pz_una (by decide), ← V44, e44, hg]
           have V14 : v14 = M 12 0 := by rw [e14, hg]
           have F9 : M59 = pz_u (pz_u (pz_u (pz_u (pz_u M 39 (M 12 0).toNat p) 40 (M 12 0).toNat q) 41 (M 12 0).toNat w) 42 (M 12 0).toNat (M 12 1)) 12 0 (M 12 0 + 1) := by
             rw [e59, e58, V54, e51, V44, V48, L40, e38, V34, L30, e28, V24, L20, e18, V14, L10, hg]
           exact ⟨pq_add_of (by omega) F9, hS⟩)
        | exact ⟨fun y => absurd y (by rw [hg] at e1; omega), hS⟩
theorem v_X3_addLine {fr lo i : Nat} {own : String} (h1 : 0 + 1 ≤ fr) (h2 : 8 + (4 + 11) + 0 ≤ lo) (h3 : .methodLink own i yX3_addLine ∈ lw_tbl) : pz_cV fr lo own i k_X3_addLine :=
  pz_cVk (maxL := 4) (fr' := 0) (lo' := 0) 3 3 h_X3_addLine rfl ⟨(pz_nhc_RX3 yX3_addLine rfl).1, (pz_nhc_RX3 yX3_addLine rfl).2, pz_ds16⟩ ⟨pz_wq784, pz_wq782, pz_wq783, pz_wq5⟩ (Or.inl ⟨TX3, 8, rfl⟩) (fun a M _ h => by
    have h : (match (generalizing := false) a with | [.inr (.inr (3, g)), .inl p, .inl q, .inl w] => pz_ic M ∧ g = 12 | _ => False) := h
    split at h
    · exact ⟨_, _, rfl⟩
    · exact h.elim) h1 h2 h3
end
