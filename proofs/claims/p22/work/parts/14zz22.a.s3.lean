noncomputable def k3_X4_reckon : pz_C := (3, 0, fun a M => (match a with | [.inr (.inr (4, k)), .inr (.inr (0, c)), .inl n] => pz_ic M | _ => False), fun a M r M' => (match a, r with | [.inr (.inr (4, k)), .inr (.inr (0, c)), .inl n], none => (True) ∧ pq_pr pq_Pk M M' | _, _ => False))
noncomputable abbrev ct3_X4_reckon : List (Bool × Nat × pz_C) := [(true, 44, k3_X3_tells), (false, 33, k_X4_leftAfter)]
set_option maxRecDepth 100000 in
set_option maxHeartbeats 4000000 in
theorem h3_X4_reckon : pz_H yX4_reckon cX4_reckon 4 none k3_X4_reckon 4 97 := by
  refine pz_mk (own := RX4) (tb := t_X4_reckon) (fl := pz_flf fl_RX4) (ci := pz_cif ci_RX4) (ct := pz_ctf ct3_X4_reckon) (rz := false) (pz_pfc_RX4 yX4_reckon rfl) rfl t_X4_reckon_ok (pz_flk fl_RX4_ok) (pz_cik ci_RX4_ok) ?_ ?_ (rfl) ?_ ?_
  · exact fun i k' h => pz_ctk (l := ct3_X4_reckon) (P := fun b i k => b = true → pz_cV 4 97 RX4 i k) (List.forall_mem_cons.mpr ⟨(fun _ => v3_X3_tells (by decide) (by decide) pz_wq888), List.forall_mem_cons.mpr ⟨((fun z => by cases z)), fun _ h => absurd h List.not_mem_nil⟩⟩) true i k' h rfl
  · exact fun i k' h => pz_ctk (l := ct3_X4_reckon) (P := fun b i k => b = false → (pz_cS 4 97 RX4 i k ∨ (k = pz_kac ∧ 1 ≤ 4 ∧ 60 ≤ 97 ∧ Cond.methodLink RX4 i arraycopyName ∈ pz_tbl))) (List.forall_mem_cons.mpr ⟨((fun z => by cases z)), List.forall_mem_cons.mpr ⟨(fun _ => Or.inl (s_X4_leftAfter (by decide) (by decide) (Or.inl pz_wq889))), fun _ h => absurd h List.not_mem_nil⟩⟩) false i k' h rfl
  · intro a M hlen hpre
    obtain ⟨k, c, n, rfl, hpre⟩ : ∃ k c n, a = [.inr (.inr (4, k)), .inr (.inr (0, c)), .inl n] ∧ (pz_ic M) := by
      have hpre : (match (generalizing := false) a with | [.inr (.inr (4, k)), .inr (.inr (0, c)), .inl n] => pz_ic M | _ => False) := hpre
      split at hpre
      · exact ⟨_, _, _, rfl, hpre⟩
      · exact hpre.elim
    exact Nat.le_of_ble_eq_true rfl
  · intro a M hlen hcan hM hpre Ok hgo
    obtain ⟨k, c, n, rfl, hpre⟩ : ∃ k c n, a = [.inr (.inr (4, k)), .inr (.inr (0, c)), .inl n] ∧ (pz_ic M) := by
      have hpre : (match (generalizing := false) a with | [.inr (.inr (4, k)), .inr (.inr (0, c)), .inl n] => pz_ic M | _ => False) := hpre
      split at hpre
      · exact ⟨_, _, _, rfl, hpre⟩
      · exact hpre.elim
    obtain ⟨k_k, hc_k⟩ := pz_tlm hcan
    have k_k : pz_kd k = 4 ∧ k < 231 := k_k
    have R_k := pz_kd4 k_k.1
    subst R_k
    obtain ⟨k_c, hc_c⟩ := pz_tlm hc_k
    have k_c : pz_kd c = 0 ∧ c < 231 := k_c
    have R_c := pz_kd0 k_c.1
    obtain ⟨k_n, hc_n⟩ := pz_tlm hc_c
    have l_n : -2147483648 ≤ n := k_n.1
    have u_n : n ≤ 2147483647 := k_n.2
    have hI : pz_ic M := hpre
    have hI0 := hI
    have hS : pq_pr pq_Pk M M := pq_pr.rf
    have L2 : ∀ (fu : Nat) (x3 : Int) (N2 : pz_M), (12 - x3).toNat < fu → (pq_pr pq_Pk M N2) → (0 ≤ x3) → Ok 2 [some (.inr (.inr (4, 6))), some (.inr (.inr (0, c))), some (.inl n), some (.inl x3)] [] N2 := by
      intro fu
      induction fu with
      | zero => exact fun _ _ hn => absurd hn (Nat.not_lt_zero _)
      | succ fu ih2 =>
        intro x3 N2 hn2 hS g2_1
        have hI : pz_ic N2 := hS.1 hI0
        refine hgo (fun p => Nat.beq p 2) 44 2 _ _ _ ?_
        intro v4 e4 a4 b4
        have I4 := hI.1 c (by first | decide | omega) (by first | decide | omega)
        refine And.intro (fun h7 => ?_) (fun h7 => ?_)
        · skip
          refine And.intro rfl ?_
          exact ⟨trivial, hS⟩
        · skip
          refine And.intro (fun h13 => ?_) (fun h13 => ?_)
          · skip
            refine And.intro rfl ?_
            exact ⟨trivial, hS⟩
          · skip
            intro r17 e17 k17
            have R17 := pz_kdA k17 (by decide) (by decide)
            have Q17 := pz_nm e17 k_k.1 (by decide) (by decide) rfl
            have W17 : r17 = 53 := e17
            intro r22 e22 k22
            have R22 := pz_kd3 k22
            refine And.intro (hI) ?_
            intro v28 M28 a28 b28 q28
            obtain ⟨q28, z28⟩ := q28
            have hS : pq_pr pq_Pk M M28 := hS.tr z28.wpk
            have hI : pz_ic M28 := hS.1 hI0
            have lo31 : (0 : Int) ≤ x3 := by omega
            have tn31 : (((x3).toNat : Nat) : Int) = x3 := Int.toNat_of_nonneg lo31
            refine And.intro (lo31) (And.intro (show _ < (12 : Int) from by omega) ?_)
            intro M31 e31
            have hS : pq_pr pq_Pk M M31 := by
              rw [e31]
              exact pq_pr_u hS (by unfold pq_Pk pq_Pw; first | decide | omega) (by unfold pz_iok; first | decide | omega)
            have hI : pz_ic M31 := hS.1 hI0
            intro r33 e33 k33
            have R33 := pz_kdA k33 (by decide) (by decide)
            have Q33 := pz_nm e33 k_k.1 (by decide) (by decide) rfl
            have W33 : r33 = 54 := e33
            intro r38 e38 k38
            have R38 := pz_kd3 k38
            refine And.intro (hI) ?_
            intro v44 M44 a44 b44 q44
            obtain ⟨q44, z44⟩ := q44
            have hS : pq_pr pq_Pk M M44 := hS.tr z44.wpk
            have hI : pz_ic M44 := hS.1 hI0
            refine And.intro (lo31) (And.intro (show _ < (12 : Int) from by omega) ?_)
            intro M47 e47
            have hS : pq_pr pq_Pk M M47 := by
              rw [e47]
              exact pq_pr_u hS (by unfold pq_Pk pq_Pw; first | decide | omega) (by unfold pz_iok; first | decide | omega)
            have hI : pz_ic M47 := hS.1 hI0
            intro r49 e49 k49
            have R49 := pz_kdA k49 (by decide) (by decide)
            have Q49 := pz_nm e49 k_k.1 (by decide) (by decide) rfl
            have W49 : r49 = 52 := e49
            intro r54 e54 k54
            have R54 := pz_kdA k54 (by decide) (by decide)
            have Q54 := pz_nm e54 k_k.1 (by decide) (by decide) rfl
            have W54 : r54 = 53 := e54
            refine And.intro (lo31) (And.intro (show _ < (12 : Int) from by omega) ?_)
            intro v58 e58 a58 b58
            refine And.intro (True.intro) ?_
            intro v60 M60 a60 b60 q60
            obtain ⟨q60, z60⟩ := q60
            subst z60
            refine And.intro (lo31) (And.intro (show _ < (12 : Int) from by omega) ?_)
            intro M63 e63
            have hS : pq_pr pq_Pk M M63 := by
              rw [e63]
              exact pq_pr_u hS (by unfold pq_Pk pq_Pw; first | decide | omega) (by unfold pz_iok; first | decide | omega)
            have hI : pz_ic M63 := hS.1 hI0
            intro v64 e64 a64 b64
            try rw [pz_wi (by first | decide | omega) (by first | decide | omega)] at e64
            exact ih2 _ _ (by first | decide | omega) hS (by first | decide | omega)
    refine hgo (fun p => Nat.beq p 2) 44 0 _ [] M ?_
    exact L2 _ _ _ (Nat.lt_succ_self _) hS (by first | decide | omega)
theorem v3_X4_reckon {fr lo i : Nat} {own : String} (h1 : 4 + 1 ≤ fr) (h2 : 8 + (4 + 11) + 97 ≤ lo) (h3 : .methodLink own i yX4_reckon ∈ lw_tbl) : pz_cV fr lo own i k3_X4_reckon :=
  pz_cVk (maxL := 4) (fr' := 4) (lo' := 97) 2 4 h3_X4_reckon rfl ⟨(pz_nhc_RX4 yX4_reckon rfl).1, (pz_nhc_RX4 yX4_reckon rfl).2, pz_ds34⟩ ⟨pz_wq887, pz_wq885, pz_wq886, pz_wq11⟩ (Or.inl ⟨TX4, 5, rfl⟩) (fun a M _ h => by
    have h : (match (generalizing := false) a with | [.inr (.inr (4, k)), .inr (.inr (0, c)), .inl n] => pz_ic M | _ => False) := h
    split at h
    · exact ⟨_, _, rfl⟩
    · exact h.elim) h1 h2 h3
noncomputable def k3_X4_oneDayMore : pz_C := (2, 0, fun a M => (match a with | [.inr (.inr (4, k)), .inr (.inr (0, c))] => pz_ic M | _ => False), fun a M r M' => (match a, r with | [.inr (.inr (4, k)), .inr (.inr (0, c))], none => (True) ∧ pq_pr pq_Pk M M' | _, _ => False))
noncomputable abbrev ct3_X4_oneDayMore : List (Bool × Nat × pz_C) := [(false, 29, k_X4_leftNext)]
set_option maxRecDepth 100000 in
set_option maxHeartbeats 4000000 in
theorem h3_X4_oneDayMore : pz_H yX4_oneDayMore cX4_oneDayMore 3 none k3_X4_oneDayMore 1 21 := by
  refine pz_mk (own := RX4) (tb := t_X4_oneDayMore) (fl := pz_flf fl_RX4) (ci := pz_cif ci_RX4) (ct := pz_ctf ct3_X4_oneDayMore) (rz := false) (pz_pfc_RX4 yX4_oneDayMore rfl) rfl t_X4_oneDayMore_ok (pz_flk fl_RX4_ok) (pz_cik ci_RX4_ok) ?_ ?_ (rfl) ?_ ?_
  · exact fun i k' h => pz_ctk (l := ct3_X4_oneDayMore) (P := fun b i k => b = true → pz_cV 1 21 RX4 i k) (List.forall_mem_cons.mpr ⟨((fun z => by cases z)), fun _ h => absurd h List.not_mem_nil⟩) true i k' h rfl
  · exact fun i k' h => pz_ctk (l := ct3_X4_oneDayMore) (P := fun b i k => b = false → (pz_cS 1 21 RX4 i k ∨ (k = pz_kac ∧ 1 ≤ 1 ∧ 60 ≤ 21 ∧ Cond.methodLink RX4 i arraycopyName ∈ pz_tbl))) (List.forall_mem_cons.mpr ⟨(fun _ => Or.inl (s_X4_leftNext (by decide) (by decide) (Or.inl pz_wq893))), fun _ h => absurd h List.not_mem_nil⟩) false i k' h rfl
  · intro a M hlen hpre
    obtain ⟨k, c, rfl, hpre⟩ : ∃ k c, a = [.inr (.inr (4, k)), .inr (.inr (0, c))] ∧ (pz_ic M) := by
      have hpre : (match (generalizing := false) a with | [.inr (.inr (4, k)), .inr (.inr (0, c))] => pz_ic M | _ => False) := hpre
      split at hpre
      · exact ⟨_, _, rfl, hpre⟩
      · exact hpre.elim
    exact Nat.le_of_ble_eq_true rfl
  · intro a M hlen hcan hM hpre Ok hgo
    obtain ⟨k, c, rfl, hpre⟩ : ∃ k c, a = [.inr (.inr (4, k)), .inr (.inr (0, c))] ∧ (pz_ic M) := by
      have hpre : (match (generalizing := false) a with | [.inr (.inr (4, k)), .inr (.inr (0, c))] => pz_ic M | _ => False) := hpre
      split at hpre
      · exact ⟨_, _, rfl, hpre⟩
      · exact hpre.elim
    obtain ⟨k_k, hc_k⟩ := pz_tlm hcan
    have k_k : pz_kd k = 4 ∧ k < 231 := k_k
    have R_k := pz_kd4 k_k.1
    subst R_k
    obtain ⟨k_c, hc_c⟩ := pz_tlm hc_k
    have k_c : pz_kd c = 0 ∧ c < 231 := k_c
    have R_c := pz_kd0 k_c.1
    have hI : pz_ic M := hpre
    have hI0 := hI
    have hS : pq_pr pq_Pk M M := pq_pr.rf
    have L2 : ∀ (fu : Nat) (x2 : Int) (N2 : pz_M), (12 - x2).toNat < fu → (pq_pr pq_Pk M N2) → (0 ≤ x2) → Ok 2 [some (.inr (.inr (4, 6))), some (.inr (.inr (0, c))), some (.inl x2)] [] N2 := by
      intro fu
      induction fu with
      | zero => exact fun _ _ hn => absurd hn (Nat.not_lt_zero _)
      | succ fu ih2 =>
        intro x2 N2 hn2 hS g2_1
        have hI : pz_ic N2 := hS.1 hI0
        refine hgo (fun p => Nat.beq p 2) 27 2 _ _ _ ?_
        intro v4 e4 a4 b4
        have I4 := hI.1 c (by first | decide | omega) (by first | decide | omega)
        refine And.intro (fun h7 => ?_) (fun h7 => ?_)
        · skip
          refine And.intro rfl ?_
          exact ⟨trivial, hS⟩
        · skip
          refine And.intro (fun h13 => ?_) (fun h13 => ?_)
          · skip
            refine And.intro rfl ?_
            exact ⟨trivial, hS⟩
          · skip
            intro r17 e17 k17
            have R17 := pz_kdA k17 (by decide) (by decide)
            have Q17 := pz_nm e17 k_k.1 (by decide) (by decide) rfl
            have W17 : r17 = 52 := e17
            intro r22 e22 k22
            have R22 := pz_kdA k22 (by decide) (by decide)
            have Q22 := pz_nm e22 k_k.1 (by decide) (by decide) rfl
            have W22 : r22 = 52 := e22
            have lo26 : (0 : Int) ≤ x2 := by omega
            have tn26 : (((x2).toNat : Nat) : Int) = x2 := Int.toNat_of_nonneg lo26
            refine And.intro (lo26) (And.intro (show _ < (12 : Int) from by omega) ?_)
            intro v26 e26 a26 b26
            intro r28 e28 k28
            have R28 := pz_kdA k28 (by decide) (by decide)
            have Q28 := pz_nm e28 k_k.1 (by decide) (by decide) rfl
            have W28 : r28 = 53 := e28
            refine And.intro (lo26) (And.intro (show _ < (12 : Int) from by omega) ?_)
            intro v32 e32 a32 b32
            refine And.intro (True.intro) ?_
            intro v33 M33 a33 b33 q33
            obtain ⟨q33, z33⟩ := q33
            subst z33
            refine And.intro (lo26) (And.intro (show _ < (12 : Int) from by omega) ?_)
            intro M36 e36
            have hS : pq_pr pq_Pk M M36 := by
              rw [e36]
              exact pq_pr_u hS (by unfold pq_Pk pq_Pw; first | decide | omega) (by unfold pz_iok; first | decide | omega)
            have hI : pz_ic M36 := hS.1 hI0
            intro v37 e37 a37 b37
            try rw [pz_wi (by first | decide | omega) (by first | decide | omega)] at e37
            exact ih2 _ _ (by first | decide | omega) hS (by first | decide | omega)
    refine hgo (fun p => Nat.beq p 2) 27 0 _ [] M ?_
    exact L2 _ _ _ (Nat.lt_succ_self _) hS (by first | decide | omega)
theorem v3_X4_oneDayMore {fr lo i : Nat} {own : String} (h1 : 1 + 1 ≤ fr) (h2 : 8 + (3 + 11) + 21 ≤ lo) (h3 : .methodLink own i yX4_oneDayMore ∈ lw_tbl) : pz_cV fr lo own i k3_X4_oneDayMore :=
  pz_cVk (maxL := 3) (fr' := 1) (lo' := 21) 1 4 h3_X4_oneDayMore rfl ⟨(pz_nhc_RX4 yX4_oneDayMore rfl).1, (pz_nhc_RX4 yX4_oneDayMore rfl).2, pz_ds31⟩ ⟨pz_wq1064, pz_wq1062, pz_wq1063, pz_wq11⟩ (Or.inl ⟨TX4, 5, rfl⟩) (fun a M _ h => by
    have h : (match (generalizing := false) a with | [.inr (.inr (4, k)), .inr (.inr (0, c))] => pz_ic M | _ => False) := h
    split at h
    · exact ⟨_, _, rfl⟩
    · exact h.elim) h1 h2 h3
noncomputable def k3_X4_oddsHurried : pz_C := (4, 1, fun a M => (match a with | [.inr (.inr (4, k)), .inr (.inr (0, c)), .inl i, .inl n] => pz_ic M | _ => False), fun a M r M' => (match a, r with | [.inr (.inr (4, k)), .inr (.inr (0, c)), .inl i, .inl n], some (.inl v) => (True) ∧ pq_pr pq_Pk M M' | _, _ => False))
noncomputable abbrev ct3_X4_oddsHurried : List (Bool × Nat × pz_C) := [(true, 50, k_X0_at), (true, 44, k3_X3_tells), (false, 33, k_X4_leftAfter), (true, 75, k_X4_oddsOf)]
set_option maxRecDepth 100000 in
set_option maxHeartbeats 4000000 in
theorem h3_X4_oddsHurried : pz_H yX4_oddsHurried cX4_oddsHurried 8 (some .int) k3_X4_oddsHurried 4 97 := by
  refine pz_mk (own := RX4) (tb := t_X4_oddsHurried) (fl := pz_flf fl_RX4) (ci := pz_cif ci_RX4) (ct := pz_ctf ct3_X4_oddsHurried) (rz := false) (pz_pfc_RX4 yX4_oddsHurried rfl) rfl t_X4_oddsHurried_ok (pz_flk fl_RX4_ok) (pz_cik ci_RX4_ok) ?_ ?_ (Or.inl ⟨rfl, rfl⟩) ?_ ?_
  · exact fun i k' h => pz_ctk (l := ct3_X4_oddsHurried) (P := fun b i k => b = true → pz_cV 4 97 RX4 i k) (List.forall_mem_cons.mpr ⟨(fun _ => v_X0_at (by decide) (by decide) pz_wq904), List.forall_mem_cons.mpr ⟨(fun _ => v3_X3_tells (by decide) (by decide) pz_wq888), List.forall_mem_cons.mpr ⟨((fun z => by cases z)), List.forall_mem_cons.mpr ⟨(fun _ => v_X4_oddsOf (by decide) (by decide) pz_wq1073), fun _ h => absurd h List.not_mem_nil⟩⟩⟩⟩) true i k' h rfl
  · exact fun i k' h => pz_ctk (l := ct3_X4_oddsHurried) (P := fun b i k => b = false → (pz_cS 4 97 RX4 i k ∨ (k = pz_kac ∧ 1 ≤ 4 ∧ 60 ≤ 97 ∧ Cond.methodLink RX4 i arraycopyName ∈ pz_tbl))) (List.forall_mem_cons.mpr ⟨((fun z => by cases z)), List.forall_mem_cons.mpr ⟨((fun z => by cases z)), List.forall_mem_cons.mpr ⟨(fun _ => Or.inl (s_X4_leftAfter (by decide) (by decide) (Or.inl pz_wq889))), List.forall_mem_cons.mpr ⟨((fun z => by cases z)), fun _ h => absurd h List.not_mem_nil⟩⟩⟩⟩) false i k' h rfl
  · intro a M hlen hpre
    obtain ⟨k, c, i, n, rfl, hpre⟩ : ∃ k c i n, a = [.inr (.inr (4, k)), .inr (.inr (0, c)), .inl i, .inl n] ∧ (pz_ic M) := by
      have hpre : (match (generalizing := false) a with | [.inr (.inr (4, k)), .inr (.inr (0, c)), .inl i, .inl n] => pz_ic M | _ => False) := hpre
      split at hpre
      · exact ⟨_, _, _, _, rfl, hpre⟩
      · exact hpre.elim
    exact Nat.le_of_ble_eq_true rfl
  · intro a M hlen hcan hM hpre Ok hgo
    obtain ⟨k, c, i, n, rfl, hpre⟩ : ∃ k c i n, a = [.inr (.inr (4, k)), .inr (.inr (0, c)), .inl i, .inl n] ∧ (pz_ic M) := by
      have hpre : (match (generalizing := false) a with | [.inr (.inr (4, k)), .inr (.inr (0, c)), .inl i, .inl n] => pz_ic M | _ => False) := hpre
      split at hpre
      · exact ⟨_, _, _, _, rfl, hpre⟩
      · exact hpre.elim
    obtain ⟨k_k, hc_k⟩ := pz_tlm hcan
    have k_k : pz_kd k = 4 ∧ k < 231 := k_k
    have R_k := pz_kd4 k_k.1
    subst R_k
    obtain ⟨k_c, hc_c⟩ := pz_tlm hc_k
    have k_c : pz_kd c = 0 ∧ c < 231 := k_c
    have R_c := pz_kd0 k_c.1
    obtain ⟨k_i, hc_i⟩ := pz_tlm hc_c
    have l_i : -2147483648 ≤ i := k_i.1
    have u_i : i ≤ 2147483647 := k_i.2
    obtain ⟨k_n, hc_n⟩ := pz_tlm hc_i
    have l_n : -2147483648 ≤ n := k_n.1
    have u_n : n ≤ 2147483647 := k_n.2
    have hI : pz_ic M := hpre
    have hI0 := hI
    have hS : pq_pr pq_Pk M M := pq_pr.rf
    refine hgo (fun _ => false) 55 0 _ [] M ?_
    refine And.intro (True.intro) ?_
    intro r2 M2 k2 q2
    have R2 := pz_kd5 k2
    obtain ⟨q2, z2⟩ := q2
    subst z2
    refine And.intro (fun h8 => ?_) (fun h8 => ?_)
    · skip
      refine And.intro rfl ?_
      exact ⟨trivial, hS⟩
    · skip
      refine And.intro (fun h14 => ?_) (fun h14 => ?_)
      · skip
        intro v21 e21 a21 b21
        intro r27 e27 k27
        have R27 := pz_kdA k27 (by decide) (by decide)
        have Q27 := pz_nm e27 k_k.1 (by decide) (by decide) rfl
        have W27 : r27 = 52 := e27
        have lo31 : (0 : Int) ≤ i := by omega
        have tn31 : (((i).toNat : Nat) : Int) = i := Int.toNat_of_nonneg lo31
        refine And.intro (lo31) (And.intro (show _ < (12 : Int) from by omega) ?_)
        intro v31 e31 a31 b31
        intro M37 e37
        have hS : pq_pr (pq_Ph r2) M M37 := by
          rw [e37]
          exact pq_pr_u hS.kph (Or.inr ⟨rfl, rfl⟩) (by unfold pz_iok; first | decide | omega)
        have hI : pz_ic M37 := hS.1 hI0
        have T37_0 := pz_uve e37 r2 3
        intro r41 e41 k41
        have R41 := pz_kdA k41 (by decide) (by decide)
        have Q41 := pz_nm e41 k_k.1 (by decide) (by decide) rfl
        have W41 : r41 = 52 := e41
        intro r46 e46 k46
        have R46 := pz_kd3 k46
        refine And.intro (hI) ?_
        intro v52 M52 a52 b52 q52
        obtain ⟨q52, z52⟩ := q52
        have hS : pq_pr (pq_Ph r2) M M52 := hS.tr z52.wph
        have hI : pz_ic M52 := hS.1 hI0
        refine And.intro (True.intro) ?_
        intro v56 M56 a56 b56 q56
        obtain ⟨q56, z56⟩ := q56
        subst z56
        refine And.intro (lo31) (And.intro (show _ < (12 : Int) from by omega) ?_)
        intro M59 e59
        have hS : pq_pr (pq_Ph r2) M M59 := by
          rw [e59]
          exact pq_pr_u hS (by unfold pq_Ph pq_Pk pq_Pw; first | decide | omega) (by unfold pz_iok; first | decide | omega)
        have hI : pz_ic M59 := hS.1 hI0
        have T59_0 := pz_uve e59 r2 3
        intro v64 e64 a64 b64
        have I64 := hI.1 c (by first | decide | omega) (by first | decide | omega)
        intro v68 e68 a68 b68
        try rw [pz_wi (by first | decide | omega) (by first | decide | omega)] at e68
        refine And.intro (And.intro hI (by first | decide | omega)) ?_
        intro v69 M69 a69 b69 q69
        obtain ⟨q69, z69⟩ := q69
        subst z69
        intro M78 e78
        have hS : pq_pr (pq_Ph r2) M M78 := by
          rw [e78]
          exact pq_pr_u hS (Or.inr ⟨rfl, rfl⟩) (by unfold pz_iok; first | decide | omega)
        have hI : pz_ic M78 := hS.1 hI0
        have T78_0 := pz_uve e78 r2 3
        intro r82 e82 k82
        have R82 := pz_kdA k82 (by decide) (by decide)
        have Q82 := pz_nm e82 k_k.1 (by decide) (by decide) rfl
        have W82 : r82 = 52 := e82
        refine And.intro (lo31) (And.intro (show _ < (12 : Int) from by omega) ?_)
        intro M88 e88
        have hS : pq_pr (pq_Ph r2) M M88 := by
          rw [e88]
          exact pq_pr_u hS (by unfold pq_Ph pq_Pk pq_Pw; first | decide | omega) (by unfold pz_iok; first | decide | omega)
        have hI : pz_ic M88 := hS.1 hI0
        have T88_0 := pz_uve e88 r2 3
        refine And.intro rfl ?_
        exact ⟨trivial, hS.hpk (by first | decide | omega)⟩
      · skip
        refine And.intro rfl ?_
        exact ⟨trivial, hS⟩
theorem v3_X4_oddsHurried {fr lo i : Nat} {own : String} (h1 : 4 + 1 ≤ fr) (h2 : 8 + (8 + 11) + 97 ≤ lo) (h3 : .methodLink own i yX4_oddsHurried ∈ lw_tbl) : pz_cV fr lo own i k3_X4_oddsHurried :=
  pz_cVk (maxL := 8) (fr' := 4) (lo' := 97) 3 4 h3_X4_oddsHurried rfl ⟨(pz_nhc_RX4 yX4_oddsHurried rfl).1, (pz_nhc_RX4 yX4_oddsHurried rfl).2, pz_ds36⟩ ⟨pz_wq1072, pz_wq1070, pz_wq1071, pz_wq11⟩ (Or.inl ⟨TX4, 5, rfl⟩) (fun a M _ h => by
    have h : (match (generalizing := false) a with | [.inr (.inr (4, k)), .inr (.inr (0, c)), .inl i, .inl n] => pz_ic M | _ => False) := h
    split at h
    · exact ⟨_, _, rfl⟩
    · exact h.elim) h1 h2 h3
noncomputable def k3_X4_reckonSpans : pz_C := (2, 0, fun a M => (match a with | [.inr (.inr (4, k)), .inr (.inr (0, c))] => pz_ic M | _ => False), fun a M r M' => (match a, r with | [.inr (.inr (4, k)), .inr (.inr (0, c))], none => (True) ∧ pq_pr pq_Pk M M' | _, _ => False))
noncomputable abbrev ct3_X4_reckonSpans : List (Bool × Nat × pz_C) := [(true, 68, k_X4_oddsWith)]
set_option maxRecDepth 100000 in
set_option maxHeartbeats 4000000 in
theorem h3_X4_reckonSpans : pz_H yX4_reckonSpans cX4_reckonSpans 6 none k3_X4_reckonSpans 2 45 := by
  refine pz_mk (own := RX4) (tb := t_X4_reckonSpans) (fl := pz_flf fl_RX4) (ci := pz_cif ci_RX4) (ct := pz_ctf ct3_X4_reckonSpans) (rz := false) (pz_pfc_RX4 yX4_reckonSpans rfl) rfl t_X4_reckonSpans_ok (pz_flk fl_RX4_ok) (pz_cik ci_RX4_ok) ?_ ?_ (rfl) ?_ ?_
  · exact fun i k' h => pz_ctk (l := ct3_X4_reckonSpans) (P := fun b i k => b = true → pz_cV 2 45 RX4 i k) (List.forall_mem_cons.mpr ⟨(fun _ => v_X4_oddsWith (by decide) (by decide) pz_wq900), fun _ h => absurd h List.not_mem_nil⟩) true i k' h rfl
  · exact fun i k' h => pz_ctk (l := ct3_X4_reckonSpans) (P := fun b i k => b = false → (pz_cS 2 45 RX4 i k ∨ (k = pz_kac ∧ 1 ≤ 2 ∧ 60 ≤ 45 ∧ Cond.methodLink RX4 i arraycopyName ∈ pz_tbl))) (List.forall_mem_cons.mpr ⟨((fun z => by cases z)), fun _ h => absurd h List.not_mem_nil⟩) false i k' h rfl
  · intro a M hlen hpre
    obtain ⟨k, c, rfl, hpre⟩ : ∃ k c, a = [.inr (.inr (4, k)), .inr (.inr (0, c))] ∧ (pz_ic M) := by
      have hpre : (match (generalizing := false) a with | [.inr (.inr (4, k)), .inr (.inr (0, c))] => pz_ic M | _ => False) := hpre
      split at hpre
      · exact ⟨_, _, rfl, hpre⟩
      · exact hpre.elim
    exact Nat.le_of_ble_eq_true rfl
  · intro a M hlen hcan hM hpre Ok hgo
    obtain ⟨k, c, rfl, hpre⟩ : ∃ k c, a = [.inr (.inr (4, k)), .inr (.inr (0, c))] ∧ (pz_ic M) := by
      have hpre : (match (generalizing := false) a with | [.inr (.inr (4, k)), .inr (.inr (0, c))] => pz_ic M | _ => False) := hpre
      split at hpre
      · exact ⟨_, _, rfl, hpre⟩
      · exact hpre.elim
    obtain ⟨k_k, hc_k⟩ := pz_tlm hcan
    have k_k : pz_kd k = 4 ∧ k < 231 := k_k
    have R_k := pz_kd4 k_k.1
    subst R_k
    obtain ⟨k_c, hc_c⟩ := pz_tlm hc_k
    have k_c : pz_kd c = 0 ∧ c < 231 := k_c
    have R_c := pz_kd0 k_c.1
    have hI : pz_ic M := hpre
    have hI0 := hI
    have hS : pq_pr pq_Pk M M := pq_pr.rf
    have L2 : ∀ (fo : Nat) (x2 : Int) (d3 : Option pz_V) (d4 : Option pz_V) (d5 : Option pz_V) (N2 : pz_M), (12 - x2).toNat < fo → (pq_pr pq_Pk M N2) → (0 ≤ x2) → Ok 2 [some (.inr (.inr (4, 6))), some (.inr (.inr (0, c))), some (.inl x2), d3, d4, d5] [] N2 := by
      intro fo
      induction fo with
      | zero => exact fun _ _ _ _ _ hn => absurd hn (Nat.not_lt_zero _)
      | succ fo ih2 =>
        intro x2 d3 d4 d5 N2 hn2 hS g2_1
        have hI : pz_ic N2 := hS.1 hI0
        have L16 : ∀ (fu : Nat) (x2 : Int) (x3 : Int) (x4 : Int) (d5 : Option pz_V) (N16 : pz_M), (12 - x4).toNat < fu → (pq_pr pq_Pk M N16) → (0 ≤ x4) → (0 ≤ x2) → (x2 < 12) → ((12 - x2).toNat < fo + 1) → Ok 16 [some (.inr (.inr (4, 6))), some (.inr (.inr (0, c))), some (.inl x2), some (.inl x3), some (.inl x4), d5] [] N16 := by
          intro fu
          induction fu with
          | zero => exact fun _ _ _ _ _ hn => absurd hn (Nat.not_lt_zero _)
          | succ fu ih16 =>
            intro x2 x3 x4 d5 N16 hn16 hS g16_1 g16_2 g16_3 g16_4
            have hI : pz_ic N16 := hS.1 hI0
            refine hgo (fun p => Nat.beq p 2 || Nat.beq p 16) 43 16 _ _ _ ?_
            intro v19 e19 a19 b19
            have I19 := hI.1 c (by first | decide | omega) (by first | decide | omega)
            refine And.intro (fun h22 => ?_) (fun h22 => ?_)
            · skip
              intro v67 e67 a67 b67
              try rw [pz_wi (by first | decide | omega) (by first | decide | omega)] at e67
              exact ih2 _ _ _ _ _ (by first | decide | omega) hS (by first | decide | omega)
            · skip
              refine And.intro (True.intro) ?_
              intro v30 M30 a30 b30 q30
              obtain ⟨q30, z30⟩ := q30
              subst z30
              intro v37 e37 a37 b37
              try rw [pz_wi (by first | decide | omega) (by first | decide | omega)] at e37
              intro v40 e40 a40 b40
              try rw [pz_wi (by first | decide | omega) (by first | decide | omega)] at e40
              intro r46 e46 k46
              have R46 := pz_kdA k46 (by decide) (by decide)
              have Q46 := pz_nm e46 k_k.1 (by decide) (by decide) rfl
              have W46 : r46 = 55 := e46
              have Z49 : (((pz_ak 21).2 : Nat) : Int) = 144 := rfl
              refine And.intro (fun h50 => ?_) (fun h50 => ?_)
              · skip
                intro v61 e61 a61 b61
                try rw [pz_wi (by first | decide | omega) (by first | decide | omega)] at e61
                exact ih16 _ _ _ _ _ (by first | decide | omega) hS (by first | decide | omega) (by first | decide | omega) (by first | decide | omega) (by first | decide | omega)
              · skip
                intro r54 e54 k54
                have R54 := pz_kdA k54 (by decide) (by decide)
                have Q54 := pz_nm e54 k_k.1 (by decide) (by decide) rfl
                have W54 : r54 = 55 := e54
                have lo60 : (0 : Int) ≤ v40 := by omega
                have tn60 : (((v40).toNat : Nat) : Int) = v40 := Int.toNat_of_nonneg lo60
                refine And.intro (lo60) (And.intro (show _ < (144 : Int) from by omega) ?_)
                intro M60 e60
                have hS : pq_pr pq_Pk M M60 := by
                  rw [e60]
                  exact pq_pr_u hS (by unfold pq_Pk pq_Pw; first | decide | omega) (by unfold pz_iok; first | decide | omega)
                have hI : pz_ic M60 := hS.1 hI0
                intro v61 e61 a61 b61
                try rw [pz_wi (by first | decide | omega) (by first | decide | omega)] at e61
                exact ih16 _ _ _ _ _ (by first | decide | omega) hS (by first | decide | omega) (by first | decide | omega) (by first | decide | omega) (by first | decide | omega)
        refine hgo (fun p => Nat.beq p 2 || Nat.beq p 16) 43 2 _ _ _ ?_
        intro v4 e4 a4 b4
        have I4 := hI.1 c (by first | decide | omega) (by first | decide | omega)
        refine And.intro (fun h7 => ?_) (fun h7 => ?_)
        · skip
          refine And.intro rfl ?_
          exact ⟨trivial, hS⟩
        · skip
          exact L16 _ _ _ _ _ _ (Nat.lt_succ_self _) hS (by first | decide | omega) (by first | decide | omega) (by first | decide | omega) (by first | decide | omega)
    refine hgo (fun p => Nat.beq p 2 || Nat.beq p 16) 43 0 _ [] M ?_
    exact L2 _ _ _ _ _ _ (Nat.lt_succ_self _) hS (by first | decide | omega)
theorem v3_X4_reckonSpans {fr lo i : Nat} {own : String} (h1 : 2 + 1 ≤ fr) (h2 : 8 + (6 + 11) + 45 ≤ lo) (h3 : .methodLink own i yX4_reckonSpans ∈ lw_tbl) : pz_cV fr lo own i k3_X4_reckonSpans :=
  pz_cVk (maxL := 6) (fr' := 2) (lo' := 45) 1 4 h3_X4_reckonSpans rfl ⟨(pz_nhc_RX4 yX4_reckonSpans rfl).1, (pz_nhc_RX4 yX4_reckonSpans rfl).2, pz_ds31⟩ ⟨pz_wq949, pz_wq947, pz_wq948, pz_wq11⟩ (Or.inl ⟨TX4, 5, rfl⟩) (fun a M _ h => by
    have h : (match (generalizing := false) a with | [.inr (.inr (4, k)), .inr (.inr (0, c))] => pz_ic M | _ => False) := h
    split at h
    · exact ⟨_, _, rfl⟩
    · exact h.elim) h1 h2 h3
noncomputable def k3_X4_cheapestBridges : pz_C := (3, 1, fun a M => (match a with | [.inr (.inr (4, k)), .inr (.inr (0, c)), .inl i] => pz_ic M | _ => False), fun a M r M' => (match a, r with | [.inr (.inr (4, k)), .inr (.inr (0, c)), .inl i], some (.inl v) => (True) ∧ pq_pr pq_Pk M M' | _, _ => False))
noncomputable abbrev ct3_X4_cheapestBridges : List (Bool × Nat × pz_C) := [(true, 83, k_X0_bridgeableOnes), (true, 87, k3_X0_bridgedOnes), (true, 90, k3_X4_reckonSpans), (false, 94, k_J6_bitCount_0f7a4), (true, 99, k_X4_leastOdds), (true, 103, k_X4_costOf)]
set_option maxRecDepth 100000 in
set_option maxHeartbeats 4000000 in
theorem h3_X4_cheapestBridges : pz_H yX4_cheapestBridges cX4_cheapestBridges 11 (some .int) k3_X4_cheapestBridges 3 70 := by
  refine pz_mk (own := RX4) (tb := t_X4_cheapestBridges) (fl := pz_flf fl_RX4) (ci := pz_cif ci_RX4) (ct := pz_ctf ct3_X4_cheapestBridges) (rz := false) (pz_pfc_RX4 yX4_cheapestBridges rfl) rfl t_X4_cheapestBridges_ok (pz_flk fl_RX4_ok) (pz_cik ci_RX4_ok) ?_ ?_ (Or.inl ⟨rfl, rfl⟩) ?_ ?_
  · exact fun i k' h => pz_ctk (l := ct3_X4_cheapestBridges) (P := fun b i k => b = true → pz_cV 3 70 RX4 i k) (List.forall_mem_cons.mpr ⟨(fun _ => v_X0_bridgeableOnes (by decide) (by decide) pz_wq940), List.forall_mem_cons.mpr ⟨(fun _ => v3_X0_bridgedOnes (by decide) (by decide) pz_wq945), List.forall_mem_cons.mpr ⟨(fun _ => v3_X4_reckonSpans (by decide) (by decide) pz_wq946), List.forall_mem_cons.mpr ⟨((fun z => by cases z)), List.forall_mem_cons.mpr ⟨(fun _ => v_X4_leastOdds (by decide) (by decide) pz_wq951), List.forall_mem_cons.mpr ⟨(fun _ => v_X4_costOf (by decide) (by decide) pz_wq956), fun _ h => absurd h List.not_mem_nil⟩⟩⟩⟩⟩⟩) true i k' h rfl
  · exact fun i k' h => pz_ctk (l := ct3_X4_cheapestBridges) (P := fun b i k => b = false → (pz_cS 3 70 RX4 i k ∨ (k = pz_kac ∧ 1 ≤ 3 ∧ 60 ≤ 70 ∧ Cond.methodLink RX4 i arraycopyName ∈ pz_tbl))) (List.forall_mem_cons.mpr ⟨((fun z => by cases z)), List.forall_mem_cons.mpr ⟨((fun z => by cases z)), List.forall_mem_cons.mpr ⟨((fun z => by cases z)), List.forall_mem_cons.mpr ⟨(fun _ => Or.inl (s_J6_bitCount_0f7a4 (by decide) (by decide) (Or.inl pz_wq950))), List.forall_mem_cons.mpr ⟨((fun z => by cases z)), List.forall_mem_cons.mpr ⟨((fun z => by cases z)), fun _ h => absurd h List.not_mem_nil⟩⟩⟩⟩⟩⟩) false i k' h rfl
  · intro a M hlen hpre
    obtain ⟨k, c, i, rfl, hpre⟩ : ∃ k c i, a = [.inr (.inr (4, k)), .inr (.inr (0, c)), .inl i] ∧ (pz_ic M) := by
      have hpre : (match (generalizing := false) a with | [.inr (.inr (4, k)), .inr (.inr (0, c)), .inl i] => pz_ic M | _ => False) := hpre
      split at hpre
      · exact ⟨_, _, _, rfl, hpre⟩
      · exact hpre.elim
    exact Nat.le_of_ble_eq_true rfl
  · intro a M hlen hcan hM hpre Ok hgo
    obtain ⟨k, c, i, rfl, hpre⟩ : ∃ k c i, a = [.inr (.inr (4, k)), .inr (.inr (0, c)), .inl i] ∧ (pz_ic M) := by
      have hpre : (match (generalizing := false) a with | [.inr (.inr (4, k)), .inr (.inr (0, c)), .inl i] => pz_ic M | _ => False) := hpre
      split at hpre
      · exact ⟨_, _, _, rfl, hpre⟩
      · exact hpre.elim
    obtain ⟨k_k, hc_k⟩ := pz_tlm hcan
    have k_k : pz_kd k = 4 ∧ k < 231 := k_k
    have R_k := pz_kd4 k_k.1
    subst R_k
    obtain ⟨k_c, hc_c⟩ := pz_tlm hc_k
    have k_c : pz_kd c = 0 ∧ c < 231 := k_c
    have R_c := pz_kd0 k_c.1
    obtain ⟨k_i, hc_i⟩ := pz_tlm hc_c
    have l_i : -2147483648 ≤ i := k_i.1
    have u_i : i ≤ 2147483647 := k_i.2
    have hI : pz_ic M := hpre
    have hI0 := hI
    have hS : pq_pr pq_Pk M M := pq_pr.rf
    have L33 : ∀ (fu : Nat) (x3 : Int) (x4 : Int) (x5 : Int) (x6 : Int) (x7 : Int) (x8 : Int) (d9 : Option pz_V) (d10 : Option pz_V) (N33 : pz_M), x8.toNat < fu → (pq_pr pq_Pk M N33) → (x8 ≤ 2147483647) → Ok 33 [some (.inr (.inr (4, 6))), some (.inr (.inr (0, c))), some (.inl i), some (.inl x3), some (.inl x4), some (.inl x5), some (.inl x6), some (.inl x7), some (.inl x8), d9, d10] [] N33 := by
      intro fu
      induction fu with
      | zero => exact fun _ _ _ _ _ _ _ _ _ hn => absurd hn (Nat.not_lt_zero _)
      | succ fu ih33 =>
        intro x3 x4 x5 x6 x7 x8 d9 d10 N33 hn33 hS g33_1
        have hI : pz_ic N33 := hS.1 hI0
        have L114 : ∀ (x3 : Int) (x4 : Int) (x5 : Int) (x6 : Int) (x7 : Int) (x8 : Int) (d9 : Option pz_V) (d10 : Option pz_V) (N114 : pz_M), (pq_pr pq_Pk M N114) → (0 < x8) → (x8 ≤ 2147483647) → (x8.toNat < fu + 1) → Ok 114 [some (.inr (.inr (4, 6))), some (.inr (.inr (0, c))), some (.inl i), some (.inl x3), some (.inl x4), some (.inl x5), some (.inl x6), some (.inl x7), some (.inl x8), d9, d10] [] N114 := by
          intro x3 x4 x5 x6 x7 x8 d9 d10 N114 hS g114_1 g114_2 g114_3
          have hI : pz_ic N114 := hS.1 hI0
          refine hgo (fun p => Nat.beq p 33 || Nat.beq p 114) 71 114 _ _ _ ?_
          intro v117 e117 a117 b117
          try rw [pz_wi (by first | decide | omega) (by first | decide | omega)] at e117
          intro v119 e119 a119 b119
          intro v122 e122 a122 b122
          try rw [pz_wi (by first | decide | omega) (by first | decide | omega)] at e122
          exact ih33 _ _ _ _ _ _ _ _ _ (by first | decide | omega) hS (by first | decide | omega)
        refine hgo (fun p => Nat.beq p 33 || Nat.beq p 114) 71 33 _ _ _ ?_
        refine And.intro (fun h35 => ?_) (fun h35 => ?_)
        · skip
          refine And.intro rfl ?_
          exact ⟨trivial, hS⟩
        · skip
          intro v44 e44 a44 b44
          refine And.intro (hI) ?_
          intro v45 M45 a45 b45 q45
          obtain ⟨q45, z45⟩ := q45
          subst z45
          refine And.intro (fun h49 => ?_) (fun h49 => ?_)
          · skip
            exact L114 _ _ _ _ _ _ _ _ _ hS (by first | decide | omega) (by first | decide | omega) (by first | decide | omega)
          · skip
            refine And.intro (hI) ?_
            intro v56 M56 a56 b56 q56
            obtain ⟨q56, z56⟩ := q56
            subst z56
            refine And.intro (True.intro) ?_
            intro v63 M63 a63 b63 q63
            obtain ⟨q63, z63⟩ := q63
            subst z63
            refine And.intro (True.intro) ?_
            intro v68 M68 a68 b68 q68
            obtain ⟨q68, z68⟩ := q68
            subst z68
            refine And.intro (fun h71 => ?_) (fun h71 => ?_)
            · skip
              refine And.intro (fun h84 => ?_) (fun h84 => ?_)
              · skip
                exact L114 _ _ _ _ _ _ _ _ _ hS (by first | decide | omega) (by first | decide | omega) (by first | decide | omega)
              · skip
                refine And.intro (fun h91 => ?_) (fun h91 => ?_)
                · skip
                  exact L114 _ _ _ _ _ _ _ _ _ hS (by first | decide | omega) (by first | decide | omega) (by first | decide | omega)
                · skip
                  refine And.intro (fun h98 => ?_) (fun h98 => ?_)
                  · skip
                    exact L114 _ _ _ _ _ _ _ _ _ hS (by first | decide | omega) (by first | decide | omega) (by first | decide | omega)
                  · skip
                    refine And.intro (fun h103 => ?_) (fun h103 => ?_)
                    · skip
                      exact L114 _ _ _ _ _ _ _ _ _ hS (by first | decide | omega) (by first | decide | omega) (by first | decide | omega)
                    · skip
                      exact absurd h103 (by decide)
            · skip
              refine And.intro (fun h84 => ?_) (fun h84 => ?_)
              · skip
                exact L114 _ _ _ _ _ _ _ _ _ hS (by first | decide | omega) (by first | decide | omega) (by first | decide | omega)
              · skip
                refine And.intro (fun h91 => ?_) (fun h91 => ?_)
                · skip
                  exact L114 _ _ _ _ _ _ _ _ _ hS (by first | decide | omega) (by first | decide | omega) (by first | decide | omega)
                · skip
                  refine And.intro (fun h98 => ?_) (fun h98 => ?_)
                  · skip
                    exact L114 _ _ _ _ _ _ _ _ _ hS (by first | decide | omega) (by first | decide | omega) (by first | decide | omega)
                  · skip
                    refine And.intro (fun h103 => ?_) (fun h103 => ?_)
                    · skip
                      exact absurd h103 (by decide)
                    · skip
                      exact L114 _ _ _ _ _ _ _ _ _ hS (by first | decide | omega) (by first | decide | omega) (by first | decide | omega)
    refine hgo (fun p => Nat.beq p 33 || Nat.beq p 114) 71 0 _ [] M ?_
    refine And.intro (hI) ?_
    intro v1 M1 a1 b1 q1
    obtain ⟨q1, z1⟩ := q1
    subst z1
    refine And.intro (hI) ?_
    intro v6 M6 a6 b6 q6
    obtain ⟨q6, z6⟩ := q6
    subst z6
    refine And.intro (hI) ?_
    intro M19 q19
    obtain ⟨q19, z19⟩ := q19
    have hS : pq_pr pq_Pk M M19 := hS.tr z19
    have hI : pz_ic M19 := hS.1 hI0
    refine And.intro (True.intro) ?_
    intro v27 M27 a27 b27 q27
    obtain ⟨q27, z27⟩ := q27
    subst z27
    intro v30 e30 a30 b30
    exact L33 _ _ _ _ _ _ _ _ _ _ (Nat.lt_succ_self _) hS (by first | decide | omega)
theorem v3_X4_cheapestBridges {fr lo i : Nat} {own : String} (h1 : 3 + 1 ≤ fr) (h2 : 8 + (11 + 11) + 70 ≤ lo) (h3 : .methodLink own i yX4_cheapestBridges ∈ lw_tbl) : pz_cV fr lo own i k3_X4_cheapestBridges :=
  pz_cVk (maxL := 11) (fr' := 3) (lo' := 70) 2 4 h3_X4_cheapestBridges rfl ⟨(pz_nhc_RX4 yX4_cheapestBridges rfl).1, (pz_nhc_RX4 yX4_cheapestBridges rfl).2, pz_ds33⟩ ⟨pz_wq939, pz_wq937, pz_wq938, pz_wq11⟩ (Or.inl ⟨TX4, 5, rfl⟩) (fun a M _ h => by
    have h : (match (generalizing := false) a with | [.inr (.inr (4, k)), .inr (.inr (0, c)), .inl i] => pz_ic M | _ => False) := h
    split at h
    · exact ⟨_, _, rfl⟩
    · exact h.elim) h1 h2 h3
noncomputable def k3_X8_findEarliest : pz_C := (1, 0, fun a M => (match a with | [.inr (.inr (8, th))] => pz_ic M | _ => False), fun a M r M' => (match a, r with | [.inr (.inr (8, th))], none => (True) ∧ pq_pr pq_Pk M M' | _, _ => False))
noncomputable abbrev ct3_X8_findEarliest : List (Bool × Nat × pz_C) := [(false, 62, k_J9_max_7cf53), (false, 65, k_J6_bitCount_0f7a4)]
set_option maxRecDepth 100000 in
set_option maxHeartbeats 4000000 in
theorem h3_X8_findEarliest : pz_H yX8_findEarliest cX8_findEarliest 6 none k3_X8_findEarliest 1 21 := by
  refine pz_mk (own := RX8) (tb := t_X8_findEarliest) (fl := pz_flf fl_RX8) (ci := fun _ => none) (ct := pz_ctf ct3_X8_findEarliest) (rz := false) (pz_pfc_RX8 yX8_findEarliest rfl) rfl t_X8_findEarliest_ok (pz_flk fl_RX8_ok) (fun i v h => by cases h) ?_ ?_ (rfl) ?_ ?_
  · exact fun i k' h => pz_ctk (l := ct3_X8_findEarliest) (P := fun b i k => b = true → pz_cV 1 21 RX8 i k) (List.forall_mem_cons.mpr ⟨((fun z => by cases z)), List.forall_mem_cons.mpr ⟨((fun z => by cases z)), fun _ h => absurd h List.not_mem_nil⟩⟩) true i k' h rfl
  · exact fun i k' h => pz_ctk (l := ct3_X8_findEarliest) (P := fun b i k => b = false → (pz_cS 1 21 RX8 i k ∨ (k = pz_kac ∧ 1 ≤ 1 ∧ 60 ≤ 21 ∧ Cond.methodLink RX8 i arraycopyName ∈ pz_tbl))) (List.forall_mem_cons.mpr ⟨(fun _ => Or.inl (s_J9_max_7cf53 (by decide) (by decide) (Or.inl pz_wq1011))), List.forall_mem_cons.mpr ⟨(fun _ => Or.inl (s_J6_bitCount_0f7a4 (by decide) (by decide) (Or.inl pz_wq1012))), fun _ h => absurd h List.not_mem_nil⟩⟩) false i k' h rfl
  · intro a M hlen hpre
    obtain ⟨th, rfl, hpre⟩ : ∃ th, a = [.inr (.inr (8, th))] ∧ (pz_ic M) := by
      have hpre : (match (generalizing := false) a with | [.inr (.inr (8, th))] => pz_ic M | _ => False) := hpre
      split at hpre
      · exact ⟨_, rfl, hpre⟩
      · exact hpre.elim
    exact Nat.le_of_ble_eq_true rfl
  · intro a M hlen hcan hM hpre Ok hgo
    obtain ⟨th, rfl, hpre⟩ : ∃ th, a = [.inr (.inr (8, th))] ∧ (pz_ic M) := by
      have hpre : (match (generalizing := false) a with | [.inr (.inr (8, th))] => pz_ic M | _ => False) := hpre
      split at hpre
      · exact ⟨_, rfl, hpre⟩
      · exact hpre.elim
    obtain ⟨k_th, hc_th⟩ := pz_tlm hcan
    have k_th : pz_kd th = 8 ∧ th < 231 := k_th
    have R_th := pz_kd8 k_th.1
    subst R_th
    have hI : pz_ic M := hpre
    have hI0 := hI
    have hS : pq_pr pq_Pk M M := pq_pr.rf
    have L14 : ∀ (fo : Nat) (x1 : Int) (d2 : Option pz_V) (d3 : Option pz_V) (d4 : Option pz_V) (d5 : Option pz_V) (N14 : pz_M), (4096 - x1).toNat < fo → (pq_pr pq_Pk M N14) → (1 ≤ x1) → (x1 ≤ 4096) → Ok 14 [some (.inr (.inr (8, 7))), some (.inl x1), d2, d3, d4, d5] [] N14 := by
      intro fo
      induction fo with
      | zero => exact fun _ _ _ _ _ _ hn => absurd hn (Nat.not_lt_zero _)
      | succ fo ih14 =>
        intro x1 d2 d3 d4 d5 N14 hn14 hS g14_1 g14_2
        have hI : pz_ic N14 := hS.1 hI0
        have L140 : ∀ (x1 : Int) (x2 : Int) (x3 : Int) (d4 : Option pz_V) (d5 : Option pz_V) (N140 : pz_M), (pq_pr pq_Pk M N140) → (1 ≤ x1) → (x1 < 4096) → ((4096 - x1).toNat < fo + 1) → Ok 140 [some (.inr (.inr (8, 7))), some (.inl x1), some (.inl x2), some (.inl x3), d4, d5] [] N140 := by
          intro x1 x2 x3 d4 d5 N140 hS g140_1 g140_2 g140_3
          have hI : pz_ic N140 := hS.1 hI0
          refine hgo (fun p => Nat.beq p 14 || Nat.beq p 28 || Nat.beq p 58 || Nat.beq p 107 || Nat.beq p 140) 100 140 _ _ _ ?_
          intro v140 e140 a140 b140
          try rw [pz_wi (by first | decide | omega) (by first | decide | omega)] at e140
          exact ih14 _ _ _ _ _ _ (by first | decide | omega) hS (by first | decide | omega) (by first | decide | omega)
        have L28 : ∀ (fu : Nat) (x1 : Int) (x2 : Int) (x3 : Int) (d4 : Option pz_V) (d5 : Option pz_V) (N28 : pz_M), (12 - x3).toNat < fu → (pq_pr pq_Pk M N28) → (0 ≤ x3) → (1 ≤ x1) → (x1 < 4096) → ((4096 - x1).toNat < fo + 1) → Ok 28 [some (.inr (.inr (8, 7))), some (.inl x1), some (.inl x2), some (.inl x3), d4, d5] [] N28 := by
          intro fu
          induction fu with
          | zero => exact fun _ _ _ _ _ _ hn => absurd hn (Nat.not_lt_zero _)
          | succ fu ih28 =>
            intro x1 x2 x3 d4 d5 N28 hn28 hS g28_1 g28_2 g28_3 g28_4
            have hI : pz_ic N28 := hS.1 hI0
            have L107 : ∀ (x1 : Int) (x2 : Int) (x3 : Int) (x4 : Int) (x5 : Int) (N107 : pz_M), (pq_pr pq_Pk M N107) → (0 ≤ x3) → (x3 < 12) → ((12 - x3).toNat < fu + 1) → (1 ≤ x1) → (x1 < 4096) → ((4096 - x1).toNat < fo + 1) → Ok 107 [some (.inr (.inr (8, 7))), some (.inl x1), some (.inl x2), some (.inl x3), some (.inl x4), some (.inl x5)] [] N107 := by
              intro x1 x2 x3 x4 x5 N107 hS g107_1 g107_2 g107_3 g107_4 g107_5 g107_6
              have hI : pz_ic N107 := hS.1 hI0
              refine hgo (fun p => Nat.beq p 14 || Nat.beq p 28 || Nat.beq p 58 || Nat.beq p 107 || Nat.beq p 140) 100 107 _ _ _ ?_
              intro v107 e107 a107 b107
              try rw [pz_wi (by first | decide | omega) (by first | decide | omega)] at e107
              exact ih28 _ _ _ _ _ _ (by first | decide | omega) hS (by first | decide | omega) (by first | decide | omega) (by first | decide | omega) (by first | decide | omega)
            have L58 : ∀ (x1 : Int) (x2 : Int) (x3 : Int) (d4 : Option pz_V) (d5 : Option pz_V) (s0 : Int) (N58 : pz_M), (pq_pr pq_Pk M N58) → (0 ≤ x3) → (x3 < 12) → ((12 - x3).toNat < fu + 1) → (1 ≤ x1) → (x1 < 4096) → ((4096 - x1).toNat < fo + 1) → Ok 58 [some (.inr (.inr (8, 7))), some (.inl x1), some (.inl x2), some (.inl x3), d4, d5] [.inl s0] N58 := by
              intro x1 x2 x3 d4 d5 s0 N58 hS g58_1 g58_2 g58_3 g58_4 g58_5 g58_6
              have hI : pz_ic N58 := hS.1 hI0
              refine hgo (fun p => Nat.beq p 14 || Nat.beq p 28 || Nat.beq p 58 || Nat.beq p 107 || Nat.beq p 140) 100 58 _ _ _ ?_
              intro r63 e63 k63
              have R63 := pz_kdA k63 (by decide) (by decide)
              have Q63 := pz_nm e63 k_th.1 (by decide) (by decide) rfl
              have W63 : r63 = 56 := e63
              have lo67 : (0 : Int) ≤ x3 := by omega
              have tn67 : (((x3).toNat : Nat) : Int) = x3 := Int.toNat_of_nonneg lo67
              refine And.intro (lo67) (And.intro (show _ < (12 : Int) from by omega) ?_)
              intro v67 e67 a67 b67
              refine And.intro (True.intro) ?_
              intro v68 M68 a68 b68 q68
              obtain ⟨q68, z68⟩ := q68
              subst z68
              intro v73 e73 a73 b73
              try rw [pz_wi (by first | decide | omega) (by first | decide | omega)] at e73
              refine And.intro (fun h79 => ?_) (fun h79 => ?_)
              · skip
                exact L107 _ _ _ _ _ _ hS (by first | decide | omega) (by first | decide | omega) (by first | decide | omega) (by first | decide | omega) (by first | decide | omega) (by first | decide | omega)
              · skip
                intro r85 e85 k85
                have R85 := pz_kdA k85 (by decide) (by decide)
                have Q85 := pz_nm e85 k_th.1 (by decide) (by decide) rfl
                have W85 : r85 = 57 := e85
                refine And.intro (lo67) (And.intro (show _ < (12 : Int) from by omega) ?_)
                intro v89 e89 a89 b89
                refine And.intro (fun h90 => ?_) (fun h90 => ?_)
                · skip
                  exact L107 _ _ _ _ _ _ hS (by first | decide | omega) (by first | decide | omega) (by first | decide | omega) (by first | decide | omega) (by first | decide | omega) (by first | decide | omega)
                · skip
                  refine And.intro (fun h95 => ?_) (fun h95 => ?_)
                  · skip
                    exact L107 _ _ _ _ _ _ hS (by first | decide | omega) (by first | decide | omega) (by first | decide | omega) (by first | decide | omega) (by first | decide | omega) (by first | decide | omega)
                  · skip
                    refine And.intro (fun h101 => ?_) (fun h101 => ?_)
                    · skip
                      exact L107 _ _ _ _ _ _ hS (by first | decide | omega) (by first | decide | omega) (by first | decide | omega) (by first | decide | omega) (by first | decide | omega) (by first | decide | omega)
                    · skip
                      exact L107 _ _ _ _ _ _ hS (by first | decide | omega) (by first | decide | omega) (by first | decide | omega) (by first | decide | omega) (by first | decide | omega) (by first | decide | omega)
            refine hgo (fun p => Nat.beq p 14 || Nat.beq p 28 || Nat.beq p 58 || Nat.beq p 107 || Nat.beq p 140) 100 28 _ _ _ ?_
            intro v30 e30 a30 b30
            have I30 := hI.2.2.2.2.2
            refine And.intro (fun h33 => ?_) (fun h33 => ?_)
            · skip
              intro r114 e114 k114
              have R114 := pz_kdA k114 (by decide) (by decide)
              have Q114 := pz_nm e114 k_th.1 (by decide) (by decide) rfl
              have W114 : r114 = 59 := e114
              have lo119 : (0 : Int) ≤ x1 := by omega
              have tn119 : (((x1).toNat : Nat) : Int) = x1 := Int.toNat_of_nonneg lo119
              refine And.intro (lo119) (And.intro (show _ < (4096 : Int) from by omega) ?_)
              intro M119 e119
              have hS : pq_pr pq_Pk M M119 := by
                rw [e119]
                exact pq_pr_u hS (by unfold pq_Pk pq_Pw; first | decide | omega) (by unfold pz_iok; first | decide | omega)
              have hI : pz_ic M119 := hS.1 hI0
              refine And.intro (fun h122 => ?_) (fun h122 => ?_)
              · skip
                exact L140 _ _ _ _ _ _ hS (by first | decide | omega) (by first | decide | omega) (by first | decide | omega)
              · skip
                intro v127 e127 a127 b127
                refine And.intro (True.intro) ?_
                intro v131 M131 a131 b131 q131
                obtain ⟨q131, z131⟩ := q131
                subst z131
                refine And.intro (True.intro) ?_
                intro v134 M134 a134 b134 q134
                obtain ⟨q134, z134⟩ := q134
                subst z134
                intro M137 e137
                have hS : pq_pr pq_Pk M M137 := by
                  rw [e137]
                  exact pq_pr_u hS (by unfold pq_Pk pq_Pw; first | decide | omega) (by unfold pz_iok; first | decide | omega)
                have hI : pz_ic M137 := hS.1 hI0
                exact L140 _ _ _ _ _ _ hS (by first | decide | omega) (by first | decide | omega) (by first | decide | omega)
            · skip
              intro v38 e38 a38 b38
              intro v40 e40 a40 b40
              refine And.intro (fun h41 => ?_) (fun h41 => ?_)
              · skip
                exact L58 _ _ _ _ _ _ _ hS (by first | decide | omega) (by first | decide | omega) (by first | decide | omega) (by first | decide | omega) (by first | decide | omega) (by first | decide | omega)
              · skip
                intro r45 e45 k45
                have R45 := pz_kdA k45 (by decide) (by decide)
                have Q45 := pz_nm e45 k_th.1 (by decide) (by decide) rfl
                have W45 : r45 = 59 := e45
                intro v51 e51 a51 b51
                have S51 := pz_shl1 (c := x3) (by first | decide | omega) (by first | decide | omega)
                rw [← e51] at S51
                intro v52 e52 a52 b52
                have X52 := pz_xor12 (x := x1) (y := v51) (by first | decide | omega) (by first | decide | omega) (by first | decide | omega) (by first | decide | omega)
                rw [← e52] at X52
                have lo53 : (0 : Int) ≤ v52 := by omega
                have tn53 : (((v52).toNat : Nat) : Int) = v52 := Int.toNat_of_nonneg lo53
                refine And.intro (lo53) (And.intro (show _ < (4096 : Int) from by omega) ?_)
                intro v53 e53 a53 b53
                exact L58 _ _ _ _ _ _ _ hS (by first | decide | omega) (by first | decide | omega) (by first | decide | omega) (by first | decide | omega) (by first | decide | omega) (by first | decide | omega)
        refine hgo (fun p => Nat.beq p 14 || Nat.beq p 28 || Nat.beq p 58 || Nat.beq p 107 || Nat.beq p 140) 100 14 _ _ _ ?_
        intro v17 e17 a17 b17
        have I17 := hI.2.2.2.2.2
        intro v20 e20 a20 b20
        have S20 := pz_shl1 (c := v17) (by first | decide | omega) (by first | decide | omega)
        rw [← e20] at S20
        refine And.intro (fun h21 => ?_) (fun h21 => ?_)
        · skip
          intro r148 e148 k148
          have R148 := pz_kdA k148 (by decide) (by decide)
          have Q148 := pz_nm e148 k_th.1 (by decide) (by decide) rfl
          have W148 : r148 = 59 := e148
          intro v153 e153 a153 b153
          have I153 := hI.2.2.2.2.2
          intro v156 e156 a156 b156
          have S156 := pz_shl1 (c := v153) (by first | decide | omega) (by first | decide | omega)
          rw [← e156] at S156
          intro v158 e158 a158 b158
          try rw [pz_wi (by first | decide | omega) (by first | decide | omega)] at e158
          have lo159 : (0 : Int) ≤ v158 := by omega
          have tn159 : (((v158).toNat : Nat) : Int) = v158 := Int.toNat_of_nonneg lo159
          refine And.intro (lo159) (And.intro (show _ < (4096 : Int) from by omega) ?_)
          intro v159 e159 a159 b159
          intro M160 e160
          have hS : pq_pr pq_Pk M M160 := by
            rw [e160]
            exact pq_pr_u hS (by unfold pq_Pk pq_Pw; first | decide | omega) (by unfold pz_iok; first | decide | omega)
          have hI : pz_ic M160 := hS.1 hI0
          refine And.intro rfl ?_
          exact ⟨trivial, hS⟩
        · skip
          exact L28 _ _ _ _ _ _ _ (Nat.lt_succ_self _) hS (by first | decide | omega) (by first | decide | omega) (by first | decide | omega) (by first | decide | omega)
    refine hgo (fun p => Nat.beq p 14 || Nat.beq p 28 || Nat.beq p 58 || Nat.beq p 107 || Nat.beq p 140) 100 0 _ [] M ?_
    intro M2 e2
    have hS : pq_pr pq_Pk M M2 := by
      rw [e2]
      exact pq_pr_u hS (by unfold pq_Pk pq_Pw; first | decide | omega) (by unfold pz_iok; first | decide | omega)
    have hI : pz_ic M2 := hS.1 hI0
    intro r6 e6 k6
    have R6 := pz_kdA k6 (by decide) (by decide)
    have Q6 := pz_nm e6 k_th.1 (by decide) (by decide) rfl
    have W6 : r6 = 59 := e6
    refine And.intro (by first | decide | omega) (And.intro (show _ < (4096 : Int) from by omega) ?_)
    intro M11 e11
    have hS : pq_pr pq_Pk M M11 := by
      rw [e11]
      exact pq_pr_u hS (by unfold pq_Pk pq_Pw; first | decide | omega) (by unfold pz_iok; first | decide | omega)
    have hI : pz_ic M11 := hS.1 hI0
    exact L14 _ _ _ _ _ _ _ (Nat.lt_succ_self _) hS (by first | decide | omega) (by first | decide | omega)
theorem v3_X8_findEarliest {fr lo i : Nat} {own : String} (h1 : 1 + 1 ≤ fr) (h2 : 8 + (6 + 11) + 21 ≤ lo) (h3 : .methodLink own i yX8_findEarliest ∈ lw_tbl) : pz_cV fr lo own i k3_X8_findEarliest :=
  pz_cVk (maxL := 6) (fr' := 1) (lo' := 21) 0 8 h3_X8_findEarliest rfl ⟨(pz_nhc_RX8 yX8_findEarliest rfl).1, (pz_nhc_RX8 yX8_findEarliest rfl).2, pz_ds2⟩ ⟨pz_wq1010, pz_wq1008, pz_wq1009, pz_wq12⟩ (Or.inl ⟨TX8, 8, rfl⟩) (fun a M _ h => by
    have h : (match (generalizing := false) a with | [.inr (.inr (8, th))] => pz_ic M | _ => False) := h
    split at h
    · exact ⟨_, _, rfl⟩
    · exact h.elim) h1 h2 h3
noncomputable def k3_X8_findLatest : pz_C := (1, 0, fun a M => (match a with | [.inr (.inr (8, th))] => pz_ic M | _ => False), fun a M r M' => (match a, r with | [.inr (.inr (8, th))], none => (True) ∧ pq_pr pq_Pk M M' | _, _ => False))
noncomputable abbrev ct3_X8_findLatest : List (Bool × Nat × pz_C) := [(false, 28, k_J9_min_7cf53), (false, 62, k_J9_max_7cf53)]
set_option maxRecDepth 100000 in
set_option maxHeartbeats 4000000 in
theorem h3_X8_findLatest : pz_H yX8_findLatest cX8_findLatest 6 none k3_X8_findLatest 1 21 := by
  refine pz_mk (own := RX8) (tb := t_X8_findLatest) (fl := pz_flf fl_RX8) (ci := fun _ => none) (ct := pz_ctf ct3_X8_findLatest) (rz := false) (pz_pfc_RX8 yX8_findLatest rfl) rfl t_X8_findLatest_ok (pz_flk fl_RX8_ok) (fun i v h => by cases h) ?_ ?_ (rfl) ?_ ?_
  · exact fun i k' h => pz_ctk (l := ct3_X8_findLatest) (P := fun b i k => b = true → pz_cV 1 21 RX8 i k) (List.forall_mem_cons.mpr ⟨((fun z => by cases z)), List.forall_mem_cons.mpr ⟨((fun z => by cases z)), fun _ h => absurd h List.not_mem_nil⟩⟩) true i k' h rfl
  · exact fun i k' h => pz_ctk (l := ct3_X8_findLatest) (P := fun b i k => b = false → (pz_cS 1 21 RX8 i k ∨ (k = pz_kac ∧ 1 ≤ 1 ∧ 60 ≤ 21 ∧ Cond.methodLink RX8 i arraycopyName ∈ pz_tbl))) (List.forall_mem_cons.mpr ⟨(fun _ => Or.inl (s_J9_min_7cf53 (by decide) (by decide) (Or.inl pz_wq1004))), List.forall_mem_cons.mpr ⟨(fun _ => Or.inl (s_J9_max_7cf53 (by decide) (by decide) (Or.inl pz_wq1011))), fun _ h => absurd h List.not_mem_nil⟩⟩) false i k' h rfl
  · intro a M hlen hpre
    obtain ⟨th, rfl, hpre⟩ : ∃ th, a = [.inr (.inr (8, th))] ∧ (pz_ic M) := by
      have hpre : (match (generalizing := false) a with | [.inr (.inr (8, th))] => pz_ic M | _ => False) := hpre
      split at hpre
      · exact ⟨_, rfl, hpre⟩
      · exact hpre.elim
    exact Nat.le_of_ble_eq_true rfl
  · intro a M hlen hcan hM hpre Ok hgo
    obtain ⟨th, rfl, hpre⟩ : ∃ th, a = [.inr (.inr (8, th))] ∧ (pz_ic M) := by
      have hpre : (match (generalizing := false) a with | [.inr (.inr (8, th))] => pz_ic M | _ => False) := hpre
      split at hpre
      · exact ⟨_, rfl, hpre⟩
      · exact hpre.elim
    obtain ⟨k_th, hc_th⟩ := pz_tlm hcan
    have k_th : pz_kd th = 8 ∧ th < 231 := k_th
    have R_th := pz_kd8 k_th.1
    subst R_th
    have hI : pz_ic M := hpre
    have hI0 := hI
    have hS : pq_pr pq_Pk M M := pq_pr.rf
    have L12 : ∀ (fo : Nat) (x1 : Int) (d2 : Option pz_V) (d3 : Option pz_V) (d4 : Option pz_V) (d5 : Option pz_V) (N12 : pz_M), (4096 - x1).toNat < fo → (pq_pr pq_Pk M N12) → (1 ≤ x1) → (x1 ≤ 4096) → Ok 12 [some (.inr (.inr (8, 7))), some (.inl x1), d2, d3, d4, d5] [] N12 := by
      intro fo
      induction fo with
      | zero => exact fun _ _ _ _ _ _ hn => absurd hn (Nat.not_lt_zero _)
      | succ fo ih12 =>
        intro x1 d2 d3 d4 d5 N12 hn12 hS g12_1 g12_2
        have hI : pz_ic N12 := hS.1 hI0
        have L26 : ∀ (fu : Nat) (x1 : Int) (x2 : Int) (x3 : Int) (d4 : Option pz_V) (d5 : Option pz_V) (N26 : pz_M), (12 - x3).toNat < fu → (pq_pr pq_Pk M N26) → (0 ≤ x3) → (1 ≤ x1) → (x1 < 4096) → ((4096 - x1).toNat < fo + 1) → Ok 26 [some (.inr (.inr (8, 7))), some (.inl x1), some (.inl x2), some (.inl x3), d4, d5] [] N26 := by
          intro fu
          induction fu with
          | zero => exact fun _ _ _ _ _ _ hn => absurd hn (Nat.not_lt_zero _)
          | succ fu ih26 =>
            intro x1 x2 x3 d4 d5 N26 hn26 hS g26_1 g26_2 g26_3 g26_4
            have hI : pz_ic N26 := hS.1 hI0
            have L98 : ∀ (x1 : Int) (x2 : Int) (x3 : Int) (x4 : Int) (x5 : Int) (N98 : pz_M), (pq_pr pq_Pk M N98) → (0 ≤ x3) → (x3 < 12) → ((12 - x3).toNat < fu + 1) → (1 ≤ x1) → (x1 < 4096) → ((4096 - x1).toNat < fo + 1) → Ok 98 [some (.inr (.inr (8, 7))), some (.inl x1), some (.inl x2), some (.inl x3), some (.inl x4), some (.inl x5)] [] N98 := by
              intro x1 x2 x3 x4 x5 N98 hS g98_1 g98_2 g98_3 g98_4 g98_5 g98_6
              have hI : pz_ic N98 := hS.1 hI0
              refine hgo (fun p => Nat.beq p 12 || Nat.beq p 26 || Nat.beq p 56 || Nat.beq p 98) 73 98 _ _ _ ?_
              intro v98 e98 a98 b98
              try rw [pz_wi (by first | decide | omega) (by first | decide | omega)] at e98
              exact ih26 _ _ _ _ _ _ (by first | decide | omega) hS (by first | decide | omega) (by first | decide | omega) (by first | decide | omega) (by first | decide | omega)
            have L56 : ∀ (x1 : Int) (x2 : Int) (x3 : Int) (d4 : Option pz_V) (d5 : Option pz_V) (s0 : Int) (N56 : pz_M), (pq_pr pq_Pk M N56) → (0 ≤ x3) → (x3 < 12) → ((12 - x3).toNat < fu + 1) → (1 ≤ x1) → (x1 < 4096) → ((4096 - x1).toNat < fo + 1) → Ok 56 [some (.inr (.inr (8, 7))), some (.inl x1), some (.inl x2), some (.inl x3), d4, d5] [.inl s0] N56 := by
              intro x1 x2 x3 d4 d5 s0 N56 hS g56_1 g56_2 g56_3 g56_4 g56_5 g56_6
              have hI : pz_ic N56 := hS.1 hI0
              refine hgo (fun p => Nat.beq p 12 || Nat.beq p 26 || Nat.beq p 56 || Nat.beq p 98) 73 56 _ _ _ ?_
              intro r61 e61 k61
              have R61 := pz_kdA k61 (by decide) (by decide)
              have Q61 := pz_nm e61 k_th.1 (by decide) (by decide) rfl
              have W61 : r61 = 57 := e61
              have lo65 : (0 : Int) ≤ x3 := by omega
              have tn65 : (((x3).toNat : Nat) : Int) = x3 := Int.toNat_of_nonneg lo65
              refine And.intro (lo65) (And.intro (show _ < (12 : Int) from by omega) ?_)
              intro v65 e65 a65 b65
              refine And.intro (True.intro) ?_
              intro v66 M66 a66 b66 q66
              obtain ⟨q66, z66⟩ := q66
              subst z66
              intro v71 e71 a71 b71
              try rw [pz_wi (by first | decide | omega) (by first | decide | omega)] at e71
              refine And.intro (fun h77 => ?_) (fun h77 => ?_)
              · skip
                exact L98 _ _ _ _ _ _ hS (by first | decide | omega) (by first | decide | omega) (by first | decide | omega) (by first | decide | omega) (by first | decide | omega) (by first | decide | omega)
              · skip
                intro r83 e83 k83
                have R83 := pz_kdA k83 (by decide) (by decide)
                have Q83 := pz_nm e83 k_th.1 (by decide) (by decide) rfl
                have W83 : r83 = 56 := e83
                refine And.intro (lo65) (And.intro (show _ < (12 : Int) from by omega) ?_)
                intro v87 e87 a87 b87
                refine And.intro (fun h88 => ?_) (fun h88 => ?_)
                · skip
                  exact L98 _ _ _ _ _ _ hS (by first | decide | omega) (by first | decide | omega) (by first | decide | omega) (by first | decide | omega) (by first | decide | omega) (by first | decide | omega)
                · skip
                  refine And.intro (True.intro) ?_
                  intro v94 M94 a94 b94 q94
                  obtain ⟨q94, z94⟩ := q94
                  subst z94
                  exact L98 _ _ _ _ _ _ hS (by first | decide | omega) (by first | decide | omega) (by first | decide | omega) (by first | decide | omega) (by first | decide | omega) (by first | decide | omega)
            refine hgo (fun p => Nat.beq p 12 || Nat.beq p 26 || Nat.beq p 56 || Nat.beq p 98) 73 26 _ _ _ ?_
            intro v28 e28 a28 b28
            have I28 := hI.2.2.2.2.2
            refine And.intro (fun h31 => ?_) (fun h31 => ?_)
            · skip
              intro r105 e105 k105
              have R105 := pz_kdA k105 (by decide) (by decide)
              have Q105 := pz_nm e105 k_th.1 (by decide) (by decide) rfl
              have W105 : r105 = 59 := e105
              have lo110 : (0 : Int) ≤ x1 := by omega
              have tn110 : (((x1).toNat : Nat) : Int) = x1 := Int.toNat_of_nonneg lo110
              refine And.intro (lo110) (And.intro (show _ < (4096 : Int) from by omega) ?_)
              intro M110 e110
              have hS : pq_pr pq_Pk M M110 := by
                rw [e110]
                exact pq_pr_u hS (by unfold pq_Pk pq_Pw; first | decide | omega) (by unfold pz_iok; first | decide | omega)
              have hI : pz_ic M110 := hS.1 hI0
              intro v111 e111 a111 b111
              try rw [pz_wi (by first | decide | omega) (by first | decide | omega)] at e111
              exact ih12 _ _ _ _ _ _ (by first | decide | omega) hS (by first | decide | omega) (by first | decide | omega)
            · skip
              intro v36 e36 a36 b36
              intro v38 e38 a38 b38
              refine And.intro (fun h39 => ?_) (fun h39 => ?_)
              · skip
                exact L56 _ _ _ _ _ _ _ hS (by first | decide | omega) (by first | decide | omega) (by first | decide | omega) (by first | decide | omega) (by first | decide | omega) (by first | decide | omega)
              · skip
                intro r43 e43 k43
                have R43 := pz_kdA k43 (by decide) (by decide)
                have Q43 := pz_nm e43 k_th.1 (by decide) (by decide) rfl
                have W43 : r43 = 59 := e43
                intro v49 e49 a49 b49
                have S49 := pz_shl1 (c := x3) (by first | decide | omega) (by first | decide | omega)
                rw [← e49] at S49
                intro v50 e50 a50 b50
                have X50 := pz_xor12 (x := x1) (y := v49) (by first | decide | omega) (by first | decide | omega) (by first | decide | omega) (by first | decide | omega)
                rw [← e50] at X50
                have lo51 : (0 : Int) ≤ v50 := by omega
                have tn51 : (((v50).toNat : Nat) : Int) = v50 := Int.toNat_of_nonneg lo51
                refine And.intro (lo51) (And.intro (show _ < (4096 : Int) from by omega) ?_)
                intro v51 e51 a51 b51
                exact L56 _ _ _ _ _ _ _ hS (by first | decide | omega) (by first | decide | omega) (by first | decide | omega) (by first | decide | omega) (by first | decide | omega) (by first | decide | omega)
        refine hgo (fun p => Nat.beq p 12 || Nat.beq p 26 || Nat.beq p 56 || Nat.beq p 98) 73 12 _ _ _ ?_
        intro v15 e15 a15 b15
        have I15 := hI.2.2.2.2.2
        intro v18 e18 a18 b18
        have S18 := pz_shl1 (c := v15) (by first | decide | omega) (by first | decide | omega)
        rw [← e18] at S18
        refine And.intro (fun h19 => ?_) (fun h19 => ?_)
        · skip
          refine And.intro rfl ?_
          exact ⟨trivial, hS⟩
        · skip
          exact L26 _ _ _ _ _ _ _ (Nat.lt_succ_self _) hS (by first | decide | omega) (by first | decide | omega) (by first | decide | omega) (by first | decide | omega)
    refine hgo (fun p => Nat.beq p 12 || Nat.beq p 26 || Nat.beq p 56 || Nat.beq p 98) 73 0 _ [] M ?_
    intro r1 e1 k1
    have R1 := pz_kdA k1 (by decide) (by decide)
    have Q1 := pz_nm e1 k_th.1 (by decide) (by decide) rfl
    have W1 : r1 = 59 := e1
    intro v6 e6 a6 b6
    refine And.intro (by first | decide | omega) (And.intro (show _ < (4096 : Int) from by omega) ?_)
    intro M9 e9
    have hS : pq_pr pq_Pk M M9 := by
      rw [e9]
      exact pq_pr_u hS (by unfold pq_Pk pq_Pw; first | decide | omega) (by unfold pz_iok; first | decide | omega)
    have hI : pz_ic M9 := hS.1 hI0
    exact L12 _ _ _ _ _ _ _ (Nat.lt_succ_self _) hS (by first | decide | omega) (by first | decide | omega)
theorem v3_X8_findLatest {fr lo i : Nat} {own : String} (h1 : 1 + 1 ≤ fr) (h2 : 8 + (6 + 11) + 21 ≤ lo) (h3 : .methodLink own i yX8_findLatest ∈ lw_tbl) : pz_cV fr lo own i k3_X8_findLatest :=
  pz_cVk (maxL := 6) (fr' := 1) (lo' := 21) 0 8 h3_X8_findLatest rfl ⟨(pz_nhc_RX8 yX8_findLatest rfl).1, (pz_nhc_RX8 yX8_findLatest rfl).2, pz_ds2⟩ ⟨pz_wq1016, pz_wq1014, pz_wq1015, pz_wq12⟩ (Or.inl ⟨TX8, 8, rfl⟩) (fun a M _ h => by
    have h : (match (generalizing := false) a with | [.inr (.inr (8, th))] => pz_ic M | _ => False) := h
    split at h
    · exact ⟨_, _, rfl⟩
    · exact h.elim) h1 h2 h3
noncomputable def k3_X8_findOrder : pz_C := (1, 0, fun a M => (match a with | [.inr (.inr (8, th))] => pz_ic M | _ => False), fun a M r M' => (match a, r with | [.inr (.inr (8, th))], none => (True) ∧ pq_pr pq_Pk M M' | _, _ => False))
noncomputable abbrev ct3_X8_findOrder : List (Bool × Nat × pz_C) := [(false, 62, k_J9_max_7cf53), (false, 28, k_J9_min_7cf53)]
set_option maxRecDepth 100000 in
set_option maxHeartbeats 4000000 in
theorem h3_X8_findOrder : pz_H yX8_findOrder cX8_findOrder 7 none k3_X8_findOrder 1 21 := by
  refine pz_mk (own := RX8) (tb := t_X8_findOrder) (fl := pz_flf fl_RX8) (ci := fun _ => none) (ct := pz_ctf ct3_X8_findOrder) (rz := false) (pz_pfc_RX8 yX8_findOrder rfl) rfl t_X8_findOrder_ok (pz_flk fl_RX8_ok) (fun i v h => by cases h) ?_ ?_ (rfl) ?_ ?_
  · exact fun i k' h => pz_ctk (l := ct3_X8_findOrder) (P := fun b i k => b = true → pz_cV 1 21 RX8 i k) (List.forall_mem_cons.mpr ⟨((fun z => by cases z)), List.forall_mem_cons.mpr ⟨((fun z => by cases z)), fun _ h => absurd h List.not_mem_nil⟩⟩) true i k' h rfl
  · exact fun i k' h => pz_ctk (l := ct3_X8_findOrder) (P := fun b i k => b = false → (pz_cS 1 21 RX8 i k ∨ (k = pz_kac ∧ 1 ≤ 1 ∧ 60 ≤ 21 ∧ Cond.methodLink RX8 i arraycopyName ∈ pz_tbl))) (List.forall_mem_cons.mpr ⟨(fun _ => Or.inl (s_J9_max_7cf53 (by decide) (by decide) (Or.inl pz_wq1011))), List.forall_mem_cons.mpr ⟨(fun _ => Or.inl (s_J9_min_7cf53 (by decide) (by decide) (Or.inl pz_wq1004))), fun _ h => absurd h List.not_mem_nil⟩⟩) false i k' h rfl
  · intro a M hlen hpre
    obtain ⟨th, rfl, hpre⟩ : ∃ th, a = [.inr (.inr (8, th))] ∧ (pz_ic M) := by
      have hpre : (match (generalizing := false) a with | [.inr (.inr (8, th))] => pz_ic M | _ => False) := hpre
      split at hpre
      · exact ⟨_, rfl, hpre⟩
      · exact hpre.elim
    exact Nat.le_of_ble_eq_true rfl
  · intro a M hlen hcan hM hpre Ok hgo
    obtain ⟨th, rfl, hpre⟩ : ∃ th, a = [.inr (.inr (8, th))] ∧ (pz_ic M) := by
      have hpre : (match (generalizing := false) a with | [.inr (.inr (8, th))] => pz_ic M | _ => False) := hpre
      split at hpre
      · exact ⟨_, rfl, hpre⟩
      · exact hpre.elim
    obtain ⟨k_th, hc_th⟩ := pz_tlm hcan
    have k_th : pz_kd th = 8 ∧ th < 231 := k_th
    have R_th := pz_kd8 k_th.1
    subst R_th
    have hI : pz_ic M := hpre
    have hI0 := hI
    have hS : pq_pr pq_Pk M M := pq_pr.rf
    have L13 : ∀ (fo : Nat) (x1 : Int) (x2 : Int) (x3 : Int) (d4 : Option pz_V) (d5 : Option pz_V) (d6 : Option pz_V) (N13 : pz_M), (12 - x3).toNat < fo → (pq_pr pq_Pk M N13) → (0 ≤ x3) → (0 ≤ x2) → (x2 < 4096) → Ok 13 [some (.inr (.inr (8, 7))), some (.inl x1), some (.inl x2), some (.inl x3), d4, d5, d6] [] N13 := by
      intro fo
      induction fo with
      | zero => exact fun _ _ _ _ _ _ _ hn => absurd hn (Nat.not_lt_zero _)
      | succ fo ih13 =>
        intro x1 x2 x3 d4 d5 d6 N13 hn13 hS g13_1 g13_2 g13_3
        have hI : pz_ic N13 := hS.1 hI0
        have L125 : ∀ (x1 : Int) (x2 : Int) (x3 : Int) (x4 : Int) (d5 : Option pz_V) (d6 : Option pz_V) (N125 : pz_M), (pq_pr pq_Pk M N125) → (0 ≤ x3) → (x3 < 12) → ((12 - x3).toNat < fo + 1) → (0 ≤ x2) → (x2 < 4096) → Ok 125 [some (.inr (.inr (8, 7))), some (.inl x1), some (.inl x2), some (.inl x3), some (.inl x4), d5, d6] [] N125 := by
          intro x1 x2 x3 x4 d5 d6 N125 hS g125_1 g125_2 g125_3 g125_4 g125_5
          have hI : pz_ic N125 := hS.1 hI0
          refine hgo (fun p => Nat.beq p 13 || Nat.beq p 24 || Nat.beq p 57 || Nat.beq p 119 || Nat.beq p 125) 79 125 _ _ _ ?_
          intro v125 e125 a125 b125
          try rw [pz_wi (by first | decide | omega) (by first | decide | omega)] at e125
          exact ih13 _ _ _ _ _ _ _ (by first | decide | omega) hS (by first | decide | omega) (by first | decide | omega) (by first | decide | omega)
        have L24 : ∀ (fu : Nat) (x1 : Int) (x2 : Int) (x3 : Int) (x4 : Int) (d5 : Option pz_V) (d6 : Option pz_V) (N24 : pz_M), (12 - x4).toNat < fu → (pq_pr pq_Pk M N24) → (0 ≤ x4) → (0 ≤ x3) → (x3 < 12) → ((12 - x3).toNat < fo + 1) → (0 ≤ x2) → (x2 < 4096) → Ok 24 [some (.inr (.inr (8, 7))), some (.inl x1), some (.inl x2), some (.inl x3), some (.inl x4), d5, d6] [] N24 := by
          intro fu
          induction fu with
          | zero => exact fun _ _ _ _ _ _ _ hn => absurd hn (Nat.not_lt_zero _)
          | succ fu ih24 =>
            intro x1 x2 x3 x4 d5 d6 N24 hn24 hS g24_1 g24_2 g24_3 g24_4 g24_5 g24_6
            have hI : pz_ic N24 := hS.1 hI0
            have L119 : ∀ (x1 : Int) (x2 : Int) (x3 : Int) (x4 : Int) (x5 : Int) (x6 : Int) (N119 : pz_M), (pq_pr pq_Pk M N119) → (0 ≤ x4) → (x4 < 12) → ((12 - x4).toNat < fu + 1) → (0 ≤ x3) → (x3 < 12) → ((12 - x3).toNat < fo + 1) → (0 ≤ x2) → (x2 < 4096) → Ok 119 [some (.inr (.inr (8, 7))), some (.inl x1), some (.inl x2), some (.inl x3), some (.inl x4), some (.inl x5), some (.inl x6)] [] N119 := by
              intro x1 x2 x3 x4 x5 x6 N119 hS g119_1 g119_2 g119_3 g119_4 g119_5 g119_6 g119_7 g119_8
              have hI : pz_ic N119 := hS.1 hI0
              refine hgo (fun p => Nat.beq p 13 || Nat.beq p 24 || Nat.beq p 57 || Nat.beq p 119 || Nat.beq p 125) 79 119 _ _ _ ?_
              intro v119 e119 a119 b119
              try rw [pz_wi (by first | decide | omega) (by first | decide | omega)] at e119
              exact ih24 _ _ _ _ _ _ _ (by first | decide | omega) hS (by first | decide | omega) (by first | decide | omega) (by first | decide | omega) (by first | decide | omega) (by first | decide | omega) (by first | decide | omega)
            have L57 : ∀ (x1 : Int) (x2 : Int) (x3 : Int) (x4 : Int) (d5 : Option pz_V) (d6 : Option pz_V) (s0 : Int) (N57 : pz_M), (pq_pr pq_Pk M N57) → (0 ≤ x4) → (x4 < 12) → ((12 - x4).toNat < fu + 1) → (0 ≤ x3) → (x3 < 12) → ((12 - x3).toNat < fo + 1) → (0 ≤ x2) → (x2 < 4096) → Ok 57 [some (.inr (.inr (8, 7))), some (.inl x1), some (.inl x2), some (.inl x3), some (.inl x4), d5, d6] [.inl s0] N57 := by
              intro x1 x2 x3 x4 d5 d6 s0 N57 hS g57_1 g57_2 g57_3 g57_4 g57_5 g57_6 g57_7 g57_8
              have hI : pz_ic N57 := hS.1 hI0
              refine hgo (fun p => Nat.beq p 13 || Nat.beq p 24 || Nat.beq p 57 || Nat.beq p 119 || Nat.beq p 125) 79 57 _ _ _ ?_
              intro r61 e61 k61
              have R61 := pz_kdA k61 (by decide) (by decide)
              have Q61 := pz_nm e61 k_th.1 (by decide) (by decide) rfl
              have W61 : r61 = 56 := e61
              have lo66 : (0 : Int) ≤ x4 := by omega
              have tn66 : (((x4).toNat : Nat) : Int) = x4 := Int.toNat_of_nonneg lo66
              refine And.intro (lo66) (And.intro (show _ < (12 : Int) from by omega) ?_)
              intro v66 e66 a66 b66
              refine And.intro (True.intro) ?_
              intro v67 M67 a67 b67 q67
              obtain ⟨q67, z67⟩ := q67
              subst z67
              intro v72 e72 a72 b72
              try rw [pz_wi (by first | decide | omega) (by first | decide | omega)] at e72
              refine And.intro (fun h78 => ?_) (fun h78 => ?_)
              · skip
                exact L119 _ _ _ _ _ _ _ hS (by first | decide | omega) (by first | decide | omega) (by first | decide | omega) (by first | decide | omega) (by first | decide | omega) (by first | decide | omega) (by first | decide | omega) (by first | decide | omega)
              · skip
                intro r86 e86 k86
                have R86 := pz_kdA k86 (by decide) (by decide)
                have Q86 := pz_nm e86 k_th.1 (by decide) (by decide) rfl
                have W86 : r86 = 57 := e86
                refine And.intro (lo66) (And.intro (show _ < (12 : Int) from by omega) ?_)
                intro v91 e91 a91 b91
                refine And.intro (True.intro) ?_
                intro v92 M92 a92 b92 q92
                obtain ⟨q92, z92⟩ := q92
                subst z92
                refine And.intro (fun h95 => ?_) (fun h95 => ?_)
                · skip
                  exact L119 _ _ _ _ _ _ _ hS (by first | decide | omega) (by first | decide | omega) (by first | decide | omega) (by first | decide | omega) (by first | decide | omega) (by first | decide | omega) (by first | decide | omega) (by first | decide | omega)
                · skip
                  intro r99 e99 k99
                  have R99 := pz_kdA k99 (by decide) (by decide)
                  have Q99 := pz_nm e99 k_th.1 (by decide) (by decide) rfl
                  have W99 : r99 = 58 := e99
                  have lo105 : (0 : Int) ≤ x3 := by omega
                  have tn105 : (((x3).toNat : Nat) : Int) = x3 := Int.toNat_of_nonneg lo105
                  refine And.intro (lo105) (And.intro (show _ < (12 : Int) from by omega) ?_)
                  intro M105 e105
                  have hS : pq_pr pq_Pk M M105 := by
                    rw [e105]
                    exact pq_pr_u hS (by unfold pq_Pk pq_Pw; first | decide | omega) (by unfold pz_iok; first | decide | omega)
                  have hI : pz_ic M105 := hS.1 hI0
                  intro v113 e113 a113 b113
                  have S113 := pz_shl1 (c := x4) (by first | decide | omega) (by first | decide | omega)
                  rw [← e113] at S113
                  intro v114 e114 a114 b114
                  have X114 := pz_xor12 (x := x2) (y := v113) (by first | decide | omega) (by first | decide | omega) (by first | decide | omega) (by first | decide | omega)
                  rw [← e114] at X114
                  exact L125 _ _ _ _ _ _ _ hS (by first | decide | omega) (by first | decide | omega) (by first | decide | omega) (by first | decide | omega) (by first | decide | omega)
            refine hgo (fun p => Nat.beq p 13 || Nat.beq p 24 || Nat.beq p 57 || Nat.beq p 119 || Nat.beq p 125) 79 24 _ _ _ ?_
            intro v27 e27 a27 b27
            have I27 := hI.2.2.2.2.2
            refine And.intro (fun h30 => ?_) (fun h30 => ?_)
            · skip
              exact L125 _ _ _ _ _ _ _ hS (by first | decide | omega) (by first | decide | omega) (by first | decide | omega) (by first | decide | omega) (by first | decide | omega)
            · skip
              intro v36 e36 a36 b36
              intro v38 e38 a38 b38
              refine And.intro (fun h39 => ?_) (fun h39 => ?_)
              · skip
                exact L57 _ _ _ _ _ _ _ _ hS (by first | decide | omega) (by first | decide | omega) (by first | decide | omega) (by first | decide | omega) (by first | decide | omega) (by first | decide | omega) (by first | decide | omega) (by first | decide | omega)
              · skip
                intro r43 e43 k43
                have R43 := pz_kdA k43 (by decide) (by decide)
                have Q43 := pz_nm e43 k_th.1 (by decide) (by decide) rfl
                have W43 : r43 = 59 := e43
                intro v50 e50 a50 b50
                have S50 := pz_shl1 (c := x4) (by first | decide | omega) (by first | decide | omega)
                rw [← e50] at S50
                intro v51 e51 a51 b51
                have X51 := pz_xor12 (x := x2) (y := v50) (by first | decide | omega) (by first | decide | omega) (by first | decide | omega) (by first | decide | omega)
                rw [← e51] at X51
                have lo52 : (0 : Int) ≤ v51 := by omega
                have tn52 : (((v51).toNat : Nat) : Int) = v51 := Int.toNat_of_nonneg lo52
                refine And.intro (lo52) (And.intro (show _ < (4096 : Int) from by omega) ?_)
                intro v52 e52 a52 b52
                exact L57 _ _ _ _ _ _ _ _ hS (by first | decide | omega) (by first | decide | omega) (by first | decide | omega) (by first | decide | omega) (by first | decide | omega) (by first | decide | omega) (by first | decide | omega) (by first | decide | omega)
        refine hgo (fun p => Nat.beq p 13 || Nat.beq p 24 || Nat.beq p 57 || Nat.beq p 119 || Nat.beq p 125) 79 13 _ _ _ ?_
        intro v15 e15 a15 b15
        have I15 := hI.2.2.2.2.2
        refine And.intro (fun h18 => ?_) (fun h18 => ?_)
        · skip
          refine And.intro rfl ?_
          exact ⟨trivial, hS⟩
        · skip
          exact L24 _ _ _ _ _ _ _ _ (Nat.lt_succ_self _) hS (by first | decide | omega) (by first | decide | omega) (by first | decide | omega) (by first | decide | omega) (by first | decide | omega) (by first | decide | omega)
    refine hgo (fun p => Nat.beq p 13 || Nat.beq p 24 || Nat.beq p 57 || Nat.beq p 119 || Nat.beq p 125) 79 0 _ [] M ?_
    intro v4 e4 a4 b4
    have I4 := hI.2.2.2.2.2
    intro v7 e7 a7 b7
    have S7 := pz_shl1 (c := v4) (by first | decide | omega) (by first | decide | omega)
    rw [← e7] at S7
    intro v9 e9 a9 b9
    try rw [pz_wi (by first | decide | omega) (by first | decide | omega)] at e9
    exact L13 _ _ _ _ _ _ _ _ (Nat.lt_succ_self _) hS (by first | decide | omega) (by first | decide | omega) (by first | decide | omega)
theorem v3_X8_findOrder {fr lo i : Nat} {own : String} (h1 : 1 + 1 ≤ fr) (h2 : 8 + (7 + 11) + 21 ≤ lo) (h3 : .methodLink own i yX8_findOrder ∈ lw_tbl) : pz_cV fr lo own i k3_X8_findOrder :=
  pz_cVk (maxL := 7) (fr' := 1) (lo' := 21) 0 8 h3_X8_findOrder rfl ⟨(pz_nhc_RX8 yX8_findOrder rfl).1, (pz_nhc_RX8 yX8_findOrder rfl).2, pz_ds2⟩ ⟨pz_wq1020, pz_wq1018, pz_wq1019, pz_wq12⟩ (Or.inl ⟨TX8, 8, rfl⟩) (fun a M _ h => by
    have h : (match (generalizing := false) a with | [.inr (.inr (8, th))] => pz_ic M | _ => False) := h
    split at h
    · exact ⟨_, _, rfl⟩
    · exact h.elim) h1 h2 h3
noncomputable def k3_X8_plan : pz_C := (3, 0, fun a M => (match a with | [.inr (.inr (8, th)), .inl l, .inr (.inr (10, t))] => pz_ic M ∧ 0 ≤ l | _ => False), fun a M r M' => (match a, r with | [.inr (.inr (8, th)), .inl l, .inr (.inr (10, t))], none => (True) ∧ pq_pr pq_Pk M M' | _, _ => False))
noncomputable abbrev ct3_X8_plan : List (Bool × Nat × pz_C) := [(false, 28, k_J9_min_7cf53), (true, 38, k_X10_phoneFrom), (true, 44, k_X10_phoneTo), (true, 47, k3_X8_findEarliest), (true, 53, k3_X8_findLatest), (true, 56, k3_X8_findOrder)]
set_option maxRecDepth 100000 in
set_option maxHeartbeats 4000000 in
theorem h3_X8_plan : pz_H yX8_plan cX8_plan 4 none k3_X8_plan 3 66 := by
  refine pz_mk (own := RX8) (tb := t_X8_plan) (fl := pz_flf fl_RX8) (ci := fun _ => none) (ct := pz_ctf ct3_X8_plan) (rz := false) (pz_pfc_RX8 yX8_plan rfl) rfl t_X8_plan_ok (pz_flk fl_RX8_ok) (fun i v h => by cases h) ?_ ?_ (rfl) ?_ ?_
  · exact fun i k' h => pz_ctk (l := ct3_X8_plan) (P := fun b i k => b = true → pz_cV 3 66 RX8 i k) (List.forall_mem_cons.mpr ⟨((fun z => by cases z)), List.forall_mem_cons.mpr ⟨(fun _ => v_X10_phoneFrom (by decide) (by decide) pz_wq1005), List.forall_mem_cons.mpr ⟨(fun _ => v_X10_phoneTo (by decide) (by decide) pz_wq1006), List.forall_mem_cons.mpr ⟨(fun _ => v3_X8_findEarliest (by decide) (by decide) pz_wq1007), List.forall_mem_cons.mpr ⟨(fun _ => v3_X8_findLatest (by decide) (by decide) pz_wq1013), List.forall_mem_cons.mpr ⟨(fun _ => v3_X8_findOrder (by decide) (by decide) pz_wq1017), fun _ h => absurd h List.not_mem_nil⟩⟩⟩⟩⟩⟩) true i k' h rfl
  · exact fun i k' h => pz_ctk (l := ct3_X8_plan) (P := fun b i k => b = false → (pz_cS 3 66 RX8 i k ∨ (k = pz_kac ∧ 1 ≤ 3 ∧ 60 ≤ 66 ∧ Cond.methodLink RX8 i arraycopyName ∈ pz_tbl))) (List.forall_mem_cons.mpr ⟨(fun _ => Or.inl (s_J9_min_7cf53 (by decide) (by decide) (Or.inl pz_wq1004))), List.forall_mem_cons.mpr ⟨((fun z => by cases z)), List.forall_mem_cons.mpr ⟨((fun z => by cases z)), List.forall_mem_cons.mpr ⟨((fun z => by cases z)), List.forall_mem_cons.mpr ⟨((fun z => by cases z)), List.forall_mem_cons.mpr ⟨((fun z => by cases z)), fun _ h => absurd h List.not_mem_nil⟩⟩⟩⟩⟩⟩) false i k' h rfl
  · intro a M hlen hpre
    obtain ⟨th, l, t, rfl, hpre⟩ : ∃ th l t, a = [.inr (.inr (8, th)), .inl l, .inr (.inr (10, t))] ∧ (pz_ic M ∧ 0 ≤ l) := by
      have hpre : (match (generalizing := false) a with | [.inr (.inr (8, th)), .inl l, .inr (.inr (10, t))] => pz_ic M ∧ 0 ≤ l | _ => False) := hpre
      split at hpre
      · exact ⟨_, _, _, rfl, hpre⟩
      · exact hpre.elim
    exact Nat.le_of_ble_eq_true rfl
  · intro a M hlen hcan hM hpre Ok hgo
    obtain ⟨th, l, t, rfl, hpre⟩ : ∃ th l t, a = [.inr (.inr (8, th)), .inl l, .inr (.inr (10, t))] ∧ (pz_ic M ∧ 0 ≤ l) := by
      have hpre : (match (generalizing := false) a with | [.inr (.inr (8, th)), .inl l, .inr (.inr (10, t))] => pz_ic M ∧ 0 ≤ l | _ => False) := hpre
      split at hpre
      · exact ⟨_, _, _, rfl, hpre⟩
      · exact hpre.elim
    obtain ⟨k_th, hc_th⟩ := pz_tlm hcan
    have k_th : pz_kd th = 8 ∧ th < 231 := k_th
    have R_th := pz_kd8 k_th.1
    subst R_th
    obtain ⟨k_l, hc_l⟩ := pz_tlm hc_th
    have l_l : -2147483648 ≤ l := k_l.1
    have u_l : l ≤ 2147483647 := k_l.2
    obtain ⟨k_t, hc_t⟩ := pz_tlm hc_l
    have k_t : pz_kd t = 10 ∧ t < 231 := k_t
    have R_t := pz_kd10 k_t.1
    have hI : pz_ic M := hpre.1
    have hI0 := hI
    have hS : pq_pr pq_Pk M M := pq_pr.rf
    have L25 : ∀ (fu : Nat) (x3 : Int) (N25 : pz_M), (12 - x3).toNat < fu → (pq_pr pq_Pk M N25) → (0 ≤ x3) → Ok 25 [some (.inr (.inr (8, 7))), some (.inl l), some (.inr (.inr (10, t))), some (.inl x3)] [] N25 := by
      intro fu
      induction fu with
      | zero => exact fun _ _ hn => absurd hn (Nat.not_lt_zero _)
      | succ fu ih25 =>
        intro x3 N25 hn25 hS g25_1
        have hI : pz_ic N25 := hS.1 hI0
        refine hgo (fun p => Nat.beq p 25) 47 25 _ _ _ ?_
        intro v27 e27 a27 b27
        have I27 := hI.2.2.2.2.2
        refine And.intro (fun h30 => ?_) (fun h30 => ?_)
        · skip
          refine And.intro (hI) ?_
          intro M62 q62
          obtain ⟨q62, z62⟩ := q62
          have hS : pq_pr pq_Pk M M62 := hS.tr z62
          have hI : pz_ic M62 := hS.1 hI0
          intro v66 e66 a66 b66
          refine And.intro (fun h70 => ?_) (fun h70 => ?_)
          · skip
            refine And.intro rfl ?_
            exact ⟨trivial, hS⟩
          · skip
            refine And.intro (hI) ?_
            intro M74 q74
            obtain ⟨q74, z74⟩ := q74
            have hS : pq_pr pq_Pk M M74 := hS.tr z74
            have hI : pz_ic M74 := hS.1 hI0
            refine And.intro (hI) ?_
            intro M78 q78
            obtain ⟨q78, z78⟩ := q78
            have hS : pq_pr pq_Pk M M78 := hS.tr z78
            have hI : pz_ic M78 := hS.1 hI0
            refine And.intro rfl ?_
            exact ⟨trivial, hS⟩
        · skip
          intro r34 e34 k34
          have R34 := pz_kdA k34 (by decide) (by decide)
          have Q34 := pz_nm e34 k_th.1 (by decide) (by decide) rfl
          have W34 : r34 = 56 := e34
          refine And.intro (hI) ?_
          intro v40 M40 a40 b40 q40
          obtain ⟨q40, z40⟩ := q40
          subst z40
          have lo43 : (0 : Int) ≤ x3 := by omega
          have tn43 : (((x3).toNat : Nat) : Int) = x3 := Int.toNat_of_nonneg lo43
          refine And.intro (lo43) (And.intro (show _ < (12 : Int) from by omega) ?_)
          intro M43 e43
          have hS : pq_pr pq_Pk M M43 := by
            rw [e43]
            exact pq_pr_u hS (by unfold pq_Pk pq_Pw; first | decide | omega) (by unfold pz_iok; first | decide | omega)
          have hI : pz_ic M43 := hS.1 hI0
          intro r45 e45 k45
          have R45 := pz_kdA k45 (by decide) (by decide)
          have Q45 := pz_nm e45 k_th.1 (by decide) (by decide) rfl
          have W45 : r45 = 57 := e45
          refine And.intro (hI) ?_
          intro v51 M51 a51 b51 q51
          obtain ⟨q51, z51⟩ := q51
          subst z51
          refine And.intro (lo43) (And.intro (show _ < (12 : Int) from by omega) ?_)
          intro M54 e54
          have hS : pq_pr pq_Pk M M54 := by
            rw [e54]
            exact pq_pr_u hS (by unfold pq_Pk pq_Pw; first | decide | omega) (by unfold pz_iok; first | decide | omega)
          have hI : pz_ic M54 := hS.1 hI0
          intro v55 e55 a55 b55
          try rw [pz_wi (by first | decide | omega) (by first | decide | omega)] at e55
          exact ih25 _ _ (by first | decide | omega) hS (by first | decide | omega)
    refine hgo (fun p => Nat.beq p 25) 47 0 _ [] M ?_
    intro v1 e1 a1 b1
    refine And.intro (fun h4 => ?_) (fun h4 => ?_)
    · skip
      refine And.intro (by first | decide | omega) ?_
      intro M10 e10
      have hS : pq_pr pq_Pk M M10 := by
        rw [e10]
        exact pq_pr_u hS (by unfold pq_Pk pq_Pw; first | decide | omega) (by unfold pz_iok; first | decide | omega)
      have hI : pz_ic M10 := hS.1 hI0
      refine And.intro (True.intro) ?_
      intro v17 M17 a17 b17 q17
      obtain ⟨q17, z17⟩ := q17
      subst z17
      intro M20 e20
      have hS : pq_pr pq_Pk M M20 := by
        rw [e20]
        exact pq_pr_u hS (by unfold pq_Pk pq_Pw; first | decide | omega) (by unfold pz_iok; first | decide | omega)
      have hI : pz_ic M20 := hS.1 hI0
      exact L25 _ _ _ (Nat.lt_succ_self _) hS (by first | decide | omega)
    · skip
      refine And.intro rfl ?_
      exact ⟨trivial, hS⟩
theorem v3_X8_plan {fr lo i : Nat} {own : String} (h1 : 3 + 1 ≤ fr) (h2 : 8 + (4 + 11) + 66 ≤ lo) (h3 : .methodLink own i yX8_plan ∈ lw_tbl) : pz_cV fr lo own i k3_X8_plan :=
  pz_cVk (maxL := 4) (fr' := 3) (lo' := 66) 2 8 h3_X8_plan rfl ⟨(pz_nhc_RX8 yX8_plan rfl).1, (pz_nhc_RX8 yX8_plan rfl).2, pz_ds27⟩ ⟨pz_wq1003, pz_wq1001, pz_wq1002, pz_wq12⟩ (Or.inl ⟨TX8, 8, rfl⟩) (fun a M _ h => by
    have h : (match (generalizing := false) a with | [.inr (.inr (8, th)), .inl l, .inr (.inr (10, t))] => pz_ic M ∧ 0 ≤ l | _ => False) := h
    split at h
    · exact ⟨_, _, rfl⟩
    · exact h.elim) h1 h2 h3
noncomputable def k3_X11_odds : pz_C := (2, 1, fun a M => (match a with | [.inr (.inr (11, th)), .inl d] => pz_ic M | _ => False), fun a M r M' => (match a, r with | [.inr (.inr (11, th)), .inl d], some (.inl v) => (True) ∧ pq_pr pq_Pk M M' | _, _ => False))
noncomputable abbrev ct3_X11_odds : List (Bool × Nat × pz_C) := [(false, 137, k_X11_within), (true, 255, k3_X4_reckon), (true, 258, k_X4_oddsOf)]
set_option maxRecDepth 100000 in
set_option maxHeartbeats 4000000 in
theorem h3_X11_odds : pz_H yX11_odds cX11_odds 2 (some .int) k3_X11_odds 5 120 := by
  refine pz_mk (own := RX11) (tb := t_X11_odds) (fl := pz_flf fl_RX11) (ci := pz_cif ci_RX11) (ct := pz_ctf ct3_X11_odds) (rz := false) (pz_pfc_RX11 yX11_odds rfl) rfl t_X11_odds_ok (pz_flk fl_RX11_ok) (pz_cik ci_RX11_ok) ?_ ?_ (Or.inl ⟨rfl, rfl⟩) ?_ ?_
  · exact fun i k' h => pz_ctk (l := ct3_X11_odds) (P := fun b i k => b = true → pz_cV 5 120 RX11 i k) (List.forall_mem_cons.mpr ⟨((fun z => by cases z)), List.forall_mem_cons.mpr ⟨(fun _ => v3_X4_reckon (by decide) (by decide) pz_wq884), List.forall_mem_cons.mpr ⟨(fun _ => v_X4_oddsOf (by decide) (by decide) pz_wq896), fun _ h => absurd h List.not_mem_nil⟩⟩⟩) true i k' h rfl
  · exact fun i k' h => pz_ctk (l := ct3_X11_odds) (P := fun b i k => b = false → (pz_cS 5 120 RX11 i k ∨ (k = pz_kac ∧ 1 ≤ 5 ∧ 60 ≤ 120 ∧ Cond.methodLink RX11 i arraycopyName ∈ pz_tbl))) (List.forall_mem_cons.mpr ⟨(fun _ => Or.inl (s_X11_within (by decide) (by decide) (Or.inl pz_wq425))), List.forall_mem_cons.mpr ⟨((fun z => by cases z)), List.forall_mem_cons.mpr ⟨((fun z => by cases z)), fun _ h => absurd h List.not_mem_nil⟩⟩⟩) false i k' h rfl
  · intro a M hlen hpre
    obtain ⟨th, d, rfl, hpre⟩ : ∃ th d, a = [.inr (.inr (11, th)), .inl d] ∧ (pz_ic M) := by
      have hpre : (match (generalizing := false) a with | [.inr (.inr (11, th)), .inl d] => pz_ic M | _ => False) := hpre
      split at hpre
      · exact ⟨_, _, rfl, hpre⟩
      · exact hpre.elim
    exact Nat.le_of_ble_eq_true rfl
  · intro a M hlen hcan hM hpre Ok hgo
    obtain ⟨th, d, rfl, hpre⟩ : ∃ th d, a = [.inr (.inr (11, th)), .inl d] ∧ (pz_ic M) := by
      have hpre : (match (generalizing := false) a with | [.inr (.inr (11, th)), .inl d] => pz_ic M | _ => False) := hpre
      split at hpre
      · exact ⟨_, _, rfl, hpre⟩
      · exact hpre.elim
    obtain ⟨k_th, hc_th⟩ := pz_tlm hcan
    have k_th : pz_kd th = 11 ∧ th < 231 := k_th
    have R_th := pz_kd11 k_th.1
    subst R_th
    obtain ⟨k_d, hc_d⟩ := pz_tlm hc_th
    have l_d : -2147483648 ≤ d := k_d.1
    have u_d : d ≤ 2147483647 := k_d.2
    have hI : pz_ic M := hpre
    have hI0 := hI
    have hS : pq_pr pq_Pk M M := pq_pr.rf
    refine hgo (fun _ => false) 27 0 _ [] M ?_
    refine And.intro (True.intro) ?_
    intro v4 M4 a4 b4 q4
    obtain ⟨q4, z4⟩ := q4
    subst z4
    refine And.intro (fun h7 => ?_) (fun h7 => ?_)
    · skip
      intro r13 e13 k13
      have R13 := pz_kd4 k13
      intro r17 e17 k17
      have R17 := pz_kd0 k17
      refine And.intro (hI) ?_
      intro M21 q21
      obtain ⟨q21, z21⟩ := q21
      have hS : pq_pr pq_Pk M M21 := hS.tr z21
      have hI : pz_ic M21 := hS.1 hI0
      intro r25 e25 k25
      have R25 := pz_kd4 k25
      intro r29 e29 k29
      have R29 := pz_kd0 k29
      intro r34 e34 k34
      have R34 := pz_kd0 k34
      intro v37 e37 a37 b37
      have I37 := hI.1 r34 (by first | decide | omega) (by first | decide | omega)
      intro v41 e41 a41 b41
      try rw [pz_wi (by first | decide | omega) (by first | decide | omega)] at e41
      refine And.intro (And.intro hI (by first | decide | omega)) ?_
      intro v42 M42 a42 b42 q42
      obtain ⟨q42, z42⟩ := q42
      subst z42
      refine And.intro rfl ?_
      exact ⟨trivial, hS⟩
    · skip
      refine And.intro rfl ?_
      exact ⟨trivial, hS⟩
theorem v3_X11_odds {fr lo i : Nat} {own : String} (h1 : 5 + 1 ≤ fr) (h2 : 8 + (2 + 11) + 120 ≤ lo) (h3 : .methodLink own i yX11_odds ∈ lw_tbl) : pz_cV fr lo own i k3_X11_odds :=
  pz_cVk (maxL := 2) (fr' := 5) (lo' := 120) 1 11 h3_X11_odds rfl ⟨(pz_nhc_RX11 yX11_odds rfl).1, (pz_nhc_RX11 yX11_odds rfl).2, pz_ds5⟩ ⟨pz_wq883, pz_wq881, pz_wq882, pz_wq1⟩ (Or.inl ⟨TX11, 14, rfl⟩) (fun a M _ h => by
    have h : (match (generalizing := false) a with | [.inr (.inr (11, th)), .inl d] => pz_ic M | _ => False) := h
    split at h
    · exact ⟨_, _, rfl⟩
    · exact h.elim) h1 h2 h3
noncomputable def k3_X11_holds : pz_C := (3, 1, fun a M => (match a with | [.inr (.inr (11, th)), .inl d, .inl w] => pz_ic M | _ => False), fun a M r M' => (match a, r with | [.inr (.inr (11, th)), .inl d, .inl w], some (.inl v) => (True) ∧ pq_pr pq_Pk M M' | _, _ => False))
noncomputable abbrev ct3_X11_holds : List (Bool × Nat × pz_C) := [(false, 137, k_X11_within), (true, 255, k3_X4_reckon), (true, 261, k_X4_holder), (true, 264, k_X4_chanceOf)]
set_option maxRecDepth 100000 in
set_option maxHeartbeats 4000000 in
theorem h3_X11_holds : pz_H yX11_holds cX11_holds 4 (some .int) k3_X11_holds 5 120 := by
  refine pz_mk (own := RX11) (tb := t_X11_holds) (fl := pz_flf fl_RX11) (ci := pz_cif ci_RX11) (ct := pz_ctf ct3_X11_holds) (rz := false) (pz_pfc_RX11 yX11_holds rfl) rfl t_X11_holds_ok (pz_flk fl_RX11_ok) (pz_cik ci_RX11_ok) ?_ ?_ (Or.inl ⟨rfl, rfl⟩) ?_ ?_
  · exact fun i k' h => pz_ctk (l := ct3_X11_holds) (P := fun b i k => b = true → pz_cV 5 120 RX11 i k) (List.forall_mem_cons.mpr ⟨((fun z => by cases z)), List.forall_mem_cons.mpr ⟨(fun _ => v3_X4_reckon (by decide) (by decide) pz_wq884), List.forall_mem_cons.mpr ⟨(fun _ => v_X4_holder (by decide) (by decide) pz_wq917), List.forall_mem_cons.mpr ⟨(fun _ => v_X4_chanceOf (by decide) (by decide) pz_wq921), fun _ h => absurd h List.not_mem_nil⟩⟩⟩⟩) true i k' h rfl
  · exact fun i k' h => pz_ctk (l := ct3_X11_holds) (P := fun b i k => b = false → (pz_cS 5 120 RX11 i k ∨ (k = pz_kac ∧ 1 ≤ 5 ∧ 60 ≤ 120 ∧ Cond.methodLink RX11 i arraycopyName ∈ pz_tbl))) (List.forall_mem_cons.mpr ⟨(fun _ => Or.inl (s_X11_within (by decide) (by decide) (Or.inl pz_wq425))), List.forall_mem_cons.mpr ⟨((fun z => by cases z)), List.forall_mem_cons.mpr ⟨((fun z => by cases z)), List.forall_mem_cons.mpr ⟨((fun z => by cases z)), fun _ h => absurd h List.not_mem_nil⟩⟩⟩⟩) false i k' h rfl
  · intro a M hlen hpre
    obtain ⟨th, d, w, rfl, hpre⟩ : ∃ th d w, a = [.inr (.inr (11, th)), .inl d, .inl w] ∧ (pz_ic M) := by
      have hpre : (match (generalizing := false) a with | [.inr (.inr (11, th)), .inl d, .inl w] => pz_ic M | _ => False) := hpre
      split at hpre
      · exact ⟨_, _, _, rfl, hpre⟩
      · exact hpre.elim
    exact Nat.le_of_ble_eq_true rfl
  · intro a M hlen hcan hM hpre Ok hgo
    obtain ⟨th, d, w, rfl, hpre⟩ : ∃ th d w, a = [.inr (.inr (11, th)), .inl d, .inl w] ∧ (pz_ic M) := by
      have hpre : (match (generalizing := false) a with | [.inr (.inr (11, th)), .inl d, .inl w] => pz_ic M | _ => False) := hpre
      split at hpre
      · exact ⟨_, _, _, rfl, hpre⟩
      · exact hpre.elim
    obtain ⟨k_th, hc_th⟩ := pz_tlm hcan
    have k_th : pz_kd th = 11 ∧ th < 231 := k_th
    have R_th := pz_kd11 k_th.1
    subst R_th
    obtain ⟨k_d, hc_d⟩ := pz_tlm hc_th
    have l_d : -2147483648 ≤ d := k_d.1
    have u_d : d ≤ 2147483647 := k_d.2
    obtain ⟨k_w, hc_w⟩ := pz_tlm hc_d
    have l_w : -2147483648 ≤ w := k_w.1
    have u_w : w ≤ 2147483647 := k_w.2
    have hI : pz_ic M := hpre
    have hI0 := hI
    have hS : pq_pr pq_Pk M M := pq_pr.rf
    refine hgo (fun _ => false) 38 0 _ [] M ?_
    refine And.intro (True.intro) ?_
    intro v4 M4 a4 b4 q4
    obtain ⟨q4, z4⟩ := q4
    subst z4
    refine And.intro (fun h7 => ?_) (fun h7 => ?_)
    · skip
      refine And.intro rfl ?_
      exact ⟨trivial, hS⟩
    · skip
      refine And.intro (True.intro) ?_
      intro v13 M13 a13 b13 q13
      obtain ⟨q13, z13⟩ := q13
      subst z13
      refine And.intro (fun h16 => ?_) (fun h16 => ?_)
      · skip
        intro r22 e22 k22
        have R22 := pz_kd4 k22
        intro r26 e26 k26
        have R26 := pz_kd0 k26
        refine And.intro (hI) ?_
        intro M30 q30
        obtain ⟨q30, z30⟩ := q30
        have hS : pq_pr pq_Pk M M30 := hS.tr z30
        have hI : pz_ic M30 := hS.1 hI0
        intro r34 e34 k34
        have R34 := pz_kd4 k34
        intro r38 e38 k38
        have R38 := pz_kd0 k38
        refine And.intro (hI) ?_
        intro v41 M41 a41 b41 q41
        obtain ⟨q41, z41⟩ := q41
        subst z41
        refine And.intro (fun h47 => ?_) (fun h47 => ?_)
        · skip
          refine And.intro rfl ?_
          exact ⟨trivial, hS⟩
        · skip
          refine And.intro (fun h51 => ?_) (fun h51 => ?_)
          · skip
            intro r59 e59 k59
            have R59 := pz_kd4 k59
            refine And.intro (True.intro) ?_
            intro v63 M63 a63 b63 q63
            obtain ⟨q63, z63⟩ := q63
            subst z63
            refine And.intro rfl ?_
            exact ⟨trivial, hS⟩
          · skip
            refine And.intro rfl ?_
            exact ⟨trivial, hS⟩
      · skip
        refine And.intro rfl ?_
        exact ⟨trivial, hS⟩
theorem v3_X11_holds {fr lo i : Nat} {own : String} (h1 : 5 + 1 ≤ fr) (h2 : 8 + (4 + 11) + 120 ≤ lo) (h3 : .methodLink own i yX11_holds ∈ lw_tbl) : pz_cV fr lo own i k3_X11_holds :=
  pz_cVk (maxL := 4) (fr' := 5) (lo' := 120) 2 11 h3_X11_holds rfl ⟨(pz_nhc_RX11 yX11_holds rfl).1, (pz_nhc_RX11 yX11_holds rfl).2, pz_ds10⟩ ⟨pz_wq916, pz_wq914, pz_wq915, pz_wq1⟩ (Or.inl ⟨TX11, 14, rfl⟩) (fun a M _ h => by
    have h : (match (generalizing := false) a with | [.inr (.inr (11, th)), .inl d, .inl w] => pz_ic M | _ => False) := h
    split at h
    · exact ⟨_, _, rfl⟩
    · exact h.elim) h1 h2 h3
noncomputable def k3_X11_bridges : pz_C := (4, 1, fun a M => (match a with | [.inr (.inr (11, th)), .inl d, .inl h, .inl w] => pz_ic M | _ => False), fun a M r M' => (match a, r with | [.inr (.inr (11, th)), .inl d, .inl h, .inl w], some (.inl v) => (True) ∧ pq_pr pq_Pk M M' | _, _ => False))
noncomputable abbrev ct3_X11_bridges : List (Bool × Nat × pz_C) := [(false, 137, k_X11_within), (true, 255, k3_X4_reckon), (true, 276, k3_X4_cheapestBridges), (true, 280, k_X4_costOf)]
set_option maxRecDepth 100000 in
set_option maxHeartbeats 4000000 in
theorem h3_X11_bridges : pz_H yX11_bridges cX11_bridges 5 (some .int) k3_X11_bridges 5 120 := by
  refine pz_mk (own := RX11) (tb := t_X11_bridges) (fl := pz_flf fl_RX11) (ci := pz_cif ci_RX11) (ct := pz_ctf ct3_X11_bridges) (rz := false) (pz_pfc_RX11 yX11_bridges rfl) rfl t_X11_bridges_ok (pz_flk fl_RX11_ok) (pz_cik ci_RX11_ok) ?_ ?_ (Or.inl ⟨rfl, rfl⟩) ?_ ?_
  · exact fun i k' h => pz_ctk (l := ct3_X11_bridges) (P := fun b i k => b = true → pz_cV 5 120 RX11 i k) (List.forall_mem_cons.mpr ⟨((fun z => by cases z)), List.forall_mem_cons.mpr ⟨(fun _ => v3_X4_reckon (by decide) (by decide) pz_wq884), List.forall_mem_cons.mpr ⟨(fun _ => v3_X4_cheapestBridges (by decide) (by decide) pz_wq936), List.forall_mem_cons.mpr ⟨(fun _ => v_X4_costOf (by decide) (by decide) pz_wq960), fun _ h => absurd h List.not_mem_nil⟩⟩⟩⟩) true i k' h rfl
  · exact fun i k' h => pz_ctk (l := ct3_X11_bridges) (P := fun b i k => b = false → (pz_cS 5 120 RX11 i k ∨ (k = pz_kac ∧ 1 ≤ 5 ∧ 60 ≤ 120 ∧ Cond.methodLink RX11 i arraycopyName ∈ pz_tbl))) (List.forall_mem_cons.mpr ⟨(fun _ => Or.inl (s_X11_within (by decide) (by decide) (Or.inl pz_wq425))), List.forall_mem_cons.mpr ⟨((fun z => by cases z)), List.forall_mem_cons.mpr ⟨((fun z => by cases z)), List.forall_mem_cons.mpr ⟨((fun z => by cases z)), fun _ h => absurd h List.not_mem_nil⟩⟩⟩⟩) false i k' h rfl
  · intro a M hlen hpre
    obtain ⟨th, d, h, w, rfl, hpre⟩ : ∃ th d h w, a = [.inr (.inr (11, th)), .inl d, .inl h, .inl w] ∧ (pz_ic M) := by
      have hpre : (match (generalizing := false) a with | [.inr (.inr (11, th)), .inl d, .inl h, .inl w] => pz_ic M | _ => False) := hpre
      split at hpre
      · exact ⟨_, _, _, _, rfl, hpre⟩
      · exact hpre.elim
    exact Nat.le_of_ble_eq_true rfl
  · intro a M hlen hcan hM hpre Ok hgo
    obtain ⟨th, d, h, w, rfl, hpre⟩ : ∃ th d h w, a = [.inr (.inr (11, th)), .inl d, .inl h, .inl w] ∧ (pz_ic M) := by
      have hpre : (match (generalizing := false) a with | [.inr (.inr (11, th)), .inl d, .inl h, .inl w] => pz_ic M | _ => False) := hpre
      split at hpre
      · exact ⟨_, _, _, _, rfl, hpre⟩
      · exact hpre.elim
    obtain ⟨k_th, hc_th⟩ := pz_tlm hcan
    have k_th : pz_kd th = 11 ∧ th < 231 := k_th
    have R_th := pz_kd11 k_th.1
    subst R_th
    obtain ⟨k_d, hc_d⟩ := pz_tlm hc_th
    have l_d : -2147483648 ≤ d := k_d.1
    have u_d : d ≤ 2147483647 := k_d.2
    obtain ⟨k_h, hc_h⟩ := pz_tlm hc_d
    have l_h : -2147483648 ≤ h := k_h.1
    have u_h : h ≤ 2147483647 := k_h.2
    obtain ⟨k_w, hc_w⟩ := pz_tlm hc_h
    have l_w : -2147483648 ≤ w := k_w.1
    have u_w : w ≤ 2147483647 := k_w.2
    have hI : pz_ic M := hpre
    have hI0 := hI
    have hS : pq_pr pq_Pk M M := pq_pr.rf
    refine hgo (fun _ => false) 49 0 _ [] M ?_
    refine And.intro (True.intro) ?_
    intro v4 M4 a4 b4 q4
    obtain ⟨q4, z4⟩ := q4
    subst z4
    refine And.intro (fun h7 => ?_) (fun h7 => ?_)
    · skip
      refine And.intro rfl ?_
      exact ⟨trivial, hS⟩
    · skip
      refine And.intro (True.intro) ?_
      intro v15 M15 a15 b15 q15
      obtain ⟨q15, z15⟩ := q15
      subst z15
      refine And.intro (fun h18 => ?_) (fun h18 => ?_)
      · skip
        refine And.intro rfl ?_
        exact ⟨trivial, hS⟩
      · skip
        refine And.intro (True.intro) ?_
        intro v24 M24 a24 b24 q24
        obtain ⟨q24, z24⟩ := q24
        subst z24
        refine And.intro (fun h27 => ?_) (fun h27 => ?_)
        · skip
          intro r33 e33 k33
          have R33 := pz_kd4 k33
          intro r37 e37 k37
          have R37 := pz_kd0 k37
          refine And.intro (hI) ?_
          intro M41 q41
          obtain ⟨q41, z41⟩ := q41
          have hS : pq_pr pq_Pk M M41 := hS.tr z41
          have hI : pz_ic M41 := hS.1 hI0
          intro r45 e45 k45
          have R45 := pz_kd4 k45
          intro r49 e49 k49
          have R49 := pz_kd0 k49
          refine And.intro (hI) ?_
          intro v53 M53 a53 b53 q53
          obtain ⟨q53, z53⟩ := q53
          have hS : pq_pr pq_Pk M M53 := hS.tr z53
          have hI : pz_ic M53 := hS.1 hI0
          refine And.intro (fun h61 => ?_) (fun h61 => ?_)
          · skip
            refine And.intro rfl ?_
            exact ⟨trivial, hS⟩
          · skip
            refine And.intro (fun h66 => ?_) (fun h66 => ?_)
            · skip
              intro r76 e76 k76
              have R76 := pz_kd4 k76
              intro r80 e80 k80
              have R80 := pz_kd0 k80
              refine And.intro (hI) ?_
              intro v85 M85 a85 b85 q85
              obtain ⟨q85, z85⟩ := q85
              subst z85
              intro v88 e88 a88 b88
              try rw [pz_wi (by first | decide | omega) (by first | decide | omega)] at e88
              refine And.intro rfl ?_
              exact ⟨trivial, hS⟩
            · skip
              refine And.intro rfl ?_
              exact ⟨trivial, hS⟩
        · skip
          refine And.intro rfl ?_
          exact ⟨trivial, hS⟩
theorem v3_X11_bridges {fr lo i : Nat} {own : String} (h1 : 5 + 1 ≤ fr) (h2 : 8 + (5 + 11) + 120 ≤ lo) (h3 : .methodLink own i yX11_bridges ∈ lw_tbl) : pz_cV fr lo own i k3_X11_bridges :=
  pz_cVk (maxL := 5) (fr' := 5) (lo' := 120) 3 11 h3_X11_bridges rfl ⟨(pz_nhc_RX11 yX11_bridges rfl).1, (pz_nhc_RX11 yX11_bridges rfl).2, pz_ds14⟩ ⟨pz_wq935, pz_wq933, pz_wq934, pz_wq1⟩ (Or.inl ⟨TX11, 14, rfl⟩) (fun a M _ h => by
    have h : (match (generalizing := false) a with | [.inr (.inr (11, th)), .inl d, .inl h, .inl w] => pz_ic M | _ => False) := h
    split at h
    · exact ⟨_, _, rfl⟩
    · exact h.elim) h1 h2 h3
noncomputable def k3_X11_signs : pz_C := (2, 1, fun a M => (match a with | [.inr (.inr (11, th)), .inl w] => pz_ic M | _ => False), fun a M r M' => (match a, r with | [.inr (.inr (11, th)), .inl w], some (.inl v) => (True) ∧ pq_pr pq_Pk M M' | _, _ => False))
noncomputable abbrev ct3_X11_signs : List (Bool × Nat × pz_C) := [(true, 309, k3_X8_plan), (false, 137, k_X11_within), (true, 319, k_X8_signer)]
set_option maxRecDepth 100000 in
set_option maxHeartbeats 4000000 in
theorem h3_X11_signs : pz_H yX11_signs cX11_signs 2 (some .int) k3_X11_signs 4 89 := by
  refine pz_mk (own := RX11) (tb := t_X11_signs) (fl := pz_flf fl_RX11) (ci := pz_cif ci_RX11) (ct := pz_ctf ct3_X11_signs) (rz := false) (pz_pfc_RX11 yX11_signs rfl) rfl t_X11_signs_ok (pz_flk fl_RX11_ok) (pz_cik ci_RX11_ok) ?_ ?_ (Or.inl ⟨rfl, rfl⟩) ?_ ?_
  · exact fun i k' h => pz_ctk (l := ct3_X11_signs) (P := fun b i k => b = true → pz_cV 4 89 RX11 i k) (List.forall_mem_cons.mpr ⟨(fun _ => v3_X8_plan (by decide) (by decide) pz_wq1000), List.forall_mem_cons.mpr ⟨((fun z => by cases z)), List.forall_mem_cons.mpr ⟨(fun _ => v_X8_signer (by decide) (by decide) pz_wq1021), fun _ h => absurd h List.not_mem_nil⟩⟩⟩) true i k' h rfl
  · exact fun i k' h => pz_ctk (l := ct3_X11_signs) (P := fun b i k => b = false → (pz_cS 4 89 RX11 i k ∨ (k = pz_kac ∧ 1 ≤ 4 ∧ 60 ≤ 89 ∧ Cond.methodLink RX11 i arraycopyName ∈ pz_tbl))) (List.forall_mem_cons.mpr ⟨((fun z => by cases z)), List.forall_mem_cons.mpr ⟨(fun _ => Or.inl (s_X11_within (by decide) (by decide) (Or.inl pz_wq425))), List.forall_mem_cons.mpr ⟨((fun z => by cases z)), fun _ h => absurd h List.not_mem_nil⟩⟩⟩) false i k' h rfl
  · intro a M hlen hpre
    obtain ⟨th, w, rfl, hpre⟩ : ∃ th w, a = [.inr (.inr (11, th)), .inl w] ∧ (pz_ic M) := by
      have hpre : (match (generalizing := false) a with | [.inr (.inr (11, th)), .inl w] => pz_ic M | _ => False) := hpre
      split at hpre
      · exact ⟨_, _, rfl, hpre⟩
      · exact hpre.elim
    exact Nat.le_of_ble_eq_true rfl
  · intro a M hlen hcan hM hpre Ok hgo
    obtain ⟨th, w, rfl, hpre⟩ : ∃ th w, a = [.inr (.inr (11, th)), .inl w] ∧ (pz_ic M) := by
      have hpre : (match (generalizing := false) a with | [.inr (.inr (11, th)), .inl w] => pz_ic M | _ => False) := hpre
      split at hpre
      · exact ⟨_, _, rfl, hpre⟩
      · exact hpre.elim
    obtain ⟨k_th, hc_th⟩ := pz_tlm hcan
    have k_th : pz_kd th = 11 ∧ th < 231 := k_th
    have R_th := pz_kd11 k_th.1
    subst R_th
    obtain ⟨k_w, hc_w⟩ := pz_tlm hc_th
    have l_w : -2147483648 ≤ w := k_w.1
    have u_w : w ≤ 2147483647 := k_w.2
    have hI : pz_ic M := hpre
    have hI0 := hI
    have hS : pq_pr pq_Pk M M := pq_pr.rf
    refine hgo (fun _ => false) 37 0 _ [] M ?_
    intro r1 e1 k1
    have R1 := pz_kd8 k1
    intro r5 e5 k5
    have R5 := pz_kd0 k5
    intro v8 e8 a8 b8
    have I8 := hI.1 r5 (by first | decide | omega) (by first | decide | omega)
    intro r12 e12 k12
    have R12 := pz_kd10 k12
    refine And.intro (And.intro hI (by first | decide | omega)) ?_
    intro M15 q15
    obtain ⟨q15, z15⟩ := q15
    have hS : pq_pr pq_Pk M M15 := hS.tr z15
    have hI : pz_ic M15 := hS.1 hI0
    refine And.intro (fun h20 => ?_) (fun h20 => ?_)
    · skip
      refine And.intro (fun h32 => ?_) (fun h32 => ?_)
      · skip
        refine And.intro (True.intro) ?_
        intro v48 M48 a48 b48 q48
        obtain ⟨q48, z48⟩ := q48
        subst z48
        refine And.intro (fun h51 => ?_) (fun h51 => ?_)
        · skip
          refine And.intro rfl ?_
          exact ⟨trivial, hS⟩
        · skip
          intro r55 e55 k55
          have R55 := pz_kd8 k55
          intro v61 e61 a61 b61
          try rw [pz_wi (by first | decide | omega) (by first | decide | omega)] at e61
          refine And.intro (hI) ?_
          intro v62 M62 a62 b62 q62
          obtain ⟨q62, z62⟩ := q62
          subst z62
          refine And.intro rfl ?_
          exact ⟨trivial, hS⟩
      · skip
        intro r36 e36 k36
        have R36 := pz_kd8 k36
        intro v39 e39 a39 b39
        refine And.intro rfl ?_
        exact ⟨trivial, hS⟩
    · skip
      intro r24 e24 k24
      have R24 := pz_kd8 k24
      intro v27 e27 a27 b27
      refine And.intro rfl ?_
      exact ⟨trivial, hS⟩
theorem v3_X11_signs {fr lo i : Nat} {own : String} (h1 : 4 + 1 ≤ fr) (h2 : 8 + (2 + 11) + 89 ≤ lo) (h3 : .methodLink own i yX11_signs ∈ lw_tbl) : pz_cV fr lo own i k3_X11_signs :=
  pz_cVk (maxL := 2) (fr' := 4) (lo' := 89) 1 11 h3_X11_signs rfl ⟨(pz_nhc_RX11 yX11_signs rfl).1, (pz_nhc_RX11 yX11_signs rfl).2, pz_ds5⟩ ⟨pz_wq999, pz_wq997, pz_wq998, pz_wq1⟩ (Or.inl ⟨TX11, 14, rfl⟩) (fun a M _ h => by
    have h : (match (generalizing := false) a with | [.inr (.inr (11, th)), .inl w] => pz_ic M | _ => False) := h
    split at h
    · exact ⟨_, _, rfl⟩
    · exact h.elim) h1 h2 h3
noncomputable def k3_X11_soon : pz_C := (2, 1, fun a M => (match a with | [.inr (.inr (11, th)), .inl h] => pz_ic M | _ => False), fun a M r M' => (match a, r with | [.inr (.inr (11, th)), .inl h], some (.inl v) => (True) ∧ pq_pr pq_Pk M M' | _, _ => False))
noncomputable abbrev ct3_X11_soon : List (Bool × Nat × pz_C) := [(false, 137, k_X11_within), (true, 255, k3_X4_reckon), (true, 331, k3_X4_oneDayMore), (true, 258, k_X4_oddsOf)]
set_option maxRecDepth 100000 in
set_option maxHeartbeats 4000000 in
theorem h3_X11_soon : pz_H yX11_soon cX11_soon 3 (some .int) k3_X11_soon 5 120 := by
  refine pz_mk (own := RX11) (tb := t_X11_soon) (fl := pz_flf fl_RX11) (ci := pz_cif ci_RX11) (ct := pz_ctf ct3_X11_soon) (rz := false) (pz_pfc_RX11 yX11_soon rfl) rfl t_X11_soon_ok (pz_flk fl_RX11_ok) (pz_cik ci_RX11_ok) ?_ ?_ (Or.inl ⟨rfl, rfl⟩) ?_ ?_
  · exact fun i k' h => pz_ctk (l := ct3_X11_soon) (P := fun b i k => b = true → pz_cV 5 120 RX11 i k) (List.forall_mem_cons.mpr ⟨((fun z => by cases z)), List.forall_mem_cons.mpr ⟨(fun _ => v3_X4_reckon (by decide) (by decide) pz_wq884), List.forall_mem_cons.mpr ⟨(fun _ => v3_X4_oneDayMore (by decide) (by decide) pz_wq1061), List.forall_mem_cons.mpr ⟨(fun _ => v_X4_oddsOf (by decide) (by decide) pz_wq896), fun _ h => absurd h List.not_mem_nil⟩⟩⟩⟩) true i k' h rfl
  · exact fun i k' h => pz_ctk (l := ct3_X11_soon) (P := fun b i k => b = false → (pz_cS 5 120 RX11 i k ∨ (k = pz_kac ∧ 1 ≤ 5 ∧ 60 ≤ 120 ∧ Cond.methodLink RX11 i arraycopyName ∈ pz_tbl))) (List.forall_mem_cons.mpr ⟨(fun _ => Or.inl (s_X11_within (by decide) (by decide) (Or.inl pz_wq425))), List.forall_mem_cons.mpr ⟨((fun z => by cases z)), List.forall_mem_cons.mpr ⟨((fun z => by cases z)), List.forall_mem_cons.mpr ⟨((fun z => by cases z)), fun _ h => absurd h List.not_mem_nil⟩⟩⟩⟩) false i k' h rfl
  · intro a M hlen hpre
    obtain ⟨th, h, rfl, hpre⟩ : ∃ th h, a = [.inr (.inr (11, th)), .inl h] ∧ (pz_ic M) := by
      have hpre : (match (generalizing := false) a with | [.inr (.inr (11, th)), .inl h] => pz_ic M | _ => False) := hpre
      split at hpre
      · exact ⟨_, _, rfl, hpre⟩
      · exact hpre.elim
    exact Nat.le_of_ble_eq_true rfl
  · intro a M hlen hcan hM hpre Ok hgo
    obtain ⟨th, h, rfl, hpre⟩ : ∃ th h, a = [.inr (.inr (11, th)), .inl h] ∧ (pz_ic M) := by
      have hpre : (match (generalizing := false) a with | [.inr (.inr (11, th)), .inl h] => pz_ic M | _ => False) := hpre
      split at hpre
      · exact ⟨_, _, rfl, hpre⟩
      · exact hpre.elim
    obtain ⟨k_th, hc_th⟩ := pz_tlm hcan
    have k_th : pz_kd th = 11 ∧ th < 231 := k_th
    have R_th := pz_kd11 k_th.1
    subst R_th
    obtain ⟨k_h, hc_h⟩ := pz_tlm hc_th
    have l_h : -2147483648 ≤ h := k_h.1
    have u_h : h ≤ 2147483647 := k_h.2
    have hI : pz_ic M := hpre
    have hI0 := hI
    have hS : pq_pr pq_Pk M M := pq_pr.rf
    have L27 : ∀ (fu : Nat) (x2 : Int) (N27 : pz_M), (61 - x2).toNat < fu → (pq_pr pq_Pk M N27) → (0 ≤ x2) → Ok 27 [some (.inr (.inr (11, 0))), some (.inl h), some (.inl x2)] [] N27 := by
      intro fu
      induction fu with
      | zero => exact fun _ _ hn => absurd hn (Nat.not_lt_zero _)
      | succ fu ih27 =>
        intro x2 N27 hn27 hS g27_1
        have hI : pz_ic N27 := hS.1 hI0
        refine hgo (fun p => Nat.beq p 27) 44 27 _ _ _ ?_
        refine And.intro (fun h30 => ?_) (fun h30 => ?_)
        · skip
          refine And.intro rfl ?_
          exact ⟨trivial, hS⟩
        · skip
          intro r34 e34 k34
          have R34 := pz_kd4 k34
          intro r38 e38 k38
          have R38 := pz_kd0 k38
          refine And.intro (hI) ?_
          intro M41 q41
          obtain ⟨q41, z41⟩ := q41
          have hS : pq_pr pq_Pk M M41 := hS.tr z41
          have hI : pz_ic M41 := hS.1 hI0
          intro r45 e45 k45
          have R45 := pz_kd4 k45
          intro r49 e49 k49
          have R49 := pz_kd0 k49
          intro r54 e54 k54
          have R54 := pz_kd0 k54
          intro v57 e57 a57 b57
          have I57 := hI.1 r54 (by first | decide | omega) (by first | decide | omega)
          intro v61 e61 a61 b61
          try rw [pz_wi (by first | decide | omega) (by first | decide | omega)] at e61
          refine And.intro (And.intro hI (by first | decide | omega)) ?_
          intro v62 M62 a62 b62 q62
          obtain ⟨q62, z62⟩ := q62
          subst z62
          refine And.intro (fun h66 => ?_) (fun h66 => ?_)
          · skip
            intro v71 e71 a71 b71
            try rw [pz_wi (by first | decide | omega) (by first | decide | omega)] at e71
            exact ih27 _ _ (by first | decide | omega) hS (by first | decide | omega)
          · skip
            refine And.intro rfl ?_
            exact ⟨trivial, hS⟩
    refine hgo (fun p => Nat.beq p 27) 44 0 _ [] M ?_
    refine And.intro (True.intro) ?_
    intro v5 M5 a5 b5 q5
    obtain ⟨q5, z5⟩ := q5
    subst z5
    refine And.intro (fun h8 => ?_) (fun h8 => ?_)
    · skip
      intro r14 e14 k14
      have R14 := pz_kd4 k14
      intro r18 e18 k18
      have R18 := pz_kd0 k18
      refine And.intro (hI) ?_
      intro M22 q22
      obtain ⟨q22, z22⟩ := q22
      have hS : pq_pr pq_Pk M M22 := hS.tr z22
      have hI : pz_ic M22 := hS.1 hI0
      exact L27 _ _ _ (Nat.lt_succ_self _) hS (by first | decide | omega)
    · skip
      refine And.intro rfl ?_
      exact ⟨trivial, hS⟩
theorem v3_X11_soon {fr lo i : Nat} {own : String} (h1 : 5 + 1 ≤ fr) (h2 : 8 + (3 + 11) + 120 ≤ lo) (h3 : .methodLink own i yX11_soon ∈ lw_tbl) : pz_cV fr lo own i k3_X11_soon :=
  pz_cVk (maxL := 3) (fr' := 5) (lo' := 120) 1 11 h3_X11_soon rfl ⟨(pz_nhc_RX11 yX11_soon rfl).1, (pz_nhc_RX11 yX11_soon rfl).2, pz_ds5⟩ ⟨pz_wq1060, pz_wq1058, pz_wq1059, pz_wq1⟩ (Or.inl ⟨TX11, 14, rfl⟩) (fun a M _ h => by
    have h : (match (generalizing := false) a with | [.inr (.inr (11, th)), .inl h] => pz_ic M | _ => False) := h
    split at h
    · exact ⟨_, _, rfl⟩
    · exact h.elim) h1 h2 h3
noncomputable def k3_X11_hurry : pz_C := (3, 1, fun a M => (match a with | [.inr (.inr (11, th)), .inl d, .inl w] => pz_ic M | _ => False), fun a M r M' => (match a, r with | [.inr (.inr (11, th)), .inl d, .inl w], some (.inl v) => (True) ∧ pq_pr pq_Pk M M' | _, _ => False))
noncomputable abbrev ct3_X11_hurry : List (Bool × Nat × pz_C) := [(false, 137, k_X11_within), (true, 255, k3_X4_reckon), (true, 334, k3_X4_oddsHurried)]
set_option maxRecDepth 100000 in
set_option maxHeartbeats 4000000 in
theorem h3_X11_hurry : pz_H yX11_hurry cX11_hurry 7 (some .int) k3_X11_hurry 5 124 := by
  refine pz_mk (own := RX11) (tb := t_X11_hurry) (fl := pz_flf fl_RX11) (ci := pz_cif ci_RX11) (ct := pz_ctf ct3_X11_hurry) (rz := false) (pz_pfc_RX11 yX11_hurry rfl) rfl t_X11_hurry_ok (pz_flk fl_RX11_ok) (pz_cik ci_RX11_ok) ?_ ?_ (Or.inl ⟨rfl, rfl⟩) ?_ ?_
  · exact fun i k' h => pz_ctk (l := ct3_X11_hurry) (P := fun b i k => b = true → pz_cV 5 124 RX11 i k) (List.forall_mem_cons.mpr ⟨((fun z => by cases z)), List.forall_mem_cons.mpr ⟨(fun _ => v3_X4_reckon (by decide) (by decide) pz_wq884), List.forall_mem_cons.mpr ⟨(fun _ => v3_X4_oddsHurried (by decide) (by decide) pz_wq1069), fun _ h => absurd h List.not_mem_nil⟩⟩⟩) true i k' h rfl
  · exact fun i k' h => pz_ctk (l := ct3_X11_hurry) (P := fun b i k => b = false → (pz_cS 5 124 RX11 i k ∨ (k = pz_kac ∧ 1 ≤ 5 ∧ 60 ≤ 124 ∧ Cond.methodLink RX11 i arraycopyName ∈ pz_tbl))) (List.forall_mem_cons.mpr ⟨(fun _ => Or.inl (s_X11_within (by decide) (by decide) (Or.inl pz_wq425))), List.forall_mem_cons.mpr ⟨((fun z => by cases z)), List.forall_mem_cons.mpr ⟨((fun z => by cases z)), fun _ h => absurd h List.not_mem_nil⟩⟩⟩) false i k' h rfl
  · intro a M hlen hpre
    obtain ⟨th, d, w, rfl, hpre⟩ : ∃ th d w, a = [.inr (.inr (11, th)), .inl d, .inl w] ∧ (pz_ic M) := by
      have hpre : (match (generalizing := false) a with | [.inr (.inr (11, th)), .inl d, .inl w] => pz_ic M | _ => False) := hpre
      split at hpre
      · exact ⟨_, _, _, rfl, hpre⟩
      · exact hpre.elim
    exact Nat.le_of_ble_eq_true rfl
  · intro a M hlen hcan hM hpre Ok hgo
    obtain ⟨th, d, w, rfl, hpre⟩ : ∃ th d w, a = [.inr (.inr (11, th)), .inl d, .inl w] ∧ (pz_ic M) := by
      have hpre : (match (generalizing := false) a with | [.inr (.inr (11, th)), .inl d, .inl w] => pz_ic M | _ => False) := hpre
      split at hpre
      · exact ⟨_, _, _, rfl, hpre⟩
      · exact hpre.elim
    obtain ⟨k_th, hc_th⟩ := pz_tlm hcan
    have k_th : pz_kd th = 11 ∧ th < 231 := k_th
    have R_th := pz_kd11 k_th.1
    subst R_th
    obtain ⟨k_d, hc_d⟩ := pz_tlm hc_th
    have l_d : -2147483648 ≤ d := k_d.1
    have u_d : d ≤ 2147483647 := k_d.2
    obtain ⟨k_w, hc_w⟩ := pz_tlm hc_d
    have l_w : -2147483648 ≤ w := k_w.1
    have u_w : w ≤ 2147483647 := k_w.2
    have hI : pz_ic M := hpre
    have hI0 := hI
    have hS : pq_pr pq_Pk M M := pq_pr.rf
    have L41 : ∀ (fu : Nat) (x3 : Int) (x4 : Int) (x5 : Int) (d6 : Option pz_V) (N41 : pz_M), (12 - x5).toNat < fu → (pq_pr pq_Pk M N41) → (0 ≤ x5) → Ok 41 [some (.inr (.inr (11, 0))), some (.inl d), some (.inl w), some (.inl x3), some (.inl x4), some (.inl x5), d6] [] N41 := by
      intro fu
      induction fu with
      | zero => exact fun _ _ _ _ _ hn => absurd hn (Nat.not_lt_zero _)
      | succ fu ih41 =>
        intro x3 x4 x5 d6 N41 hn41 hS g41_1
        have hI : pz_ic N41 := hS.1 hI0
        have L83 : ∀ (x3 : Int) (x4 : Int) (x5 : Int) (x6 : Int) (N83 : pz_M), (pq_pr pq_Pk M N83) → (0 ≤ x5) → (x5 < 12) → ((12 - x5).toNat < fu + 1) → Ok 83 [some (.inr (.inr (11, 0))), some (.inl d), some (.inl w), some (.inl x3), some (.inl x4), some (.inl x5), some (.inl x6)] [] N83 := by
          intro x3 x4 x5 x6 N83 hS g83_1 g83_2 g83_3
          have hI : pz_ic N83 := hS.1 hI0
          refine hgo (fun p => Nat.beq p 41 || Nat.beq p 83) 54 83 _ _ _ ?_
          intro v83 e83 a83 b83
          try rw [pz_wi (by first | decide | omega) (by first | decide | omega)] at e83
          exact ih41 _ _ _ _ _ (by first | decide | omega) hS (by first | decide | omega)
        refine hgo (fun p => Nat.beq p 41 || Nat.beq p 83) 54 41 _ _ _ ?_
        intro r44 e44 k44
        have R44 := pz_kd0 k44
        intro v47 e47 a47 b47
        have I47 := hI.1 r44 (by first | decide | omega) (by first | decide | omega)
        refine And.intro (fun h50 => ?_) (fun h50 => ?_)
        · skip
          refine And.intro (fun h90 => ?_) (fun h90 => ?_)
          · skip
            refine And.intro rfl ?_
            exact ⟨trivial, hS⟩
          · skip
            refine And.intro rfl ?_
            exact ⟨trivial, hS⟩
        · skip
          intro r54 e54 k54
          have R54 := pz_kd4 k54
          intro r58 e58 k58
          have R58 := pz_kd0 k58
          refine And.intro (hI) ?_
          intro v64 M64 a64 b64 q64
          obtain ⟨q64, z64⟩ := q64
          have hS : pq_pr pq_Pk M M64 := hS.tr z64
          have hI : pz_ic M64 := hS.1 hI0
          refine And.intro (fun h73 => ?_) (fun h73 => ?_)
          · skip
            exact L83 _ _ _ _ _ hS (by first | decide | omega) (by first | decide | omega) (by first | decide | omega)
          · skip
            exact L83 _ _ _ _ _ hS (by first | decide | omega) (by first | decide | omega) (by first | decide | omega)
    refine hgo (fun p => Nat.beq p 41 || Nat.beq p 83) 54 0 _ [] M ?_
    refine And.intro (True.intro) ?_
    intro v4 M4 a4 b4 q4
    obtain ⟨q4, z4⟩ := q4
    subst z4
    refine And.intro (fun h7 => ?_) (fun h7 => ?_)
    · skip
      refine And.intro rfl ?_
      exact ⟨trivial, hS⟩
    · skip
      refine And.intro (True.intro) ?_
      intro v13 M13 a13 b13 q13
      obtain ⟨q13, z13⟩ := q13
      subst z13
      refine And.intro (fun h16 => ?_) (fun h16 => ?_)
      · skip
        intro r27 e27 k27
        have R27 := pz_kd4 k27
        intro r31 e31 k31
        have R31 := pz_kd0 k31
        refine And.intro (hI) ?_
        intro M35 q35
        obtain ⟨q35, z35⟩ := q35
        have hS : pq_pr pq_Pk M M35 := hS.tr z35
        have hI : pz_ic M35 := hS.1 hI0
        exact L41 _ _ _ _ _ _ (Nat.lt_succ_self _) hS (by first | decide | omega)
      · skip
        refine And.intro rfl ?_
        exact ⟨trivial, hS⟩
theorem v3_X11_hurry {fr lo i : Nat} {own : String} (h1 : 5 + 1 ≤ fr) (h2 : 8 + (7 + 11) + 124 ≤ lo) (h3 : .methodLink own i yX11_hurry ∈ lw_tbl) : pz_cV fr lo own i k3_X11_hurry :=
  pz_cVk (maxL := 7) (fr' := 5) (lo' := 124) 2 11 h3_X11_hurry rfl ⟨(pz_nhc_RX11 yX11_hurry rfl).1, (pz_nhc_RX11 yX11_hurry rfl).2, pz_ds10⟩ ⟨pz_wq1068, pz_wq1066, pz_wq1067, pz_wq1⟩ (Or.inl ⟨TX11, 14, rfl⟩) (fun a M _ h => by
    have h : (match (generalizing := false) a with | [.inr (.inr (11, th)), .inl d, .inl w] => pz_ic M | _ => False) := h
    split at h
    · exact ⟨_, _, rfl⟩
    · exact h.elim) h1 h2 h3
noncomputable def k3_X11_split : pz_C := (3, 1, fun a M => (match a with | [.inr (.inr (11, th)), .inl d, .inl w] => pz_ic M | _ => False), fun a M r M' => (match a, r with | [.inr (.inr (11, th)), .inl d, .inl w], some (.inl v) => (True) ∧ pq_pr pq_Pk M M' | _, _ => False))
noncomputable abbrev ct3_X11_split : List (Bool × Nat × pz_C) := [(false, 137, k_X11_within), (true, 337, k3_X0_bridgedOnes), (true, 255, k3_X4_reckon), (true, 340, k3_X4_reckonSpans), (true, 153, k3_X0_canBridge), (true, 343, k_X4_leastOdds)]
set_option maxRecDepth 100000 in
set_option maxHeartbeats 4000000 in
theorem h3_X11_split : pz_H yX11_split cX11_split 8 (some .int) k3_X11_split 5 120 := by
  refine pz_mk (own := RX11) (tb := t_X11_split) (fl := pz_flf fl_RX11) (ci := pz_cif ci_RX11) (ct := pz_ctf ct3_X11_split) (rz := false) (pz_pfc_RX11 yX11_split rfl) rfl t_X11_split_ok (pz_flk fl_RX11_ok) (pz_cik ci_RX11_ok) ?_ ?_ (Or.inl ⟨rfl, rfl⟩) ?_ ?_
  · exact fun i k' h => pz_ctk (l := ct3_X11_split) (P := fun b i k => b = true → pz_cV 5 120 RX11 i k) (List.forall_mem_cons.mpr ⟨((fun z => by cases z)), List.forall_mem_cons.mpr ⟨(fun _ => v3_X0_bridgedOnes (by decide) (by decide) pz_wq1078), List.forall_mem_cons.mpr ⟨(fun _ => v3_X4_reckon (by decide) (by decide) pz_wq884), List.forall_mem_cons.mpr ⟨(fun _ => v3_X4_reckonSpans (by decide) (by decide) pz_wq1079), List.forall_mem_cons.mpr ⟨(fun _ => v3_X0_canBridge (by decide) (by decide) pz_wq525), List.forall_mem_cons.mpr ⟨(fun _ => v_X4_leastOdds (by decide) (by decide) pz_wq1080), fun _ h => absurd h List.not_mem_nil⟩⟩⟩⟩⟩⟩) true i k' h rfl
  · exact fun i k' h => pz_ctk (l := ct3_X11_split) (P := fun b i k => b = false → (pz_cS 5 120 RX11 i k ∨ (k = pz_kac ∧ 1 ≤ 5 ∧ 60 ≤ 120 ∧ Cond.methodLink RX11 i arraycopyName ∈ pz_tbl))) (List.forall_mem_cons.mpr ⟨(fun _ => Or.inl (s_X11_within (by decide) (by decide) (Or.inl pz_wq425))), List.forall_mem_cons.mpr ⟨((fun z => by cases z)), List.forall_mem_cons.mpr ⟨((fun z => by cases z)), List.forall_mem_cons.mpr ⟨((fun z => by cases z)), List.forall_mem_cons.mpr ⟨((fun z => by cases z)), List.forall_mem_cons.mpr ⟨((fun z => by cases z)), fun _ h => absurd h List.not_mem_nil⟩⟩⟩⟩⟩⟩) false i k' h rfl
  · intro a M hlen hpre
    obtain ⟨th, d, w, rfl, hpre⟩ : ∃ th d w, a = [.inr (.inr (11, th)), .inl d, .inl w] ∧ (pz_ic M) := by
      have hpre : (match (generalizing := false) a with | [.inr (.inr (11, th)), .inl d, .inl w] => pz_ic M | _ => False) := hpre
      split at hpre
      · exact ⟨_, _, _, rfl, hpre⟩
      · exact hpre.elim
    exact Nat.le_of_ble_eq_true rfl
  · intro a M hlen hcan hM hpre Ok hgo
    obtain ⟨th, d, w, rfl, hpre⟩ : ∃ th d w, a = [.inr (.inr (11, th)), .inl d, .inl w] ∧ (pz_ic M) := by
      have hpre : (match (generalizing := false) a with | [.inr (.inr (11, th)), .inl d, .inl w] => pz_ic M | _ => False) := hpre
      split at hpre
      · exact ⟨_, _, _, rfl, hpre⟩
      · exact hpre.elim
    obtain ⟨k_th, hc_th⟩ := pz_tlm hcan
    have k_th : pz_kd th = 11 ∧ th < 231 := k_th
    have R_th := pz_kd11 k_th.1
    subst R_th
    obtain ⟨k_d, hc_d⟩ := pz_tlm hc_th
    have l_d : -2147483648 ≤ d := k_d.1
    have u_d : d ≤ 2147483647 := k_d.2
    obtain ⟨k_w, hc_w⟩ := pz_tlm hc_d
    have l_w : -2147483648 ≤ w := k_w.1
    have u_w : w ≤ 2147483647 := k_w.2
    have hI : pz_ic M := hpre
    have hI0 := hI
    have hS : pq_pr pq_Pk M M := pq_pr.rf
    have L61 : ∀ (fu : Nat) (x3 : Int) (x4 : Int) (x5 : Int) (x6 : Int) (d7 : Option pz_V) (N61 : pz_M), (12 - x6).toNat < fu → (pq_pr pq_Pk M N61) → (0 ≤ x6) → Ok 61 [some (.inr (.inr (11, 0))), some (.inl d), some (.inl w), some (.inl x3), some (.inl x4), some (.inl x5), some (.inl x6), d7] [] N61 := by
      intro fu
      induction fu with
      | zero => exact fun _ _ _ _ _ _ hn => absurd hn (Nat.not_lt_zero _)
      | succ fu ih61 =>
        intro x3 x4 x5 x6 d7 N61 hn61 hS g61_1
        have hI : pz_ic N61 := hS.1 hI0
        have L119 : ∀ (x3 : Int) (x4 : Int) (x5 : Int) (x6 : Int) (d7 : Option pz_V) (N119 : pz_M), (pq_pr pq_Pk M N119) → (0 ≤ x6) → (x6 < 12) → ((12 - x6).toNat < fu + 1) → Ok 119 [some (.inr (.inr (11, 0))), some (.inl d), some (.inl w), some (.inl x3), some (.inl x4), some (.inl x5), some (.inl x6), d7] [] N119 := by
          intro x3 x4 x5 x6 d7 N119 hS g119_1 g119_2 g119_3
          have hI : pz_ic N119 := hS.1 hI0
          refine hgo (fun p => Nat.beq p 61 || Nat.beq p 119) 71 119 _ _ _ ?_
          intro v119 e119 a119 b119
          try rw [pz_wi (by first | decide | omega) (by first | decide | omega)] at e119
          exact ih61 _ _ _ _ _ _ (by first | decide | omega) hS (by first | decide | omega)
        refine hgo (fun p => Nat.beq p 61 || Nat.beq p 119) 71 61 _ _ _ ?_
        intro r64 e64 k64
        have R64 := pz_kd0 k64
        intro v67 e67 a67 b67
        have I67 := hI.1 r64 (by first | decide | omega) (by first | decide | omega)
        refine And.intro (fun h70 => ?_) (fun h70 => ?_)
        · skip
          refine And.intro (fun h126 => ?_) (fun h126 => ?_)
          · skip
            refine And.intro rfl ?_
            exact ⟨trivial, hS⟩
          · skip
            refine And.intro rfl ?_
            exact ⟨trivial, hS⟩
        · skip
          intro r74 e74 k74
          have R74 := pz_kd0 k74
          refine And.intro (hI) ?_
          intro v79 M79 a79 b79 q79
          obtain ⟨q79, z79⟩ := q79
          subst z79
          refine And.intro (fun h82 => ?_) (fun h82 => ?_)
          · skip
            exact L119 _ _ _ _ _ _ hS (by first | decide | omega) (by first | decide | omega) (by first | decide | omega)
          · skip
            intro r86 e86 k86
            have R86 := pz_kd4 k86
            intro r90 e90 k90
            have R90 := pz_kd0 k90
            intro v98 e98 a98 b98
            intro v99 e99 a99 b99
            refine And.intro (hI) ?_
            intro v100 M100 a100 b100 q100
            obtain ⟨q100, z100⟩ := q100
            subst z100
            refine And.intro (fun h109 => ?_) (fun h109 => ?_)
            · skip
              exact L119 _ _ _ _ _ _ hS (by first | decide | omega) (by first | decide | omega) (by first | decide | omega)
            · skip
              exact L119 _ _ _ _ _ _ hS (by first | decide | omega) (by first | decide | omega) (by first | decide | omega)
    refine hgo (fun p => Nat.beq p 61 || Nat.beq p 119) 71 0 _ [] M ?_
    refine And.intro (True.intro) ?_
    intro v4 M4 a4 b4 q4
    obtain ⟨q4, z4⟩ := q4
    subst z4
    refine And.intro (fun h7 => ?_) (fun h7 => ?_)
    · skip
      refine And.intro rfl ?_
      exact ⟨trivial, hS⟩
    · skip
      refine And.intro (True.intro) ?_
      intro v13 M13 a13 b13 q13
      obtain ⟨q13, z13⟩ := q13
      subst z13
      refine And.intro (fun h16 => ?_) (fun h16 => ?_)
      · skip
        intro r27 e27 k27
        have R27 := pz_kd0 k27
        refine And.intro (hI) ?_
        intro v30 M30 a30 b30 q30
        obtain ⟨q30, z30⟩ := q30
        subst z30
        intro r36 e36 k36
        have R36 := pz_kd4 k36
        intro r40 e40 k40
        have R40 := pz_kd0 k40
        refine And.intro (hI) ?_
        intro M44 q44
        obtain ⟨q44, z44⟩ := q44
        have hS : pq_pr pq_Pk M M44 := hS.tr z44
        have hI : pz_ic M44 := hS.1 hI0
        intro r48 e48 k48
        have R48 := pz_kd4 k48
        intro r52 e52 k52
        have R52 := pz_kd0 k52
        refine And.intro (hI) ?_
        intro M55 q55
        obtain ⟨q55, z55⟩ := q55
        have hS : pq_pr pq_Pk M M55 := hS.tr z55
        have hI : pz_ic M55 := hS.1 hI0
        exact L61 _ _ _ _ _ _ _ (Nat.lt_succ_self _) hS (by first | decide | omega)
      · skip
        refine And.intro rfl ?_
        exact ⟨trivial, hS⟩
theorem v3_X11_split {fr lo i : Nat} {own : String} (h1 : 5 + 1 ≤ fr) (h2 : 8 + (8 + 11) + 120 ≤ lo) (h3 : .methodLink own i yX11_split ∈ lw_tbl) : pz_cV fr lo own i k3_X11_split :=
  pz_cVk (maxL := 8) (fr' := 5) (lo' := 120) 2 11 h3_X11_split rfl ⟨(pz_nhc_RX11 yX11_split rfl).1, (pz_nhc_RX11 yX11_split rfl).2, pz_ds10⟩ ⟨pz_wq1077, pz_wq1075, pz_wq1076, pz_wq1⟩ (Or.inl ⟨TX11, 14, rfl⟩) (fun a M _ h => by
    have h : (match (generalizing := false) a with | [.inr (.inr (11, th)), .inl d, .inl w] => pz_ic M | _ => False) := h
    split at h
    · exact ⟨_, _, rfl⟩
    · exact h.elim) h1 h2 h3
