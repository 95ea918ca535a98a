noncomputable def k3_X4_reckon : pz_C := (3, 0, fun a M => (match a with | [.inr (.inr (4, k)), .inr (.inr (0, c)), .inl n] => pz_ic M | _ => False), fun a M r M' => (match a, r with | [.inr (.inr (4, k)), .inr (.inr (0, c)), .inl n], none => (True) ∧ pq_pr pq_Pk M M' | _, _ => False))
noncomputable abbrev ct3_X4_reckon : List (Bool × Nat × pz_C) := [(true, 44, k3_X3_tells), (false, 33, k_X4_leftAfter)]
set_option maxRecDepth 100000 in
set_option maxHeartbeats 4000000 in
theorem h3_X4_reckon : pz_H yX4_reckon cX4_reckon 4 none k3_X4_reckon 4 97 := by
  refine pz_mk (own := RX4) (tb := t_X4_reckon) (fl := pz_flf fl_RX4) (ci := pz_cif ci_RX4) (ct := pz_ctf ct3_X4_reckon) (rz := false) (by decide +kernel) rfl t_X4_reckon_ok (pz_flk fl_RX4_ok) (pz_cik ci_RX4_ok) ?_ ?_ (rfl) ?_ ?_
  · exact fun i k' h => pz_ctk (l := ct3_X4_reckon) (P := fun b i k => b = true → pz_cV 4 97 RX4 i k) (List.forall_mem_cons.mpr ⟨(fun _ => v3_X3_tells (by decide) (by decide) (pz_mt 888 (by decide +kernel))), List.forall_mem_cons.mpr ⟨((fun z => by cases z)), fun _ h => absurd h List.not_mem_nil⟩⟩) true i k' h rfl
  · exact fun i k' h => pz_ctk (l := ct3_X4_reckon) (P := fun b i k => b = false → (pz_cS 4 97 RX4 i k ∨ (k = pz_kac ∧ 1 ≤ 4 ∧ 60 ≤ 97 ∧ Cond.methodLink RX4 i arraycopyName ∈ pz_tbl))) (List.forall_mem_cons.mpr ⟨((fun z => by cases z)), List.forall_mem_cons.mpr ⟨(fun _ => Or.inl (s_X4_leftAfter (by decide) (by decide) (Or.inl (pz_mt 889 (by decide +kernel))))), fun _ h => absurd h List.not_mem_nil⟩⟩) false i k' h rfl
  · intro a M hlen hpre
    obtain ⟨k, c, n, rfl, hpre⟩ : ∃ k c n, a = [.inr (.inr (4, k)), .inr (.inr (0, c)), .inl n] ∧ (pz_ic M) := by
      have hpre : (match (generalizing := false) a with | [.inr (.inr (4, k)), .inr (.inr (0, c)), .inl n] => pz_ic M | _ => False) := hpre
      split at hpre
      · exact ⟨_, _, _, rfl, hpre⟩
      · exact hpre.elim
    exact Nat.le_of_ble_eq_true rfl
  · intro a M hlen hcan hM hpre Ok hgo
    obtain ⟨k, c, n, rfl, hpre⟩ : ∃ k c n, a = [.inr (.inr (4, k)), .inr (.inr (0, c)), .inl n] ∧ (pz_ic M) := by
      have hpre : (match (generalizing := false) a with | [.inr (.inr (4, k)), .inr (.inr (0, c)), .inl n] => pz_ic M | _ => False) := hpre
      split at hpre
      · exact ⟨_, _, _, rfl, hpre⟩
      · exact hpre.elim
    obtain ⟨k_k, hc_k⟩ := pz_tlm hcan
    have k_k : pz_kd k = 4 ∧ k < 231 := k_k
    have R_k := pz_kd4 k_k.1
    subst R_k
    obtain ⟨k_c, hc_c⟩ := pz_tlm hc_k
    have k_c : pz_kd c = 0 ∧ c < 231 := k_c
    have R_c := pz_kd0 k_c.1
    obtain ⟨k_n, hc_n⟩ := pz_tlm hc_c
    have l_n : -2147483648 ≤ n := k_n.1
    have u_n : n ≤ 2147483647 := k_n.2
    have hI : pz_ic M := hpre
    have hI0 := hI
    have hS : pq_pr pq_Pk M M := pq_pr.rf
    have L2 : ∀ (fu : Nat) (x3 : Int) (N2 : pz_M), (12 - x3).toNat < fu → (pq_pr pq_Pk M N2) → (0 ≤ x3) → Ok 2 [some (.inr (.inr (4, 6))), some (.inr (.inr (0, c))), some (.inl n), some (.inl x3)] [] N2 := by
      intro fu
      induction fu with
      | zero => exact fun _ _ hn => absurd hn (Nat.not_lt_zero _)
      | succ fu ih2 =>
        intro x3 N2 hn2 hS g2_1
        have hI : pz_ic N2 := hS.1 hI0
        refine hgo (fun p => Nat.beq p 2) 44 2 _ _ _ ?_
        intro v4 e4 a4 b4
        have I4 := hI.1 c (by omega) (by omega)
        refine And.intro (fun h7 => ?_) (fun h7 => ?_)
        · skip
          refine And.intro rfl ?_
          exact ⟨trivial, hS⟩
        · skip
          refine And.intro (fun h13 => ?_) (fun h13 => ?_)
          · skip
            refine And.intro rfl ?_
            exact ⟨trivial, hS⟩
          · skip
            intro r17 e17 k17
            have R17 := pz_kdA k17 (by decide) (by decide)
            have Q17 := pz_nm e17 k_k.1 (by decide) (by decide) rfl
            have W17 : r17 = 53 := e17
            intro r22 e22 k22
            have R22 := pz_kd3 k22
            refine And.intro (hI) ?_
            intro v28 M28 a28 b28 q28
            obtain ⟨q28, z28⟩ := q28
            have hS : pq_pr pq_Pk M M28 := hS.tr z28.wpk
            have hI : pz_ic M28 := hS.1 hI0
            refine And.intro (by omega) (And.intro (show _ < (12 : Int) from by omega) ?_)
            intro M31 e31
            have hS : pq_pr pq_Pk M M31 := by
              rw [e31]
              exact pq_pr_u hS (by unfold pq_Pk pq_Pw; omega) (by unfold pz_iok; omega)
            have hI : pz_ic M31 := hS.1 hI0
            intro r33 e33 k33
            have R33 := pz_kdA k33 (by decide) (by decide)
            have Q33 := pz_nm e33 k_k.1 (by decide) (by decide) rfl
            have W33 : r33 = 54 := e33
            intro r38 e38 k38
            have R38 := pz_kd3 k38
            refine And.intro (hI) ?_
            intro v44 M44 a44 b44 q44
            obtain ⟨q44, z44⟩ := q44
            have hS : pq_pr pq_Pk M M44 := hS.tr z44.wpk
            have hI : pz_ic M44 := hS.1 hI0
            refine And.intro (by omega) (And.intro (show _ < (12 : Int) from by omega) ?_)
            intro M47 e47
            have hS : pq_pr pq_Pk M M47 := by
              rw [e47]
              exact pq_pr_u hS (by unfold pq_Pk pq_Pw; omega) (by unfold pz_iok; omega)
            have hI : pz_ic M47 := hS.1 hI0
            intro r49 e49 k49
            have R49 := pz_kdA k49 (by decide) (by decide)
            have Q49 := pz_nm e49 k_k.1 (by decide) (by decide) rfl
            have W49 : r49 = 52 := e49
            intro r54 e54 k54
            have R54 := pz_kdA k54 (by decide) (by decide)
            have Q54 := pz_nm e54 k_k.1 (by decide) (by decide) rfl
            have W54 : r54 = 53 := e54
            refine And.intro (by omega) (And.intro (show _ < (12 : Int) from by omega) ?_)
            intro v58 e58 a58 b58
            refine And.intro (True.intro) ?_
            intro v60 M60 a60 b60 q60
            obtain ⟨q60, z60⟩ := q60
            subst z60
            refine And.intro (by omega) (And.intro (show _ < (12 : Int) from by omega) ?_)
            intro M63 e63
            have hS : pq_pr pq_Pk M M63 := by
              rw [e63]
              exact pq_pr_u hS (by unfold pq_Pk pq_Pw; omega) (by unfold pz_iok; omega)
            have hI : pz_ic M63 := hS.1 hI0
            intro v64 e64 a64 b64
            try rw [pz_wi (by omega) (by omega)] at e64
            exact ih2 _ _ (by omega) hS (by omega)
    refine hgo (fun p => Nat.beq p 2) 44 0 _ [] M ?_
    exact L2 _ _ _ (Nat.lt_succ_self _) hS (by omega)
theorem v3_X4_reckon {fr lo i : Nat} {own : String} (h1 : 4 + 1 ≤ fr) (h2 : 8 + (4 + 11) + 97 ≤ lo) (h3 : .methodLink own i yX4_reckon ∈ lw_tbl) : pz_cV fr lo own i k3_X4_reckon :=
  pz_cVk (maxL := 4) (fr' := 4) (lo' := 97) 2 4 h3_X4_reckon rfl ⟨by decide +kernel, by decide +kernel, by decide +kernel⟩ ⟨(pz_mt 887 (by decide +kernel)), (pz_mt 885 (by decide +kernel)), (pz_mt 886 (by decide +kernel)), (pz_mt 11 (by decide +kernel))⟩ (Or.inl ⟨TX4, 5, rfl⟩) (fun a M _ h => by
    have h : (match (generalizing := false) a with | [.inr (.inr (4, k)), .inr (.inr (0, c)), .inl n] => pz_ic M | _ => False) := h
    split at h
    · exact ⟨_, _, rfl⟩
    · exact h.elim) h1 h2 h3
noncomputable def k3_X4_oneDayMore : pz_C := (2, 0, fun a M => (match a with | [.inr (.inr (4, k)), .inr (.inr (0, c))] => pz_ic M | _ => False), fun a M r M' => (match a, r with | [.inr (.inr (4, k)), .inr (.inr (0, c))], none => (True) ∧ pq_pr pq_Pk M M' | _, _ => False))
noncomputable abbrev ct3_X4_oneDayMore : List (Bool × Nat × pz_C) := [(false, 29, k_X4_leftNext)]
set_option maxRecDepth 100000 in
set_option maxHeartbeats 4000000 in
theorem h3_X4_oneDayMore : pz_H yX4_oneDayMore cX4_oneDayMore 3 none k3_X4_oneDayMore 1 21 := by
  refine pz_mk (own := RX4) (tb := t_X4_oneDayMore) (fl := pz_flf fl_RX4) (ci := pz_cif ci_RX4) (ct := pz_ctf ct3_X4_oneDayMore) (rz := false) (by decide +kernel) rfl t_X4_oneDayMore_ok (pz_flk fl_RX4_ok) (pz_cik ci_RX4_ok) ?_ ?_ (rfl) ?_ ?_
  · exact fun i k' h => pz_ctk (l := ct3_X4_oneDayMore) (P := fun b i k => b = true → pz_cV 1 21 RX4 i k) (List.forall_mem_cons.mpr ⟨((fun z => by cases z)), fun _ h => absurd h List.not_mem_nil⟩) true i k' h rfl
  · exact fun i k' h => pz_ctk (l := ct3_X4_oneDayMore) (P := fun b i k => b = false → (pz_cS 1 21 RX4 i k ∨ (k = pz_kac ∧ 1 ≤ 1 ∧ 60 ≤ 21 ∧ Cond.methodLink RX4 i arraycopyName ∈ pz_tbl))) (List.forall_mem_cons.mpr ⟨(fun _ => Or.inl (s_X4_leftNext (by decide) (by decide) (Or.inl (pz_mt 893 (by decide +kernel))))), fun _ h => absurd h List.not_mem_nil⟩) false i k' h rfl
  · intro a M hlen hpre
    obtain ⟨k, c, rfl, hpre⟩ : ∃ k c, a = [.inr (.inr (4, k)), .inr (.inr (0, c))] ∧ (pz_ic M) := by
      have hpre : (match (generalizing := false) a with | [.inr (.inr (4, k)), .inr (.inr (0, c))] => pz_ic M | _ => False) := hpre
      split at hpre
      · exact ⟨_, _, rfl, hpre⟩
      · exact hpre.elim
    exact Nat.le_of_ble_eq_true rfl
  · intro a M hlen hcan hM hpre Ok hgo
    obtain ⟨k, c, rfl, hpre⟩ : ∃ k c, a = [.inr (.inr (4, k)), .inr (.inr (0, c))] ∧ (pz_ic M) := by
      have hpre : (match (generalizing := false) a with | [.inr (.inr (4, k)), .inr (.inr (0, c))] => pz_ic M | _ => False) := hpre
      split at hpre
      · exact ⟨_, _, rfl, hpre⟩
      · exact hpre.elim
    obtain ⟨k_k, hc_k⟩ := pz_tlm hcan
    have k_k : pz_kd k = 4 ∧ k < 231 := k_k
    have R_k := pz_kd4 k_k.1
    subst R_k
    obtain ⟨k_c, hc_c⟩ := pz_tlm hc_k
    have k_c : pz_kd c = 0 ∧ c < 231 := k_c
    have R_c := pz_kd0 k_c.1
    have hI : pz_ic M := hpre
    have hI0 := hI
    have hS : pq_pr pq_Pk M M := pq_pr.rf
    have L2 : ∀ (fu : Nat) (x2 : Int) (N2 : pz_M), (12 - x2).toNat < fu → (pq_pr pq_Pk M N2) → (0 ≤ x2) → Ok 2 [some (.inr (.inr (4, 6))), some (.inr (.inr (0, c))), some (.inl x2)] [] N2 := by
      intro fu
      induction fu with
      | zero => exact fun _ _ hn => absurd hn (Nat.not_lt_zero _)
      | succ fu ih2 =>
        intro x2 N2 hn2 hS g2_1
        have hI : pz_ic N2 := hS.1 hI0
        refine hgo (fun p => Nat.beq p 2) 27 2 _ _ _ ?_
        intro v4 e4 a4 b4
        have I4 := hI.1 c (by omega) (by omega)
        refine And.intro (fun h7 => ?_) (fun h7 => ?_)
        · skip
          refine And.intro rfl ?_
          exact ⟨trivial, hS⟩
        · skip
          refine And.intro (fun h13 => ?_) (fun h13 => ?_)
          · skip
            refine And.intro rfl ?_
            exact ⟨trivial, hS⟩
          · skip
            intro r17 e17 k17
            have R17 := pz_kdA k17 (by decide) (by decide)
            have Q17 := pz_nm e17 k_k.1 (by decide) (by decide) rfl
            have W17 : r17 = 52 := e17
            intro r22 e22 k22
            have R22 := pz_kdA k22 (by decide) (by decide)
            have Q22 := pz_nm e22 k_k.1 (by decide) (by decide) rfl
            have W22 : r22 = 52 := e22
            refine And.intro (by omega) (And.intro (show _ < (12 : Int) from by omega) ?_)
            intro v26 e26 a26 b26
            intro r28 e28 k28
            have R28 := pz_kdA k28 (by decide) (by decide)
            have Q28 := pz_nm e28 k_k.1 (by decide) (by decide) rfl
            have W28 : r28 = 53 := e28
            refine And.intro (by omega) (And.intro (show _ < (12 : Int) from by omega) ?_)
            intro v32 e32 a32 b32
            refine And.intro (True.intro) ?_
            intro v33 M33 a33 b33 q33
            obtain ⟨q33, z33⟩ := q33
            subst z33
            refine And.intro (by omega) (And.intro (show _ < (12 : Int) from by omega) ?_)
            intro M36 e36
            have hS : pq_pr pq_Pk M M36 := by
              rw [e36]
              exact pq_pr_u hS (by unfold pq_Pk pq_Pw; omega) (by unfold pz_iok; omega)
            have hI : pz_ic M36 := hS.1 hI0
            intro v37 e37 a37 b37
            try rw [pz_wi (by omega) (by omega)] at e37
            exact ih2 _ _ (by omega) hS (by omega)
    refine hgo (fun p => Nat.beq p 2) 27 0 _ [] M ?_
    exact L2 _ _ _ (Nat.lt_succ_self _) hS (by omega)
theorem v3_X4_oneDayMore {fr lo i : Nat} {own : String} (h1 : 1 + 1 ≤ fr) (h2 : 8 + (3 + 11) + 21 ≤ lo) (h3 : .methodLink own i yX4_oneDayMore ∈ lw_tbl) : pz_cV fr lo own i k3_X4_oneDayMore :=
  pz_cVk (maxL := 3) (fr' := 1) (lo' := 21) 1 4 h3_X4_oneDayMore rfl ⟨by decide +kernel, by decide +kernel, by decide +kernel⟩ ⟨(pz_mt 1064 (by decide +kernel)), (pz_mt 1062 (by decide +kernel)), (pz_mt 1063 (by decide +kernel)), (pz_mt 11 (by decide +kernel))⟩ (Or.inl ⟨TX4, 5, rfl⟩) (fun a M _ h => by
    have h : (match (generalizing := false) a with | [.inr (.inr (4, k)), .inr (.inr (0, c))] => pz_ic M | _ => False) := h
    split at h
    · exact ⟨_, _, rfl⟩
    · exact h.elim) h1 h2 h3
noncomputable def k3_X4_oddsHurried : pz_C := (4, 1, fun a M => (match a with | [.inr (.inr (4, k)), .inr (.inr (0, c)), .inl i, .inl n] => pz_ic M | _ => False), fun a M r M' => (match a, r with | [.inr (.inr (4, k)), .inr (.inr (0, c)), .inl i, .inl n], some (.inl v) => (True) ∧ pq_pr pq_Pk M M' | _, _ => False))
noncomputable abbrev ct3_X4_oddsHurried : List (Bool × Nat × pz_C) := [(true, 50, k_X0_at), (true, 44, k3_X3_tells), (false, 33, k_X4_leftAfter), (true, 75, k_X4_oddsOf)]
set_option maxRecDepth 100000 in
set_option maxHeartbeats 4000000 in
theorem h3_X4_oddsHurried : pz_H yX4_oddsHurried cX4_oddsHurried 8 (some .int) k3_X4_oddsHurried 4 97 := by
  refine pz_mk (own := RX4) (tb := t_X4_oddsHurried) (fl := pz_flf fl_RX4) (ci := pz_cif ci_RX4) (ct := pz_ctf ct3_X4_oddsHurried) (rz := false) (by decide +kernel) rfl t_X4_oddsHurried_ok (pz_flk fl_RX4_ok) (pz_cik ci_RX4_ok) ?_ ?_ (Or.inl ⟨rfl, rfl⟩) ?_ ?_
  · exact fun i k' h => pz_ctk (l := ct3_X4_oddsHurried) (P := fun b i k => b = true → pz_cV 4 97 RX4 i k) (List.forall_mem_cons.mpr ⟨(fun _ => v_X0_at (by decide) (by decide) (pz_mt 904 (by decide +kernel))), List.forall_mem_cons.mpr ⟨(fun _ => v3_X3_tells (by decide) (by decide) (pz_mt 888 (by decide +kernel))), List.forall_mem_cons.mpr ⟨((fun z => by cases z)), List.forall_mem_cons.mpr ⟨(fun _ => v_X4_oddsOf (by decide) (by decide) (pz_mt 1073 (by decide +kernel))), fun _ h => absurd h List.not_mem_nil⟩⟩⟩⟩) true i k' h rfl
  · exact fun i k' h => pz_ctk (l := ct3_X4_oddsHurried) (P := fun b i k => b = false → (pz_cS 4 97 RX4 i k ∨ (k = pz_kac ∧ 1 ≤ 4 ∧ 60 ≤ 97 ∧ Cond.methodLink RX4 i arraycopyName ∈ pz_tbl))) (List.forall_mem_cons.mpr ⟨((fun z => by cases z)), List.forall_mem_cons.mpr ⟨((fun z => by cases z)), List.forall_mem_cons.mpr ⟨(fun _ => Or.inl (s_X4_leftAfter (by decide) (by decide) (Or.inl (pz_mt 889 (by decide +kernel))))), List.forall_mem_cons.mpr ⟨((fun z => by cases z)), fun _ h => absurd h List.not_mem_nil⟩⟩⟩⟩) false i k' h rfl
  · intro a M hlen hpre
    obtain ⟨k, c, i, n, rfl, hpre⟩ : ∃ k c i n, a = [.inr (.inr (4, k)), .inr (.inr (0, c)), .inl i, .inl n] ∧ (pz_ic M) := by
      have hpre : (match (generalizing := false) a with | [.inr (.inr (4, k)), .inr (.inr (0, c)), .inl i, .inl n] => pz_ic M | _ => False) := hpre
      split at hpre
      · exact ⟨_, _, _, _, rfl, hpre⟩
      · exact hpre.elim
    exact Nat.le_of_ble_eq_true rfl
  · intro a M hlen hcan hM hpre Ok hgo
    obtain ⟨k, c, i, n, rfl, hpre⟩ : ∃ k c i n, a = [.inr (.inr (4, k)), .inr (.inr (0, c)), .inl i, .inl n] ∧ (pz_ic M) := by
      have hpre : (match (generalizing := false) a with | [.inr (.inr (4, k)), .inr (.inr (0, c)), .inl i, .inl n] => pz_ic M | _ => False) := hpre
      split at hpre
      · exact ⟨_, _, _, _, rfl, hpre⟩
      · exact hpre.elim
    obtain ⟨k_k, hc_k⟩ := pz_tlm hcan
    have k_k : pz_kd k = 4 ∧ k < 231 := k_k
    have R_k := pz_kd4 k_k.1
    subst R_k
    obtain ⟨k_c, hc_c⟩ := pz_tlm hc_k
    have k_c : pz_kd c = 0 ∧ c < 231 := k_c
    have R_c := pz_kd0 k_c.1
    obtain ⟨k_i, hc_i⟩ := pz_tlm hc_c
    have l_i : -2147483648 ≤ i := k_i.1
    have u_i : i ≤ 2147483647 := k_i.2
    obtain ⟨k_n, hc_n⟩ := pz_tlm hc_i
    have l_n : -2147483648 ≤ n := k_n.1
    have u_n : n ≤ 2147483647 := k_n.2
    have hI : pz_ic M := hpre
    have hI0 := hI
    have hS : pq_pr pq_Pk M M := pq_pr.rf
    refine hgo (fun _ => false) 55 0 _ [] M ?_
    refine And.intro (True.intro) ?_
    intro r2 M2 k2 q2
    have R2 := pz_kd5 k2
    obtain ⟨q2, z2⟩ := q2
    subst z2
    refine And.intro (fun h8 => ?_) (fun h8 => ?_)
    · skip
      refine And.intro rfl ?_
      exact ⟨trivial, hS⟩
    · skip
      refine And.intro (fun h14 => ?_) (fun h14 => ?_)
      · skip
        intro v21 e21 a21 b21
        intro r27 e27 k27
        have R27 := pz_kdA k27 (by decide) (by decide)
        have Q27 := pz_nm e27 k_k.1 (by decide) (by decide) rfl
        have W27 : r27 = 52 := e27
        refine And.intro (by omega) (And.intro (show _ < (12 : Int) from by omega) ?_)
        intro v31 e31 a31 b31
        intro M37 e37
        have hS : pq_pr (pq_Ph r2) M M37 := by
          rw [e37]
          exact pq_pr_u hS.kph (Or.inr ⟨rfl, rfl⟩) (by unfold pz_iok; omega)
        have hI : pz_ic M37 := hS.1 hI0
        have T37_0 := pz_uve e37 r2 3
        intro r41 e41 k41
        have R41 := pz_kdA k41 (by decide) (by decide)
        have Q41 := pz_nm e41 k_k.1 (by decide) (by decide) rfl
        have W41 : r41 = 52 := e41
        intro r46 e46 k46
        have R46 := pz_kd3 k46
        refine And.intro (hI) ?_
        intro v52 M52 a52 b52 q52
        obtain ⟨q52, z52⟩ := q52
        have hS : pq_pr (pq_Ph r2) M M52 := hS.tr z52.wph
        have hI : pz_ic M52 := hS.1 hI0
        refine And.intro (True.intro) ?_
        intro v56 M56 a56 b56 q56
        obtain ⟨q56, z56⟩ := q56
        subst z56
        refine And.intro (by omega) (And.intro (show _ < (12 : Int) from by omega) ?_)
        intro M59 e59
        have hS : pq_pr (pq_Ph r2) M M59 := by
          rw [e59]
          exact pq_pr_u hS (by unfold pq_Ph pq_Pk pq_Pw; omega) (by unfold pz_iok; omega)
        have hI : pz_ic M59 := hS.1 hI0
        have T59_0 := pz_uve e59 r2 3
        intro v64 e64 a64 b64
        have I64 := hI.1 c (by omega) (by omega)
        intro v68 e68 a68 b68
        try rw [pz_wi (by omega) (by omega)] at e68
        refine And.intro (And.intro hI (by omega)) ?_
        intro v69 M69 a69 b69 q69
        obtain ⟨q69, z69⟩ := q69
        subst z69
        intro M78 e78
        have hS : pq_pr (pq_Ph r2) M M78 := by
          rw [e78]
          exact pq_pr_u hS (Or.inr ⟨rfl, rfl⟩) (by unfold pz_iok; omega)
        have hI : pz_ic M78 := hS.1 hI0
        have T78_0 := pz_uve e78 r2 3
        intro r82 e82 k82
        have R82 := pz_kdA k82 (by decide) (by decide)
        have Q82 := pz_nm e82 k_k.1 (by decide) (by decide) rfl
        have W82 : r82 = 52 := e82
        refine And.intro (by omega) (And.intro (show _ < (12 : Int) from by omega) ?_)
        intro M88 e88
        have hS : pq_pr (pq_Ph r2) M M88 := by
          rw [e88]
          exact pq_pr_u hS (by unfold pq_Ph pq_Pk pq_Pw; omega) (by unfold pz_iok; omega)
        have hI : pz_ic M88 := hS.1 hI0
        have T88_0 := pz_uve e88 r2 3
        refine And.intro rfl ?_
        exact ⟨trivial, hS.hpk (by omega)⟩
      · skip
        refine And.intro rfl ?_
        exact ⟨trivial, hS⟩
theorem v3_X4_oddsHurried {fr lo i : Nat} {own : String} (h1 : 4 + 1 ≤ fr) (h2 : 8 + (8 + 11) + 97 ≤ lo) (h3 : .methodLink own i yX4_oddsHurried ∈ lw_tbl) : pz_cV fr lo own i k3_X4_oddsHurried :=
  pz_cVk (maxL := 8) (fr' := 4) (lo' := 97) 3 4 h3_X4_oddsHurried rfl ⟨by decide +kernel, by decide +kernel, by decide +kernel⟩ ⟨(pz_mt 1072 (by decide +kernel)), (pz_mt 1070 (by decide +kernel)), (pz_mt 1071 (by decide +kernel)), (pz_mt 11 (by decide +kernel))⟩ (Or.inl ⟨TX4, 5, rfl⟩) (fun a M _ h => by
    have h : (match (generalizing := false) a with | [.inr (.inr (4, k)), .inr (.inr (0, c)), .inl i, .inl n] => pz_ic M | _ => False) := h
    split at h
    · exact ⟨_, _, rfl⟩
    · exact h.elim) h1 h2 h3
noncomputable def k3_X4_reckonSpans : pz_C := (2, 0, fun a M => (match a with | [.inr (.inr (4, k)), .inr (.inr (0, c))] => pz_ic M | _ => False), fun a M r M' => (match a, r with | [.inr (.inr (4, k)), .inr (.inr (0, c))], none => (True) ∧ pq_pr pq_Pk M M' | _, _ => False))
noncomputable abbrev ct3_X4_reckonSpans : List (Bool × Nat × pz_C) := [(true, 68, k_X4_oddsWith)]
set_option maxRecDepth 100000 in
set_option maxHeartbeats 4000000 in
theorem h3_X4_reckonSpans : pz_H yX4_reckonSpans cX4_reckonSpans 6 none k3_X4_reckonSpans 2 45 := by
  refine pz_mk (own := RX4) (tb := t_X4_reckonSpans) (fl := pz_flf fl_RX4) (ci := pz_cif ci_RX4) (ct := pz_ctf ct3_X4_reckonSpans) (rz := false) (by decide +kernel) rfl t_X4_reckonSpans_ok (pz_flk fl_RX4_ok) (pz_cik ci_RX4_ok) ?_ ?_ (rfl) ?_ ?_
  · exact fun i k' h => pz_ctk (l := ct3_X4_reckonSpans) (P := fun b i k => b = true → pz_cV 2 45 RX4 i k) (List.forall_mem_cons.mpr ⟨(fun _ => v_X4_oddsWith (by decide) (by decide) (pz_mt 900 (by decide +kernel))), fun _ h => absurd h List.not_mem_nil⟩) true i k' h rfl
  · exact fun i k' h => pz_ctk (l := ct3_X4_reckonSpans) (P := fun b i k => b = false → (pz_cS 2 45 RX4 i k ∨ (k = pz_kac ∧ 1 ≤ 2 ∧ 60 ≤ 45 ∧ Cond.methodLink RX4 i arraycopyName ∈ pz_tbl))) (List.forall_mem_cons.mpr ⟨((fun z => by cases z)), fun _ h => absurd h List.not_mem_nil⟩) false i k' h rfl
  · intro a M hlen hpre
    obtain ⟨k, c, rfl, hpre⟩ : ∃ k c, a = [.inr (.inr (4, k)), .inr (.inr (0, c))] ∧ (pz_ic M) := by
      have hpre : (match (generalizing := false) a with | [.inr (.inr (4, k)), .inr (.inr (0, c))] => pz_ic M | _ => False) := hpre
      split at hpre
      · exact ⟨_, _, rfl, hpre⟩
      · exact hpre.elim
    exact Nat.le_of_ble_eq_true rfl
  · intro a M hlen hcan hM hpre Ok hgo
    obtain ⟨k, c, rfl, hpre⟩ : ∃ k c, a = [.inr (.inr (4, k)), .inr (.inr (0, c))] ∧ (pz_ic M) := by
      have hpre : (match (generalizing := false) a with | [.inr (.inr (4, k)), .inr (.inr (0, c))] => pz_ic M | _ => False) := hpre
      split at hpre
      · exact ⟨_, _, rfl, hpre⟩
      · exact hpre.elim
    obtain ⟨k_k, hc_k⟩ := pz_tlm hcan
    have k_k : pz_kd k = 4 ∧ k < 231 := k_k
    have R_k := pz_kd4 k_k.1
    subst R_k
    obtain ⟨k_c, hc_c⟩ := pz_tlm hc_k
    have k_c : pz_kd c = 0 ∧ c < 231 := k_c
    have R_c := pz_kd0 k_c.1
    have hI : pz_ic M := hpre
    have hI0 := hI
    have hS : pq_pr pq_Pk M M := pq_pr.rf
    have L2 : ∀ (fo : Nat) (x2 : Int) (d3 : Option pz_V) (d4 : Option pz_V) (d5 : Option pz_V) (N2 : pz_M), (12 - x2).toNat < fo → (pq_pr pq_Pk M N2) → (0 ≤ x2) → Ok 2 [some (.inr (.inr (4, 6))), some (.inr (.inr (0, c))), some (.inl x2), d3, d4, d5] [] N2 := by
      intro fo
      induction fo with
      | zero => exact fun _ _ _ _ _ hn => absurd hn (Nat.not_lt_zero _)
      | succ fo ih2 =>
        intro x2 d3 d4 d5 N2 hn2 hS g2_1
        have hI : pz_ic N2 := hS.1 hI0
        have L16 : ∀ (fu : Nat) (x2 : Int) (x3 : Int) (x4 : Int) (d5 : Option pz_V) (N16 : pz_M), (12 - x4).toNat < fu → (pq_pr pq_Pk M N16) → (0 ≤ x4) → (0 ≤ x2) → (x2 < 12) → ((12 - x2).toNat < fo + 1) → Ok 16 [some (.inr (.inr (4, 6))), some (.inr (.inr (0, c))), some (.inl x2), some (.inl x3), some (.inl x4), d5] [] N16 := by
          intro fu
          induction fu with
          | zero => exact fun _ _ _ _ _ hn => absurd hn (Nat.not_lt_zero _)
          | succ fu ih16 =>
            intro x2 x3 x4 d5 N16 hn16 hS g16_1 g16_2 g16_3 g16_4
            have hI : pz_ic N16 := hS.1 hI0
            refine hgo (fun p => Nat.beq p 2 || Nat.beq p 16) 43 16 _ _ _ ?_
            intro v19 e19 a19 b19
            have I19 := hI.1 c (by omega) (by omega)
            refine And.intro (fun h22 => ?_) (fun h22 => ?_)
            · skip
              intro v67 e67 a67 b67
              try rw [pz_wi (by omega) (by omega)] at e67
              exact ih2 _ _ _ _ _ (by omega) hS (by omega)
            · skip
              refine And.intro (True.intro) ?_
              intro v30 M30 a30 b30 q30
              obtain ⟨q30, z30⟩ := q30
              subst z30
              intro v37 e37 a37 b37
              try rw [pz_wi (by omega) (by omega)] at e37
              intro v40 e40 a40 b40
              try rw [pz_wi (by omega) (by omega)] at e40
              intro r46 e46 k46
              have R46 := pz_kdA k46 (by decide) (by decide)
              have Q46 := pz_nm e46 k_k.1 (by decide) (by decide) rfl
              have W46 : r46 = 55 := e46
              have Z49 : (((pz_ak 21).2 : Nat) : Int) = 144 := rfl
              refine And.intro (fun h50 => ?_) (fun h50 => ?_)
              · skip
                intro v61 e61 a61 b61
                try rw [pz_wi (by omega) (by omega)] at e61
                exact ih16 _ _ _ _ _ (by omega) hS (by omega) (by omega) (by omega) (by omega)
              · skip
                intro r54 e54 k54
                have R54 := pz_kdA k54 (by decide) (by decide)
                have Q54 := pz_nm e54 k_k.1 (by decide) (by decide) rfl
                have W54 : r54 = 55 := e54
                refine And.intro (by omega) (And.intro (show _ < (144 : Int) from by omega) ?_)
                intro M60 e60
                have hS : pq_pr pq_Pk M M60 := by
                  rw [e60]
                  exact pq_pr_u hS (by unfold pq_Pk pq_Pw; omega) (by unfold pz_iok; omega)
                have hI : pz_ic M60 := hS.1 hI0
                intro v61 e61 a61 b61
                try rw [pz_wi (by omega) (by omega)] at e61
                exact ih16 _ _ _ _ _ (by omega) hS (by omega) (by omega) (by omega) (by omega)
        refine hgo (fun p => Nat.beq p 2 || Nat.beq p 16) 43 2 _ _ _ ?_
        intro v4 e4 a4 b4
        have I4 := hI.1 c (by omega) (by omega)
        refine And.intro (fun h7 => ?_) (fun h7 => ?_)
        · skip
          refine And.intro rfl ?_
          exact ⟨trivial, hS⟩
        · skip
          exact L16 _ _ _ _ _ _ (Nat.lt_succ_self _) hS (by omega) (by omega) (by omega) (by omega)
    refine hgo (fun p => Nat.beq p 2 || Nat.beq p 16) 43 0 _ [] M ?_
    exact L2 _ _ _ _ _ _ (Nat.lt_succ_self _) hS (by omega)
theorem v3_X4_reckonSpans {fr lo i : Nat} {own : String} (h1 : 2 + 1 ≤ fr) (h2 : 8 + (6 + 11) + 45 ≤ lo) (h3 : .methodLink own i yX4_reckonSpans ∈ lw_tbl) : pz_cV fr lo own i k3_X4_reckonSpans :=
  pz_cVk (maxL := 6) (fr' := 2) (lo' := 45) 1 4 h3_X4_reckonSpans rfl ⟨by decide +kernel, by decide +kernel, by decide +kernel⟩ ⟨(pz_mt 949 (by decide +kernel)), (pz_mt 947 (by decide +kernel)), (pz_mt 948 (by decide +kernel)), (pz_mt 11 (by decide +kernel))⟩ (Or.inl ⟨TX4, 5, rfl⟩) (fun a M _ h => by
    have h : (match (generalizing := false) a with | [.inr (.inr (4, k)), .inr (.inr (0, c))] => pz_ic M | _ => False) := h
    split at h
    · exact ⟨_, _, rfl⟩
    · exact h.elim) h1 h2 h3
noncomputable def k3_X4_cheapestBridges : pz_C := (3, 1, fun a M => (match a with | [.inr (.inr (4, k)), .inr (.inr (0, c)), .inl i] => pz_ic M | _ => False), fun a M r M' => (match a, r with | [.inr (.inr (4, k)), .inr (.inr (0, c)), .inl i], some (.inl v) => (True) ∧ pq_pr pq_Pk M M' | _, _ => False))
noncomputable abbrev ct3_X4_cheapestBridges : List (Bool × Nat × pz_C) := [(true, 83, k_X0_bridgeableOnes), (true, 87, k3_X0_bridgedOnes), (true, 90, k3_X4_reckonSpans), (false, 94, k_J6_bitCount_0f7a4), (true, 99, k_X4_leastOdds), (true, 103, k_X4_costOf)]
set_option maxRecDepth 100000 in
set_option maxHeartbeats 4000000 in
theorem h3_X4_cheapestBridges : pz_H yX4_cheapestBridges cX4_cheapestBridges 11 (some .int) k3_X4_cheapestBridges 3 70 := by
  refine pz_mk (own := RX4) (tb := t_X4_cheapestBridges) (fl := pz_flf fl_RX4) (ci := pz_cif ci_RX4) (ct := pz_ctf ct3_X4_cheapestBridges) (rz := false) (by decide +kernel) rfl t_X4_cheapestBridges_ok (pz_flk fl_RX4_ok) (pz_cik ci_RX4_ok) ?_ ?_ (Or.inl ⟨rfl, rfl⟩) ?_ ?_
  · exact fun i k' h => pz_ctk (l := ct3_X4_cheapestBridges) (P := fun b i k => b = true → pz_cV 3 70 RX4 i k) (List.forall_mem_cons.mpr ⟨(fun _ => v_X0_bridgeableOnes (by decide) (by decide) (pz_mt 940 (by decide +kernel))), List.forall_mem_cons.mpr ⟨(fun _ => v3_X0_bridgedOnes (by decide) (by decide) (pz_mt 945 (by decide +kernel))), List.forall_mem_cons.mpr ⟨(fun _ => v3_X4_reckonSpans (by decide) (by decide) (pz_mt 946 (by decide +kernel))), List.forall_mem_cons.mpr ⟨((fun z => by cases z)), List.forall_mem_cons.mpr ⟨(fun _ => v_X4_leastOdds (by decide) (by decide) (pz_mt 951 (by decide +kernel))), List.forall_mem_cons.mpr ⟨(fun _ => v_X4_costOf (by decide) (by decide) (pz_mt 956 (by decide +kernel))), fun _ h => absurd h List.not_mem_nil⟩⟩⟩⟩⟩⟩) true i k' h rfl
  · exact fun i k' h => pz_ctk (l := ct3_X4_cheapestBridges) (P := fun b i k => b = false → (pz_cS 3 70 RX4 i k ∨ (k = pz_kac ∧ 1 ≤ 3 ∧ 60 ≤ 70 ∧ Cond.methodLink RX4 i arraycopyName ∈ pz_tbl))) (List.forall_mem_cons.mpr ⟨((fun z => by cases z)), List.forall_mem_cons.mpr ⟨((fun z => by cases z)), List.forall_mem_cons.mpr ⟨((fun z => by cases z)), List.forall_mem_cons.mpr ⟨(fun _ => Or.inl (s_J6_bitCount_0f7a4 (by decide) (by decide) (Or.inl (pz_mt 950 (by decide +kernel))))), List.forall_mem_cons.mpr ⟨((fun z => by cases z)), List.forall_mem_cons.mpr ⟨((fun z => by cases z)), fun _ h => absurd h List.not_mem_nil⟩⟩⟩⟩⟩⟩) false i k' h rfl
  · intro a M hlen hpre
    obtain ⟨k, c, i, rfl, hpre⟩ : ∃ k c i, a = [.inr (.inr (4, k)), .inr (.inr (0, c)), .inl i] ∧ (pz_ic M) := by
      have hpre : (match (generalizing := false) a with | [.inr (.inr (4, k)), .inr (.inr (0, c)), .inl i] => pz_ic M | _ => False) := hpre
      split at hpre
      · exact ⟨_, _, _, rfl, hpre⟩
      · exact hpre.elim
    exact Nat.le_of_ble_eq_true rfl
  · intro a M hlen hcan hM hpre Ok hgo
    obtain ⟨k, c, i, rfl, hpre⟩ : ∃ k c i, a = [.inr (.inr (4, k)), .inr (.inr (0, c)), .inl i] ∧ (pz_ic M) := by
      have hpre : (match (generalizing := false) a with | [.inr (.inr (4, k)), .inr (.inr (0, c)), .inl i] => pz_ic M | _ => False) := hpre
      split at hpre
      · exact ⟨_, _, _, rfl, hpre⟩
      · exact hpre.elim
    obtain ⟨k_k, hc_k⟩ := pz_tlm hcan
    have k_k : pz_kd k = 4 ∧ k < 231 := k_k
    have R_k := pz_kd4 k_k.1
    subst R_k
    obtain ⟨k_c, hc_c⟩ := pz_tlm hc_k
    have k_c : pz_kd c = 0 ∧ c < 231 := k_c
    have R_c := pz_kd0 k_c.1
    obtain ⟨k_i, hc_i⟩ := pz_tlm hc_c
    have l_i : -2147483648 ≤ i := k_i.1
    have u_i : i ≤ 2147483647 := k_i.2
    have hI : pz_ic M := hpre
    have hI0 := hI
    have hS : pq_pr pq_Pk M M := pq_pr.rf
    have L33 : ∀ (fu : Nat) (x3 : Int) (x4 : Int) (x5 : Int) (x6 : Int) (x7 : Int) (x8 : Int) (d9 : Option pz_V) (d10 : Option pz_V) (N33 : pz_M), x8.toNat < fu → (pq_pr pq_Pk M N33) → (x8 ≤ 2147483647) → Ok 33 [some (.inr (.inr (4, 6))), some (.inr (.inr (0, c))), some (.inl i), some (.inl x3), some (.inl x4), some (.inl x5), some (.inl x6), some (.inl x7), some (.inl x8), d9, d10] [] N33 := by
      intro fu
      induction fu with
      | zero => exact fun _ _ _ _ _ _ _ _ _ hn => absurd hn (Nat.not_lt_zero _)
      | succ fu ih33 =>
        intro x3 x4 x5 x6 x7 x8 d9 d10 N33 hn33 hS g33_1
        have hI : pz_ic N33 := hS.1 hI0
        have L114 : ∀ (x3 : Int) (x4 : Int) (x5 : Int) (x6 : Int) (x7 : Int) (x8 : Int) (d9 : Option pz_V) (d10 : Option pz_V) (N114 : pz_M), (pq_pr pq_Pk M N114) → (0 < x8) → (x8 ≤ 2147483647) → (x8.toNat < fu + 1) → Ok 114 [some (.inr (.inr (4, 6))), some (.inr (.inr (0, c))), some (.inl i), some (.inl x3), some (.inl x4), some (.inl x5), some (.inl x6), some (.inl x7), some (.inl x8), d9, d10] [] N114 := by
          intro x3 x4 x5 x6 x7 x8 d9 d10 N114 hS g114_1 g114_2 g114_3
          have hI : pz_ic N114 := hS.1 hI0
          refine hgo (fun p => Nat.beq p 33 || Nat.beq p 114) 71 114 _ _ _ ?_
          intro v117 e117 a117 b117
          try rw [pz_wi (by omega) (by omega)] at e117
          intro v119 e119 a119 b119
          intro v122 e122 a122 b122
          try rw [pz_wi (by omega) (by omega)] at e122
          exact ih33 _ _ _ _ _ _ _ _ _ (by omega) hS (by omega)
        refine hgo (fun p => Nat.beq p 33 || Nat.beq p 114) 71 33 _ _ _ ?_
        refine And.intro (fun h35 => ?_) (fun h35 => ?_)
        · skip
          refine And.intro rfl ?_
          exact ⟨trivial, hS⟩
        · skip
          intro v44 e44 a44 b44
          refine And.intro (hI) ?_
          intro v45 M45 a45 b45 q45
          obtain ⟨q45, z45⟩ := q45
          subst z45
          refine And.intro (fun h49 => ?_) (fun h49 => ?_)
          · skip
            exact L114 _ _ _ _ _ _ _ _ _ hS (by omega) (by omega) (by omega)
          · skip
            refine And.intro (hI) ?_
            intro v56 M56 a56 b56 q56
            obtain ⟨q56, z56⟩ := q56
            subst z56
            refine And.intro (True.intro) ?_
            intro v63 M63 a63 b63 q63
            obtain ⟨q63, z63⟩ := q63
            subst z63
            refine And.intro (True.intro) ?_
            intro v68 M68 a68 b68 q68
            obtain ⟨q68, z68⟩ := q68
            subst z68
            refine And.intro (fun h71 => ?_) (fun h71 => ?_)
            · skip
              refine And.intro (fun h84 => ?_) (fun h84 => ?_)
              · skip
                exact L114 _ _ _ _ _ _ _ _ _ hS (by omega) (by omega) (by omega)
              · skip
                refine And.intro (fun h91 => ?_) (fun h91 => ?_)
                · skip
                  exact L114 _ _ _ _ _ _ _ _ _ hS (by omega) (by omega) (by omega)
                · skip
                  refine And.intro (fun h98 => ?_) (fun h98 => ?_)
                  · skip
                    exact L114 _ _ _ _ _ _ _ _ _ hS (by omega) (by omega) (by omega)
                  · skip
                    refine And.intro (fun h103 => ?_) (fun h103 => ?_)
                    · skip
                      exact L114 _ _ _ _ _ _ _ _ _ hS (by omega) (by omega) (by omega)
                    · skip
                      exact L114 _ _ _ _ _ _ _ _ _ hS (by omega) (by omega) (by omega)
            · skip
              refine And.intro (fun h84 => ?_) (fun h84 => ?_)
              · skip
                exact L114 _ _ _ _ _ _ _ _ _ hS (by omega) (by omega) (by omega)
              · skip
                refine And.intro (fun h91 => ?_) (fun h91 => ?_)
                · skip
                  exact L114 _ _ _ _ _ _ _ _ _ hS (by omega) (by omega) (by omega)
                · skip
                  refine And.intro (fun h98 => ?_) (fun h98 => ?_)
                  · skip
                    exact L114 _ _ _ _ _ _ _ _ _ hS (by omega) (by omega) (by omega)
                  · skip
                    refine And.intro (fun h103 => ?_) (fun h103 => ?_)
                    · skip
                      exact L114 _ _ _ _ _ _ _ _ _ hS (by omega) (by omega) (by omega)
                    · skip
                      exact L114 _ _ _ _ _ _ _ _ _ hS (by omega) (by omega) (by omega)
    refine hgo (fun p => Nat.beq p 33 || Nat.beq p 114) 71 0 _ [] M ?_
    refine And.intro (hI) ?_
    intro v1 M1 a1 b1 q1
    obtain ⟨q1, z1⟩ := q1
    subst z1
    refine And.intro (hI) ?_
    intro v6 M6 a6 b6 q6
    obtain ⟨q6, z6⟩ := q6
    subst z6
    refine And.intro (hI) ?_
    intro M19 q19
    obtain ⟨q19, z19⟩ := q19
    have hS : pq_pr pq_Pk M M19 := hS.tr z19
    have hI : pz_ic M19 := hS.1 hI0
    refine And.intro (True.intro) ?_
    intro v27 M27 a27 b27 q27
    obtain ⟨q27, z27⟩ := q27
    subst z27
    intro v30 e30 a30 b30
    exact L33 _ _ _ _ _ _ _ _ _ _ (Nat.lt_succ_self _) hS (by omega)
theorem v3_X4_cheapestBridges {fr lo i : Nat} {own : String} (h1 : 3 + 1 ≤ fr) (h2 : 8 + (11 + 11) + 70 ≤ lo) (h3 : .methodLink own i yX4_cheapestBridges ∈ lw_tbl) : pz_cV fr lo own i k3_X4_cheapestBridges :=
  pz_cVk (maxL := 11) (fr' := 3) (lo' := 70) 2 4 h3_X4_cheapestBridges rfl ⟨by decide +kernel, by decide +kernel, by decide +kernel⟩ ⟨(pz_mt 939 (by decide +kernel)), (pz_mt 937 (by decide +kernel)), (pz_mt 938 (by decide +kernel)), (pz_mt 11 (by decide +kernel))⟩ (Or.inl ⟨TX4, 5, rfl⟩) (fun a M _ h => by
    have h : (match (generalizing := false) a with | [.inr (.inr (4, k)), .inr (.inr (0, c)), .inl i] => pz_ic M | _ => False) := h
    split at h
    · exact ⟨_, _, rfl⟩
    · exact h.elim) h1 h2 h3
noncomputable def k3_X11_odds : pz_C := (2, 1, fun a M => (match a with | [.inr (.inr (11, th)), .inl d] => pz_ic M | _ => False), fun a M r M' => (match a, r with | [.inr (.inr (11, th)), .inl d], some (.inl v) => (True) ∧ pq_pr pq_Pk M M' | _, _ => False))
noncomputable abbrev ct3_X11_odds : List (Bool × Nat × pz_C) := [(false, 137, k_X11_within), (true, 255, k3_X4_reckon), (true, 258, k_X4_oddsOf)]
set_option maxRecDepth 100000 in
set_option maxHeartbeats 4000000 in
theorem h3_X11_odds : pz_H yX11_odds cX11_odds 2 (some .int) k3_X11_odds 5 120 := by
  refine pz_mk (own := RX11) (tb := t_X11_odds) (fl := pz_flf fl_RX11) (ci := pz_cif ci_RX11) (ct := pz_ctf ct3_X11_odds) (rz := false) (by decide +kernel) rfl t_X11_odds_ok (pz_flk fl_RX11_ok) (pz_cik ci_RX11_ok) ?_ ?_ (Or.inl ⟨rfl, rfl⟩) ?_ ?_
  · exact fun i k' h => pz_ctk (l := ct3_X11_odds) (P := fun b i k => b = true → pz_cV 5 120 RX11 i k) (List.forall_mem_cons.mpr ⟨((fun z => by cases z)), List.forall_mem_cons.mpr ⟨(fun _ => v3_X4_reckon (by decide) (by decide) (pz_mt 884 (by decide +kernel))), List.forall_mem_cons.mpr ⟨(fun _ => v_X4_oddsOf (by decide) (by decide) (pz_mt 896 (by decide +kernel))), fun _ h => absurd h List.not_mem_nil⟩⟩⟩) true i k' h rfl
  · exact fun i k' h => pz_ctk (l := ct3_X11_odds) (P := fun b i k => b = false → (pz_cS 5 120 RX11 i k ∨ (k = pz_kac ∧ 1 ≤ 5 ∧ 60 ≤ 120 ∧ Cond.methodLink RX11 i arraycopyName ∈ pz_tbl))) (List.forall_mem_cons.mpr ⟨(fun _ => Or.inl (s_X11_within (by decide) (by decide) (Or.inl (pz_mt 425 (by decide +kernel))))), List.forall_mem_cons.mpr ⟨((fun z => by cases z)), List.forall_mem_cons.mpr ⟨((fun z => by cases z)), fun _ h => absurd h List.not_mem_nil⟩⟩⟩) false i k' h rfl
  · intro a M hlen hpre
    obtain ⟨th, d, rfl, hpre⟩ : ∃ th d, a = [.inr (.inr (11, th)), .inl d] ∧ (pz_ic M) := by
      have hpre : (match (generalizing := false) a with | [.inr (.inr (11, th)), .inl d] => pz_ic M | _ => False) := hpre
      split at hpre
      · exact ⟨_, _, rfl, hpre⟩
      · exact hpre.elim
    exact Nat.le_of_ble_eq_true rfl
  · intro a M hlen hcan hM hpre Ok hgo
    obtain ⟨th, d, rfl, hpre⟩ : ∃ th d, a = [.inr (.inr (11, th)), .inl d] ∧ (pz_ic M) := by
      have hpre : (match (generalizing := false) a with | [.inr (.inr (11, th)), .inl d] => pz_ic M | _ => False) := hpre
      split at hpre
      · exact ⟨_, _, rfl, hpre⟩
      · exact hpre.elim
    obtain ⟨k_th, hc_th⟩ := pz_tlm hcan
    have k_th : pz_kd th = 11 ∧ th < 231 := k_th
    have R_th := pz_kd11 k_th.1
    subst R_th
    obtain ⟨k_d, hc_d⟩ := pz_tlm hc_th
    have l_d : -2147483648 ≤ d := k_d.1
    have u_d : d ≤ 2147483647 := k_d.2
    have hI : pz_ic M := hpre
    have hI0 := hI
    have hS : pq_pr pq_Pk M M := pq_pr.rf
    refine hgo (fun _ => false) 27 0 _ [] M ?_
    refine And.intro (True.intro) ?_
    intro v4 M4 a4 b4 q4
    obtain ⟨q4, z4⟩ := q4
    subst z4
    refine And.intro (fun h7 => ?_) (fun h7 => ?_)
    · skip
      intro r13 e13 k13
      have R13 := pz_kd4 k13
      intro r17 e17 k17
      have R17 := pz_kd0 k17
      refine And.intro (hI) ?_
      intro M21 q21
      obtain ⟨q21, z21⟩ := q21
      have hS : pq_pr pq_Pk M M21 := hS.tr z21
      have hI : pz_ic M21 := hS.1 hI0
      intro r25 e25 k25
      have R25 := pz_kd4 k25
      intro r29 e29 k29
      have R29 := pz_kd0 k29
      intro r34 e34 k34
      have R34 := pz_kd0 k34
      intro v37 e37 a37 b37
      have I37 := hI.1 r34 (by omega) (by omega)
      intro v41 e41 a41 b41
      try rw [pz_wi (by omega) (by omega)] at e41
      refine And.intro (And.intro hI (by omega)) ?_
      intro v42 M42 a42 b42 q42
      obtain ⟨q42, z42⟩ := q42
      subst z42
      refine And.intro rfl ?_
      exact ⟨trivial, hS⟩
    · skip
      refine And.intro rfl ?_
      exact ⟨trivial, hS⟩
theorem v3_X11_odds {fr lo i : Nat} {own : String} (h1 : 5 + 1 ≤ fr) (h2 : 8 + (2 + 11) + 120 ≤ lo) (h3 : .methodLink own i yX11_odds ∈ lw_tbl) : pz_cV fr lo own i k3_X11_odds :=
  pz_cVk (maxL := 2) (fr' := 5) (lo' := 120) 1 11 h3_X11_odds rfl ⟨by decide +kernel, by decide +kernel, by decide +kernel⟩ ⟨(pz_mt 883 (by decide +kernel)), (pz_mt 881 (by decide +kernel)), (pz_mt 882 (by decide +kernel)), (pz_mt 1 (by decide +kernel))⟩ (Or.inl ⟨TX11, 14, rfl⟩) (fun a M _ h => by
    have h : (match (generalizing := false) a with | [.inr (.inr (11, th)), .inl d] => pz_ic M | _ => False) := h
    split at h
    · exact ⟨_, _, rfl⟩
    · exact h.elim) h1 h2 h3
noncomputable def k3_X11_holds : pz_C := (3, 1, fun a M => (match a with | [.inr (.inr (11, th)), .inl d, .inl w] => pz_ic M | _ => False), fun a M r M' => (match a, r with | [.inr (.inr (11, th)), .inl d, .inl w], some (.inl v) => (True) ∧ pq_pr pq_Pk M M' | _, _ => False))
noncomputable abbrev ct3_X11_holds : List (Bool × Nat × pz_C) := [(false, 137, k_X11_within), (true, 255, k3_X4_reckon), (true, 261, k_X4_holder), (true, 264, k_X4_chanceOf)]
set_option maxRecDepth 100000 in
set_option maxHeartbeats 4000000 in
theorem h3_X11_holds : pz_H yX11_holds cX11_holds 4 (some .int) k3_X11_holds 5 120 := by
  refine pz_mk (own := RX11) (tb := t_X11_holds) (fl := pz_flf fl_RX11) (ci := pz_cif ci_RX11) (ct := pz_ctf ct3_X11_holds) (rz := false) (by decide +kernel) rfl t_X11_holds_ok (pz_flk fl_RX11_ok) (pz_cik ci_RX11_ok) ?_ ?_ (Or.inl ⟨rfl, rfl⟩) ?_ ?_
  · exact fun i k' h => pz_ctk (l := ct3_X11_holds) (P := fun b i k => b = true → pz_cV 5 120 RX11 i k) (List.forall_mem_cons.mpr ⟨((fun z => by cases z)), List.forall_mem_cons.mpr ⟨(fun _ => v3_X4_reckon (by decide) (by decide) (pz_mt 884 (by decide +kernel))), List.forall_mem_cons.mpr ⟨(fun _ => v_X4_holder (by decide) (by decide) (pz_mt 917 (by decide +kernel))), List.forall_mem_cons.mpr ⟨(fun _ => v_X4_chanceOf (by decide) (by decide) (pz_mt 921 (by decide +kernel))), fun _ h => absurd h List.not_mem_nil⟩⟩⟩⟩) true i k' h rfl
  · exact fun i k' h => pz_ctk (l := ct3_X11_holds) (P := fun b i k => b = false → (pz_cS 5 120 RX11 i k ∨ (k = pz_kac ∧ 1 ≤ 5 ∧ 60 ≤ 120 ∧ Cond.methodLink RX11 i arraycopyName ∈ pz_tbl))) (List.forall_mem_cons.mpr ⟨(fun _ => Or.inl (s_X11_within (by decide) (by decide) (Or.inl (pz_mt 425 (by decide +kernel))))), List.forall_mem_cons.mpr ⟨((fun z => by cases z)), List.forall_mem_cons.mpr ⟨((fun z => by cases z)), List.forall_mem_cons.mpr ⟨((fun z => by cases z)), fun _ h => absurd h List.not_mem_nil⟩⟩⟩⟩) false i k' h rfl
  · intro a M hlen hpre
    obtain ⟨th, d, w, rfl, hpre⟩ : ∃ th d w, a = [.inr (.inr (11, th)), .inl d, .inl w] ∧ (pz_ic M) := by
      have hpre : (match (generalizing := false) a with | [.inr (.inr (11, th)), .inl d, .inl w] => pz_ic M | _ => False) := hpre
      split at hpre
      · exact ⟨_, _, _, rfl, hpre⟩
      · exact hpre.elim
    exact Nat.le_of_ble_eq_true rfl
  · intro a M hlen hcan hM hpre Ok hgo
    obtain ⟨th, d, w, rfl, hpre⟩ : ∃ th d w, a = [.inr (.inr (11, th)), .inl d, .inl w] ∧ (pz_ic M) := by
      have hpre : (match (generalizing := false) a with | [.inr (.inr (11, th)), .inl d, .inl w] => pz_ic M | _ => False) := hpre
      split at hpre
      · exact ⟨_, _, _, rfl, hpre⟩
      · exact hpre.elim
    obtain ⟨k_th, hc_th⟩ := pz_tlm hcan
    have k_th : pz_kd th = 11 ∧ th < 231 := k_th
    have R_th := pz_kd11 k_th.1
    subst R_th
    obtain ⟨k_d, hc_d⟩ := pz_tlm hc_th
    have l_d : -2147483648 ≤ d := k_d.1
    have u_d : d ≤ 2147483647 := k_d.2
    obtain ⟨k_w, hc_w⟩ := pz_tlm hc_d
    have l_w : -2147483648 ≤ w := k_w.1
    have u_w : w ≤ 2147483647 := k_w.2
    have hI : pz_ic M := hpre
    have hI0 := hI
    have hS : pq_pr pq_Pk M M := pq_pr.rf
    refine hgo (fun _ => false) 38 0 _ [] M ?_
    refine And.intro (True.intro) ?_
    intro v4 M4 a4 b4 q4
    obtain ⟨q4, z4⟩ := q4
    subst z4
    refine And.intro (fun h7 => ?_) (fun h7 => ?_)
    · skip
      refine And.intro rfl ?_
      exact ⟨trivial, hS⟩
    · skip
      refine And.intro (True.intro) ?_
      intro v13 M13 a13 b13 q13
      obtain ⟨q13, z13⟩ := q13
      subst z13
      refine And.intro (fun h16 => ?_) (fun h16 => ?_)
      · skip
        intro r22 e22 k22
        have R22 := pz_kd4 k22
        intro r26 e26 k26
        have R26 := pz_kd0 k26
        refine And.intro (hI) ?_
        intro M30 q30
        obtain ⟨q30, z30⟩ := q30
        have hS : pq_pr pq_Pk M M30 := hS.tr z30
        have hI : pz_ic M30 := hS.1 hI0
        intro r34 e34 k34
        have R34 := pz_kd4 k34
        intro r38 e38 k38
        have R38 := pz_kd0 k38
        refine And.intro (hI) ?_
        intro v41 M41 a41 b41 q41
        obtain ⟨q41, z41⟩ := q41
        subst z41
        refine And.intro (fun h47 => ?_) (fun h47 => ?_)
        · skip
          refine And.intro rfl ?_
          exact ⟨trivial, hS⟩
        · skip
          refine And.intro (fun h51 => ?_) (fun h51 => ?_)
          · skip
            intro r59 e59 k59
            have R59 := pz_kd4 k59
            refine And.intro (True.intro) ?_
            intro v63 M63 a63 b63 q63
            obtain ⟨q63, z63⟩ := q63
            subst z63
            refine And.intro rfl ?_
            exact ⟨trivial, hS⟩
          · skip
            refine And.intro rfl ?_
            exact ⟨trivial, hS⟩
      · skip
        refine And.intro rfl ?_
        exact ⟨trivial, hS⟩
theorem v3_X11_holds {fr lo i : Nat} {own : String} (h1 : 5 + 1 ≤ fr) (h2 : 8 + (4 + 11) + 120 ≤ lo) (h3 : .methodLink own i yX11_holds ∈ lw_tbl) : pz_cV fr lo own i k3_X11_holds :=
  pz_cVk (maxL := 4) (fr' := 5) (lo' := 120) 2 11 h3_X11_holds rfl ⟨by decide +kernel, by decide +kernel, by decide +kernel⟩ ⟨(pz_mt 916 (by decide +kernel)), (pz_mt 914 (by decide +kernel)), (pz_mt 915 (by decide +kernel)), (pz_mt 1 (by decide +kernel))⟩ (Or.inl ⟨TX11, 14, rfl⟩) (fun a M _ h => by
    have h : (match (generalizing := false) a with | [.inr (.inr (11, th)), .inl d, .inl w] => pz_ic M | _ => False) := h
    split at h
    · exact ⟨_, _, rfl⟩
    · exact h.elim) h1 h2 h3
noncomputable def k3_X11_bridges : pz_C := (4, 1, fun a M => (match a with | [.inr (.inr (11, th)), .inl d, .inl h, .inl w] => pz_ic M | _ => False), fun a M r M' => (match a, r with | [.inr (.inr (11, th)), .inl d, .inl h, .inl w], some (.inl v) => (True) ∧ pq_pr pq_Pk M M' | _, _ => False))
noncomputable abbrev ct3_X11_bridges : List (Bool × Nat × pz_C) := [(false, 137, k_X11_within), (true, 255, k3_X4_reckon), (true, 276, k3_X4_cheapestBridges), (true, 280, k_X4_costOf)]
set_option maxRecDepth 100000 in
set_option maxHeartbeats 4000000 in
theorem h3_X11_bridges : pz_H yX11_bridges cX11_bridges 5 (some .int) k3_X11_bridges 5 120 := by
  refine pz_mk (own := RX11) (tb := t_X11_bridges) (fl := pz_flf fl_RX11) (ci := pz_cif ci_RX11) (ct := pz_ctf ct3_X11_bridges) (rz := false) (by decide +kernel) rfl t_X11_bridges_ok (pz_flk fl_RX11_ok) (pz_cik ci_RX11_ok) ?_ ?_ (Or.inl ⟨rfl, rfl⟩) ?_ ?_
  · exact fun i k' h => pz_ctk (l := ct3_X11_bridges) (P := fun b i k => b = true → pz_cV 5 120 RX11 i k) (List.forall_mem_cons.mpr ⟨((fun z => by cases z)), List.forall_mem_cons.mpr ⟨(fun _ => v3_X4_reckon (by decide) (by decide) (pz_mt 884 (by decide +kernel))), List.forall_mem_cons.mpr ⟨(fun _ => v3_X4_cheapestBridges (by decide) (by decide) (pz_mt 936 (by decide +kernel))), List.forall_mem_cons.mpr ⟨(fun _ => v_X4_costOf (by decide) (by decide) (pz_mt 960 (by decide +kernel))), fun _ h => absurd h List.not_mem_nil⟩⟩⟩⟩) true i k' h rfl
  · exact fun i k' h => pz_ctk (l := ct3_X11_bridges) (P := fun b i k => b = false → (pz_cS 5 120 RX11 i k ∨ (k = pz_kac ∧ 1 ≤ 5 ∧ 60 ≤ 120 ∧ Cond.methodLink RX11 i arraycopyName ∈ pz_tbl))) (List.forall_mem_cons.mpr ⟨(fun _ => Or.inl (s_X11_within (by decide) (by decide) (Or.inl (pz_mt 425 (by decide +kernel))))), List.forall_mem_cons.mpr ⟨((fun z => by cases z)), List.forall_mem_cons.mpr ⟨((fun z => by cases z)), List.forall_mem_cons.mpr ⟨((fun z => by cases z)), fun _ h => absurd h List.not_mem_nil⟩⟩⟩⟩) false i k' h rfl
  · intro a M hlen hpre
    obtain ⟨th, d, h, w, rfl, hpre⟩ : ∃ th d h w, a = [.inr (.inr (11, th)), .inl d, .inl h, .inl w] ∧ (pz_ic M) := by
      have hpre : (match (generalizing := false) a with | [.inr (.inr (11, th)), .inl d, .inl h, .inl w] => pz_ic M | _ => False) := hpre
      split at hpre
      · exact ⟨_, _, _, _, rfl, hpre⟩
      · exact hpre.elim
    exact Nat.le_of_ble_eq_true rfl
  · intro a M hlen hcan hM hpre Ok hgo
    obtain ⟨th, d, h, w, rfl, hpre⟩ : ∃ th d h w, a = [.inr (.inr (11, th)), .inl d, .inl h, .inl w] ∧ (pz_ic M) := by
      have hpre : (match (generalizing := false) a with | [.inr (.inr (11, th)), .inl d, .inl h, .inl w] => pz_ic M | _ => False) := hpre
      split at hpre
      · exact ⟨_, _, _, _, rfl, hpre⟩
      · exact hpre.elim
    obtain ⟨k_th, hc_th⟩ := pz_tlm hcan
    have k_th : pz_kd th = 11 ∧ th < 231 := k_th
    have R_th := pz_kd11 k_th.1
    subst R_th
    obtain ⟨k_d, hc_d⟩ := pz_tlm hc_th
    have l_d : -2147483648 ≤ d := k_d.1
    have u_d : d ≤ 2147483647 := k_d.2
    obtain ⟨k_h, hc_h⟩ := pz_tlm hc_d
    have l_h : -2147483648 ≤ h := k_h.1
    have u_h : h ≤ 2147483647 := k_h.2
    obtain ⟨k_w, hc_w⟩ := pz_tlm hc_h
    have l_w : -2147483648 ≤ w := k_w.1
    have u_w : w ≤ 2147483647 := k_w.2
    have hI : pz_ic M := hpre
    have hI0 := hI
    have hS : pq_pr pq_Pk M M := pq_pr.rf
    refine hgo (fun _ => false) 49 0 _ [] M ?_
    refine And.intro (True.intro) ?_
    intro v4 M4 a4 b4 q4
    obtain ⟨q4, z4⟩ := q4
    subst z4
    refine And.intro (fun h7 => ?_) (fun h7 => ?_)
    · skip
      refine And.intro rfl ?_
      exact ⟨trivial, hS⟩
    · skip
      refine And.intro (True.intro) ?_
      intro v15 M15 a15 b15 q15
      obtain ⟨q15, z15⟩ := q15
      subst z15
      refine And.intro (fun h18 => ?_) (fun h18 => ?_)
      · skip
        refine And.intro rfl ?_
        exact ⟨trivial, hS⟩
      · skip
        refine And.intro (True.intro) ?_
        intro v24 M24 a24 b24 q24
        obtain ⟨q24, z24⟩ := q24
        subst z24
        refine And.intro (fun h27 => ?_) (fun h27 => ?_)
        · skip
          intro r33 e33 k33
          have R33 := pz_kd4 k33
          intro r37 e37 k37
          have R37 := pz_kd0 k37
          refine And.intro (hI) ?_
          intro M41 q41
          obtain ⟨q41, z41⟩ := q41
          have hS : pq_pr pq_Pk M M41 := hS.tr z41
          have hI : pz_ic M41 := hS.1 hI0
          intro r45 e45 k45
          have R45 := pz_kd4 k45
          intro r49 e49 k49
          have R49 := pz_kd0 k49
          refine And.intro (hI) ?_
          intro v53 M53 a53 b53 q53
          obtain ⟨q53, z53⟩ := q53
          have hS : pq_pr pq_Pk M M53 := hS.tr z53
          have hI : pz_ic M53 := hS.1 hI0
          refine And.intro (fun h61 => ?_) (fun h61 => ?_)
          · skip
            refine And.intro rfl ?_
            exact ⟨trivial, hS⟩
          · skip
            refine And.intro (fun h66 => ?_) (fun h66 => ?_)
            · skip
              intro r76 e76 k76
              have R76 := pz_kd4 k76
              intro r80 e80 k80
              have R80 := pz_kd0 k80
              refine And.intro (hI) ?_
              intro v85 M85 a85 b85 q85
              obtain ⟨q85, z85⟩ := q85
              subst z85
              intro v88 e88 a88 b88
              try rw [pz_wi (by omega) (by omega)] at e88
              refine And.intro rfl ?_
              exact ⟨trivial, hS⟩
            · skip
              refine And.intro rfl ?_
              exact ⟨trivial, hS⟩
        · skip
          refine And.intro rfl ?_
          exact ⟨trivial, hS⟩
theorem v3_X11_bridges {fr lo i : Nat} {own : String} (h1 : 5 + 1 ≤ fr) (h2 : 8 + (5 + 11) + 120 ≤ lo) (h3 : .methodLink own i yX11_bridges ∈ lw_tbl) : pz_cV fr lo own i k3_X11_bridges :=
  pz_cVk (maxL := 5) (fr' := 5) (lo' := 120) 3 11 h3_X11_bridges rfl ⟨by decide +kernel, by decide +kernel, by decide +kernel⟩ ⟨(pz_mt 935 (by decide +kernel)), (pz_mt 933 (by decide +kernel)), (pz_mt 934 (by decide +kernel)), (pz_mt 1 (by decide +kernel))⟩ (Or.inl ⟨TX11, 14, rfl⟩) (fun a M _ h => by
    have h : (match (generalizing := false) a with | [.inr (.inr (11, th)), .inl d, .inl h, .inl w] => pz_ic M | _ => False) := h
    split at h
    · exact ⟨_, _, rfl⟩
    · exact h.elim) h1 h2 h3
noncomputable def k3_X11_soon : pz_C := (2, 1, fun a M => (match a with | [.inr (.inr (11, th)), .inl h] => pz_ic M | _ => False), fun a M r M' => (match a, r with | [.inr (.inr (11, th)), .inl h], some (.inl v) => (True) ∧ pq_pr pq_Pk M M' | _, _ => False))
noncomputable abbrev ct3_X11_soon : List (Bool × Nat × pz_C) := [(false, 137, k_X11_within), (true, 255, k3_X4_reckon), (true, 331, k3_X4_oneDayMore), (true, 258, k_X4_oddsOf)]
set_option maxRecDepth 100000 in
set_option maxHeartbeats 4000000 in
theorem h3_X11_soon : pz_H yX11_soon cX11_soon 3 (some .int) k3_X11_soon 5 120 := by
  refine pz_mk (own := RX11) (tb := t_X11_soon) (fl := pz_flf fl_RX11) (ci := pz_cif ci_RX11) (ct := pz_ctf ct3_X11_soon) (rz := false) (by decide +kernel) rfl t_X11_soon_ok (pz_flk fl_RX11_ok) (pz_cik ci_RX11_ok) ?_ ?_ (Or.inl ⟨rfl, rfl⟩) ?_ ?_
  · exact fun i k' h => pz_ctk (l := ct3_X11_soon) (P := fun b i k => b = true → pz_cV 5 120 RX11 i k) (List.forall_mem_cons.mpr ⟨((fun z => by cases z)), List.forall_mem_cons.mpr ⟨(fun _ => v3_X4_reckon (by decide) (by decide) (pz_mt 884 (by decide +kernel))), List.forall_mem_cons.mpr ⟨(fun _ => v3_X4_oneDayMore (by decide) (by decide) (pz_mt 1061 (by decide +kernel))), List.forall_mem_cons.mpr ⟨(fun _ => v_X4_oddsOf (by decide) (by decide) (pz_mt 896 (by decide +kernel))), fun _ h => absurd h List.not_mem_nil⟩⟩⟩⟩) true i k' h rfl
  · exact fun i k' h => pz_ctk (l := ct3_X11_soon) (P := fun b i k => b = false → (pz_cS 5 120 RX11 i k ∨ (k = pz_kac ∧ 1 ≤ 5 ∧ 60 ≤ 120 ∧ Cond.methodLink RX11 i arraycopyName ∈ pz_tbl))) (List.forall_mem_cons.mpr ⟨(fun _ => Or.inl (s_X11_within (by decide) (by decide) (Or.inl (pz_mt 425 (by decide +kernel))))), List.forall_mem_cons.mpr ⟨((fun z => by cases z)), List.forall_mem_cons.mpr ⟨((fun z => by cases z)), List.forall_mem_cons.mpr ⟨((fun z => by cases z)), fun _ h => absurd h List.not_mem_nil⟩⟩⟩⟩) false i k' h rfl
  · intro a M hlen hpre
    obtain ⟨th, h, rfl, hpre⟩ : ∃ th h, a = [.inr (.inr (11, th)), .inl h] ∧ (pz_ic M) := by
      have hpre : (match (generalizing := false) a with | [.inr (.inr (11, th)), .inl h] => pz_ic M | _ => False) := hpre
      split at hpre
      · exact ⟨_, _, rfl, hpre⟩
      · exact hpre.elim
    exact Nat.le_of_ble_eq_true rfl
  · intro a M hlen hcan hM hpre Ok hgo
    obtain ⟨th, h, rfl, hpre⟩ : ∃ th h, a = [.inr (.inr (11, th)), .inl h] ∧ (pz_ic M) := by
      have hpre : (match (generalizing := false) a with | [.inr (.inr (11, th)), .inl h] => pz_ic M | _ => False) := hpre
      split at hpre
      · exact ⟨_, _, rfl, hpre⟩
      · exact hpre.elim
    obtain ⟨k_th, hc_th⟩ := pz_tlm hcan
    have k_th : pz_kd th = 11 ∧ th < 231 := k_th
    have R_th := pz_kd11 k_th.1
    subst R_th
    obtain ⟨k_h, hc_h⟩ := pz_tlm hc_th
    have l_h : -2147483648 ≤ h := k_h.1
    have u_h : h ≤ 2147483647 := k_h.2
    have hI : pz_ic M := hpre
    have hI0 := hI
    have hS : pq_pr pq_Pk M M := pq_pr.rf
    have L27 : ∀ (fu : Nat) (x2 : Int) (N27 : pz_M), (61 - x2).toNat < fu → (pq_pr pq_Pk M N27) → (0 ≤ x2) → Ok 27 [some (.inr (.inr (11, 0))), some (.inl h), some (.inl x2)] [] N27 := by
      intro fu
      induction fu with
      | zero => exact fun _ _ hn => absurd hn (Nat.not_lt_zero _)
      | succ fu ih27 =>
        intro x2 N27 hn27 hS g27_1
        have hI : pz_ic N27 := hS.1 hI0
        refine hgo (fun p => Nat.beq p 27) 44 27 _ _ _ ?_
        refine And.intro (fun h30 => ?_) (fun h30 => ?_)
        · skip
          refine And.intro rfl ?_
          exact ⟨trivial, hS⟩
        · skip
          intro r34 e34 k34
          have R34 := pz_kd4 k34
          intro r38 e38 k38
          have R38 := pz_kd0 k38
          refine And.intro (hI) ?_
          intro M41 q41
          obtain ⟨q41, z41⟩ := q41
          have hS : pq_pr pq_Pk M M41 := hS.tr z41
          have hI : pz_ic M41 := hS.1 hI0
          intro r45 e45 k45
          have R45 := pz_kd4 k45
          intro r49 e49 k49
          have R49 := pz_kd0 k49
          intro r54 e54 k54
          have R54 := pz_kd0 k54
          intro v57 e57 a57 b57
          have I57 := hI.1 r54 (by omega) (by omega)
          intro v61 e61 a61 b61
          try rw [pz_wi (by omega) (by omega)] at e61
          refine And.intro (And.intro hI (by omega)) ?_
          intro v62 M62 a62 b62 q62
          obtain ⟨q62, z62⟩ := q62
          subst z62
          refine And.intro (fun h66 => ?_) (fun h66 => ?_)
          · skip
            intro v71 e71 a71 b71
            try rw [pz_wi (by omega) (by omega)] at e71
            exact ih27 _ _ (by omega) hS (by omega)
          · skip
            refine And.intro rfl ?_
            exact ⟨trivial, hS⟩
    refine hgo (fun p => Nat.beq p 27) 44 0 _ [] M ?_
    refine And.intro (True.intro) ?_
    intro v5 M5 a5 b5 q5
    obtain ⟨q5, z5⟩ := q5
    subst z5
    refine And.intro (fun h8 => ?_) (fun h8 => ?_)
    · skip
      intro r14 e14 k14
      have R14 := pz_kd4 k14
      intro r18 e18 k18
      have R18 := pz_kd0 k18
      refine And.intro (hI) ?_
      intro M22 q22
      obtain ⟨q22, z22⟩ := q22
      have hS : pq_pr pq_Pk M M22 := hS.tr z22
      have hI : pz_ic M22 := hS.1 hI0
      exact L27 _ _ _ (Nat.lt_succ_self _) hS (by omega)
    · skip
      refine And.intro rfl ?_
      exact ⟨trivial, hS⟩
theorem v3_X11_soon {fr lo i : Nat} {own : String} (h1 : 5 + 1 ≤ fr) (h2 : 8 + (3 + 11) + 120 ≤ lo) (h3 : .methodLink own i yX11_soon ∈ lw_tbl) : pz_cV fr lo own i k3_X11_soon :=
  pz_cVk (maxL := 3) (fr' := 5) (lo' := 120) 1 11 h3_X11_soon rfl ⟨by decide +kernel, by decide +kernel, by decide +kernel⟩ ⟨(pz_mt 1060 (by decide +kernel)), (pz_mt 1058 (by decide +kernel)), (pz_mt 1059 (by decide +kernel)), (pz_mt 1 (by decide +kernel))⟩ (Or.inl ⟨TX11, 14, rfl⟩) (fun a M _ h => by
    have h : (match (generalizing := false) a with | [.inr (.inr (11, th)), .inl h] => pz_ic M | _ => False) := h
    split at h
    · exact ⟨_, _, rfl⟩
    · exact h.elim) h1 h2 h3
noncomputable def k3_X11_hurry : pz_C := (3, 1, fun a M => (match a with | [.inr (.inr (11, th)), .inl d, .inl w] => pz_ic M | _ => False), fun a M r M' => (match a, r with | [.inr (.inr (11, th)), .inl d, .inl w], some (.inl v) => (True) ∧ pq_pr pq_Pk M M' | _, _ => False))
noncomputable abbrev ct3_X11_hurry : List (Bool × Nat × pz_C) := [(false, 137, k_X11_within), (true, 255, k3_X4_reckon), (true, 334, k3_X4_oddsHurried)]
set_option maxRecDepth 100000 in
set_option maxHeartbeats 4000000 in
theorem h3_X11_hurry : pz_H yX11_hurry cX11_hurry 7 (some .int) k3_X11_hurry 5 124 := by
  refine pz_mk (own := RX11) (tb := t_X11_hurry) (fl := pz_flf fl_RX11) (ci := pz_cif ci_RX11) (ct := pz_ctf ct3_X11_hurry) (rz := false) (by decide +kernel) rfl t_X11_hurry_ok (pz_flk fl_RX11_ok) (pz_cik ci_RX11_ok) ?_ ?_ (Or.inl ⟨rfl, rfl⟩) ?_ ?_
  · exact fun i k' h => pz_ctk (l := ct3_X11_hurry) (P := fun b i k => b = true → pz_cV 5 124 RX11 i k) (List.forall_mem_cons.mpr ⟨((fun z => by cases z)), List.forall_mem_cons.mpr ⟨(fun _ => v3_X4_reckon (by decide) (by decide) (pz_mt 884 (by decide +kernel))), List.forall_mem_cons.mpr ⟨(fun _ => v3_X4_oddsHurried (by decide) (by decide) (pz_mt 1069 (by decide +kernel))), fun _ h => absurd h List.not_mem_nil⟩⟩⟩) true i k' h rfl
  · exact fun i k' h => pz_ctk (l := ct3_X11_hurry) (P := fun b i k => b = false → (pz_cS 5 124 RX11 i k ∨ (k = pz_kac ∧ 1 ≤ 5 ∧ 60 ≤ 124 ∧ Cond.methodLink RX11 i arraycopyName ∈ pz_tbl))) (List.forall_mem_cons.mpr ⟨(fun _ => Or.inl (s_X11_within (by decide) (by decide) (Or.inl (pz_mt 425 (by decide +kernel))))), List.forall_mem_cons.mpr ⟨((fun z => by cases z)), List.forall_mem_cons.mpr ⟨((fun z => by cases z)), fun _ h => absurd h List.not_mem_nil⟩⟩⟩) false i k' h rfl
  · intro a M hlen hpre
    obtain ⟨th, d, w, rfl, hpre⟩ : ∃ th d w, a = [.inr (.inr (11, th)), .inl d, .inl w] ∧ (pz_ic M) := by
      have hpre : (match (generalizing := false) a with | [.inr (.inr (11, th)), .inl d, .inl w] => pz_ic M | _ => False) := hpre
      split at hpre
      · exact ⟨_, _, _, rfl, hpre⟩
      · exact hpre.elim
    exact Nat.le_of_ble_eq_true rfl
  · intro a M hlen hcan hM hpre Ok hgo
    obtain ⟨th, d, w, rfl, hpre⟩ : ∃ th d w, a = [.inr (.inr (11, th)), .inl d, .inl w] ∧ (pz_ic M) := by
      have hpre : (match (generalizing := false) a with | [.inr (.inr (11, th)), .inl d, .inl w] => pz_ic M | _ => False) := hpre
      split at hpre
      · exact ⟨_, _, _, rfl, hpre⟩
      · exact hpre.elim
    obtain ⟨k_th, hc_th⟩ := pz_tlm hcan
    have k_th : pz_kd th = 11 ∧ th < 231 := k_th
    have R_th := pz_kd11 k_th.1
    subst R_th
    obtain ⟨k_d, hc_d⟩ := pz_tlm hc_th
    have l_d : -2147483648 ≤ d := k_d.1
    have u_d : d ≤ 2147483647 := k_d.2
    obtain ⟨k_w, hc_w⟩ := pz_tlm hc_d
    have l_w : -2147483648 ≤ w := k_w.1
    have u_w : w ≤ 2147483647 := k_w.2
    have hI : pz_ic M := hpre
    have hI0 := hI
    have hS : pq_pr pq_Pk M M := pq_pr.rf
    have L41 : ∀ (fu : Nat) (x3 : Int) (x4 : Int) (x5 : Int) (d6 : Option pz_V) (N41 : pz_M), (12 - x5).toNat < fu → (pq_pr pq_Pk M N41) → (0 ≤ x5) → Ok 41 [some (.inr (.inr (11, 0))), some (.inl d), some (.inl w), some (.inl x3), some (.inl x4), some (.inl x5), d6] [] N41 := by
      intro fu
      induction fu with
      | zero => exact fun _ _ _ _ _ hn => absurd hn (Nat.not_lt_zero _)
      | succ fu ih41 =>
        intro x3 x4 x5 d6 N41 hn41 hS g41_1
        have hI : pz_ic N41 := hS.1 hI0
        have L83 : ∀ (x3 : Int) (x4 : Int) (x5 : Int) (x6 : Int) (N83 : pz_M), (pq_pr pq_Pk M N83) → (0 ≤ x5) → (x5 < 12) → ((12 - x5).toNat < fu + 1) → Ok 83 [some (.inr (.inr (11, 0))), some (.inl d), some (.inl w), some (.inl x3), some (.inl x4), some (.inl x5), some (.inl x6)] [] N83 := by
          intro x3 x4 x5 x6 N83 hS g83_1 g83_2 g83_3
          have hI : pz_ic N83 := hS.1 hI0
          refine hgo (fun p => Nat.beq p 41 || Nat.beq p 83) 54 83 _ _ _ ?_
          intro v83 e83 a83 b83
          try rw [pz_wi (by omega) (by omega)] at e83
          exact ih41 _ _ _ _ _ (by omega) hS (by omega)
        refine hgo (fun p => Nat.beq p 41 || Nat.beq p 83) 54 41 _ _ _ ?_
        intro r44 e44 k44
        have R44 := pz_kd0 k44
        intro v47 e47 a47 b47
        have I47 := hI.1 r44 (by omega) (by omega)
        refine And.intro (fun h50 => ?_) (fun h50 => ?_)
        · skip
          refine And.intro (fun h90 => ?_) (fun h90 => ?_)
          · skip
            refine And.intro rfl ?_
            exact ⟨trivial, hS⟩
          · skip
            refine And.intro rfl ?_
            exact ⟨trivial, hS⟩
        · skip
          intro r54 e54 k54
          have R54 := pz_kd4 k54
          intro r58 e58 k58
          have R58 := pz_kd0 k58
          refine And.intro (hI) ?_
          intro v64 M64 a64 b64 q64
          obtain ⟨q64, z64⟩ := q64
          have hS : pq_pr pq_Pk M M64 := hS.tr z64
          have hI : pz_ic M64 := hS.1 hI0
          refine And.intro (fun h73 => ?_) (fun h73 => ?_)
          · skip
            exact L83 _ _ _ _ _ hS (by omega) (by omega) (by omega)
          · skip
            exact L83 _ _ _ _ _ hS (by omega) (by omega) (by omega)
    refine hgo (fun p => Nat.beq p 41 || Nat.beq p 83) 54 0 _ [] M ?_
    refine And.intro (True.intro) ?_
    intro v4 M4 a4 b4 q4
    obtain ⟨q4, z4⟩ := q4
    subst z4
    refine And.intro (fun h7 => ?_) (fun h7 => ?_)
    · skip
      refine And.intro rfl ?_
      exact ⟨trivial, hS⟩
    · skip
      refine And.intro (True.intro) ?_
      intro v13 M13 a13 b13 q13
      obtain ⟨q13, z13⟩ := q13
      subst z13
      refine And.intro (fun h16 => ?_) (fun h16 => ?_)
      · skip
        intro r27 e27 k27
        have R27 := pz_kd4 k27
        intro r31 e31 k31
        have R31 := pz_kd0 k31
        refine And.intro (hI) ?_
        intro M35 q35
        obtain ⟨q35, z35⟩ := q35
        have hS : pq_pr pq_Pk M M35 := hS.tr z35
        have hI : pz_ic M35 := hS.1 hI0
        exact L41 _ _ _ _ _ _ (Nat.lt_succ_self _) hS (by omega)
      · skip
        refine And.intro rfl ?_
        exact ⟨trivial, hS⟩
theorem v3_X11_hurry {fr lo i : Nat} {own : String} (h1 : 5 + 1 ≤ fr) (h2 : 8 + (7 + 11) + 124 ≤ lo) (h3 : .methodLink own i yX11_hurry ∈ lw_tbl) : pz_cV fr lo own i k3_X11_hurry :=
  pz_cVk (maxL := 7) (fr' := 5) (lo' := 124) 2 11 h3_X11_hurry rfl ⟨by decide +kernel, by decide +kernel, by decide +kernel⟩ ⟨(pz_mt 1068 (by decide +kernel)), (pz_mt 1066 (by decide +kernel)), (pz_mt 1067 (by decide +kernel)), (pz_mt 1 (by decide +kernel))⟩ (Or.inl ⟨TX11, 14, rfl⟩) (fun a M _ h => by
    have h : (match (generalizing := false) a with | [.inr (.inr (11, th)), .inl d, .inl w] => pz_ic M | _ => False) := h
    split at h
    · exact ⟨_, _, rfl⟩
    · exact h.elim) h1 h2 h3
noncomputable def k3_X11_split : pz_C := (3, 1, fun a M => (match a with | [.inr (.inr (11, th)), .inl d, .inl w] => pz_ic M | _ => False), fun a M r M' => (match a, r with | [.inr (.inr (11, th)), .inl d, .inl w], some (.inl v) => (True) ∧ pq_pr pq_Pk M M' | _, _ => False))
noncomputable abbrev ct3_X11_split : List (Bool × Nat × pz_C) := [(false, 137, k_X11_within), (true, 337, k3_X0_bridgedOnes), (true, 255, k3_X4_reckon), (true, 340, k3_X4_reckonSpans), (true, 153, k3_X0_canBridge), (true, 343, k_X4_leastOdds)]
set_option maxRecDepth 100000 in
set_option maxHeartbeats 4000000 in
theorem h3_X11_split : pz_H yX11_split cX11_split 8 (some .int) k3_X11_split 5 120 := by
  refine pz_mk (own := RX11) (tb := t_X11_split) (fl := pz_flf fl_RX11) (ci := pz_cif ci_RX11) (ct := pz_ctf ct3_X11_split) (rz := false) (by decide +kernel) rfl t_X11_split_ok (pz_flk fl_RX11_ok) (pz_cik ci_RX11_ok) ?_ ?_ (Or.inl ⟨rfl, rfl⟩) ?_ ?_
  · exact fun i k' h => pz_ctk (l := ct3_X11_split) (P := fun b i k => b = true → pz_cV 5 120 RX11 i k) (List.forall_mem_cons.mpr ⟨((fun z => by cases z)), List.forall_mem_cons.mpr ⟨(fun _ => v3_X0_bridgedOnes (by decide) (by decide) (pz_mt 1078 (by decide +kernel))), List.forall_mem_cons.mpr ⟨(fun _ => v3_X4_reckon (by decide) (by decide) (pz_mt 884 (by decide +kernel))), List.forall_mem_cons.mpr ⟨(fun _ => v3_X4_reckonSpans (by decide) (by decide) (pz_mt 1079 (by decide +kernel))), List.forall_mem_cons.mpr ⟨(fun _ => v3_X0_canBridge (by decide) (by decide) (pz_mt 525 (by decide +kernel))), List.forall_mem_cons.mpr ⟨(fun _ => v_X4_leastOdds (by decide) (by decide) (pz_mt 1080 (by decide +kernel))), fun _ h => absurd h List.not_mem_nil⟩⟩⟩⟩⟩⟩) true i k' h rfl
  · exact fun i k' h => pz_ctk (l := ct3_X11_split) (P := fun b i k => b = false → (pz_cS 5 120 RX11 i k ∨ (k = pz_kac ∧ 1 ≤ 5 ∧ 60 ≤ 120 ∧ Cond.methodLink RX11 i arraycopyName ∈ pz_tbl))) (List.forall_mem_cons.mpr ⟨(fun _ => Or.inl (s_X11_within (by decide) (by decide) (Or.inl (pz_mt 425 (by decide +kernel))))), List.forall_mem_cons.mpr ⟨((fun z => by cases z)), List.forall_mem_cons.mpr ⟨((fun z => by cases z)), List.forall_mem_cons.mpr ⟨((fun z => by cases z)), List.forall_mem_cons.mpr ⟨((fun z => by cases z)), List.forall_mem_cons.mpr ⟨((fun z => by cases z)), fun _ h => absurd h List.not_mem_nil⟩⟩⟩⟩⟩⟩) false i k' h rfl
  · intro a M hlen hpre
    obtain ⟨th, d, w, rfl, hpre⟩ : ∃ th d w, a = [.inr (.inr (11, th)), .inl d, .inl w] ∧ (pz_ic M) := by
      have hpre : (match (generalizing := false) a with | [.inr (.inr (11, th)), .inl d, .inl w] => pz_ic M | _ => False) := hpre
      split at hpre
      · exact ⟨_, _, _, rfl, hpre⟩
      · exact hpre.elim
    exact Nat.le_of_ble_eq_true rfl
  · intro a M hlen hcan hM hpre Ok hgo
    obtain ⟨th, d, w, rfl, hpre⟩ : ∃ th d w, a = [.inr (.inr (11, th)), .inl d, .inl w] ∧ (pz_ic M) := by
      have hpre : (match (generalizing := false) a with | [.inr (.inr (11, th)), .inl d, .inl w] => pz_ic M | _ => False) := hpre
      split at hpre
      · exact ⟨_, _, _, rfl, hpre⟩
      · exact hpre.elim
    obtain ⟨k_th, hc_th⟩ := pz_tlm hcan
    have k_th : pz_kd th = 11 ∧ th < 231 := k_th
    have R_th := pz_kd11 k_th.1
    subst R_th
    obtain ⟨k_d, hc_d⟩ := pz_tlm hc_th
    have l_d : -2147483648 ≤ d := k_d.1
    have u_d : d ≤ 2147483647 := k_d.2
    obtain ⟨k_w, hc_w⟩ := pz_tlm hc_d
    have l_w : -2147483648 ≤ w := k_w.1
    have u_w : w ≤ 2147483647 := k_w.2
    have hI : pz_ic M := hpre
    have hI0 := hI
    have hS : pq_pr pq_Pk M M := pq_pr.rf
    have L61 : ∀ (fu : Nat) (x3 : Int) (x4 : Int) (x5 : Int) (x6 : Int) (d7 : Option pz_V) (N61 : pz_M), (12 - x6).toNat < fu → (pq_pr pq_Pk M N61) → (0 ≤ x6) → Ok 61 [some (.inr (.inr (11, 0))), some (.inl d), some (.inl w), some (.inl x3), some (.inl x4), some (.inl x5), some (.inl x6), d7] [] N61 := by
      intro fu
      induction fu with
      | zero => exact fun _ _ _ _ _ _ hn => absurd hn (Nat.not_lt_zero _)
      | succ fu ih61 =>
        intro x3 x4 x5 x6 d7 N61 hn61 hS g61_1
        have hI : pz_ic N61 := hS.1 hI0
        have L119 : ∀ (x3 : Int) (x4 : Int) (x5 : Int) (x6 : Int) (d7 : Option pz_V) (N119 : pz_M), (pq_pr pq_Pk M N119) → (0 ≤ x6) → (x6 < 12) → ((12 - x6).toNat < fu + 1) → Ok 119 [some (.inr (.inr (11, 0))), some (.inl d), some (.inl w), some (.inl x3), some (.inl x4), some (.inl x5), some (.inl x6), d7] [] N119 := by
          intro x3 x4 x5 x6 d7 N119 hS g119_1 g119_2 g119_3
          have hI : pz_ic N119 := hS.1 hI0
          refine hgo (fun p => Nat.beq p 61 || Nat.beq p 119) 71 119 _ _ _ ?_
          intro v119 e119 a119 b119
          try rw [pz_wi (by omega) (by omega)] at e119
          exact ih61 _ _ _ _ _ _ (by omega) hS (by omega)
        refine hgo (fun p => Nat.beq p 61 || Nat.beq p 119) 71 61 _ _ _ ?_
        intro r64 e64 k64
        have R64 := pz_kd0 k64
        intro v67 e67 a67 b67
        have I67 := hI.1 r64 (by omega) (by omega)
        refine And.intro (fun h70 => ?_) (fun h70 => ?_)
        · skip
          refine And.intro (fun h126 => ?_) (fun h126 => ?_)
          · skip
            refine And.intro rfl ?_
            exact ⟨trivial, hS⟩
          · skip
            refine And.intro rfl ?_
            exact ⟨trivial, hS⟩
        · skip
          intro r74 e74 k74
          have R74 := pz_kd0 k74
          refine And.intro (hI) ?_
          intro v79 M79 a79 b79 q79
          obtain ⟨q79, z79⟩ := q79
          subst z79
          refine And.intro (fun h82 => ?_) (fun h82 => ?_)
          · skip
            exact L119 _ _ _ _ _ _ hS (by omega) (by omega) (by omega)
          · skip
            intro r86 e86 k86
            have R86 := pz_kd4 k86
            intro r90 e90 k90
            have R90 := pz_kd0 k90
            intro v98 e98 a98 b98
            intro v99 e99 a99 b99
            refine And.intro (hI) ?_
            intro v100 M100 a100 b100 q100
            obtain ⟨q100, z100⟩ := q100
            subst z100
            refine And.intro (fun h109 => ?_) (fun h109 => ?_)
            · skip
              exact L119 _ _ _ _ _ _ hS (by omega) (by omega) (by omega)
            · skip
              exact L119 _ _ _ _ _ _ hS (by omega) (by omega) (by omega)
    refine hgo (fun p => Nat.beq p 61 || Nat.beq p 119) 71 0 _ [] M ?_
    refine And.intro (True.intro) ?_
    intro v4 M4 a4 b4 q4
    obtain ⟨q4, z4⟩ := q4
    subst z4
    refine And.intro (fun h7 => ?_) (fun h7 => ?_)
    · skip
      refine And.intro rfl ?_
      exact ⟨trivial, hS⟩
    · skip
      refine And.intro (True.intro) ?_
      intro v13 M13 a13 b13 q13
      obtain ⟨q13, z13⟩ := q13
      subst z13
      refine And.intro (fun h16 => ?_) (fun h16 => ?_)
      · skip
        intro r27 e27 k27
        have R27 := pz_kd0 k27
        refine And.intro (hI) ?_
        intro v30 M30 a30 b30 q30
        obtain ⟨q30, z30⟩ := q30
        subst z30
        intro r36 e36 k36
        have R36 := pz_kd4 k36
        intro r40 e40 k40
        have R40 := pz_kd0 k40
        refine And.intro (hI) ?_
        intro M44 q44
        obtain ⟨q44, z44⟩ := q44
        have hS : pq_pr pq_Pk M M44 := hS.tr z44
        have hI : pz_ic M44 := hS.1 hI0
        intro r48 e48 k48
        have R48 := pz_kd4 k48
        intro r52 e52 k52
        have R52 := pz_kd0 k52
        refine And.intro (hI) ?_
        intro M55 q55
        obtain ⟨q55, z55⟩ := q55
        have hS : pq_pr pq_Pk M M55 := hS.tr z55
        have hI : pz_ic M55 := hS.1 hI0
        exact L61 _ _ _ _ _ _ _ (Nat.lt_succ_self _) hS (by omega)
      · skip
        refine And.intro rfl ?_
        exact ⟨trivial, hS⟩
theorem v3_X11_split {fr lo i : Nat} {own : String} (h1 : 5 + 1 ≤ fr) (h2 : 8 + (8 + 11) + 120 ≤ lo) (h3 : .methodLink own i yX11_split ∈ lw_tbl) : pz_cV fr lo own i k3_X11_split :=
  pz_cVk (maxL := 8) (fr' := 5) (lo' := 120) 2 11 h3_X11_split rfl ⟨by decide +kernel, by decide +kernel, by decide +kernel⟩ ⟨(pz_mt 1077 (by decide +kernel)), (pz_mt 1075 (by decide +kernel)), (pz_mt 1076 (by decide +kernel)), (pz_mt 1 (by decide +kernel))⟩ (Or.inl ⟨TX11, 14, rfl⟩) (fun a M _ h => by
    have h : (match (generalizing := false) a with | [.inr (.inr (11, th)), .inl d, .inl w] => pz_ic M | _ => False) := h
    split at h
    · exact ⟨_, _, rfl⟩
    · exact h.elim) h1 h2 h3
