noncomputable def k_X12_canBe : pz_C := (2, 1, fun a M => (match a with | [.inl x, .inl y] => True | _ => False), fun a M r M' => (match a, r with | [.inl x, .inl y], some (.inl v) => ((v = 1 ∧ ((x = 0 ∧ 1 ≤ y ∧ y ≤ 999) ∨ (x = 1 ∧ -9999 ≤ y ∧ y ≤ 9999) ∨ (x = 2 ∧ -999 ≤ y ∧ y ≤ 999) ∨ (x = 3 ∧ 0 ≤ y ∧ y ≤ 9) ∨ (x = 4 ∧ 0 ≤ y ∧ y ≤ 1))) ∨ (v = 0 ∧ ¬ ((x = 0 ∧ 1 ≤ y ∧ y ≤ 999) ∨ (x = 1 ∧ -9999 ≤ y ∧ y ≤ 9999) ∨ (x = 2 ∧ -999 ≤ y ∧ y ≤ 999) ∨ (x = 3 ∧ 0 ≤ y ∧ y ≤ 9) ∨ (x = 4 ∧ 0 ≤ y ∧ y ≤ 1)))) ∧ M = M' | _, _ => False))
noncomputable abbrev ct_X12_canBe : List (Bool × Nat × pz_C) := [(false, 54, k_X12_isIn)]
set_option maxRecDepth 100000 in
set_option maxHeartbeats 4000000 in
theorem h_X12_canBe : pz_H yX12_canBe cX12_canBe 2 (some .boolean) k_X12_canBe 1 22 := by
  refine pz_mk (own := RX12) (tb := t_X12_canBe) (fl := pz_flf fl_RX12) (ci := pz_cif ci_RX12) (ct := pz_ctf ct_X12_canBe) (rz := true) (by decide +kernel) rfl t_X12_canBe_ok (pz_flk fl_RX12_ok) (pz_cik ci_RX12_ok) ?_ ?_ (Or.inr ⟨rfl, rfl⟩) ?_ ?_
  · exact fun i k' h => pz_ctk (l := ct_X12_canBe) (P := fun b i k => b = true → pz_cV 1 22 RX12 i k) (List.forall_mem_cons.mpr ⟨((fun z => by cases z)), fun _ h => absurd h List.not_mem_nil⟩) true i k' h rfl
  · exact fun i k' h => pz_ctk (l := ct_X12_canBe) (P := fun b i k => b = false → (pz_cS 1 22 RX12 i k ∨ (k = pz_kac ∧ 1 ≤ 1 ∧ 60 ≤ 22 ∧ Cond.methodLink RX12 i arraycopyName ∈ pz_tbl))) (List.forall_mem_cons.mpr ⟨(fun _ => Or.inl (s_X12_isIn (by decide) (by decide) (Or.inl (pz_mt 1217 (by decide +kernel))))), fun _ h => absurd h List.not_mem_nil⟩) false i k' h rfl
  · intro a M hlen hpre
    obtain ⟨x, y, rfl, hpre⟩ : ∃ x y, a = [.inl x, .inl y] ∧ (True) := by
      have hpre : (match (generalizing := false) a with | [.inl x, .inl y] => True | _ => False) := hpre
      split at hpre
      · exact ⟨_, _, rfl, hpre⟩
      · exact hpre.elim
    exact Nat.le_of_ble_eq_true rfl
  · intro a M hlen hcan hM hpre Ok hgo
    obtain ⟨x, y, rfl, hpre⟩ : ∃ x y, a = [.inl x, .inl y] ∧ (True) := by
      have hpre : (match (generalizing := false) a with | [.inl x, .inl y] => True | _ => False) := hpre
      split at hpre
      · exact ⟨_, _, rfl, hpre⟩
      · exact hpre.elim
    obtain ⟨k_x, hc_x⟩ := pz_tlm hcan
    have l_x : -2147483648 ≤ x := k_x.1
    have u_x : x ≤ 2147483647 := k_x.2
    obtain ⟨k_y, hc_y⟩ := pz_tlm hc_x
    have l_y : -2147483648 ≤ y := k_y.1
    have u_y : y ≤ 2147483647 := k_y.2
    refine hgo (fun _ => false) 31 0 _ [] M ?_
    refine And.intro ?_ ?_
    · skip
      refine And.intro (fun h1 => ?_) ?_
      · skip
        refine And.intro (True.intro) ?_
        intro v41 M41 a41 b41 q41
        obtain ⟨q41, z41⟩ := q41
        subst z41
        clear a41 b41
        refine And.intro (by omega) ?_
        refine And.intro rfl ?_
        exact ⟨by omega, rfl⟩
      refine And.intro (fun h1 => ?_) ?_
      · skip
        refine And.intro (True.intro) ?_
        intro v52 M52 a52 b52 q52
        obtain ⟨q52, z52⟩ := q52
        subst z52
        clear a52 b52
        refine And.intro (by omega) ?_
        refine And.intro rfl ?_
        exact ⟨by omega, rfl⟩
      refine And.intro (fun h1 => ?_) ?_
      · skip
        refine And.intro (True.intro) ?_
        intro v63 M63 a63 b63 q63
        obtain ⟨q63, z63⟩ := q63
        subst z63
        clear a63 b63
        refine And.intro (by omega) ?_
        refine And.intro rfl ?_
        exact ⟨by omega, rfl⟩
      refine And.intro (fun h1 => ?_) ?_
      · skip
        refine And.intro (True.intro) ?_
        intro v71 M71 a71 b71 q71
        obtain ⟨q71, z71⟩ := q71
        subst z71
        clear a71 b71
        refine And.intro (by omega) ?_
        refine And.intro rfl ?_
        exact ⟨by omega, rfl⟩
      refine And.intro (fun h1 => ?_) ?_
      · skip
        refine And.intro (True.intro) ?_
        intro v78 M78 a78 b78 q78
        obtain ⟨q78, z78⟩ := q78
        subst z78
        clear a78 b78
        refine And.intro (by omega) ?_
        refine And.intro rfl ?_
        exact ⟨by omega, rfl⟩
      exact True.intro
    · intro h1
      refine And.intro (by omega) ?_
      refine And.intro rfl ?_
      exact ⟨by omega, rfl⟩
theorem s_X12_canBe {fr lo i : Nat} {own : String} (h1 : 1 + 1 ≤ fr) (h2 : 8 + (2 + 11) + 22 ≤ lo) (h3 : .methodLink own i yX12_canBe ∈ lw_tbl ∨ (own = RX1 ∧ i = 35 ∧ yX12_canBe = yX11_within)) : pz_cS fr lo own i k_X12_canBe := pz_cSk (maxL := 2) (fr' := 1) (lo' := 22) 2 h_X12_canBe rfl ⟨by decide +kernel, by decide +kernel, by decide +kernel⟩ ⟨(pz_mt 1230 (by decide +kernel)), (pz_mt 1229 (by decide +kernel)), (pz_mt 13 (by decide +kernel))⟩ h1 h2 h3
noncomputable def k_X12_set : pz_C := (4, 1, fun a M => (match a with | [.inr (.inr (12, th)), .inl p, .inl i, .inl n] => pz_im M | _ => False), fun a M r M' => (match a, r with | [.inr (.inr (12, th)), .inl p, .inl i, .inl n], some (.inl v) => ((((0 ≤ i ∧ i < M 60 88) ∧ ((p = 0 ∧ 1 ≤ n ∧ n ≤ 999) ∨ (p = 1 ∧ -9999 ≤ n ∧ n ≤ 9999) ∨ (p = 2 ∧ -999 ≤ n ∧ n ≤ 999) ∨ (p = 3 ∧ 0 ≤ n ∧ n ≤ 9) ∨ (p = 4 ∧ 0 ≤ n ∧ n ≤ 1))) ∧ v = 1 ∧ M' = pz_u (pz_u M 60 (pz_bs p + i).toNat n) 1 4 0) ∨ (¬ ((0 ≤ i ∧ i < M 60 88) ∧ ((p = 0 ∧ 1 ≤ n ∧ n ≤ 999) ∨ (p = 1 ∧ -9999 ≤ n ∧ n ≤ 9999) ∨ (p = 2 ∧ -999 ≤ n ∧ n ≤ 999) ∨ (p = 3 ∧ 0 ≤ n ∧ n ≤ 9) ∨ (p = 4 ∧ 0 ≤ n ∧ n ≤ 1))) ∧ v = 0 ∧ M' = M)) ∧ pz_rl pz_Q9 M M' | _, _ => False))
noncomputable abbrev ct_X12_set : List (Bool × Nat × pz_C) := [(true, 58, k_X12_isLink), (false, 76, k_X12_canBe), (true, 71, k_X12_forgets)]
set_option maxRecDepth 100000 in
set_option maxHeartbeats 4000000 in
theorem h_X12_set : pz_H yX12_set cX12_set 4 (some .boolean) k_X12_set 2 43 := by
  refine pz_mk (own := RX12) (tb := t_X12_set) (fl := pz_flf fl_RX12) (ci := pz_cif ci_RX12) (ct := pz_ctf ct_X12_set) (rz := true) (by decide +kernel) rfl t_X12_set_ok (pz_flk fl_RX12_ok) (pz_cik ci_RX12_ok) ?_ ?_ (Or.inr ⟨rfl, rfl⟩) ?_ ?_
  · exact fun i k' h => pz_ctk (l := ct_X12_set) (P := fun b i k => b = true → pz_cV 2 43 RX12 i k) (List.forall_mem_cons.mpr ⟨(fun _ => v_X12_isLink (by decide) (by decide) (pz_mt 1224 (by decide +kernel))), List.forall_mem_cons.mpr ⟨((fun z => by cases z)), List.forall_mem_cons.mpr ⟨(fun _ => v_X12_forgets (by decide) (by decide) (pz_mt 1209 (by decide +kernel))), fun _ h => absurd h List.not_mem_nil⟩⟩⟩) true i k' h rfl
  · exact fun i k' h => pz_ctk (l := ct_X12_set) (P := fun b i k => b = false → (pz_cS 2 43 RX12 i k ∨ (k = pz_kac ∧ 1 ≤ 2 ∧ 60 ≤ 43 ∧ Cond.methodLink RX12 i arraycopyName ∈ pz_tbl))) (List.forall_mem_cons.mpr ⟨((fun z => by cases z)), List.forall_mem_cons.mpr ⟨(fun _ => Or.inl (s_X12_canBe (by decide) (by decide) (Or.inl (pz_mt 1228 (by decide +kernel))))), List.forall_mem_cons.mpr ⟨((fun z => by cases z)), fun _ h => absurd h List.not_mem_nil⟩⟩⟩) false i k' h rfl
  · intro a M hlen hpre
    obtain ⟨th, p, i, n, rfl, hpre⟩ : ∃ th p i n, a = [.inr (.inr (12, th)), .inl p, .inl i, .inl n] ∧ (pz_im M) := by
      have hpre : (match (generalizing := false) a with | [.inr (.inr (12, th)), .inl p, .inl i, .inl n] => pz_im M | _ => False) := hpre
      split at hpre
      · exact ⟨_, _, _, _, rfl, hpre⟩
      · exact hpre.elim
    exact Nat.le_of_ble_eq_true rfl
  · intro a M hlen hcan hM hpre Ok hgo
    obtain ⟨th, p, i, n, rfl, hpre⟩ : ∃ th p i n, a = [.inr (.inr (12, th)), .inl p, .inl i, .inl n] ∧ (pz_im M) := by
      have hpre : (match (generalizing := false) a with | [.inr (.inr (12, th)), .inl p, .inl i, .inl n] => pz_im M | _ => False) := hpre
      split at hpre
      · exact ⟨_, _, _, _, rfl, hpre⟩
      · exact hpre.elim
    obtain ⟨k_th, hc_th⟩ := pz_tlm hcan
    have k_th : pz_kd th = 12 ∧ th < 231 := k_th
    have R_th := pz_kd12 k_th.1
    subst R_th
    clear k_th
    obtain ⟨k_p, hc_p⟩ := pz_tlm hc_th
    have l_p : -2147483648 ≤ p := k_p.1
    have u_p : p ≤ 2147483647 := k_p.2
    obtain ⟨k_i, hc_i⟩ := pz_tlm hc_p
    have l_i : -2147483648 ≤ i := k_i.1
    have u_i : i ≤ 2147483647 := k_i.2
    obtain ⟨k_n, hc_n⟩ := pz_tlm hc_i
    have l_n : -2147483648 ≤ n := k_n.1
    have u_n : n ≤ 2147483647 := k_n.2
    have hI : pz_im M := hpre
    have hI0 := hI
    have hS : pz_rl pz_Q9 M M := pz_rl.rf
    refine hgo (fun _ => false) 42 0 _ [] M ?_
    refine And.intro (hI) ?_
    intro v2 M2 a2 b2 q2
    obtain ⟨q2, z2⟩ := q2
    subst z2
    clear a2 b2
    refine And.intro (fun h5 => ?_) (fun h5 => ?_)
    · skip
      replace q2 := q2.resolve_left (fun z => absurd (z.1.symm.trans h5) (by decide))
      clear h5
      refine And.intro (by omega) ?_
      refine And.intro rfl ?_
      exact ⟨Or.inr ⟨by omega, rfl, rfl⟩, hS⟩
    · skip
      replace q2 := q2.resolve_right (fun z => h5 z.1)
      clear h5
      refine And.intro (True.intro) ?_
      intro v10 M10 a10 b10 q10
      obtain ⟨q10, z10⟩ := q10
      subst z10
      clear a10 b10
      refine And.intro (fun h13 => ?_) (fun h13 => ?_)
      · skip
        replace q10 := q10.resolve_right (fun z => h13 z.1)
        clear h13
        refine pz_nrc (c := 60) rfl ?_
        refine And.intro (fun h23 => ?_) (fun h23 => ?_)
        · skip
          refine And.intro (fun h32 => ?_) (fun h32 => ?_)
          · skip
            refine And.intro (fun h42 => ?_) (fun h42 => ?_)
            · skip
              refine And.intro (fun h52 => ?_) (fun h52 => ?_)
              · skip
                intro v63 e63 a63 b63
                rw [pz_wi (by omega) (by omega)] at e63
                clear a63 b63
                refine And.intro (by omega) (And.intro (show _ < (1725 : Int) from by omega) ?_)
                intro M65 e65
                have hS : pz_rl pz_Q9 M M65 := by
                  rw [e65]
                  exact pz_rl_u hS (by unfold pz_Q9; omega) (pz_iom_w1 (by omega) (by omega))
                have hI : pz_im M65 := hS.1 hI0
                refine And.intro (hI) ?_
                intro M67 q67
                obtain ⟨q67, z67⟩ := q67
                have hS : pz_rl pz_Q9 M M67 := hS.tr (pz_rlQ9_fg q67 z67)
                have T67a := z67.2
                have T67b := z67.1.2
                have hI : pz_im M67 := hS.1 hI0
                refine And.intro (by omega) ?_
                refine And.intro rfl ?_
                have B9 : pz_bs p + i = v63 := by
                  unfold pz_bs
                  repeat' split
                  all_goals omega
                have K9 : M67 = pz_u (pz_u M 60 (pz_bs p + i).toNat n) 1 4 0 := by rw [q67, e65, B9]
                exact ⟨Or.inl ⟨by omega, rfl, K9⟩, hS⟩
              · skip
                intro v63 e63 a63 b63
                rw [pz_wi (by omega) (by omega)] at e63
                clear a63 b63
                refine And.intro (by omega) (And.intro (show _ < (1725 : Int) from by omega) ?_)
                intro M65 e65
                have hS : pz_rl pz_Q9 M M65 := by
                  rw [e65]
                  exact pz_rl_u hS (by unfold pz_Q9; omega) (pz_iom_w2 (by omega) (by omega))
                have hI : pz_im M65 := hS.1 hI0
                refine And.intro (hI) ?_
                intro M67 q67
                obtain ⟨q67, z67⟩ := q67
                have hS : pz_rl pz_Q9 M M67 := hS.tr (pz_rlQ9_fg q67 z67)
                have T67a := z67.2
                have T67b := z67.1.2
                have hI : pz_im M67 := hS.1 hI0
                refine And.intro (by omega) ?_
                refine And.intro rfl ?_
                have B9 : pz_bs p + i = v63 := by
                  unfold pz_bs
                  repeat' split
                  all_goals omega
                have K9 : M67 = pz_u (pz_u M 60 (pz_bs p + i).toNat n) 1 4 0 := by rw [q67, e65, B9]
                exact ⟨Or.inl ⟨by omega, rfl, K9⟩, hS⟩
            · skip
              intro v63 e63 a63 b63
              rw [pz_wi (by omega) (by omega)] at e63
              clear a63 b63
              refine And.intro (by omega) (And.intro (show _ < (1725 : Int) from by omega) ?_)
              intro M65 e65
              have hS : pz_rl pz_Q9 M M65 := by
                rw [e65]
                exact pz_rl_u hS (by unfold pz_Q9; omega) (pz_iom_w1 (by omega) (by omega))
              have hI : pz_im M65 := hS.1 hI0
              refine And.intro (hI) ?_
              intro M67 q67
              obtain ⟨q67, z67⟩ := q67
              have hS : pz_rl pz_Q9 M M67 := hS.tr (pz_rlQ9_fg q67 z67)
              have T67a := z67.2
              have T67b := z67.1.2
              have hI : pz_im M67 := hS.1 hI0
              refine And.intro (by omega) ?_
              refine And.intro rfl ?_
              have B9 : pz_bs p + i = v63 := by
                unfold pz_bs
                repeat' split
                all_goals omega
              have K9 : M67 = pz_u (pz_u M 60 (pz_bs p + i).toNat n) 1 4 0 := by rw [q67, e65, B9]
              exact ⟨Or.inl ⟨by omega, rfl, K9⟩, hS⟩
          · skip
            intro v63 e63 a63 b63
            rw [pz_wi (by omega) (by omega)] at e63
            clear a63 b63
            refine And.intro (by omega) (And.intro (show _ < (1725 : Int) from by omega) ?_)
            intro M65 e65
            have hS : pz_rl pz_Q9 M M65 := by
              rw [e65]
              exact pz_rl_u hS (by unfold pz_Q9; omega) (pz_iom_w1 (by omega) (by omega))
            have hI : pz_im M65 := hS.1 hI0
            refine And.intro (hI) ?_
            intro M67 q67
            obtain ⟨q67, z67⟩ := q67
            have hS : pz_rl pz_Q9 M M67 := hS.tr (pz_rlQ9_fg q67 z67)
            have T67a := z67.2
            have T67b := z67.1.2
            have hI : pz_im M67 := hS.1 hI0
            refine And.intro (by omega) ?_
            refine And.intro rfl ?_
            have B9 : pz_bs p + i = v63 := by
              unfold pz_bs
              repeat' split
              all_goals omega
            have K9 : M67 = pz_u (pz_u M 60 (pz_bs p + i).toNat n) 1 4 0 := by rw [q67, e65, B9]
            exact ⟨Or.inl ⟨by omega, rfl, K9⟩, hS⟩
        · skip
          intro v63 e63 a63 b63
          rw [pz_wi (by omega) (by omega)] at e63
          clear a63 b63
          refine And.intro (by omega) (And.intro (show _ < (1725 : Int) from by omega) ?_)
          intro M65 e65
          have hS : pz_rl pz_Q9 M M65 := by
            rw [e65]
            exact pz_rl_u hS (by unfold pz_Q9; omega) (pz_iom_w1 (by omega) (by omega))
          have hI : pz_im M65 := hS.1 hI0
          refine And.intro (hI) ?_
          intro M67 q67
          obtain ⟨q67, z67⟩ := q67
          have hS : pz_rl pz_Q9 M M67 := hS.tr (pz_rlQ9_fg q67 z67)
          have T67a := z67.2
          have T67b := z67.1.2
          have hI : pz_im M67 := hS.1 hI0
          refine And.intro (by omega) ?_
          refine And.intro rfl ?_
          have B9 : pz_bs p + i = v63 := by
            unfold pz_bs
            repeat' split
            all_goals omega
          have K9 : M67 = pz_u (pz_u M 60 (pz_bs p + i).toNat n) 1 4 0 := by rw [q67, e65, B9]
          exact ⟨Or.inl ⟨by omega, rfl, K9⟩, hS⟩
      · skip
        replace q10 := q10.resolve_left (fun z => absurd (z.1.symm.trans h13) (by decide))
        clear h13
        refine And.intro (by omega) ?_
        refine And.intro rfl ?_
        exact ⟨Or.inr ⟨by omega, rfl, rfl⟩, hS⟩
theorem v_X12_set {fr lo i : Nat} {own : String} (h1 : 2 + 1 ≤ fr) (h2 : 8 + (4 + 11) + 43 ≤ lo) (h3 : .methodLink own i yX12_set ∈ lw_tbl) : pz_cV fr lo own i k_X12_set :=
  pz_cVk (maxL := 4) (fr' := 2) (lo' := 43) 3 12 h_X12_set rfl ⟨by decide +kernel, by decide +kernel, by decide +kernel⟩ ⟨(pz_mt 1223 (by decide +kernel)), (pz_mt 1221 (by decide +kernel)), (pz_mt 1222 (by decide +kernel)), (pz_mt 13 (by decide +kernel))⟩ (Or.inl ⟨TX12, 28, rfl⟩) (fun a M _ h => by
    have h : (match (generalizing := false) a with | [.inr (.inr (12, th)), .inl p, .inl i, .inl n] => pz_im M | _ => False) := h
    split at h
    · exact ⟨_, _, rfl⟩
    · exact h.elim) h1 h2 h3
