noncomputable def k_X12_planWord : pz_C := (1, 1, fun a M => (match a with | [.inr (.inr (12, th))] => pz_im M ∧ M 1 19 ≤ M 1 17 | _ => False), fun a M r M' => (match a, r with | [.inr (.inr (12, th))], some (.inl v) => (v = pz_mp (pz_W M)) ∧ M = M' | _, _ => False))
noncomputable abbrev ct_X12_planWord : List (Bool × Nat × pz_C) := [(true, 101, k_X12_is)]
set_option maxRecDepth 100000 in
set_option maxHeartbeats 4000000 in
theorem h_X12_planWord : pz_H yX12_planWord cX12_planWord 1 (some .int) k_X12_planWord 5 108 := by
  refine pz_mk (own := RX12) (tb := t_X12_planWord) (fl := pz_flf fl_RX12) (ci := pz_cif ci_RX12) (ct := pz_ctf ct_X12_planWord) (rz := false) (pz_pfc_RX12 yX12_planWord rfl) rfl t_X12_planWord_ok (pz_flk fl_RX12_ok) (pz_cik ci_RX12_ok) ?_ ?_ (Or.inl ⟨rfl, rfl⟩) ?_ ?_
  · exact fun i k' h => pz_ctk (l := ct_X12_planWord) (P := fun b i k => b = true → pz_cV 5 108 RX12 i k) (List.forall_mem_cons.mpr ⟨(fun _ => v_X12_is (by decide) (by decide) pz_wq1263), fun _ h => absurd h List.not_mem_nil⟩) true i k' h rfl
  · exact fun i k' h => pz_ctk (l := ct_X12_planWord) (P := fun b i k => b = false → (pz_cS 5 108 RX12 i k ∨ (k = pz_kac ∧ 1 ≤ 5 ∧ 60 ≤ 108 ∧ Cond.methodLink RX12 i arraycopyName ∈ pz_tbl))) (List.forall_mem_cons.mpr ⟨((fun z => by cases z)), fun _ h => absurd h List.not_mem_nil⟩) false i k' h rfl
  · intro a M hlen hpre
    obtain ⟨th, rfl, hpre⟩ : ∃ th, a = [.inr (.inr (12, th))] ∧ (pz_im M ∧ M 1 19 ≤ M 1 17) := by
      have hpre : (match (generalizing := false) a with | [.inr (.inr (12, th))] => pz_im M ∧ M 1 19 ≤ M 1 17 | _ => False) := hpre
      split at hpre
      · exact ⟨_, rfl, hpre⟩
      · exact hpre.elim
    exact Nat.le_of_ble_eq_true rfl
  · intro a M hlen hcan hM hpre Ok hgo
    obtain ⟨th, rfl, hpre⟩ : ∃ th, a = [.inr (.inr (12, th))] ∧ (pz_im M ∧ M 1 19 ≤ M 1 17) := by
      have hpre : (match (generalizing := false) a with | [.inr (.inr (12, th))] => pz_im M ∧ M 1 19 ≤ M 1 17 | _ => False) := hpre
      split at hpre
      · exact ⟨_, rfl, hpre⟩
      · exact hpre.elim
    obtain ⟨k_th, hc_th⟩ := pz_tlm hcan
    have k_th : pz_kd th = 12 ∧ th < 231 := k_th
    have R_th := pz_kd12 k_th.1
    subst R_th
    clear k_th
    have hI : pz_im M := hpre.1
    have p3 := hpre.2
    refine hgo (fun _ => false) 34 0 _ [] M ?_
    refine And.intro (And.intro hI (And.intro (by decide) (And.intro (by decide) (by omega)))) ?_
    intro v3 M3 a3 b3 q3
    obtain ⟨q3, z3⟩ := q3
    subst z3
    clear a3 b3
    replace q3 : (v3 = 1 ∧ pz_W M = 17) ∨ (v3 = 0 ∧ pz_W M ≠ 17) := q3
    refine And.intro (fun h6 => ?_) (fun h6 => ?_)
    · skip
      replace q3 := q3.resolve_left (fun z => absurd (z.1.symm.trans h6) (by decide))
      clear h6
      refine And.intro (And.intro hI (And.intro (by decide) (And.intro (by decide) (by omega)))) ?_
      intro v15 M15 a15 b15 q15
      obtain ⟨q15, z15⟩ := q15
      subst z15
      clear a15 b15
      replace q15 : (v15 = 1 ∧ pz_W M = 18) ∨ (v15 = 0 ∧ pz_W M ≠ 18) := q15
      refine And.intro (fun h18 => ?_) (fun h18 => ?_)
      · skip
        replace q15 := q15.resolve_left (fun z => absurd (z.1.symm.trans h18) (by decide))
        clear h18
        refine And.intro (And.intro hI (And.intro (by decide) (And.intro (by decide) (by omega)))) ?_
        intro v27 M27 a27 b27 q27
        obtain ⟨q27, z27⟩ := q27
        subst z27
        clear a27 b27
        replace q27 : (v27 = 1 ∧ pz_W M = 19) ∨ (v27 = 0 ∧ pz_W M ≠ 19) := q27
        refine And.intro (fun h30 => ?_) (fun h30 => ?_)
        · skip
          replace q27 := q27.resolve_left (fun z => absurd (z.1.symm.trans h30) (by decide))
          clear h30
          refine And.intro (And.intro hI (And.intro (by decide) (And.intro (by decide) (by omega)))) ?_
          intro v39 M39 a39 b39 q39
          obtain ⟨q39, z39⟩ := q39
          subst z39
          clear a39 b39
          replace q39 : (v39 = 1 ∧ pz_W M = 20) ∨ (v39 = 0 ∧ pz_W M ≠ 20) := q39
          refine And.intro (fun h42 => ?_) (fun h42 => ?_)
          · skip
            replace q39 := q39.resolve_left (fun z => absurd (z.1.symm.trans h42) (by decide))
            clear h42
            refine And.intro (And.intro hI (And.intro (by decide) (And.intro (by decide) (by omega)))) ?_
            intro v51 M51 a51 b51 q51
            obtain ⟨q51, z51⟩ := q51
            subst z51
            clear a51 b51
            replace q51 : (v51 = 1 ∧ pz_W M = 21) ∨ (v51 = 0 ∧ pz_W M ≠ 21) := q51
            refine And.intro (fun h54 => ?_) (fun h54 => ?_)
            · skip
              replace q51 := q51.resolve_left (fun z => absurd (z.1.symm.trans h54) (by decide))
              clear h54
              refine And.intro rfl ?_
              exact ⟨by
                unfold pz_mp
                repeat' split
                all_goals omega, rfl⟩
            · skip
              replace q51 := q51.resolve_right (fun z => h54 z.1)
              clear h54
              refine And.intro rfl ?_
              exact ⟨by
                unfold pz_mp
                repeat' split
                all_goals omega, rfl⟩
          · skip
            replace q39 := q39.resolve_right (fun z => h42 z.1)
            clear h42
            refine And.intro rfl ?_
            exact ⟨by
              unfold pz_mp
              repeat' split
              all_goals omega, rfl⟩
        · skip
          replace q27 := q27.resolve_right (fun z => h30 z.1)
          clear h30
          refine And.intro rfl ?_
          exact ⟨by
            unfold pz_mp
            repeat' split
            all_goals omega, rfl⟩
      · skip
        replace q15 := q15.resolve_right (fun z => h18 z.1)
        clear h18
        refine And.intro rfl ?_
        exact ⟨by
          unfold pz_mp
          repeat' split
          all_goals omega, rfl⟩
    · skip
      replace q3 := q3.resolve_right (fun z => h6 z.1)
      clear h6
      refine And.intro rfl ?_
      exact ⟨by
        unfold pz_mp
        repeat' split
        all_goals omega, rfl⟩
theorem v_X12_planWord {fr lo i : Nat} {own : String} (h1 : 5 + 1 ≤ fr) (h2 : 8 + (1 + 11) + 108 ≤ lo) (h3 : .methodLink own i yX12_planWord ∈ lw_tbl) : pz_cV fr lo own i k_X12_planWord :=
  pz_cVk (maxL := 1) (fr' := 5) (lo' := 108) 0 12 h_X12_planWord rfl ⟨(pz_nhc_RX12 yX12_planWord rfl).1, (pz_nhc_RX12 yX12_planWord rfl).2, pz_ds1⟩ ⟨pz_wq1292, pz_wq1291, pz_ws12, pz_wq13⟩ (Or.inl ⟨TX12, 28, rfl⟩) (fun a M _ h => by
    have h : (match (generalizing := false) a with | [.inr (.inr (12, th))] => pz_im M ∧ M 1 19 ≤ M 1 17 | _ => False) := h
    split at h
    · exact ⟨_, _, rfl⟩
    · exact h.elim) h1 h2 h3
noncomputable def k_X12_word : pz_C := (1, 1, fun a M => (match a with | [.inr (.inr (12, th))] => pz_im M ∧ M 1 19 ≤ M 1 17 | _ => False), fun a M r M' => (match a, r with | [.inr (.inr (12, th))], some (.inl v) => (v = pz_mw (M 1 12) (pz_W M)) ∧ M = M' | _, _ => False))
noncomputable abbrev ct_X12_word : List (Bool × Nat × pz_C) := [(true, 153, k_X12_lawWord), (true, 156, k_X12_planWord), (true, 101, k_X12_is)]
set_option maxRecDepth 100000 in
set_option maxHeartbeats 4000000 in
theorem h_X12_word : pz_H yX12_word cX12_word 1 (some .int) k_X12_word 7 148 := by
  refine pz_mk (own := RX12) (tb := t_X12_word) (fl := pz_flf fl_RX12) (ci := pz_cif ci_RX12) (ct := pz_ctf ct_X12_word) (rz := false) (pz_pfc_RX12 yX12_word rfl) rfl t_X12_word_ok (pz_flk fl_RX12_ok) (pz_cik ci_RX12_ok) ?_ ?_ (Or.inl ⟨rfl, rfl⟩) ?_ ?_
  · exact fun i k' h => pz_ctk (l := ct_X12_word) (P := fun b i k => b = true → pz_cV 7 148 RX12 i k) (List.forall_mem_cons.mpr ⟨(fun _ => v_X12_lawWord (by decide) (by decide) pz_wq1258), List.forall_mem_cons.mpr ⟨(fun _ => v_X12_planWord (by decide) (by decide) pz_wq1289), List.forall_mem_cons.mpr ⟨(fun _ => v_X12_is (by decide) (by decide) pz_wq1263), fun _ h => absurd h List.not_mem_nil⟩⟩⟩) true i k' h rfl
  · exact fun i k' h => pz_ctk (l := ct_X12_word) (P := fun b i k => b = false → (pz_cS 7 148 RX12 i k ∨ (k = pz_kac ∧ 1 ≤ 7 ∧ 60 ≤ 148 ∧ Cond.methodLink RX12 i arraycopyName ∈ pz_tbl))) (List.forall_mem_cons.mpr ⟨((fun z => by cases z)), List.forall_mem_cons.mpr ⟨((fun z => by cases z)), List.forall_mem_cons.mpr ⟨((fun z => by cases z)), fun _ h => absurd h List.not_mem_nil⟩⟩⟩) false i k' h rfl
  · intro a M hlen hpre
    obtain ⟨th, rfl, hpre⟩ : ∃ th, a = [.inr (.inr (12, th))] ∧ (pz_im M ∧ M 1 19 ≤ M 1 17) := by
      have hpre : (match (generalizing := false) a with | [.inr (.inr (12, th))] => pz_im M ∧ M 1 19 ≤ M 1 17 | _ => False) := hpre
      split at hpre
      · exact ⟨_, rfl, hpre⟩
      · exact hpre.elim
    exact Nat.le_of_ble_eq_true rfl
  · intro a M hlen hcan hM hpre Ok hgo
    obtain ⟨th, rfl, hpre⟩ : ∃ th, a = [.inr (.inr (12, th))] ∧ (pz_im M ∧ M 1 19 ≤ M 1 17) := by
      have hpre : (match (generalizing := false) a with | [.inr (.inr (12, th))] => pz_im M ∧ M 1 19 ≤ M 1 17 | _ => False) := hpre
      split at hpre
      · exact ⟨_, rfl, hpre⟩
      · exact hpre.elim
    obtain ⟨k_th, hc_th⟩ := pz_tlm hcan
    have k_th : pz_kd th = 12 ∧ th < 231 := k_th
    have R_th := pz_kd12 k_th.1
    subst R_th
    clear k_th
    have hI : pz_im M := hpre.1
    have p3 := hpre.2
    refine hgo (fun _ => false) 45 0 _ [] M ?_
    intro v1 e1 a1 b1
    refine And.intro ?_ ?_
    · skip
      refine And.intro (fun h4 => ?_) ?_
      · skip
        refine And.intro (And.intro hI (by omega)) ?_
        intro v33 M33 a33 b33 q33
        obtain ⟨q33, z33⟩ := q33
        subst z33
        refine And.intro rfl ?_
        exact ⟨by
          unfold pz_mw
          repeat' split
          all_goals omega, rfl⟩
      refine And.intro (fun h4 => ?_) ?_
      · skip
        refine And.intro (And.intro hI (by omega)) ?_
        intro v38 M38 a38 b38 q38
        obtain ⟨q38, z38⟩ := q38
        subst z38
        refine And.intro rfl ?_
        exact ⟨by
          unfold pz_mw
          repeat' split
          all_goals omega, rfl⟩
      refine And.intro (fun h4 => ?_) ?_
      · skip
        refine And.intro (And.intro hI (And.intro (by decide) (And.intro (by decide) (by omega)))) ?_
        intro v45 M45 a45 b45 q45
        obtain ⟨q45, z45⟩ := q45
        subst z45
        clear a45 b45
        replace q45 : (v45 = 1 ∧ pz_W M = 8) ∨ (v45 = 0 ∧ pz_W M ≠ 8) := q45
        refine And.intro (fun h48 => ?_) (fun h48 => ?_)
        · skip
          replace q45 := q45.resolve_left (fun z => absurd (z.1.symm.trans h48) (by decide))
          clear h48
          refine And.intro (And.intro hI (And.intro (by decide) (And.intro (by decide) (by omega)))) ?_
          intro v59 M59 a59 b59 q59
          obtain ⟨q59, z59⟩ := q59
          subst z59
          clear a59 b59
          replace q59 : (v59 = 1 ∧ pz_W M = 22) ∨ (v59 = 0 ∧ pz_W M ≠ 22) := q59
          refine And.intro (fun h62 => ?_) (fun h62 => ?_)
          · skip
            replace q59 := q59.resolve_left (fun z => absurd (z.1.symm.trans h62) (by decide))
            clear h62
            refine And.intro (And.intro hI (And.intro (by decide) (And.intro (by decide) (by omega)))) ?_
            intro v73 M73 a73 b73 q73
            obtain ⟨q73, z73⟩ := q73
            subst z73
            clear a73 b73
            replace q73 : (v73 = 1 ∧ pz_W M = 23) ∨ (v73 = 0 ∧ pz_W M ≠ 23) := q73
            refine And.intro (fun h76 => ?_) (fun h76 => ?_)
            · skip
              replace q73 := q73.resolve_left (fun z => absurd (z.1.symm.trans h76) (by decide))
              clear h76
              refine And.intro rfl ?_
              exact ⟨by
                unfold pz_mw
                repeat' split
                all_goals omega, rfl⟩
            · skip
              replace q73 := q73.resolve_right (fun z => h76 z.1)
              clear h76
              refine And.intro rfl ?_
              exact ⟨by
                unfold pz_mw
                repeat' split
                all_goals omega, rfl⟩
          · skip
            replace q59 := q59.resolve_right (fun z => h62 z.1)
            clear h62
            refine And.intro rfl ?_
            exact ⟨by
              unfold pz_mw
              repeat' split
              all_goals omega, rfl⟩
        · skip
          replace q45 := q45.resolve_right (fun z => h48 z.1)
          clear h48
          refine And.intro rfl ?_
          exact ⟨by
            unfold pz_mw
            repeat' split
            all_goals omega, rfl⟩
      exact True.intro
    · intro h4
      refine And.intro (And.intro hI (And.intro (by decide) (And.intro (by decide) (by omega)))) ?_
      intro v89 M89 a89 b89 q89
      obtain ⟨q89, z89⟩ := q89
      subst z89
      clear a89 b89
      replace q89 : (v89 = 1 ∧ pz_W M = 13) ∨ (v89 = 0 ∧ pz_W M ≠ 13) := q89
      refine And.intro (fun h92 => ?_) (fun h92 => ?_)
      · skip
        replace q89 := q89.resolve_left (fun z => absurd (z.1.symm.trans h92) (by decide))
        clear h92
        refine And.intro (And.intro hI (And.intro (by decide) (And.intro (by decide) (by omega)))) ?_
        intro v103 M103 a103 b103 q103
        obtain ⟨q103, z103⟩ := q103
        subst z103
        clear a103 b103
        replace q103 : (v103 = 1 ∧ pz_W M = 8) ∨ (v103 = 0 ∧ pz_W M ≠ 8) := q103
        refine And.intro (fun h106 => ?_) (fun h106 => ?_)
        · skip
          replace q103 := q103.resolve_left (fun z => absurd (z.1.symm.trans h106) (by decide))
          clear h106
          refine And.intro rfl ?_
          exact ⟨by
            unfold pz_mw
            repeat' split
            all_goals omega, rfl⟩
        · skip
          replace q103 := q103.resolve_right (fun z => h106 z.1)
          clear h106
          refine And.intro rfl ?_
          exact ⟨by
            unfold pz_mw
            repeat' split
            all_goals omega, rfl⟩
      · skip
        replace q89 := q89.resolve_right (fun z => h92 z.1)
        clear h92
        refine And.intro rfl ?_
        exact ⟨by
          unfold pz_mw
          repeat' split
          all_goals omega, rfl⟩
theorem v_X12_word {fr lo i : Nat} {own : String} (h1 : 7 + 1 ≤ fr) (h2 : 8 + (1 + 11) + 148 ≤ lo) (h3 : .methodLink own i yX12_word ∈ lw_tbl) : pz_cV fr lo own i k_X12_word :=
  pz_cVk (maxL := 1) (fr' := 7) (lo' := 148) 0 12 h_X12_word rfl ⟨(pz_nhc_RX12 yX12_word rfl).1, (pz_nhc_RX12 yX12_word rfl).2, pz_ds1⟩ ⟨pz_wq1257, pz_wq1256, pz_ws8, pz_wq13⟩ (Or.inl ⟨TX12, 28, rfl⟩) (fun a M _ h => by
    have h : (match (generalizing := false) a with | [.inr (.inr (12, th))] => pz_im M ∧ M 1 19 ≤ M 1 17 | _ => False) := h
    split at h
    · exact ⟨_, _, rfl⟩
    · exact h.elim) h1 h2 h3
