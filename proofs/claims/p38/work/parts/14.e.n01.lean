noncomputable def k_X12_asked : pz_C := (1, 1, fun a M => (match a with | [.inr (.inr (12, th))] => pz_im M ∧ M 1 19 ≤ M 1 17 | _ => False), fun a M r M' => (match a, r with | [.inr (.inr (12, th))], some (.inl v) => (v = pz_ma (pz_W M)) ∧ M = M' | _, _ => False))
noncomputable abbrev ct_X12_asked : List (Bool × Nat × pz_C) := [(true, 101, k_X12_is)]
set_option maxRecDepth 100000 in
set_option maxHeartbeats 4000000 in
theorem h_X12_asked : pz_H yX12_asked cX12_asked 1 (some .int) k_X12_asked 5 108 := by
  refine pz_mk (own := RX12) (tb := t_X12_asked) (fl := pz_flf fl_RX12) (ci := pz_cif ci_RX12) (ct := pz_ctf ct_X12_asked) (rz := false) (pz_pfc_RX12 yX12_asked rfl) rfl t_X12_asked_ok (pz_flk fl_RX12_ok) (pz_cik ci_RX12_ok) ?_ ?_ (Or.inl ⟨rfl, rfl⟩) ?_ ?_
  · exact fun i k' h => pz_ctk (l := ct_X12_asked) (P := fun b i k => b = true → pz_cV 5 108 RX12 i k) (List.forall_mem_cons.mpr ⟨(fun _ => v_X12_is (by decide) (by decide) pz_wq1263), fun _ h => absurd h List.not_mem_nil⟩) true i k' h rfl
  · exact fun i k' h => pz_ctk (l := ct_X12_asked) (P := fun b i k => b = false → (pz_cS 5 108 RX12 i k ∨ (k = pz_kac ∧ 1 ≤ 5 ∧ 60 ≤ 108 ∧ Cond.methodLink RX12 i arraycopyName ∈ pz_tbl))) (List.forall_mem_cons.mpr ⟨((fun z => by cases z)), fun _ h => absurd h List.not_mem_nil⟩) false i k' h rfl
  · intro a M hlen hpre
    obtain ⟨th, rfl, hpre⟩ : ∃ th, a = [.inr (.inr (12, th))] ∧ (pz_im M ∧ M 1 19 ≤ M 1 17) := by
      have hpre : (match (generalizing := false) a with | [.inr (.inr (12, th))] => pz_im M ∧ M 1 19 ≤ M 1 17 | _ => False) := hpre
      split at hpre
      · exact ⟨_, rfl, hpre⟩
      · exact hpre.elim
    exact Nat.le_of_ble_eq_true rfl
  · intro a M hlen hcan hM hpre Ok hgo
    obtain ⟨th, rfl, hpre⟩ : ∃ th, a = [.inr (.inr (12, th))] ∧ (pz_im M ∧ M 1 19 ≤ M 1 17) := by
      have hpre : (match (generalizing := false) a with | [.inr (.inr (12, th))] => pz_im M ∧ M 1 19 ≤ M 1 17 | _ => False) := hpre
      split at hpre
      · exact ⟨_, rfl, hpre⟩
      · exact hpre.elim
    obtain ⟨k_th, hc_th⟩ := pz_tlm hcan
    have k_th : pz_kd th = 12 ∧ th < 231 := k_th
    have R_th := pz_kd12 k_th.1
    subst R_th
    clear k_th
    have hI : pz_im M := hpre.1
    have p3 := hpre.2
    refine hgo (fun _ => false) 58 0 _ [] M ?_
    refine And.intro (And.intro hI (And.intro (by decide) (And.intro (by decide) (by omega)))) ?_
    intro v3 M3 a3 b3 q3
    obtain ⟨q3, z3⟩ := q3
    subst z3
    clear a3 b3
    replace q3 : (v3 = 1 ∧ pz_W M = 8) ∨ (v3 = 0 ∧ pz_W M ≠ 8) := q3
    refine And.intro (fun h6 => ?_) (fun h6 => ?_)
    · skip
      replace q3 := q3.resolve_left (fun z => absurd (z.1.symm.trans h6) (by decide))
      clear h6
      refine And.intro (And.intro hI (And.intro (by decide) (And.intro (by decide) (by omega)))) ?_
      intro v15 M15 a15 b15 q15
      obtain ⟨q15, z15⟩ := q15
      subst z15
      clear a15 b15
      replace q15 : (v15 = 1 ∧ pz_W M = 9) ∨ (v15 = 0 ∧ pz_W M ≠ 9) := q15
      refine And.intro (fun h18 => ?_) (fun h18 => ?_)
      · skip
        replace q15 := q15.resolve_left (fun z => absurd (z.1.symm.trans h18) (by decide))
        clear h18
        refine And.intro (And.intro hI (And.intro (by decide) (And.intro (by decide) (by omega)))) ?_
        intro v27 M27 a27 b27 q27
        obtain ⟨q27, z27⟩ := q27
        subst z27
        clear a27 b27
        replace q27 : (v27 = 1 ∧ pz_W M = 10) ∨ (v27 = 0 ∧ pz_W M ≠ 10) := q27
        refine And.intro (fun h30 => ?_) (fun h30 => ?_)
        · skip
          replace q27 := q27.resolve_left (fun z => absurd (z.1.symm.trans h30) (by decide))
          clear h30
          refine And.intro (And.intro hI (And.intro (by decide) (And.intro (by decide) (by omega)))) ?_
          intro v39 M39 a39 b39 q39
          obtain ⟨q39, z39⟩ := q39
          subst z39
          clear a39 b39
          replace q39 : (v39 = 1 ∧ pz_W M = 11) ∨ (v39 = 0 ∧ pz_W M ≠ 11) := q39
          refine And.intro (fun h42 => ?_) (fun h42 => ?_)
          · skip
            replace q39 := q39.resolve_left (fun z => absurd (z.1.symm.trans h42) (by decide))
            clear h42
            refine And.intro (And.intro hI (And.intro (by decide) (And.intro (by decide) (by omega)))) ?_
            intro v51 M51 a51 b51 q51
            obtain ⟨q51, z51⟩ := q51
            subst z51
            clear a51 b51
            replace q51 : (v51 = 1 ∧ pz_W M = 12) ∨ (v51 = 0 ∧ pz_W M ≠ 12) := q51
            refine And.intro (fun h54 => ?_) (fun h54 => ?_)
            · skip
              replace q51 := q51.resolve_left (fun z => absurd (z.1.symm.trans h54) (by decide))
              clear h54
              refine And.intro (And.intro hI (And.intro (by decide) (And.intro (by decide) (by omega)))) ?_
              intro v63 M63 a63 b63 q63
              obtain ⟨q63, z63⟩ := q63
              subst z63
              clear a63 b63
              replace q63 : (v63 = 1 ∧ pz_W M = 13) ∨ (v63 = 0 ∧ pz_W M ≠ 13) := q63
              refine And.intro (fun h66 => ?_) (fun h66 => ?_)
              · skip
                replace q63 := q63.resolve_left (fun z => absurd (z.1.symm.trans h66) (by decide))
                clear h66
                refine And.intro (And.intro hI (And.intro (by decide) (And.intro (by decide) (by omega)))) ?_
                intro v75 M75 a75 b75 q75
                obtain ⟨q75, z75⟩ := q75
                subst z75
                clear a75 b75
                replace q75 : (v75 = 1 ∧ pz_W M = 14) ∨ (v75 = 0 ∧ pz_W M ≠ 14) := q75
                refine And.intro (fun h78 => ?_) (fun h78 => ?_)
                · skip
                  replace q75 := q75.resolve_left (fun z => absurd (z.1.symm.trans h78) (by decide))
                  clear h78
                  refine And.intro (And.intro hI (And.intro (by decide) (And.intro (by decide) (by omega)))) ?_
                  intro v87 M87 a87 b87 q87
                  obtain ⟨q87, z87⟩ := q87
                  subst z87
                  clear a87 b87
                  replace q87 : (v87 = 1 ∧ pz_W M = 15) ∨ (v87 = 0 ∧ pz_W M ≠ 15) := q87
                  refine And.intro (fun h90 => ?_) (fun h90 => ?_)
                  · skip
                    replace q87 := q87.resolve_left (fun z => absurd (z.1.symm.trans h90) (by decide))
                    clear h90
                    refine And.intro (And.intro hI (And.intro (by decide) (And.intro (by decide) (by omega)))) ?_
                    intro v99 M99 a99 b99 q99
                    obtain ⟨q99, z99⟩ := q99
                    subst z99
                    clear a99 b99
                    replace q99 : (v99 = 1 ∧ pz_W M = 16) ∨ (v99 = 0 ∧ pz_W M ≠ 16) := q99
                    refine And.intro (fun h102 => ?_) (fun h102 => ?_)
                    · skip
                      replace q99 := q99.resolve_left (fun z => absurd (z.1.symm.trans h102) (by decide))
                      clear h102
                      refine And.intro rfl ?_
                      exact ⟨by
                        unfold pz_ma
                        repeat' split
                        all_goals omega, rfl⟩
                    · skip
                      replace q99 := q99.resolve_right (fun z => h102 z.1)
                      clear h102
                      refine And.intro rfl ?_
                      exact ⟨by
                        unfold pz_ma
                        repeat' split
                        all_goals omega, rfl⟩
                  · skip
                    replace q87 := q87.resolve_right (fun z => h90 z.1)
                    clear h90
                    refine And.intro rfl ?_
                    exact ⟨by
                      unfold pz_ma
                      repeat' split
                      all_goals omega, rfl⟩
                · skip
                  replace q75 := q75.resolve_right (fun z => h78 z.1)
                  clear h78
                  refine And.intro rfl ?_
                  exact ⟨by
                    unfold pz_ma
                    repeat' split
                    all_goals omega, rfl⟩
              · skip
                replace q63 := q63.resolve_right (fun z => h66 z.1)
                clear h66
                refine And.intro rfl ?_
                exact ⟨by
                  unfold pz_ma
                  repeat' split
                  all_goals omega, rfl⟩
            · skip
              replace q51 := q51.resolve_right (fun z => h54 z.1)
              clear h54
              refine And.intro rfl ?_
              exact ⟨by
                unfold pz_ma
                repeat' split
                all_goals omega, rfl⟩
          · skip
            replace q39 := q39.resolve_right (fun z => h42 z.1)
            clear h42
            refine And.intro rfl ?_
            exact ⟨by
              unfold pz_ma
              repeat' split
              all_goals omega, rfl⟩
        · skip
          replace q27 := q27.resolve_right (fun z => h30 z.1)
          clear h30
          refine And.intro rfl ?_
          exact ⟨by
            unfold pz_ma
            repeat' split
            all_goals omega, rfl⟩
      · skip
        replace q15 := q15.resolve_right (fun z => h18 z.1)
        clear h18
        refine And.intro rfl ?_
        exact ⟨by
          unfold pz_ma
          repeat' split
          all_goals omega, rfl⟩
    · skip
      replace q3 := q3.resolve_right (fun z => h6 z.1)
      clear h6
      refine And.intro rfl ?_
      exact ⟨by
        unfold pz_ma
        repeat' split
        all_goals omega, rfl⟩
theorem v_X12_asked {fr lo i : Nat} {own : String} (h1 : 5 + 1 ≤ fr) (h2 : 8 + (1 + 11) + 108 ≤ lo) (h3 : .methodLink own i yX12_asked ∈ lw_tbl) : pz_cV fr lo own i k_X12_asked :=
  pz_cVk (maxL := 1) (fr' := 5) (lo' := 108) 0 12 h_X12_asked rfl ⟨(pz_nhc_RX12 yX12_asked rfl).1, (pz_nhc_RX12 yX12_asked rfl).2, pz_ds1⟩ ⟨pz_wq1279, pz_wq1278, pz_ws11, pz_wq13⟩ (Or.inl ⟨TX12, 28, rfl⟩) (fun a M _ h => by
    have h : (match (generalizing := false) a with | [.inr (.inr (12, th))] => pz_im M ∧ M 1 19 ≤ M 1 17 | _ => False) := h
    split at h
    · exact ⟨_, _, rfl⟩
    · exact h.elim) h1 h2 h3
noncomputable def k_X12_lawWord : pz_C := (1, 1, fun a M => (match a with | [.inr (.inr (12, th))] => pz_im M ∧ M 1 19 ≤ M 1 17 | _ => False), fun a M r M' => (match a, r with | [.inr (.inr (12, th))], some (.inl v) => (v = pz_ml (pz_W M)) ∧ M = M' | _, _ => False))
noncomputable abbrev ct_X12_lawWord : List (Bool × Nat × pz_C) := [(true, 101, k_X12_is), (true, 137, k_X12_asked)]
set_option maxRecDepth 100000 in
set_option maxHeartbeats 4000000 in
theorem h_X12_lawWord : pz_H yX12_lawWord cX12_lawWord 1 (some .int) k_X12_lawWord 6 128 := by
  refine pz_mk (own := RX12) (tb := t_X12_lawWord) (fl := pz_flf fl_RX12) (ci := pz_cif ci_RX12) (ct := pz_ctf ct_X12_lawWord) (rz := false) (pz_pfc_RX12 yX12_lawWord rfl) rfl t_X12_lawWord_ok (pz_flk fl_RX12_ok) (pz_cik ci_RX12_ok) ?_ ?_ (Or.inl ⟨rfl, rfl⟩) ?_ ?_
  · exact fun i k' h => pz_ctk (l := ct_X12_lawWord) (P := fun b i k => b = true → pz_cV 6 128 RX12 i k) (List.forall_mem_cons.mpr ⟨(fun _ => v_X12_is (by decide) (by decide) pz_wq1263), List.forall_mem_cons.mpr ⟨(fun _ => v_X12_asked (by decide) (by decide) pz_wq1276), fun _ h => absurd h List.not_mem_nil⟩⟩) true i k' h rfl
  · exact fun i k' h => pz_ctk (l := ct_X12_lawWord) (P := fun b i k => b = false → (pz_cS 6 128 RX12 i k ∨ (k = pz_kac ∧ 1 ≤ 6 ∧ 60 ≤ 128 ∧ Cond.methodLink RX12 i arraycopyName ∈ pz_tbl))) (List.forall_mem_cons.mpr ⟨((fun z => by cases z)), List.forall_mem_cons.mpr ⟨((fun z => by cases z)), fun _ h => absurd h List.not_mem_nil⟩⟩) false i k' h rfl
  · intro a M hlen hpre
    obtain ⟨th, rfl, hpre⟩ : ∃ th, a = [.inr (.inr (12, th))] ∧ (pz_im M ∧ M 1 19 ≤ M 1 17) := by
      have hpre : (match (generalizing := false) a with | [.inr (.inr (12, th))] => pz_im M ∧ M 1 19 ≤ M 1 17 | _ => False) := hpre
      split at hpre
      · exact ⟨_, rfl, hpre⟩
      · exact hpre.elim
    exact Nat.le_of_ble_eq_true rfl
  · intro a M hlen hcan hM hpre Ok hgo
    obtain ⟨th, rfl, hpre⟩ : ∃ th, a = [.inr (.inr (12, th))] ∧ (pz_im M ∧ M 1 19 ≤ M 1 17) := by
      have hpre : (match (generalizing := false) a with | [.inr (.inr (12, th))] => pz_im M ∧ M 1 19 ≤ M 1 17 | _ => False) := hpre
      split at hpre
      · exact ⟨_, rfl, hpre⟩
      · exact hpre.elim
    obtain ⟨k_th, hc_th⟩ := pz_tlm hcan
    have k_th : pz_kd th = 12 ∧ th < 231 := k_th
    have R_th := pz_kd12 k_th.1
    subst R_th
    clear k_th
    have hI : pz_im M := hpre.1
    have p3 := hpre.2
    refine hgo (fun _ => false) 53 0 _ [] M ?_
    refine And.intro (And.intro hI (And.intro (by decide) (And.intro (by decide) (by omega)))) ?_
    intro v3 M3 a3 b3 q3
    obtain ⟨q3, z3⟩ := q3
    subst z3
    clear a3 b3
    replace q3 : (v3 = 1 ∧ pz_W M = 4) ∨ (v3 = 0 ∧ pz_W M ≠ 4) := q3
    refine And.intro (fun h6 => ?_) (fun h6 => ?_)
    · skip
      replace q3 := q3.resolve_left (fun z => absurd (z.1.symm.trans h6) (by decide))
      clear h6
      refine And.intro (And.intro hI (And.intro (by decide) (And.intro (by decide) (by omega)))) ?_
      intro v14 M14 a14 b14 q14
      obtain ⟨q14, z14⟩ := q14
      subst z14
      clear a14 b14
      replace q14 : (v14 = 1 ∧ pz_W M = 5) ∨ (v14 = 0 ∧ pz_W M ≠ 5) := q14
      refine And.intro (fun h17 => ?_) (fun h17 => ?_)
      · skip
        replace q14 := q14.resolve_left (fun z => absurd (z.1.symm.trans h17) (by decide))
        clear h17
        refine And.intro (And.intro hI (And.intro (by decide) (And.intro (by decide) (by omega)))) ?_
        intro v25 M25 a25 b25 q25
        obtain ⟨q25, z25⟩ := q25
        subst z25
        clear a25 b25
        replace q25 : (v25 = 1 ∧ pz_W M = 6) ∨ (v25 = 0 ∧ pz_W M ≠ 6) := q25
        refine And.intro (fun h28 => ?_) (fun h28 => ?_)
        · skip
          replace q25 := q25.resolve_left (fun z => absurd (z.1.symm.trans h28) (by decide))
          clear h28
          refine And.intro (And.intro hI (And.intro (by decide) (And.intro (by decide) (by omega)))) ?_
          intro v36 M36 a36 b36 q36
          obtain ⟨q36, z36⟩ := q36
          subst z36
          clear a36 b36
          replace q36 : (v36 = 1 ∧ pz_W M = 7) ∨ (v36 = 0 ∧ pz_W M ≠ 7) := q36
          refine And.intro (fun h39 => ?_) (fun h39 => ?_)
          · skip
            replace q36 := q36.resolve_left (fun z => absurd (z.1.symm.trans h39) (by decide))
            clear h39
            refine And.intro (And.intro hI (And.intro (by decide) (And.intro (by decide) (by omega)))) ?_
            intro v48 M48 a48 b48 q48
            obtain ⟨q48, z48⟩ := q48
            subst z48
            clear a48 b48
            replace q48 : (v48 = 1 ∧ pz_W M = 0) ∨ (v48 = 0 ∧ pz_W M ≠ 0) := q48
            refine And.intro (fun h51 => ?_) (fun h51 => ?_)
            · skip
              replace q48 := q48.resolve_left (fun z => absurd (z.1.symm.trans h51) (by decide))
              clear h51
              refine And.intro (And.intro hI (And.intro (by decide) (And.intro (by decide) (by omega)))) ?_
              intro v60 M60 a60 b60 q60
              obtain ⟨q60, z60⟩ := q60
              subst z60
              clear a60 b60
              replace q60 : (v60 = 1 ∧ pz_W M = 1) ∨ (v60 = 0 ∧ pz_W M ≠ 1) := q60
              refine And.intro (fun h63 => ?_) (fun h63 => ?_)
              · skip
                replace q60 := q60.resolve_left (fun z => absurd (z.1.symm.trans h63) (by decide))
                clear h63
                refine And.intro (And.intro hI (And.intro (by decide) (And.intro (by decide) (by omega)))) ?_
                intro v72 M72 a72 b72 q72
                obtain ⟨q72, z72⟩ := q72
                subst z72
                clear a72 b72
                replace q72 : (v72 = 1 ∧ pz_W M = 2) ∨ (v72 = 0 ∧ pz_W M ≠ 2) := q72
                refine And.intro (fun h75 => ?_) (fun h75 => ?_)
                · skip
                  replace q72 := q72.resolve_left (fun z => absurd (z.1.symm.trans h75) (by decide))
                  clear h75
                  refine And.intro (And.intro hI (And.intro (by decide) (And.intro (by decide) (by omega)))) ?_
                  intro v84 M84 a84 b84 q84
                  obtain ⟨q84, z84⟩ := q84
                  subst z84
                  clear a84 b84
                  replace q84 : (v84 = 1 ∧ pz_W M = 3) ∨ (v84 = 0 ∧ pz_W M ≠ 3) := q84
                  refine And.intro (fun h87 => ?_) (fun h87 => ?_)
                  · skip
                    replace q84 := q84.resolve_left (fun z => absurd (z.1.symm.trans h87) (by decide))
                    clear h87
                    refine And.intro (And.intro hI (by omega)) ?_
                    intro v96 M96 a96 b96 q96
                    obtain ⟨q96, z96⟩ := q96
                    subst z96
                    refine And.intro rfl ?_
                    exact ⟨by
                      unfold pz_ml
                      repeat' split
                      all_goals omega, rfl⟩
                  · skip
                    replace q84 := q84.resolve_right (fun z => h87 z.1)
                    clear h87
                    refine And.intro rfl ?_
                    exact ⟨by
                      unfold pz_ml
                      repeat' split
                      all_goals omega, rfl⟩
                · skip
                  replace q72 := q72.resolve_right (fun z => h75 z.1)
                  clear h75
                  refine And.intro rfl ?_
                  exact ⟨by
                    unfold pz_ml
                    repeat' split
                    all_goals omega, rfl⟩
              · skip
                replace q60 := q60.resolve_right (fun z => h63 z.1)
                clear h63
                refine And.intro rfl ?_
                exact ⟨by
                  unfold pz_ml
                  repeat' split
                  all_goals omega, rfl⟩
            · skip
              replace q48 := q48.resolve_right (fun z => h51 z.1)
              clear h51
              refine And.intro rfl ?_
              exact ⟨by
                unfold pz_ml
                repeat' split
                all_goals omega, rfl⟩
          · skip
            replace q36 := q36.resolve_right (fun z => h39 z.1)
            clear h39
            refine And.intro rfl ?_
            exact ⟨by
              unfold pz_ml
              repeat' split
              all_goals omega, rfl⟩
        · skip
          replace q25 := q25.resolve_right (fun z => h28 z.1)
          clear h28
          refine And.intro rfl ?_
          exact ⟨by
            unfold pz_ml
            repeat' split
            all_goals omega, rfl⟩
      · skip
        replace q14 := q14.resolve_right (fun z => h17 z.1)
        clear h17
        refine And.intro rfl ?_
        exact ⟨by
          unfold pz_ml
          repeat' split
          all_goals omega, rfl⟩
    · skip
      replace q3 := q3.resolve_right (fun z => h6 z.1)
      clear h6
      refine And.intro rfl ?_
      exact ⟨by
        unfold pz_ml
        repeat' split
        all_goals omega, rfl⟩
theorem v_X12_lawWord {fr lo i : Nat} {own : String} (h1 : 6 + 1 ≤ fr) (h2 : 8 + (1 + 11) + 128 ≤ lo) (h3 : .methodLink own i yX12_lawWord ∈ lw_tbl) : pz_cV fr lo own i k_X12_lawWord :=
  pz_cVk (maxL := 1) (fr' := 6) (lo' := 128) 0 12 h_X12_lawWord rfl ⟨(pz_nhc_RX12 yX12_lawWord rfl).1, (pz_nhc_RX12 yX12_lawWord rfl).2, pz_ds1⟩ ⟨pz_wq1261, pz_wq1260, pz_ws9, pz_wq13⟩ (Or.inl ⟨TX12, 28, rfl⟩) (fun a M _ h => by
    have h : (match (generalizing := false) a with | [.inr (.inr (12, th))] => pz_im M ∧ M 1 19 ≤ M 1 17 | _ => False) := h
    split at h
    · exact ⟨_, _, rfl⟩
    · exact h.elim) h1 h2 h3
