noncomputable def k_X12_next0 : pz_C := (1, 0, fun a M => (match a with | [.inr (.inr (12, th))] => pz_im M | _ => False), fun a M r M' => (match a, r with | [.inr (.inr (12, th))], none => ((M 1 17 ≤ M' 1 19 ∧ M' 1 19 ≤ M' 1 17 ∧ (M' 1 18 ≠ 0 → M' 1 19 + 1 ≤ M' 1 17)) ∧ (pz_tb M → pz_nxt M M')) ∧ pz_rl pz_Q0 M M' | _, _ => False))
noncomputable abbrev ct_X12_next0 : List (Bool × Nat × pz_C) := [(true, 163, k_X12_see), (false, 170, k_X12_isLetter), (true, 173, k_X12_word), (false, 176, k_X12_isDigit)]
set_option maxRecDepth 100000 in
set_option maxHeartbeats 4000000 in
theorem h_X12_next0 : pz_H yX12_next0 cX12_next0 3 none k_X12_next0 8 168 := by
  refine pz_mk (own := RX12) (tb := t_X12_next0) (fl := pz_flf fl_RX12) (ci := pz_cif ci_RX12) (ct := pz_ctf ct_X12_next0) (rz := false) (pz_pfc_RX12 yX12_next0 rfl) rfl t_X12_next0_ok (pz_flk fl_RX12_ok) (pz_cik ci_RX12_ok) ?_ ?_ (rfl) ?_ ?_
  · exact fun i k' h => pz_ctk (l := ct_X12_next0) (P := fun b i k => b = true → pz_cV 8 168 RX12 i k) (List.forall_mem_cons.mpr ⟨(fun _ => v_X12_see (by decide) (by decide) pz_wq1247), List.forall_mem_cons.mpr ⟨((fun z => by cases z)), List.forall_mem_cons.mpr ⟨(fun _ => v_X12_word (by decide) (by decide) pz_wq1254), List.forall_mem_cons.mpr ⟨((fun z => by cases z)), fun _ h => absurd h List.not_mem_nil⟩⟩⟩⟩) true i k' h rfl
  · exact fun i k' h => pz_ctk (l := ct_X12_next0) (P := fun b i k => b = false → (pz_cS 8 168 RX12 i k ∨ (k = pz_kac ∧ 1 ≤ 8 ∧ 60 ≤ 168 ∧ Cond.methodLink RX12 i arraycopyName ∈ pz_tbl))) (List.forall_mem_cons.mpr ⟨((fun z => by cases z)), List.forall_mem_cons.mpr ⟨(fun _ => Or.inl (s_X12_isLetter (by decide) (by decide) (Or.inl pz_wq1251))), List.forall_mem_cons.mpr ⟨((fun z => by cases z)), List.forall_mem_cons.mpr ⟨(fun _ => Or.inl (s_X12_isDigit (by decide) (by decide) (Or.inl pz_wq1300))), fun _ h => absurd h List.not_mem_nil⟩⟩⟩⟩) false i k' h rfl
  · intro a M hlen hpre
    obtain ⟨th, rfl, hpre⟩ : ∃ th, a = [.inr (.inr (12, th))] ∧ (pz_im M) := by
      have hpre : (match (generalizing := false) a with | [.inr (.inr (12, th))] => pz_im M | _ => False) := hpre
      split at hpre
      · exact ⟨_, rfl, hpre⟩
      · exact hpre.elim
    exact Nat.le_of_ble_eq_true rfl
  · intro a M hlen hcan hM hpre Ok hgo
    obtain ⟨th, rfl, hpre⟩ : ∃ th, a = [.inr (.inr (12, th))] ∧ (pz_im M) := by
      have hpre : (match (generalizing := false) a with | [.inr (.inr (12, th))] => pz_im M | _ => False) := hpre
      split at hpre
      · exact ⟨_, rfl, hpre⟩
      · exact hpre.elim
    obtain ⟨k_th, hc_th⟩ := pz_tlm hcan
    have k_th : pz_kd th = 12 ∧ th < 231 := k_th
    have R_th := pz_kd12 k_th.1
    subst R_th
    clear k_th
    have hI : pz_im M := hpre
    have hI0 := hI
    have hS : pz_rl pz_Q0 M M := pz_rl.rf
    have L76 : ∀ (fu : Nat) (x1 : Int) (d2 : Option pz_V) (N76 : pz_M), (401 - N76 1 17).toNat < fu → (pz_rl pz_Q0 M N76) → (((97 ≤ x1 ∧ x1 ≤ 122) ∨ (65 ≤ x1 ∧ x1 ≤ 90))) → (M 1 17 ≤ N76 1 19) → (N76 1 19 ≤ N76 1 17) → (N76 1 19 = N76 1 17 → N76 1 17 < N76 1 16 ∧ N76 67 (N76 1 17).toNat = x1) → (pz_nxp M = (N76 1 19).toNat) → (pz_whl pz_let (M 67) (M 1 16).toNat (N76 1 17).toNat = pz_whl pz_let (M 67) (M 1 16).toNat (N76 1 19).toNat) → (N76 1 19 < M 1 16) → (pz_let (M 67 (N76 1 19).toNat) = true) → Ok 76 [some (.inr (.inr (12, 1))), some (.inl x1), d2] [] N76 := by
      intro fu
      induction fu with
      | zero => exact fun _ _ _ hn => absurd hn (Nat.not_lt_zero _)
      | succ fu ih76 =>
        intro x1 d2 N76 hn76 hS g76_1 g76_2 g76_3 g76_4 g76_5 g76_6 g76_7 g76_8
        have hI : pz_im N76 := hS.1 hI0
        have J17 := hI.2.1.2.2.2.1
        have J19 := hI.2.1.2.2.2.2.1
        have J16 := hI.2.1.2.1
        have U17 := Int.toNat_of_nonneg J17.1
        have U19 := Int.toNat_of_nonneg J19.1
        obtain ⟨Z67, Z16, Z12⟩ := pz_Q0z hS
        have U16 : (((M 1 16).toNat : Nat) : Int) = M 1 16 := Int.toNat_of_nonneg (by omega)
        refine hgo (fun p => Nat.beq p 0 || Nat.beq p 26 || Nat.beq p 76 || Nat.beq p 126 || Nat.beq p 176) 160 76 _ _ _ ?_
        intro v78 e78 a78 b78
        have I78 : 0 ≤ v78 ∧ v78 ≤ 400 := by
          rw [e78]
          exact hI.2.1.2.2.2.1
        clear a78 b78
        have N78 := hI.2.1.2.2.2.1
        refine And.intro (And.intro hI (by omega)) ?_
        intro v81 M81 a81 b81 q81
        obtain ⟨q81, z81⟩ := q81
        subst z81
        rw [e78] at q81
        refine And.intro (True.intro) ?_
        intro v84 M84 a84 b84 q84
        obtain ⟨q84, z84⟩ := q84
        subst z84
        clear a84 b84
        refine And.intro (fun h87 => ?_) (fun h87 => ?_)
        · skip
          have G87 : pz_whl pz_let (M 67) (M 1 16).toNat (N76 1 19).toNat = (N76 1 17).toNat := by
            rw [← g76_6]
            exact pz_whl_n (fun z => by
              have z2 := pz_let_i.mp z.2
              rw [← Z67] at z2
              omega)
          replace q84 := q84.resolve_left (fun z => absurd (z.1.symm.trans h87) (by decide))
          clear h87
          refine And.intro (And.intro hI (by omega)) ?_
          intro v105 M105 a105 b105 q105
          obtain ⟨q105, z105⟩ := q105
          subst z105
          intro M108 e108
          have hS : pz_rl pz_Q0 M M108 := by
            rw [e108]
            exact pz_rl_u hS (by unfold pz_Q0; decide) (pz_iom_f (by decide))
          have hI : pz_im M108 := hS.1 hI0
          have T108_0 : M108 1 17 = N76 1 17 := by
            rw [e108]
            exact (pz_une (by decide))
          have T108_1 : M108 1 18 = v105 := by rw [e108]; exact pz_uu
          have T108_2 : M108 1 19 = N76 1 19 := by
            rw [e108]
            exact (pz_une (by decide))
          have T108_3 : M108 1 16 = N76 1 16 := by
            rw [e108]
            exact (pz_une (by decide))
          have T108_4 : M108 1 20 = N76 1 20 := by
            rw [e108]
            exact (pz_une (by decide))
          have S108 : pz_tb M → pz_nxt M M108 := fun _ => pz_nxt_let g76_5 (by omega) (by omega) g76_7 g76_8 G87 (by omega) (by omega) (by rw [← q105]; omega) ⟨Z67, Z16, Z12⟩
          refine And.intro rfl ?_
          first
            | exact ⟨⟨by omega, S63⟩, hS⟩
            | exact ⟨⟨by omega, S108⟩, hS⟩
            | exact ⟨⟨by omega, S208⟩, hS⟩
            | exact ⟨⟨by omega, S303⟩, hS⟩
        · skip
          have H87 : pz_let (M 67 (N76 1 17).toNat) = true := by
            rw [pz_let_i, ← Z67]
            omega
          replace q84 := q84.resolve_right (fun z => h87 z.1)
          clear h87
          intro v92 e92 a92 b92
          have I92 : 0 ≤ v92 ∧ v92 ≤ 400 := by
            rw [e92]
            exact hI.2.1.2.2.2.1
          clear a92 b92
          have N92 := hI.2.1.2.2.2.1
          intro v96 e96 a96 b96
          rw [pz_wi (by omega) (by omega)] at e96
          clear a96 b96
          intro M97 e97
          have hS : pz_rl pz_Q0 M M97 := by
            rw [e97]
            exact pz_rl_u hS (by unfold pz_Q0; decide) (pz_iom_17 (by omega))
          have hI : pz_im M97 := hS.1 hI0
          have T97_0 : M97 1 17 = v96 := by rw [e97]; exact pz_uu
          have T97_1 : M97 1 18 = N76 1 18 := by
            rw [e97]
            exact (pz_une (by decide))
          have T97_2 : M97 1 19 = N76 1 19 := by
            rw [e97]
            exact (pz_une (by decide))
          have T97_3 : M97 1 16 = N76 1 16 := by
            rw [e97]
            exact (pz_une (by decide))
          have T97_4 : M97 1 20 = N76 1 20 := by
            rw [e97]
            exact (pz_une (by decide))
          have A97 : pz_nxp M = (M97 1 19).toNat := by
            rw [(show (M97 1 19).toNat = (N76 1 19).toNat by first | exact congrArg Int.toNat T97_2 | omega)]
            assumption
          have D97 : pz_let (M 67 (M97 1 19).toNat) = true := by
            rw [(show (M97 1 19).toNat = (N76 1 19).toNat by first | exact congrArg Int.toNat T97_2 | omega)]
            assumption
          have U97 : (((M97 1 17).toNat : Nat) : Int) = M97 1 17 := Int.toNat_of_nonneg (by omega)
          have B97 : pz_whl pz_let (M 67) (M 1 16).toNat (M97 1 17).toNat = pz_whl pz_let (M 67) (M 1 16).toNat (M97 1 19).toNat := by
            rw [show (M97 1 17).toNat = (N76 1 17).toNat + 1 by omega, show (M97 1 19).toNat = (N76 1 19).toNat by omega, ← pz_whl_y (by omega) H87]
            assumption
          exact ih76 _ _ _ (by omega) hS (by first | omega | assumption | exact A73 | exact B73 | exact D73 | exact A97 | exact B97 | exact D97) (by first | omega | assumption | exact A73 | exact B73 | exact D73 | exact A97 | exact B97 | exact D97) (by first | omega | assumption | exact A73 | exact B73 | exact D73 | exact A97 | exact B97 | exact D97) (by first | omega | assumption | exact A73 | exact B73 | exact D73 | exact A97 | exact B97 | exact D97) (by first | omega | assumption | exact A73 | exact B73 | exact D73 | exact A97 | exact B97 | exact D97) (by first | omega | assumption | exact A73 | exact B73 | exact D73 | exact A97 | exact B97 | exact D97) (by first | omega | assumption | exact A73 | exact B73 | exact D73 | exact A97 | exact B97 | exact D97) (by first | omega | assumption | exact A73 | exact B73 | exact D73 | exact A97 | exact B97 | exact D97)
    have L126 : ∀ (fu : Nat) (x1 : Int) (d2 : Option pz_V) (N126 : pz_M), (401 - N126 1 17).toNat < fu → (pz_rl pz_Q0 M N126) → (48 ≤ x1 ∧ x1 ≤ 57) → (M 1 17 ≤ N126 1 19) → (N126 1 19 ≤ N126 1 17) → (N126 1 19 = N126 1 17 → N126 1 17 < N126 1 16 ∧ N126 67 (N126 1 17).toNat = x1) → (pz_nxp M = (N126 1 19).toNat) → (pz_whl pz_dig (M 67) (M 1 16).toNat (N126 1 17).toNat = pz_whl pz_dig (M 67) (M 1 16).toNat (N126 1 19).toNat) → (N126 1 19 < M 1 16) → (¬ pz_let (M 67 (N126 1 19).toNat) = true ∧ pz_dig (M 67 (N126 1 19).toNat) = true) → (pz_mdv M N126) → Ok 126 [some (.inr (.inr (12, 1))), some (.inl x1), d2] [] N126 := by
      intro fu
      induction fu with
      | zero => exact fun _ _ _ hn => absurd hn (Nat.not_lt_zero _)
      | succ fu ih126 =>
        intro x1 d2 N126 hn126 hS g126_1 g126_2 g126_3 g126_4 g126_5 g126_6 g126_7 g126_8 g126_9
        have hI : pz_im N126 := hS.1 hI0
        have J17 := hI.2.1.2.2.2.1
        have J16 := hI.2.1.2.1
        have U17 := Int.toNat_of_nonneg J17.1
        obtain ⟨Z67, Z16, Z12⟩ := pz_Q0z hS
        have U16 : (((M 1 16).toNat : Nat) : Int) = M 1 16 := Int.toNat_of_nonneg (by omega)
        have L176 : ∀ (x1 : Int) (d2 : Option pz_V) (N176 : pz_M), (pz_rl pz_Q0 M N176) → (48 ≤ x1 ∧ x1 ≤ 57) → (M 1 17 ≤ N176 1 19) → (N176 1 19 ≤ N176 1 17) → (N176 1 17 < N176 1 16) → ((401 - N176 1 17).toNat < fu + 1) → (pz_nxp M = (N176 1 19).toNat) → (pz_whl pz_dig (M 67) (M 1 16).toNat (N176 1 17).toNat = pz_whl pz_dig (M 67) (M 1 16).toNat (N176 1 19).toNat) → (N176 1 19 < M 1 16) → (¬ pz_let (M 67 (N176 1 19).toNat) = true ∧ pz_dig (M 67 (N176 1 19).toNat) = true) → (pz_dig (M 67 (N176 1 17).toNat) = true) → (pz_mdw M N176) → Ok 176 [some (.inr (.inr (12, 1))), some (.inl x1), d2] [] N176 := by
          intro x1 d2 N176 hS g176_1 g176_2 g176_3 g176_4 g176_5 g176_6 g176_7 g176_8 g176_9 g176_10 g176_11
          have hI : pz_im N176 := hS.1 hI0
          have J16 := hI.2.1.2.1
          obtain ⟨Z67, Z16, Z12⟩ := pz_Q0z hS
          have U16 : (((M 1 16).toNat : Nat) : Int) = M 1 16 := Int.toNat_of_nonneg (by omega)
          refine hgo (fun p => Nat.beq p 0 || Nat.beq p 26 || Nat.beq p 76 || Nat.beq p 126 || Nat.beq p 176) 160 176 _ _ _ ?_
          intro v178 e178 a178 b178
          have I178 : 0 ≤ v178 ∧ v178 ≤ 400 := by
            rw [e178]
            exact hI.2.1.2.2.2.1
          clear a178 b178
          have N178 := hI.2.1.2.2.2.1
          intro v182 e182 a182 b182
          rw [pz_wi (by omega) (by omega)] at e182
          clear a182 b182
          intro M183 e183
          have hS : pz_rl pz_Q0 M M183 := by
            rw [e183]
            exact pz_rl_u hS (by unfold pz_Q0; decide) (pz_iom_17 (by omega))
          have hI : pz_im M183 := hS.1 hI0
          have T183_0 : M183 1 17 = v182 := by rw [e183]; exact pz_uu
          have T183_1 : M183 1 18 = N176 1 18 := by
            rw [e183]
            exact (pz_une (by decide))
          have T183_2 : M183 1 19 = N176 1 19 := by
            rw [e183]
            exact (pz_une (by decide))
          have T183_3 : M183 1 16 = N176 1 16 := by
            rw [e183]
            exact (pz_une (by decide))
          have T183_4 : M183 1 20 = N176 1 20 := by
            rw [e183]
            exact (pz_une (by decide))
          have A183 : pz_nxp M = (M183 1 19).toNat := by
            rw [(show (M183 1 19).toNat = (N176 1 19).toNat by first | exact congrArg Int.toNat T183_2 | omega)]
            assumption
          have D183 : ¬ pz_let (M 67 (M183 1 19).toNat) = true ∧ pz_dig (M 67 (M183 1 19).toNat) = true := by
            rw [(show (M183 1 19).toNat = (N176 1 19).toNat by first | exact congrArg Int.toNat T183_2 | omega)]
            assumption
          have U183 : (((M183 1 17).toNat : Nat) : Int) = M183 1 17 := Int.toNat_of_nonneg (by omega)
          have B183 : pz_whl pz_dig (M 67) (M 1 16).toNat (M183 1 17).toNat = pz_whl pz_dig (M 67) (M 1 16).toNat (M183 1 19).toNat := by
            rw [show (M183 1 17).toNat = (N176 1 17).toNat + 1 by omega, show (M183 1 19).toNat = (N176 1 19).toNat by omega, ← pz_whl_y (by omega) g176_10]
            assumption
          have V183 : pz_mdv M M183 := pz_mdw_v g176_11 (by omega) (by omega) (by omega) (by omega)
          exact ih126 _ _ _ (by omega) hS (by first | omega | assumption | exact A123 | exact B123 | exact D123 | exact V123 | exact A183 | exact B183 | exact D183 | exact V183) (by first | omega | assumption | exact A123 | exact B123 | exact D123 | exact V123 | exact A183 | exact B183 | exact D183 | exact V183) (by first | omega | assumption | exact A123 | exact B123 | exact D123 | exact V123 | exact A183 | exact B183 | exact D183 | exact V183) (by first | omega | assumption | exact A123 | exact B123 | exact D123 | exact V123 | exact A183 | exact B183 | exact D183 | exact V183) (by first | omega | assumption | exact A123 | exact B123 | exact D123 | exact V123 | exact A183 | exact B183 | exact D183 | exact V183) (by first | omega | assumption | exact A123 | exact B123 | exact D123 | exact V123 | exact A183 | exact B183 | exact D183 | exact V183) (by first | omega | assumption | exact A123 | exact B123 | exact D123 | exact V123 | exact A183 | exact B183 | exact D183 | exact V183) (by first | omega | assumption | exact A123 | exact B123 | exact D123 | exact V123 | exact A183 | exact B183 | exact D183 | exact V183) (by first | omega | assumption | exact A123 | exact B123 | exact D123 | exact V123 | exact A183 | exact B183 | exact D183 | exact V183)
        refine hgo (fun p => Nat.beq p 0 || Nat.beq p 26 || Nat.beq p 76 || Nat.beq p 126 || Nat.beq p 176) 160 126 _ _ _ ?_
        intro v128 e128 a128 b128
        have I128 : 0 ≤ v128 ∧ v128 ≤ 400 := by
          rw [e128]
          exact hI.2.1.2.2.2.1
        clear a128 b128
        have N128 := hI.2.1.2.2.2.1
        refine And.intro (And.intro hI (by omega)) ?_
        intro v131 M131 a131 b131 q131
        obtain ⟨q131, z131⟩ := q131
        subst z131
        rw [e128] at q131
        refine And.intro (True.intro) ?_
        intro v134 M134 a134 b134 q134
        obtain ⟨q134, z134⟩ := q134
        subst z134
        clear a134 b134
        refine And.intro (fun h137 => ?_) (fun h137 => ?_)
        · skip
          have G137 : pz_whl pz_dig (M 67) (M 1 16).toNat (N126 1 19).toNat = (N126 1 17).toNat := by
            rw [← g126_6]
            exact pz_whl_n (fun z => by
              have z2 := pz_dig_i.mp z.2
              rw [← Z67] at z2
              omega)
          replace q134 := q134.resolve_left (fun z => absurd (z.1.symm.trans h137) (by decide))
          clear h137
          intro v191 e191 a191 b191
          have I191 : 0 ≤ v191 ∧ v191 ≤ 400 := by
            rw [e191]
            exact hI.2.1.2.2.2.1
          clear a191 b191
          have N191 := hI.2.1.2.2.2.1
          intro v195 e195 a195 b195
          have I195 : 0 ≤ v195 ∧ v195 ≤ 400 := by
            rw [e195]
            exact hI.2.1.2.2.2.2.1
          clear a195 b195
          have N195 := hI.2.1.2.2.2.2.1
          intro v198 e198 a198 b198
          rw [pz_wi (by omega) (by omega)] at e198
          clear a198 b198
          refine And.intro (fun h200 => ?_) (fun h200 => ?_)
          · skip
            intro M208 e208
            have hS : pz_rl pz_Q0 M M208 := by
              rw [e208]
              exact pz_rl_u hS (by unfold pz_Q0; decide) (pz_iom_f (by decide))
            have hI : pz_im M208 := hS.1 hI0
            have T208_0 : M208 1 17 = N126 1 17 := by
              rw [e208]
              exact (pz_une (by decide))
            have T208_1 : M208 1 18 = (1) := by rw [e208]; exact pz_uu
            have T208_2 : M208 1 19 = N126 1 19 := by
              rw [e208]
              exact (pz_une (by decide))
            have T208_3 : M208 1 16 = N126 1 16 := by
              rw [e208]
              exact (pz_une (by decide))
            have T208_4 : M208 1 20 = N126 1 20 := by
              rw [e208]
              exact (pz_une (by decide))
            have S208 : pz_tb M → pz_nxt M M208 := fun _ => pz_nxt_dig g126_5 (by omega) (by omega) (by omega) g126_7 g126_8 G137 g126_9 (by omega) (by omega) (by omega) (by omega)
            refine And.intro rfl ?_
            first
              | exact ⟨⟨by omega, S63⟩, hS⟩
              | exact ⟨⟨by omega, S108⟩, hS⟩
              | exact ⟨⟨by omega, S208⟩, hS⟩
              | exact ⟨⟨by omega, S303⟩, hS⟩
          · skip
            intro M208 e208
            have hS : pz_rl pz_Q0 M M208 := by
              rw [e208]
              exact pz_rl_u hS (by unfold pz_Q0; decide) (pz_iom_f (by decide))
            have hI : pz_im M208 := hS.1 hI0
            have T208_0 : M208 1 17 = N126 1 17 := by
              rw [e208]
              exact (pz_une (by decide))
            have T208_1 : M208 1 18 = (2) := by rw [e208]; exact pz_uu
            have T208_2 : M208 1 19 = N126 1 19 := by
              rw [e208]
              exact (pz_une (by decide))
            have T208_3 : M208 1 16 = N126 1 16 := by
              rw [e208]
              exact (pz_une (by decide))
            have T208_4 : M208 1 20 = N126 1 20 := by
              rw [e208]
              exact (pz_une (by decide))
            have S208 : pz_tb M → pz_nxt M M208 := fun _ => pz_nxt_dig g126_5 (by omega) (by omega) (by omega) g126_7 g126_8 G137 g126_9 (by omega) (by omega) (by omega) (by omega)
            refine And.intro rfl ?_
            first
              | exact ⟨⟨by omega, S63⟩, hS⟩
              | exact ⟨⟨by omega, S108⟩, hS⟩
              | exact ⟨⟨by omega, S208⟩, hS⟩
              | exact ⟨⟨by omega, S303⟩, hS⟩
        · skip
          have H137 : pz_dig (M 67 (N126 1 17).toNat) = true := by
            rw [pz_dig_i, ← Z67]
            omega
          replace q134 := q134.resolve_right (fun z => h137 z.1)
          clear h137
          intro v141 e141 a141 b141
          have I141 : 0 ≤ v141 ∧ v141 ≤ 400 := by
            rw [e141]
            exact hI.2.1.2.2.2.1
          clear a141 b141
          have N141 := hI.2.1.2.2.2.1
          intro v145 e145 a145 b145
          have I145 : 0 ≤ v145 ∧ v145 ≤ 400 := by
            rw [e145]
            exact hI.2.1.2.2.2.2.1
          clear a145 b145
          have N145 := hI.2.1.2.2.2.2.1
          intro v149 e149 a149 b149
          rw [pz_wi (by omega) (by omega)] at e149
          clear a149 b149
          refine And.intro (fun h150 => ?_) (fun h150 => ?_)
          · skip
            have V150 : pz_mdw M N126 := pz_mdw_n (by omega)
            exact L176 _ _ _ hS (by first | omega | assumption | exact V150 | exact A173 | exact B173 | exact D173 | exact H173 | exact V173) (by first | omega | assumption | exact V150 | exact A173 | exact B173 | exact D173 | exact H173 | exact V173) (by first | omega | assumption | exact V150 | exact A173 | exact B173 | exact D173 | exact H173 | exact V173) (by first | omega | assumption | exact V150 | exact A173 | exact B173 | exact D173 | exact H173 | exact V173) (by first | omega | assumption | exact V150 | exact A173 | exact B173 | exact D173 | exact H173 | exact V173) (by first | omega | assumption | exact V150 | exact A173 | exact B173 | exact D173 | exact H173 | exact V173) (by first | omega | assumption | exact V150 | exact A173 | exact B173 | exact D173 | exact H173 | exact V173) (by first | omega | assumption | exact V150 | exact A173 | exact B173 | exact D173 | exact H173 | exact V173) (by first | omega | assumption | exact V150 | exact A173 | exact B173 | exact D173 | exact H173 | exact V173) (by first | omega | assumption | exact V150 | exact A173 | exact B173 | exact D173 | exact H173 | exact V173) (by first | omega | assumption | exact V150 | exact A173 | exact B173 | exact D173 | exact H173 | exact V173)
          · skip
            skip
            intro v157 e157 a157 b157
            intro v160 e160 a160 b160
            intro v163 e163 a163 b163
            have I163 : 0 ≤ v163 ∧ v163 ≤ 400 := by
              rw [e163]
              exact hI.2.1.2.2.2.1
            clear a163 b163
            have N163 := hI.2.1.2.2.2.1
            refine And.intro (And.intro hI (by omega)) ?_
            intro v166 M166 a166 b166 q166
            obtain ⟨q166, z166⟩ := q166
            subst z166
            rw [e163] at q166
            intro v169 e169 a169 b169
            intro v172 e172 a172 b172
            intro M173 e173
            have hS : pz_rl pz_Q0 M M173 := by
              rw [e173]
              exact pz_rl_u hS (by unfold pz_Q0; decide) (pz_iom_f (by decide))
            have hI : pz_im M173 := hS.1 hI0
            have T173_0 : M173 1 17 = N126 1 17 := by
              rw [e173]
              exact (pz_une (by decide))
            have T173_1 : M173 1 18 = N126 1 18 := by
              rw [e173]
              exact (pz_une (by decide))
            have T173_2 : M173 1 19 = N126 1 19 := by
              rw [e173]
              exact (pz_une (by decide))
            have T173_3 : M173 1 16 = N126 1 16 := by
              rw [e173]
              exact (pz_une (by decide))
            have T173_4 : M173 1 20 = v172 := by rw [e173]; exact pz_uu
            have A173 : pz_nxp M = (M173 1 19).toNat := by
              rw [(show (M173 1 19).toNat = (N126 1 19).toNat by first | exact congrArg Int.toNat T173_2 | omega)]
              assumption
            have D173 : ¬ pz_let (M 67 (M173 1 19).toNat) = true ∧ pz_dig (M 67 (M173 1 19).toNat) = true := by
              rw [(show (M173 1 19).toNat = (N126 1 19).toNat by first | exact congrArg Int.toNat T173_2 | omega)]
              assumption
            have B173 : pz_whl pz_dig (M 67) (M 1 16).toNat (M173 1 17).toNat = pz_whl pz_dig (M 67) (M 1 16).toNat (M173 1 19).toNat := by
              rw [show (M173 1 17).toNat = (N126 1 17).toNat by omega, show (M173 1 19).toNat = (N126 1 19).toNat by omega]
              assumption
            have H173 : pz_dig (M 67 (M173 1 17).toNat) = true := by
              rw [show (M173 1 17).toNat = (N126 1 17).toNat by omega]
              assumption
            have V173 : pz_mdw M M173 := pz_mdw_s (n := (M 1 16).toNat) (by omega) g126_9 (by omega) g126_6 (by omega) (c := v166) (by rw [← Z67]; omega) (by rw [pz_dig_i, ← Z67] at H137; omega) (by rw [← e157]; exact e160) e169 e172 (by omega) (by omega) (by omega)
            exact L176 _ _ _ hS (by first | omega | assumption | exact V150 | exact A173 | exact B173 | exact D173 | exact H173 | exact V173) (by first | omega | assumption | exact V150 | exact A173 | exact B173 | exact D173 | exact H173 | exact V173) (by first | omega | assumption | exact V150 | exact A173 | exact B173 | exact D173 | exact H173 | exact V173) (by first | omega | assumption | exact V150 | exact A173 | exact B173 | exact D173 | exact H173 | exact V173) (by first | omega | assumption | exact V150 | exact A173 | exact B173 | exact D173 | exact H173 | exact V173) (by first | omega | assumption | exact V150 | exact A173 | exact B173 | exact D173 | exact H173 | exact V173) (by first | omega | assumption | exact V150 | exact A173 | exact B173 | exact D173 | exact H173 | exact V173) (by first | omega | assumption | exact V150 | exact A173 | exact B173 | exact D173 | exact H173 | exact V173) (by first | omega | assumption | exact V150 | exact A173 | exact B173 | exact D173 | exact H173 | exact V173) (by first | omega | assumption | exact V150 | exact A173 | exact B173 | exact D173 | exact H173 | exact V173) (by first | omega | assumption | exact V150 | exact A173 | exact B173 | exact D173 | exact H173 | exact V173)
    have L0 : ∀ (fu : Nat) (d1 : Option pz_V) (d2 : Option pz_V) (N0 : pz_M), (401 - N0 1 17).toNat < fu → (pz_rl pz_Q0 M N0) → (M 1 17 ≤ N0 1 17) → (pz_nxp M = pz_whl pz_bla (M 67) (M 1 16).toNat (N0 1 17).toNat) → Ok 0 [some (.inr (.inr (12, 1))), d1, d2] [] N0 := by
      intro fu
      induction fu with
      | zero => exact fun _ _ _ hn => absurd hn (Nat.not_lt_zero _)
      | succ fu ih0 =>
        intro d1 d2 N0 hn0 hS g0_1 g0_2
        have hI : pz_im N0 := hS.1 hI0
        have J17 := hI.2.1.2.2.2.1
        have J16 := hI.2.1.2.1
        have U17 := Int.toNat_of_nonneg J17.1
        obtain ⟨Z67, Z16, Z12⟩ := pz_Q0z hS
        have U16 : (((M 1 16).toNat : Nat) : Int) = M 1 16 := Int.toNat_of_nonneg (by omega)
        have L26 : ∀ (d1 : Option pz_V) (d2 : Option pz_V) (N26 : pz_M), (pz_rl pz_Q0 M N26) → (M 1 17 ≤ N26 1 17) → (N26 1 17 < N26 1 16) → ((401 - N26 1 17).toNat < fu + 1) → (pz_nxp M = pz_whl pz_bla (M 67) (M 1 16).toNat (N26 1 17).toNat) → (pz_bla (M 67 (N26 1 17).toNat) = true) → Ok 26 [some (.inr (.inr (12, 1))), d1, d2] [] N26 := by
          intro d1 d2 N26 hS g26_1 g26_2 g26_3 g26_4 g26_5
          have hI : pz_im N26 := hS.1 hI0
          have J16 := hI.2.1.2.1
          obtain ⟨Z67, Z16, Z12⟩ := pz_Q0z hS
          have U16 : (((M 1 16).toNat : Nat) : Int) = M 1 16 := Int.toNat_of_nonneg (by omega)
          refine hgo (fun p => Nat.beq p 0 || Nat.beq p 26 || Nat.beq p 76 || Nat.beq p 126 || Nat.beq p 176) 160 26 _ _ _ ?_
          intro v28 e28 a28 b28
          have I28 : 0 ≤ v28 ∧ v28 ≤ 400 := by
            rw [e28]
            exact hI.2.1.2.2.2.1
          clear a28 b28
          have N28 := hI.2.1.2.2.2.1
          intro v32 e32 a32 b32
          rw [pz_wi (by omega) (by omega)] at e32
          clear a32 b32
          intro M33 e33
          have hS : pz_rl pz_Q0 M M33 := by
            rw [e33]
            exact pz_rl_u hS (by unfold pz_Q0; decide) (pz_iom_17 (by omega))
          have hI : pz_im M33 := hS.1 hI0
          have T33_0 : M33 1 17 = v32 := by rw [e33]; exact pz_uu
          have T33_1 : M33 1 18 = N26 1 18 := by
            rw [e33]
            exact (pz_une (by decide))
          have T33_2 : M33 1 19 = N26 1 19 := by
            rw [e33]
            exact (pz_une (by decide))
          have T33_3 : M33 1 16 = N26 1 16 := by
            rw [e33]
            exact (pz_une (by decide))
          have T33_4 : M33 1 20 = N26 1 20 := by
            rw [e33]
            exact (pz_une (by decide))
          have G33 : pz_nxp M = pz_whl pz_bla (M 67) (M 1 16).toNat (M33 1 17).toNat := by
            rw [g26_4, pz_whl_y (by omega) g26_5]
            congr 1
            omega
          exact ih0 _ _ _ (by omega) hS (by first | omega | exact rfl | exact G33) (by first | omega | exact rfl | exact G33)
        refine hgo (fun p => Nat.beq p 0 || Nat.beq p 26 || Nat.beq p 76 || Nat.beq p 126 || Nat.beq p 176) 160 0 _ _ _ ?_
        intro v2 e2 a2 b2
        have I2 : 0 ≤ v2 ∧ v2 ≤ 400 := by
          rw [e2]
          exact hI.2.1.2.2.2.1
        clear a2 b2
        have N2 := hI.2.1.2.2.2.1
        refine And.intro (And.intro hI (by omega)) ?_
        intro v5 M5 a5 b5 q5
        obtain ⟨q5, z5⟩ := q5
        subst z5
        rw [e2] at q5
        refine And.intro (fun h10 => ?_) (fun h10 => ?_)
        · skip
          have B26 : pz_bla (M 67 (N0 1 17).toNat) = true := by
            rw [pz_bla_i, ← Z67]
            omega
          exact L26 _ _ _ hS (by first | omega | assumption | exact B26) (by first | omega | assumption | exact B26) (by first | omega | assumption | exact B26) (by first | omega | assumption | exact B26) (by first | omega | assumption | exact B26)
        · skip
          skip
          intro v15 e15 a15 b15
          have I15 : 0 ≤ v15 ∧ v15 ≤ 400 := by
            rw [e15]
            exact hI.2.1.2.2.2.1
          clear a15 b15
          have N15 := hI.2.1.2.2.2.1
          refine And.intro (And.intro hI (by omega)) ?_
          intro v18 M18 a18 b18 q18
          obtain ⟨q18, z18⟩ := q18
          subst z18
          rw [e15] at q18
          refine And.intro (fun h23 => ?_) (fun h23 => ?_)
          · skip
            skip
            intro v41 e41 a41 b41
            have I41 : 0 ≤ v41 ∧ v41 ≤ 400 := by
              rw [e41]
              exact hI.2.1.2.2.2.1
            clear a41 b41
            have N41 := hI.2.1.2.2.2.1
            intro M44 e44
            have hS : pz_rl pz_Q0 M M44 := by
              rw [e44]
              exact pz_rl_u hS (by unfold pz_Q0; decide) (pz_iom_19 (by omega))
            have hI : pz_im M44 := hS.1 hI0
            have T44_0 : M44 1 17 = N0 1 17 := by
              rw [e44]
              exact (pz_une (by decide))
            have T44_1 : M44 1 18 = N0 1 18 := by
              rw [e44]
              exact (pz_une (by decide))
            have T44_2 : M44 1 19 = v41 := by rw [e44]; exact pz_uu
            have T44_3 : M44 1 16 = N0 1 16 := by
              rw [e44]
              exact (pz_une (by decide))
            have T44_4 : M44 1 20 = N0 1 20 := by
              rw [e44]
              exact (pz_une (by decide))
            have P44 : pz_nxp M = (N0 1 17).toNat := by
              rw [g0_2]
              exact pz_whl_n (fun z => by
                have z1 := z.1
                have z2 := pz_bla_i.mp z.2
                rw [← Z67] at z2
                omega)
            obtain ⟨Y67, Y16, Y12⟩ := pz_Q0z hS
            intro v49 e49 a49 b49
            have I49 : 0 ≤ v49 ∧ v49 ≤ 400 := by
              rw [e49]
              exact hI.2.1.2.2.2.1
            clear a49 b49
            have N49 := hI.2.1.2.2.2.1
            refine And.intro (And.intro hI (by omega)) ?_
            intro v52 M52 a52 b52 q52
            obtain ⟨q52, z52⟩ := q52
            subst z52
            rw [e49] at q52
            refine And.intro (fun h58 => ?_) (fun h58 => ?_)
            · skip
              obtain ⟨X52a, X52b⟩ : v52 = M 67 (N0 1 17).toNat ∧ N0 1 17 < M 1 16 := by
                rw [← Y67, ← T44_0]
                omega
              refine And.intro (True.intro) ?_
              intro v70 M70 a70 b70 q70
              obtain ⟨q70, z70⟩ := q70
              subst z70
              clear a70 b70
              refine And.intro (fun h73 => ?_) (fun h73 => ?_)
              · skip
                skip
                replace q70 := q70.resolve_left (fun z => absurd (z.1.symm.trans h73) (by decide))
                refine And.intro (True.intro) ?_
                intro v115 M115 a115 b115 q115
                obtain ⟨q115, z115⟩ := q115
                subst z115
                clear a115 b115
                refine And.intro (fun h118 => ?_) (fun h118 => ?_)
                · skip
                  have N118 : ¬ pz_let (M 67 (N0 1 17).toNat) = true ∧ ¬ pz_dig (M 67 (N0 1 17).toNat) = true := by
                    rw [pz_let_i, pz_dig_i, ← X52a]
                    omega
                  replace q115 := q115.resolve_left (fun z => absurd (z.1.symm.trans h118) (by decide))
                  intro v216 e216 a216 b216
                  have I216 : 0 ≤ v216 ∧ v216 ≤ 400 := by
                    rw [e216]
                    exact hI.2.1.2.2.2.1
                  clear a216 b216
                  have N216 := hI.2.1.2.2.2.1
                  replace e216 := e216.trans T44_0
                  intro v220 e220 a220 b220
                  rw [pz_wi (by omega) (by omega)] at e220
                  clear a220 b220
                  intro M221 e221
                  have hS : pz_rl pz_Q0 M M221 := by
                    rw [e221]
                    exact pz_rl_u hS (by unfold pz_Q0; decide) (pz_iom_17 (by omega))
                  have hI : pz_im M221 := hS.1 hI0
                  have T221_0 : M221 1 17 = v220 := by rw [e221]; exact pz_uu
                  have T221_1 : M221 1 18 = N0 1 18 := by
                    rw [e221]
                    exact (pz_une (by decide)).trans T44_1
                  have T221_2 : M221 1 19 = v41 := by
                    rw [e221]
                    exact (pz_une (by decide)).trans T44_2
                  have T221_3 : M221 1 16 = N0 1 16 := by
                    rw [e221]
                    exact (pz_une (by decide)).trans T44_3
                  have T221_4 : M221 1 20 = N0 1 20 := by
                    rw [e221]
                    exact (pz_une (by decide)).trans T44_4
                  refine And.intro (fun h227 => ?_) (fun h227 => ?_)
                  · skip
                    clear q70 q115
                    have S118 : pz_sgn (M 67 (N0 1 17).toNat) = true := by
                      rw [← X52a, h227]
                      decide
                    skip
                    refine And.intro (fun h292 => ?_) (fun h292 => ?_)
                    · skip
                      exact absurd h292 (by decide)
                    · skip
                      intro v298 e298 a298 b298
                      rw [pz_wi (by omega) (by omega)] at e298
                      clear a298 b298
                      intro M303 e303
                      have hS : pz_rl pz_Q0 M M303 := by
                        rw [e303]
                        exact pz_rl_u hS (by unfold pz_Q0; decide) (pz_iom_f (by decide))
                      have hI : pz_im M303 := hS.1 hI0
                      have T303_0 : M303 1 17 = v220 := by
                        rw [e303]
                        exact (pz_une (by decide)).trans T221_0
                      clear T221_0
                      have T303_1 : M303 1 18 = v298 := by rw [e303]; exact pz_uu
                      have T303_2 : M303 1 19 = v41 := by
                        rw [e303]
                        exact (pz_une (by decide)).trans T221_2
                      clear T221_2
                      have T303_3 : M303 1 16 = N0 1 16 := by
                        rw [e303]
                        exact (pz_une (by decide)).trans T221_3
                      clear T221_3
                      have T303_4 : M303 1 20 = N0 1 20 := by
                        rw [e303]
                        exact (pz_une (by decide)).trans T221_4
                      clear T221_4
                      have S303 : pz_tb M → pz_nxt M M303 := fun _ => pz_nxt_sgn P44 (by omega) N118 (by omega) (by omega) (by first | exact Or.inl ⟨S118, by omega⟩ | exact Or.inr ⟨S118, by omega⟩)
                      refine And.intro rfl ?_
                      first
                        | exact ⟨⟨by omega, S63⟩, hS⟩
                        | exact ⟨⟨by omega, S108⟩, hS⟩
                        | exact ⟨⟨by omega, S208⟩, hS⟩
                        | exact ⟨⟨by omega, S303⟩, hS⟩
                  · skip
                    clear q70 q115
                    refine And.intro (fun h233 => ?_) (fun h233 => ?_)
                    · skip
                      have S118 : pz_sgn (M 67 (N0 1 17).toNat) = true := by
                        rw [← X52a, h233]
                        decide
                      clear h227
                      refine And.intro (fun h292 => ?_) (fun h292 => ?_)
                      · skip
                        exact absurd h292 (by decide)
                      · skip
                        intro v298 e298 a298 b298
                        rw [pz_wi (by omega) (by omega)] at e298
                        clear a298 b298
                        intro M303 e303
                        have hS : pz_rl pz_Q0 M M303 := by
                          rw [e303]
                          exact pz_rl_u hS (by unfold pz_Q0; decide) (pz_iom_f (by decide))
                        have hI : pz_im M303 := hS.1 hI0
                        have T303_0 : M303 1 17 = v220 := by
                          rw [e303]
                          exact (pz_une (by decide)).trans T221_0
                        clear T221_0
                        have T303_1 : M303 1 18 = v298 := by rw [e303]; exact pz_uu
                        have T303_2 : M303 1 19 = v41 := by
                          rw [e303]
                          exact (pz_une (by decide)).trans T221_2
                        clear T221_2
                        have T303_3 : M303 1 16 = N0 1 16 := by
                          rw [e303]
                          exact (pz_une (by decide)).trans T221_3
                        clear T221_3
                        have T303_4 : M303 1 20 = N0 1 20 := by
                          rw [e303]
                          exact (pz_une (by decide)).trans T221_4
                        clear T221_4
                        have S303 : pz_tb M → pz_nxt M M303 := fun _ => pz_nxt_sgn P44 (by omega) N118 (by omega) (by omega) (by first | exact Or.inl ⟨S118, by omega⟩ | exact Or.inr ⟨S118, by omega⟩)
                        refine And.intro rfl ?_
                        first
                          | exact ⟨⟨by omega, S63⟩, hS⟩
                          | exact ⟨⟨by omega, S108⟩, hS⟩
                          | exact ⟨⟨by omega, S208⟩, hS⟩
                          | exact ⟨⟨by omega, S303⟩, hS⟩
                    · skip
                      skip
                      refine And.intro (fun h239 => ?_) (fun h239 => ?_)
                      · skip
                        have S118 : pz_sgn (M 67 (N0 1 17).toNat) = true := by
                          rw [← X52a, h239]
                          decide
                        clear h227 h233
                        refine And.intro (fun h292 => ?_) (fun h292 => ?_)
                        · skip
                          exact absurd h292 (by decide)
                        · skip
                          intro v298 e298 a298 b298
                          rw [pz_wi (by omega) (by omega)] at e298
                          clear a298 b298
                          intro M303 e303
                          have hS : pz_rl pz_Q0 M M303 := by
                            rw [e303]
                            exact pz_rl_u hS (by unfold pz_Q0; decide) (pz_iom_f (by decide))
                          have hI : pz_im M303 := hS.1 hI0
                          have T303_0 : M303 1 17 = v220 := by
                            rw [e303]
                            exact (pz_une (by decide)).trans T221_0
                          clear T221_0
                          have T303_1 : M303 1 18 = v298 := by rw [e303]; exact pz_uu
                          have T303_2 : M303 1 19 = v41 := by
                            rw [e303]
                            exact (pz_une (by decide)).trans T221_2
                          clear T221_2
                          have T303_3 : M303 1 16 = N0 1 16 := by
                            rw [e303]
                            exact (pz_une (by decide)).trans T221_3
                          clear T221_3
                          have T303_4 : M303 1 20 = N0 1 20 := by
                            rw [e303]
                            exact (pz_une (by decide)).trans T221_4
                          clear T221_4
                          have S303 : pz_tb M → pz_nxt M M303 := fun _ => pz_nxt_sgn P44 (by omega) N118 (by omega) (by omega) (by first | exact Or.inl ⟨S118, by omega⟩ | exact Or.inr ⟨S118, by omega⟩)
                          refine And.intro rfl ?_
                          first
                            | exact ⟨⟨by omega, S63⟩, hS⟩
                            | exact ⟨⟨by omega, S108⟩, hS⟩
                            | exact ⟨⟨by omega, S208⟩, hS⟩
                            | exact ⟨⟨by omega, S303⟩, hS⟩
                      · skip
                        skip
                        refine And.intro (fun h245 => ?_) (fun h245 => ?_)
                        · skip
                          have S118 : pz_sgn (M 67 (N0 1 17).toNat) = true := by
                            rw [← X52a, h245]
                            decide
                          clear h227 h233 h239
                          refine And.intro (fun h292 => ?_) (fun h292 => ?_)
                          · skip
                            exact absurd h292 (by decide)
                          · skip
                            intro v298 e298 a298 b298
                            rw [pz_wi (by omega) (by omega)] at e298
                            clear a298 b298
                            intro M303 e303
                            have hS : pz_rl pz_Q0 M M303 := by
                              rw [e303]
                              exact pz_rl_u hS (by unfold pz_Q0; decide) (pz_iom_f (by decide))
                            have hI : pz_im M303 := hS.1 hI0
                            have T303_0 : M303 1 17 = v220 := by
                              rw [e303]
                              exact (pz_une (by decide)).trans T221_0
                            clear T221_0
                            have T303_1 : M303 1 18 = v298 := by rw [e303]; exact pz_uu
                            have T303_2 : M303 1 19 = v41 := by
                              rw [e303]
                              exact (pz_une (by decide)).trans T221_2
                            clear T221_2
                            have T303_3 : M303 1 16 = N0 1 16 := by
                              rw [e303]
                              exact (pz_une (by decide)).trans T221_3
                            clear T221_3
                            have T303_4 : M303 1 20 = N0 1 20 := by
                              rw [e303]
                              exact (pz_une (by decide)).trans T221_4
                            clear T221_4
                            have S303 : pz_tb M → pz_nxt M M303 := fun _ => pz_nxt_sgn P44 (by omega) N118 (by omega) (by omega) (by first | exact Or.inl ⟨S118, by omega⟩ | exact Or.inr ⟨S118, by omega⟩)
                            refine And.intro rfl ?_
                            first
                              | exact ⟨⟨by omega, S63⟩, hS⟩
                              | exact ⟨⟨by omega, S108⟩, hS⟩
                              | exact ⟨⟨by omega, S208⟩, hS⟩
                              | exact ⟨⟨by omega, S303⟩, hS⟩
                        · skip
                          skip
                          refine And.intro (fun h251 => ?_) (fun h251 => ?_)
                          · skip
                            have S118 : pz_sgn (M 67 (N0 1 17).toNat) = true := by
                              rw [← X52a, h251]
                              decide
                            clear h227 h233 h239 h245
                            refine And.intro (fun h292 => ?_) (fun h292 => ?_)
                            · skip
                              exact absurd h292 (by decide)
                            · skip
                              intro v298 e298 a298 b298
                              rw [pz_wi (by omega) (by omega)] at e298
                              clear a298 b298
                              intro M303 e303
                              have hS : pz_rl pz_Q0 M M303 := by
                                rw [e303]
                                exact pz_rl_u hS (by unfold pz_Q0; decide) (pz_iom_f (by decide))
                              have hI : pz_im M303 := hS.1 hI0
                              have T303_0 : M303 1 17 = v220 := by
                                rw [e303]
                                exact (pz_une (by decide)).trans T221_0
                              clear T221_0
                              have T303_1 : M303 1 18 = v298 := by rw [e303]; exact pz_uu
                              have T303_2 : M303 1 19 = v41 := by
                                rw [e303]
                                exact (pz_une (by decide)).trans T221_2
                              clear T221_2
                              have T303_3 : M303 1 16 = N0 1 16 := by
                                rw [e303]
                                exact (pz_une (by decide)).trans T221_3
                              clear T221_3
                              have T303_4 : M303 1 20 = N0 1 20 := by
                                rw [e303]
                                exact (pz_une (by decide)).trans T221_4
                              clear T221_4
                              have S303 : pz_tb M → pz_nxt M M303 := fun _ => pz_nxt_sgn P44 (by omega) N118 (by omega) (by omega) (by first | exact Or.inl ⟨S118, by omega⟩ | exact Or.inr ⟨S118, by omega⟩)
                              refine And.intro rfl ?_
                              first
                                | exact ⟨⟨by omega, S63⟩, hS⟩
                                | exact ⟨⟨by omega, S108⟩, hS⟩
                                | exact ⟨⟨by omega, S208⟩, hS⟩
                                | exact ⟨⟨by omega, S303⟩, hS⟩
                          · skip
                            skip
                            refine And.intro (fun h257 => ?_) (fun h257 => ?_)
                            · skip
                              have S118 : pz_sgn (M 67 (N0 1 17).toNat) = true := by
                                rw [← X52a, h257]
                                decide
                              clear h227 h233 h239 h245 h251
                              refine And.intro (fun h292 => ?_) (fun h292 => ?_)
                              · skip
                                exact absurd h292 (by decide)
                              · skip
                                intro v298 e298 a298 b298
                                rw [pz_wi (by omega) (by omega)] at e298
                                clear a298 b298
                                intro M303 e303
                                have hS : pz_rl pz_Q0 M M303 := by
                                  rw [e303]
                                  exact pz_rl_u hS (by unfold pz_Q0; decide) (pz_iom_f (by decide))
                                have hI : pz_im M303 := hS.1 hI0
                                have T303_0 : M303 1 17 = v220 := by
                                  rw [e303]
                                  exact (pz_une (by decide)).trans T221_0
                                clear T221_0
                                have T303_1 : M303 1 18 = v298 := by rw [e303]; exact pz_uu
                                have T303_2 : M303 1 19 = v41 := by
                                  rw [e303]
                                  exact (pz_une (by decide)).trans T221_2
                                clear T221_2
                                have T303_3 : M303 1 16 = N0 1 16 := by
                                  rw [e303]
                                  exact (pz_une (by decide)).trans T221_3
                                clear T221_3
                                have T303_4 : M303 1 20 = N0 1 20 := by
                                  rw [e303]
                                  exact (pz_une (by decide)).trans T221_4
                                clear T221_4
                                have S303 : pz_tb M → pz_nxt M M303 := fun _ => pz_nxt_sgn P44 (by omega) N118 (by omega) (by omega) (by first | exact Or.inl ⟨S118, by omega⟩ | exact Or.inr ⟨S118, by omega⟩)
                                refine And.intro rfl ?_
                                first
                                  | exact ⟨⟨by omega, S63⟩, hS⟩
                                  | exact ⟨⟨by omega, S108⟩, hS⟩
                                  | exact ⟨⟨by omega, S208⟩, hS⟩
                                  | exact ⟨⟨by omega, S303⟩, hS⟩
                            · skip
                              skip
                              refine And.intro (fun h263 => ?_) (fun h263 => ?_)
                              · skip
                                have S118 : pz_sgn (M 67 (N0 1 17).toNat) = true := by
                                  rw [← X52a, h263]
                                  decide
                                clear h227 h233 h239 h245 h251 h257
                                refine And.intro (fun h292 => ?_) (fun h292 => ?_)
                                · skip
                                  exact absurd h292 (by decide)
                                · skip
                                  intro v298 e298 a298 b298
                                  rw [pz_wi (by omega) (by omega)] at e298
                                  clear a298 b298
                                  intro M303 e303
                                  have hS : pz_rl pz_Q0 M M303 := by
                                    rw [e303]
                                    exact pz_rl_u hS (by unfold pz_Q0; decide) (pz_iom_f (by decide))
                                  have hI : pz_im M303 := hS.1 hI0
                                  have T303_0 : M303 1 17 = v220 := by
                                    rw [e303]
                                    exact (pz_une (by decide)).trans T221_0
                                  clear T221_0
                                  have T303_1 : M303 1 18 = v298 := by rw [e303]; exact pz_uu
                                  have T303_2 : M303 1 19 = v41 := by
                                    rw [e303]
                                    exact (pz_une (by decide)).trans T221_2
                                  clear T221_2
                                  have T303_3 : M303 1 16 = N0 1 16 := by
                                    rw [e303]
                                    exact (pz_une (by decide)).trans T221_3
                                  clear T221_3
                                  have T303_4 : M303 1 20 = N0 1 20 := by
                                    rw [e303]
                                    exact (pz_une (by decide)).trans T221_4
                                  clear T221_4
                                  have S303 : pz_tb M → pz_nxt M M303 := fun _ => pz_nxt_sgn P44 (by omega) N118 (by omega) (by omega) (by first | exact Or.inl ⟨S118, by omega⟩ | exact Or.inr ⟨S118, by omega⟩)
                                  refine And.intro rfl ?_
                                  first
                                    | exact ⟨⟨by omega, S63⟩, hS⟩
                                    | exact ⟨⟨by omega, S108⟩, hS⟩
                                    | exact ⟨⟨by omega, S208⟩, hS⟩
                                    | exact ⟨⟨by omega, S303⟩, hS⟩
                              · skip
                                skip
                                refine And.intro (fun h269 => ?_) (fun h269 => ?_)
                                · skip
                                  have S118 : pz_sgn (M 67 (N0 1 17).toNat) = true := by
                                    rw [← X52a, h269]
                                    decide
                                  clear h227 h233 h239 h245 h251 h257 h263
                                  refine And.intro (fun h292 => ?_) (fun h292 => ?_)
                                  · skip
                                    exact absurd h292 (by decide)
                                  · skip
                                    intro v298 e298 a298 b298
                                    rw [pz_wi (by omega) (by omega)] at e298
                                    clear a298 b298
                                    intro M303 e303
                                    have hS : pz_rl pz_Q0 M M303 := by
                                      rw [e303]
                                      exact pz_rl_u hS (by unfold pz_Q0; decide) (pz_iom_f (by decide))
                                    have hI : pz_im M303 := hS.1 hI0
                                    have T303_0 : M303 1 17 = v220 := by
                                      rw [e303]
                                      exact (pz_une (by decide)).trans T221_0
                                    clear T221_0
                                    have T303_1 : M303 1 18 = v298 := by rw [e303]; exact pz_uu
                                    have T303_2 : M303 1 19 = v41 := by
                                      rw [e303]
                                      exact (pz_une (by decide)).trans T221_2
                                    clear T221_2
                                    have T303_3 : M303 1 16 = N0 1 16 := by
                                      rw [e303]
                                      exact (pz_une (by decide)).trans T221_3
                                    clear T221_3
                                    have T303_4 : M303 1 20 = N0 1 20 := by
                                      rw [e303]
                                      exact (pz_une (by decide)).trans T221_4
                                    clear T221_4
                                    have S303 : pz_tb M → pz_nxt M M303 := fun _ => pz_nxt_sgn P44 (by omega) N118 (by omega) (by omega) (by first | exact Or.inl ⟨S118, by omega⟩ | exact Or.inr ⟨S118, by omega⟩)
                                    refine And.intro rfl ?_
                                    first
                                      | exact ⟨⟨by omega, S63⟩, hS⟩
                                      | exact ⟨⟨by omega, S108⟩, hS⟩
                                      | exact ⟨⟨by omega, S208⟩, hS⟩
                                      | exact ⟨⟨by omega, S303⟩, hS⟩
                                · skip
                                  skip
                                  refine And.intro (fun h275 => ?_) (fun h275 => ?_)
                                  · skip
                                    have S118 : pz_sgn (M 67 (N0 1 17).toNat) = true := by
                                      rw [← X52a, h275]
                                      decide
                                    clear h227 h233 h239 h245 h251 h257 h263 h269
                                    refine And.intro (fun h292 => ?_) (fun h292 => ?_)
                                    · skip
                                      exact absurd h292 (by decide)
                                    · skip
                                      intro v298 e298 a298 b298
                                      rw [pz_wi (by omega) (by omega)] at e298
                                      clear a298 b298
                                      intro M303 e303
                                      have hS : pz_rl pz_Q0 M M303 := by
                                        rw [e303]
                                        exact pz_rl_u hS (by unfold pz_Q0; decide) (pz_iom_f (by decide))
                                      have hI : pz_im M303 := hS.1 hI0
                                      have T303_0 : M303 1 17 = v220 := by
                                        rw [e303]
                                        exact (pz_une (by decide)).trans T221_0
                                      clear T221_0
                                      have T303_1 : M303 1 18 = v298 := by rw [e303]; exact pz_uu
                                      have T303_2 : M303 1 19 = v41 := by
                                        rw [e303]
                                        exact (pz_une (by decide)).trans T221_2
                                      clear T221_2
                                      have T303_3 : M303 1 16 = N0 1 16 := by
                                        rw [e303]
                                        exact (pz_une (by decide)).trans T221_3
                                      clear T221_3
                                      have T303_4 : M303 1 20 = N0 1 20 := by
                                        rw [e303]
                                        exact (pz_une (by decide)).trans T221_4
                                      clear T221_4
                                      have S303 : pz_tb M → pz_nxt M M303 := fun _ => pz_nxt_sgn P44 (by omega) N118 (by omega) (by omega) (by first | exact Or.inl ⟨S118, by omega⟩ | exact Or.inr ⟨S118, by omega⟩)
                                      refine And.intro rfl ?_
                                      first
                                        | exact ⟨⟨by omega, S63⟩, hS⟩
                                        | exact ⟨⟨by omega, S108⟩, hS⟩
                                        | exact ⟨⟨by omega, S208⟩, hS⟩
                                        | exact ⟨⟨by omega, S303⟩, hS⟩
                                  · skip
                                    skip
                                    refine And.intro (fun h281 => ?_) (fun h281 => ?_)
                                    · skip
                                      have S118 : ¬ pz_sgn (M 67 (N0 1 17).toNat) = true := by
                                        rw [pz_sgn_i, ← X52a]
                                        omega
                                      clear h227 h233 h239 h245 h251 h257 h263 h269 h275 h281
                                      refine And.intro (fun h292 => ?_) (fun h292 => ?_)
                                      · skip
                                        intro M303 e303
                                        have hS : pz_rl pz_Q0 M M303 := by
                                          rw [e303]
                                          exact pz_rl_u hS (by unfold pz_Q0; decide) (pz_iom_f (by decide))
                                        have hI : pz_im M303 := hS.1 hI0
                                        have T303_0 : M303 1 17 = v220 := by
                                          rw [e303]
                                          exact (pz_une (by decide)).trans T221_0
                                        clear T221_0
                                        have T303_1 : M303 1 18 = (1) := by rw [e303]; exact pz_uu
                                        have T303_2 : M303 1 19 = v41 := by
                                          rw [e303]
                                          exact (pz_une (by decide)).trans T221_2
                                        clear T221_2
                                        have T303_3 : M303 1 16 = N0 1 16 := by
                                          rw [e303]
                                          exact (pz_une (by decide)).trans T221_3
                                        clear T221_3
                                        have T303_4 : M303 1 20 = N0 1 20 := by
                                          rw [e303]
                                          exact (pz_une (by decide)).trans T221_4
                                        clear T221_4
                                        have S303 : pz_tb M → pz_nxt M M303 := fun _ => pz_nxt_sgn P44 (by omega) N118 (by omega) (by omega) (by first | exact Or.inl ⟨S118, by omega⟩ | exact Or.inr ⟨S118, by omega⟩)
                                        refine And.intro rfl ?_
                                        first
                                          | exact ⟨⟨by omega, S63⟩, hS⟩
                                          | exact ⟨⟨by omega, S108⟩, hS⟩
                                          | exact ⟨⟨by omega, S208⟩, hS⟩
                                          | exact ⟨⟨by omega, S303⟩, hS⟩
                                      · skip
                                        exact absurd h292 (by decide)
                                    · skip
                                      have S118 : pz_sgn (M 67 (N0 1 17).toNat) = true := by
                                        rw [← X52a, h281]
                                        decide
                                      clear h227 h233 h239 h245 h251 h257 h263 h269 h275
                                      refine And.intro (fun h292 => ?_) (fun h292 => ?_)
                                      · skip
                                        exact absurd h292 (by decide)
                                      · skip
                                        intro v298 e298 a298 b298
                                        rw [pz_wi (by omega) (by omega)] at e298
                                        clear a298 b298
                                        intro M303 e303
                                        have hS : pz_rl pz_Q0 M M303 := by
                                          rw [e303]
                                          exact pz_rl_u hS (by unfold pz_Q0; decide) (pz_iom_f (by decide))
                                        have hI : pz_im M303 := hS.1 hI0
                                        have T303_0 : M303 1 17 = v220 := by
                                          rw [e303]
                                          exact (pz_une (by decide)).trans T221_0
                                        clear T221_0
                                        have T303_1 : M303 1 18 = v298 := by rw [e303]; exact pz_uu
                                        have T303_2 : M303 1 19 = v41 := by
                                          rw [e303]
                                          exact (pz_une (by decide)).trans T221_2
                                        clear T221_2
                                        have T303_3 : M303 1 16 = N0 1 16 := by
                                          rw [e303]
                                          exact (pz_une (by decide)).trans T221_3
                                        clear T221_3
                                        have T303_4 : M303 1 20 = N0 1 20 := by
                                          rw [e303]
                                          exact (pz_une (by decide)).trans T221_4
                                        clear T221_4
                                        have S303 : pz_tb M → pz_nxt M M303 := fun _ => pz_nxt_sgn P44 (by omega) N118 (by omega) (by omega) (by first | exact Or.inl ⟨S118, by omega⟩ | exact Or.inr ⟨S118, by omega⟩)
                                        refine And.intro rfl ?_
                                        first
                                          | exact ⟨⟨by omega, S63⟩, hS⟩
                                          | exact ⟨⟨by omega, S108⟩, hS⟩
                                          | exact ⟨⟨by omega, S208⟩, hS⟩
                                          | exact ⟨⟨by omega, S303⟩, hS⟩
                · skip
                  have A118 : pz_nxp M = (M44 1 19).toNat := by
                    rw [P44]
                    omega
                  have D118 : ¬ pz_let (M 67 (M44 1 19).toNat) = true ∧ pz_dig (M 67 (M44 1 19).toNat) = true := by
                    rw [pz_let_i, pz_dig_i, show (M44 1 19).toNat = (N0 1 17).toNat by omega, ← X52a]
                    omega
                  replace q115 := q115.resolve_right (fun z => h118 z.1)
                  intro M123 e123
                  have hS : pz_rl pz_Q0 M M123 := by
                    rw [e123]
                    exact pz_rl_u hS (by unfold pz_Q0; decide) (pz_iom_f (by decide))
                  have hI : pz_im M123 := hS.1 hI0
                  have T123_0 : M123 1 17 = N0 1 17 := by
                    rw [e123]
                    exact (pz_une (by decide)).trans T44_0
                  have T123_1 : M123 1 18 = N0 1 18 := by
                    rw [e123]
                    exact (pz_une (by decide)).trans T44_1
                  have T123_2 : M123 1 19 = v41 := by
                    rw [e123]
                    exact (pz_une (by decide)).trans T44_2
                  have T123_3 : M123 1 16 = N0 1 16 := by
                    rw [e123]
                    exact (pz_une (by decide)).trans T44_3
                  have T123_4 : M123 1 20 = (0) := by rw [e123]; exact pz_uu
                  have E123a : ∀ j, M123 67 j = M44 67 j := fun j => by
                    rw [e123]
                    exact pz_una (by decide)
                  have E123b : M123 1 17 = M44 1 17 := by
                    rw [e123]
                    exact pz_une (by decide)
                  have E123c : M123 67 (M123 1 17).toNat = M44 67 (M44 1 17).toNat := by
                    rw [E123b]
                    exact E123a _
                  have A123 : pz_nxp M = (M123 1 19).toNat := by
                    rw [(show (M123 1 19).toNat = (M44 1 19).toNat by first | exact congrArg Int.toNat T123_2 | omega)]
                    assumption
                  have D123 : ¬ pz_let (M 67 (M123 1 19).toNat) = true ∧ pz_dig (M 67 (M123 1 19).toNat) = true := by
                    rw [(show (M123 1 19).toNat = (M44 1 19).toNat by first | exact congrArg Int.toNat T123_2 | omega)]
                    assumption
                  have B123 : pz_whl pz_dig (M 67) (M 1 16).toNat (M123 1 17).toNat = pz_whl pz_dig (M 67) (M 1 16).toNat (M123 1 19).toNat := by
                    congr 1
                    omega
                  have V123 : pz_mdv M M123 := pz_mdv_0 (by omega) (by omega)
                  exact L126 _ _ _ _ (Nat.lt_succ_self _) hS (by first | omega | assumption | exact A123 | exact B123 | exact D123 | exact V123 | exact A183 | exact B183 | exact D183 | exact V183) (by first | omega | assumption | exact A123 | exact B123 | exact D123 | exact V123 | exact A183 | exact B183 | exact D183 | exact V183) (by first | omega | assumption | exact A123 | exact B123 | exact D123 | exact V123 | exact A183 | exact B183 | exact D183 | exact V183) (by first | omega | assumption | exact A123 | exact B123 | exact D123 | exact V123 | exact A183 | exact B183 | exact D183 | exact V183) (by first | omega | assumption | exact A123 | exact B123 | exact D123 | exact V123 | exact A183 | exact B183 | exact D183 | exact V183) (by first | omega | assumption | exact A123 | exact B123 | exact D123 | exact V123 | exact A183 | exact B183 | exact D183 | exact V183) (by first | omega | assumption | exact A123 | exact B123 | exact D123 | exact V123 | exact A183 | exact B183 | exact D183 | exact V183) (by first | omega | assumption | exact A123 | exact B123 | exact D123 | exact V123 | exact A183 | exact B183 | exact D183 | exact V183) (by first | omega | assumption | exact A123 | exact B123 | exact D123 | exact V123 | exact A183 | exact B183 | exact D183 | exact V183)
              · skip
                have A73 : pz_nxp M = (M44 1 19).toNat := by
                  rw [P44]
                  omega
                have B73 : pz_whl pz_let (M 67) (M 1 16).toNat (M44 1 17).toNat = pz_whl pz_let (M 67) (M 1 16).toNat (M44 1 19).toNat := by
                  congr 1
                  omega
                have D73 : pz_let (M 67 (M44 1 19).toNat) = true := by
                  rw [pz_let_i, show (M44 1 19).toNat = (N0 1 17).toNat by omega, ← X52a]
                  omega
                replace q70 := q70.resolve_right (fun z => h73 z.1)
                exact L76 _ _ _ _ (Nat.lt_succ_self _) hS (by first | omega | assumption | exact A73 | exact B73 | exact D73 | exact A97 | exact B97 | exact D97) (by first | omega | assumption | exact A73 | exact B73 | exact D73 | exact A97 | exact B97 | exact D97) (by first | omega | assumption | exact A73 | exact B73 | exact D73 | exact A97 | exact B97 | exact D97) (by first | omega | assumption | exact A73 | exact B73 | exact D73 | exact A97 | exact B97 | exact D97) (by first | omega | assumption | exact A73 | exact B73 | exact D73 | exact A97 | exact B97 | exact D97) (by first | omega | assumption | exact A73 | exact B73 | exact D73 | exact A97 | exact B97 | exact D97) (by first | omega | assumption | exact A73 | exact B73 | exact D73 | exact A97 | exact B97 | exact D97) (by first | omega | assumption | exact A73 | exact B73 | exact D73 | exact A97 | exact B97 | exact D97)
            · skip
              skip
              intro M63 e63
              have hS : pz_rl pz_Q0 M M63 := by
                rw [e63]
                exact pz_rl_u hS (by unfold pz_Q0; decide) (pz_iom_f (by decide))
              have hI : pz_im M63 := hS.1 hI0
              have T63_0 : M63 1 17 = N0 1 17 := by
                rw [e63]
                exact (pz_une (by decide)).trans T44_0
              have T63_1 : M63 1 18 = (0) := by rw [e63]; exact pz_uu
              have T63_2 : M63 1 19 = v41 := by
                rw [e63]
                exact (pz_une (by decide)).trans T44_2
              have T63_3 : M63 1 16 = N0 1 16 := by
                rw [e63]
                exact (pz_une (by decide)).trans T44_3
              have T63_4 : M63 1 20 = N0 1 20 := by
                rw [e63]
                exact (pz_une (by decide)).trans T44_4
              have S63 : pz_tb M → pz_nxt M M63 := fun tb => by
                have tb9 := tb (N0 1 17).toNat
                rw [← Y67, ← T44_0] at tb9
                have hn : (M 1 16).toNat ≤ pz_nxp M := by omega
                exact pz_nxt_end hn (by omega) (by omega) (by omega)
              refine And.intro rfl ?_
              first
                | exact ⟨⟨by omega, S63⟩, hS⟩
                | exact ⟨⟨by omega, S108⟩, hS⟩
                | exact ⟨⟨by omega, S208⟩, hS⟩
                | exact ⟨⟨by omega, S303⟩, hS⟩
          · skip
            have B26 : pz_bla (M 67 (N0 1 17).toNat) = true := by
              rw [pz_bla_i, ← Z67]
              omega
            exact L26 _ _ _ hS (by first | omega | assumption | exact B26) (by first | omega | assumption | exact B26) (by first | omega | assumption | exact B26) (by first | omega | assumption | exact B26) (by first | omega | assumption | exact B26)
    exact L0 _ _ _ _ (Nat.lt_succ_self _) hS (by first | omega | exact rfl | exact G33) (by first | omega | exact rfl | exact G33)
theorem v_X12_next0 {fr lo i : Nat} {own : String} (h1 : 8 + 1 ≤ fr) (h2 : 8 + (3 + 11) + 168 ≤ lo) (h3 : .methodLink own i yX12_next0 ∈ lw_tbl) : pz_cV fr lo own i k_X12_next0 :=
  pz_cVk (maxL := 3) (fr' := 8) (lo' := 168) 0 12 h_X12_next0 rfl ⟨(pz_nhc_RX12 yX12_next0 rfl).1, (pz_nhc_RX12 yX12_next0 rfl).2, pz_ds2⟩ ⟨pz_wq1246, pz_wq1245, pz_ws6, pz_wq13⟩ (Or.inl ⟨TX12, 28, rfl⟩) (fun a M _ h => by
    have h : (match (generalizing := false) a with | [.inr (.inr (12, th))] => pz_im M | _ => False) := h
    split at h
    · exact ⟨_, _, rfl⟩
    · exact h.elim) h1 h2 h3
/-! the model's reader: where it is, what it has laid -/
def pq_TM (M : pz_M) : Nat → Int := pz_T (M 67) (M 1 16).toNat
def pq_XM (M : pz_M) : Nat → Int := pz_XV (M 67) (M 1 16).toNat
def pq_PM (M : pz_M) (i : Nat) : Int := (pz_tp (M 67) (M 1 16).toNat i : Int)
/-- it is at token i -/
def pq_mi (M : pz_M) (i : Nat) : Prop := pz_tb M ∧ M 1 19 = pq_PM M i ∧ M 1 17 = (pz_te (M 67) (M 1 16).toNat (pz_tp (M 67) (M 1 16).toNat i) : Int) ∧ M 1 18 = pz_mtk (M 1 12) (pq_TM M i) ∧ (pq_TM M i = 100 → M 1 20 = pq_XM M i)
def pq_mz (M : pz_M) (i : Nat) : Prop := pq_mi M i ∧ M 1 12 = 0
def pq_same (M N : pz_M) : Prop := N 67 = M 67 ∧ N 1 16 = M 1 16 ∧ N 1 12 = M 1 12
theorem pq_same.rf {M : pz_M} : pq_same M M := ⟨rfl, rfl, rfl⟩
theorem pq_same.tr {M N K : pz_M} (h : pq_same M N) (h' : pq_same N K) : pq_same M K := ⟨h'.1.trans h.1, h'.2.1.trans h.2.1, h'.2.2.trans h.2.2⟩
theorem pq_same.T {M N : pz_M} (h : pq_same M N) : pq_TM N = pq_TM M ∧ pq_XM N = pq_XM M ∧ pq_PM N = pq_PM M := by
  unfold pq_TM pq_XM
  refine ⟨by rw [h.1, h.2.1], by rw [h.1, h.2.1], funext fun i => ?_⟩
  unfold pq_PM
  rw [h.1, h.2.1]
theorem pq_Q0 {M N : pz_M} (h : pz_rl pz_Q0 M N) : pq_same M N := pz_Q0z h
theorem pq_Q1 {M N : pz_M} (h : pz_rl pz_Q1 M N) : pq_same M N := ⟨funext fun j => h.2 67 j (by unfold pz_Q1; omega), h.2 1 16 (by unfold pz_Q1; omega), h.2 1 12 (by unfold pz_Q1; omega)⟩
theorem pq_mi_nx {M N : pz_M} {i : Nat} (h : pq_mi M i) (z : pz_rl pz_Q0 M N) (s : pz_tb M → pz_nxt M N) : pq_mi N (i + 1) := by
  obtain ⟨a1, a2, a3, a4, a5⟩ := h
  have e := pq_Q0 z
  obtain ⟨s1, s2, s3, s4⟩ := s a1
  have ep : pz_nxp M = pz_tp (M 67) (M 1 16).toNat (i + 1) := by
    unfold pz_nxp
    rw [a3]
    rfl
  rw [ep] at s1 s2 s3 s4
  refine ⟨fun k hk => by rw [e.1]; exact a1 k (by rw [← e.2.1]; exact hk), ?_, ?_, ?_, fun q => ?_⟩
  · rw [s1, e.T.2.2]
    rfl
  · rw [s2, e.1, e.2.1]
  · rw [s3, e.T.1, e.2.2]
    rfl
  · rw [e.T.1] at q
    rw [s4 q, e.T.2.1]
    rfl
theorem pq_mz_nx {M N : pz_M} {i : Nat} (h : pq_mz M i) (z : pz_rl pz_Q0 M N) (s : pz_tb M → pz_nxt M N) : pq_mz N (i + 1) := ⟨pq_mi_nx h.1 z s, by rw [(pq_Q0 z).2.2]; exact h.2⟩
/-- nothing of it changes -/
theorem pq_mi_cg {M N : pz_M} {i : Nat} (h : pq_mi M i) (e : pq_same M N) (e1 : N 1 19 = M 1 19) (e2 : N 1 17 = M 1 17) (e3 : N 1 18 = M 1 18) (e4 : N 1 20 = M 1 20) : pq_mi N i := by
  obtain ⟨a1, a2, a3, a4, a5⟩ := h
  refine ⟨fun k hk => by rw [e.1]; exact a1 k (by rw [← e.2.1]; exact hk), by rw [e1, e.T.2.2]; exact a2, by rw [e2, e.1, e.2.1]; exact a3, by rw [e3, e.T.1, e.2.2]; exact a4, fun q => ?_⟩
  rw [e.T.1] at q
  rw [e4, e.T.2.1]
  exact a5 q
/-- the model's token, told by the class' -/
theorem pq_tk0 {k t : Int} (h : k = pz_mtk 0 t) (hr : (0 ≤ t ∧ t < 24) ∨ (40 ≤ t ∧ t ≤ 62) ∨ t = 100 ∨ t = 101 ∨ t = 102) : (t = 100 ∧ k = 2) ∨ (0 ≤ t ∧ t ≤ 3 ∧ k = t + 20) ∨ (4 ≤ t ∧ t ≤ 7 ∧ k = t - 1) ∨ (8 ≤ t ∧ t ≤ 16 ∧ k = t + 33) ∨ (17 ≤ t ∧ t ≤ 23 ∧ k = 1) ∨ (40 ≤ t ∧ t ≤ 62 ∧ k = t + 100) ∨ (t = 101 ∧ k = 0) ∨ (t = 102 ∧ k = 1) := by
  unfold pz_mtk pz_mw pz_ml pz_ma at h
  repeat' split at h
  all_goals omega
theorem pq_tk {M : pz_M} {i : Nat} (h : pq_mz M i) : (pq_TM M i = 100 ∧ M 1 18 = 2) ∨ (0 ≤ pq_TM M i ∧ pq_TM M i ≤ 3 ∧ M 1 18 = pq_TM M i + 20) ∨ (4 ≤ pq_TM M i ∧ pq_TM M i ≤ 7 ∧ M 1 18 = pq_TM M i - 1) ∨ (8 ≤ pq_TM M i ∧ pq_TM M i ≤ 16 ∧ M 1 18 = pq_TM M i + 33) ∨ (17 ≤ pq_TM M i ∧ pq_TM M i ≤ 23 ∧ M 1 18 = 1) ∨ (40 ≤ pq_TM M i ∧ pq_TM M i ≤ 62 ∧ M 1 18 = pq_TM M i + 100) ∨ (pq_TM M i = 101 ∧ M 1 18 = 0) ∨ (pq_TM M i = 102 ∧ M 1 18 = 1) :=
  pq_tk0 (by have := h.1.2.2.2.1; rw [h.2] at this; exact this) pz_T_r
/-- the steps o were laid -/
def pq_mp (o : List (Int × Int)) (M N : pz_M) : Prop := N 1 14 = M 1 14 + (o.length : Int) ∧ (∀ j : Nat, (j : Int) < 2 * M 1 14 → N 65 j = M 65 j) ∧ ∀ k : Nat, k < o.length → N 65 (2 * ((M 1 14).toNat + k)) = (o.getD k (0, 0)).1 ∧ ((o.getD k (0, 0)).1 = 0 ∨ (o.getD k (0, 0)).1 = 26 → N 65 (2 * ((M 1 14).toNat + k) + 1) = (o.getD k (0, 0)).2)
theorem pq_mp_0 {M N : pz_M} (h : N 1 14 = M 1 14) (h2 : N 65 = M 65) : pq_mp [] M N := ⟨by rw [h]; exact (Int.add_zero _).symm, fun j _ => by rw [h2], fun k hk => absurd hk (Nat.not_lt_zero _)⟩
theorem pq_mp.tr {o o' : List (Int × Int)} {M N K : pz_M} (h0 : 0 ≤ M 1 14) (h : pq_mp o M N) (h' : pq_mp o' N K) : pq_mp (o ++ o') M K := by
  obtain ⟨a1, a2, a3⟩ := h
  obtain ⟨b1, b2, b3⟩ := h'
  refine ⟨by rw [b1, a1, List.length_append]; omega, fun k hk => (b2 k (by omega)).trans (a2 k hk), fun k hk => ?_⟩
  rw [List.length_append] at hk
  by_cases q : k < o.length
  · have g : (o ++ o').getD k (0, 0) = o.getD k (0, 0) := by
      rw [List.getD_eq_getElem?_getD, List.getD_eq_getElem?_getD, List.getElem?_append_left q]
    rw [g, b2 _ (by omega), b2 _ (by omega)]
    exact a3 k q
  · have g : (o ++ o').getD k (0, 0) = o'.getD (k - o.length) (0, 0) := by
      rw [List.getD_eq_getElem?_getD, List.getElem?_append_right (by omega), ← List.getD_eq_getElem?_getD]
    rw [g, show (M 1 14).toNat + k = (N 1 14).toNat + (k - o.length) by omega]
    exact b3 (k - o.length) (by omega)
theorem pq_mp.la {o : List (Int × Int)} {M N K : pz_M} (h : pq_mp o M N) (e1 : K 1 14 = N 1 14) (e2 : K 65 = N 65) : pq_mp o M K := ⟨by rw [e1]; exact h.1, fun k hk => by rw [e2]; exact h.2.1 k hk, fun k hk => by rw [e2]; exact h.2.2 k hk⟩
theorem pq_mp.al {o : List (Int × Int)} {M N K : pz_M} (h : pq_mp o N K) (e1 : N 1 14 = M 1 14) (e2 : N 65 = M 65) : pq_mp o M K := by
  obtain ⟨a, b, c⟩ := h
  rw [e1] at a b c
  exact ⟨a, fun j hj => by rw [b j hj, e2], c⟩
/-- one step -/
def pq_ml (M N : pz_M) (x y : Int) : Prop := pz_ly M N x y ∧ N 1 20 = M 1 20
theorem pq_ml_s {M N : pz_M} {x y y' : Int} (h : pq_ml M N x y) (h0 : 0 ≤ M 1 14) (hy : x = 0 ∨ x = 26 → y' = y) : pq_mp [(x, y')] M N := by
  obtain ⟨⟨a1, a2, a3, a4, a5, a6, a7, a8⟩, a9⟩ := h
  refine ⟨by rw [a3]; rfl, a8, fun k hk => ?_⟩
  have hk : k = 0 := by
    have : k < 1 := hk
    omega
  subst hk
  refine ⟨?_, fun q => ?_⟩
  · rw [show 2 * ((M 1 14).toNat + 0) = (2 * M 1 14).toNat by omega]
    exact a1
  · rw [show 2 * ((M 1 14).toNat + 0) + 1 = (2 * M 1 14 + 1).toNat by omega, a2]
    exact (hy q).symm
theorem pq_ml_z {M N : pz_M} {x y : Int} {i : Nat} (h : pq_ml M N x y) (e : pq_same M N) (c : pq_mz M i) : pq_mz N i := by
  obtain ⟨⟨a1, a2, a3, a4, a5, a6, a7, a8⟩, a9⟩ := h
  exact ⟨pq_mi_cg c.1 e a6 a4 a5 a9, by rw [e.2.2]; exact c.2⟩
/-- what a method of that kind finds, from token i on -/
def pq_mb (M N : pz_M) (k : Int) (j : Nat) : Prop := N 1 21 = k ∧ N 1 22 = pq_PM M j
def pq_mg (K d : Nat) (M N : pz_M) (v : Int) : Prop := ∀ i, pq_mz M i → (v = 1 ∧ ∃ (j : Nat) (o : List (Int × Int)), pz_gr (pq_TM M) (pq_XM M) K d i (.ok j o) ∧ pq_mz N j ∧ pq_mp o M N) ∨ (v = 0 ∧ ∃ (k : Int) (j : Nat), pz_gr (pq_TM M) (pq_XM M) K d i (.bad k j) ∧ pq_mb M N k j)
def pq_mu (M N : pz_M) (v : Int) : Prop := ∀ i, pq_mz M i → (v = 1 ∧ ∃ o : List (Int × Int), pz_uf (pq_TM M) (pq_XM M) i = .ok (i + 1) o ∧ pq_mz N (i + 1) ∧ pq_mp o M N) ∨ (v = 0 ∧ pz_uf (pq_TM M) (pq_XM M) i = .bad 1 i ∧ pq_mb M N 1 i)
theorem pq_q0f {M N : pz_M} (h : pz_rl pz_Q0 M N) : N 1 14 = M 1 14 ∧ N 65 = M 65 := ⟨h.2 1 14 (by unfold pz_Q0; omega), funext fun j => h.2 65 j (by unfold pz_Q0; omega)⟩
/-- a unit of the model -/
theorem pq_mu_n {M N1 N2 : pz_M} {y : Int} (hl : pq_ml M N1 0 y) (hy : y = M 1 20) (ht : M 1 18 = 2) (h0 : 0 ≤ M 1 14) (e1 : pq_same M N1) (z : pz_rl pz_Q0 N1 N2) (s : pz_tb N1 → pz_nxt N1 N2) : pq_mu M N2 1 := by
  intro i c
  have t := pq_tk c
  have tt : pq_TM M i = 100 := by omega
  refine Or.inl ⟨rfl, [(0, pq_XM M i)], if_pos tt, pq_mz_nx (pq_ml_z hl e1 c) z s, ?_⟩
  exact (pq_ml_s hl h0 (fun _ => by rw [hy]; exact (c.1.2.2.2.2 tt).symm)).la (pq_q0f z).1 (pq_q0f z).2
theorem pq_mu_w {M N1 N2 : pz_M} {x y : Int} (hl : pq_ml M N1 x y) (hx : x = M 1 18 - 40) (ht : 41 ≤ M 1 18 ∧ M 1 18 ≤ 49) (h0 : 0 ≤ M 1 14) (e1 : pq_same M N1) (z : pz_rl pz_Q0 N1 N2) (s : pz_tb N1 → pz_nxt N1 N2) : pq_mu M N2 1 := by
  intro i c
  have t := pq_tk c
  have tt : 8 ≤ pq_TM M i ∧ pq_TM M i ≤ 16 ∧ x = pq_TM M i - 7 := by omega
  refine Or.inl ⟨rfl, [(pq_TM M i - 7, 0)], ?_, pq_mz_nx (pq_ml_z hl e1 c) z s, ?_⟩
  · unfold pz_uf
    rw [if_neg (by omega), if_pos ⟨tt.1, tt.2.1⟩]
  · have := (pq_ml_s (y' := 0) hl h0 (fun q => by omega)).la (pq_q0f z).1 (pq_q0f z).2
    rw [tt.2.2] at this
    exact this
theorem pq_mu_b {M N : pz_M} {v : Int} (hv : v = 0) (h1 : N 1 21 = 1) (h2 : N 1 22 = M 1 19) (ht : M 1 18 ≠ 2 ∧ ¬ (41 ≤ M 1 18 ∧ M 1 18 ≤ 49)) : pq_mu M N v := by
  intro i c
  have t := pq_tk c
  refine Or.inr ⟨hv, ?_, h1, by rw [h2]; exact c.1.2.1⟩
  unfold pz_uf
  rw [if_neg (by omega), if_neg (by omega)]
/-- a product that is read -/
def pq_sP (M N : pz_M) : Prop := ∀ i, pq_mz M i → ∃ (j : Nat) (o : List (Int × Int)), pq_mz N j ∧ pq_mp o M N ∧ ∀ r, pz_gr (pq_TM M) (pq_XM M) 0 0 j r → pz_gr (pq_TM M) (pq_XM M) 1 0 i (r.app o)
theorem pq_sP_0 {M N : pz_M} {v : Int} (s : pq_mu M N v) (hv : ¬ v = 0) : pq_sP M N := by
  intro i c
  rcases s i c with ⟨-, o, a, b, d⟩ | ⟨a, -⟩
  · exact ⟨i + 1, o, b, d, fun r q => .pdu a q⟩
  · exact absurd a hv
theorem pq_sP_b {M N : pz_M} {v : Int} (s : pq_mu M N v) (hv : v = 0) : pq_mg 1 0 M N 0 := by
  intro i c
  rcases s i c with ⟨a, -⟩ | ⟨-, a, b⟩
  · omega
  · exact Or.inr ⟨rfl, 1, i, .pdb a, b⟩
theorem pq_sP_m {M N N1 N2 N3 : pz_M} {v y : Int} (h : pq_sP M N) (e : pq_same M N) (t : N 1 18 = 142) (z1 : pz_rl pz_Q0 N N1) (s1 : pz_tb N → pz_nxt N N1) (u : pq_mu N1 N2 v) (hv : ¬ v = 0) (e2 : pq_same N1 N2) (l : pq_ml N2 N3 25 y) (e3 : pq_same N2 N3) (h0 : 0 ≤ M 1 14) : pq_sP M N3 := by
  intro i c
  obtain ⟨j, o, a1, a2, a3⟩ := h i c
  have tj := pq_tk a1
  have c1 := pq_mz_nx a1 z1 s1
  have g := (e.tr (pq_Q0 z1)).T
  rcases u _ c1 with ⟨-, o', b1, b2, b3⟩ | ⟨b1, -⟩
  · rw [g.1, g.2.1] at b1
    rw [e.T.1] at tj
    have b4 := b3.al (pq_q0f z1).1 (pq_q0f z1).2
    have k0 : 0 ≤ N 1 14 := by have := a2.1; omega
    have k2 : 0 ≤ N2 1 14 := by have := b4.1; omega
    refine ⟨_, _, pq_ml_z l e3 b2, a2.tr h0 (b4.tr k0 (pq_ml_s (y' := 0) l k2 (fun q => by omega))), fun r q => ?_⟩
    have := a3 _ (.ptm (by omega) b1 q)
    rw [pz_app_app] at this
    exact this
  · exact absurd b1 hv
theorem pq_sP_mb {M N N1 N2 : pz_M} {v : Int} (h : pq_sP M N) (e : pq_same M N) (t : N 1 18 = 142) (z1 : pz_rl pz_Q0 N N1) (s1 : pz_tb N → pz_nxt N N1) (u : pq_mu N1 N2 v) (hv : v = 0) : pq_mg 1 0 M N2 0 := by
  intro i c
  obtain ⟨j, o, a1, a2, a3⟩ := h i c
  have tj := pq_tk a1
  have c1 := pq_mz_nx a1 z1 s1
  have g := (e.tr (pq_Q0 z1)).T
  rcases u _ c1 with ⟨b1, -⟩ | ⟨-, b1, b2, b3⟩
  · omega
  · rw [g.1, g.2.1] at b1
    rw [e.T.1] at tj
    rw [g.2.2] at b3
    have := a3 _ (.ptmb (by omega) b1)
    exact Or.inr ⟨rfl, 1, _, this, b2, b3⟩
theorem pq_sP_d {M N N1 N2 N3 : pz_M} {y : Int} (h : pq_sP M N) (e : pq_same M N) (t : N 1 18 = 147) (z1 : pz_rl pz_Q0 N N1) (s1 : pz_tb N → pz_nxt N N1) (t1 : N1 1 18 = 2) (x1 : ¬ N1 1 20 = 0) (z2 : pz_rl pz_Q0 N1 N2) (s2 : pz_tb N1 → pz_nxt N1 N2) (l : pq_ml N2 N3 26 y) (hy : y = N1 1 20) (e3 : pq_same N2 N3) (h0 : 0 ≤ M 1 14) : pq_sP M N3 := by
  intro i c
  obtain ⟨j, o, a1, a2, a3⟩ := h i c
  have tj := pq_tk a1
  have c1 := pq_mz_nx a1 z1 s1
  have tj1 := pq_tk c1
  have g := (e.tr (pq_Q0 z1)).T
  have x2 := c1.1.2.2.2.2 (by omega)
  rw [e.T.1] at tj
  rw [g.1] at tj1
  rw [g.2.1] at x2
  have f1 := pq_q0f z1
  have f2 := pq_q0f z2
  have k0 : 0 ≤ N 1 14 := by have := a2.1; omega
  have k2 : 0 ≤ N2 1 14 := by omega
  refine ⟨_, _, pq_ml_z l e3 (pq_mz_nx c1 z2 s2), a2.tr h0 ((pq_ml_s l k2 (y' := pq_XM M (j + 1)) (fun q => by omega)).al (f2.1.trans f1.1) (f2.2.trans f1.2)), fun r q => ?_⟩
  have := a3 _ (.ptd (by omega) (by omega) (by omega) q)
  rw [pz_app_app] at this
  exact this
theorem pq_sP_w {M N N1 N2 : pz_M} {k : Int} (h : pq_sP M N) (e : pq_same M N) (t : N 1 18 = 147) (z1 : pz_rl pz_Q0 N N1) (s1 : pz_tb N → pz_nxt N N1) (t1 : (N1 1 18 ≠ 2 ∧ k = 1) ∨ (N1 1 18 = 2 ∧ N1 1 20 = 0 ∧ k = 2)) (b1 : N2 1 21 = k) (b2 : N2 1 22 = N1 1 19) : pq_mg 1 0 M N2 0 := by
  intro i c
  obtain ⟨j, o, a1, a2, a3⟩ := h i c
  have tj := pq_tk a1
  have c1 := pq_mz_nx a1 z1 s1
  have tj1 := pq_tk c1
  have g := (e.tr (pq_Q0 z1)).T
  have x2 := c1.1.2.2.2.2
  have p2 := c1.1.2.1
  rw [e.T.1] at tj
  rw [g.1] at tj1 x2
  rw [g.2.1] at x2
  rw [g.2.2] at p2
  rcases t1 with ⟨y, rfl⟩ | ⟨y, y2, rfl⟩
  · exact Or.inr ⟨rfl, 1, j + 1, a3 _ (.ptn (by omega) (by omega)), b1, by rw [b2]; exact p2⟩
  · have x3 := x2 (by omega)
    exact Or.inr ⟨rfl, 2, j + 1, a3 _ (.ptz (by omega) (by omega) (by omega)), b1, by rw [b2]; exact p2⟩
theorem pq_sP_e {M N : pz_M} (h : pq_sP M N) (e : pq_same M N) (t : N 1 18 ≠ 142 ∧ N 1 18 ≠ 147) : pq_mg 1 0 M N 1 := by
  intro i c
  obtain ⟨j, o, a1, a2, a3⟩ := h i c
  have tj := pq_tk a1
  rw [e.T.1] at tj
  have := a3 _ (.pt0 (by omega) (by omega))
  have f : (pz_res.ok j []).app o = .ok j o := by
    show pz_res.ok j (o ++ []) = _
    rw [List.append_nil]
  rw [f] at this
  exact Or.inl ⟨rfl, j, o, this, a1, a2⟩
/-- what is joined by signs: a head, a tail, all -/
def pq_sG (Kt Kr d : Nat) (M N : pz_M) : Prop := ∀ i, pq_mz M i → ∃ (j : Nat) (o : List (Int × Int)), pq_mz N j ∧ pq_mp o M N ∧ ∀ r, pz_gr (pq_TM M) (pq_XM M) Kt d j r → pz_gr (pq_TM M) (pq_XM M) Kr d i (r.app o)
theorem pq_sG_0 {Kh Kt Kr d : Nat} {M N : pz_M} {v : Int} (hs : ∀ {T X : Nat → Int} {i j : Nat} {o : List (Int × Int)} {r : pz_res}, pz_gr T X Kh d i (.ok j o) → pz_gr T X Kt d j r → pz_gr T X Kr d i (r.app o)) (s : pq_mg Kh d M N v) (hv : ¬ v = 0) : pq_sG Kt Kr d M N := by
  intro i c
  rcases s i c with ⟨-, j, o, a, b, f⟩ | ⟨a, -⟩
  · exact ⟨j, o, b, f, fun r q => hs a q⟩
  · exact absurd a hv
theorem pq_sG_b {Kh Kr d : Nat} {M N : pz_M} {v : Int} (hb : ∀ {T X : Nat → Int} {i j : Nat} {k : Int}, pz_gr T X Kh d i (.bad k j) → pz_gr T X Kr d i (.bad k j)) (s : pq_mg Kh d M N v) (hv : v = 0) : pq_mg Kr d M N 0 := by
  intro i c
  rcases s i c with ⟨a, -⟩ | ⟨-, k, j, a, b⟩
  · omega
  · exact Or.inr ⟨rfl, k, j, hb a, b⟩
theorem pq_sG_s {Kh Kt Kr d : Nat} {M N N1 N2 N3 : pz_M} {v x y : Int} (hst : ∀ {j l : Nat} {o : List (Int × Int)} {r : pz_res}, N 1 18 = pz_mtk 0 (pq_TM M j) → pz_gr (pq_TM M) (pq_XM M) Kh d (j + 1) (.ok l o) → pz_gr (pq_TM M) (pq_XM M) Kt d l r → pz_gr (pq_TM M) (pq_XM M) Kt d j (r.app (o ++ [(x, 0)])))
    (h : pq_sG Kt Kr d M N) (e : pq_same M N) (z1 : pz_rl pz_Q0 N N1) (s1 : pz_tb N → pz_nxt N N1) (u : pq_mg Kh d N1 N2 v) (hv : ¬ v = 0) (l : pq_ml N2 N3 x y) (hx : ¬ (x = 0 ∨ x = 26)) (e3 : pq_same N2 N3) (h0 : 0 ≤ M 1 14) : pq_sG Kt Kr d M N3 := by
  intro i c
  obtain ⟨j, o, a1, a2, a3⟩ := h i c
  have tj := a1.1.2.2.2.1
  rw [a1.2, e.T.1] at tj
  have c1 := pq_mz_nx a1 z1 s1
  have g := (e.tr (pq_Q0 z1)).T
  rcases u _ c1 with ⟨-, j', o', b1, b2, b3⟩ | ⟨b1, -⟩
  · rw [g.1, g.2.1] at b1
    have b4 := b3.al (pq_q0f z1).1 (pq_q0f z1).2
    have k0 : 0 ≤ N 1 14 := by have := a2.1; omega
    have k2 : 0 ≤ N2 1 14 := by have := b4.1; omega
    refine ⟨_, _, pq_ml_z l e3 b2, a2.tr h0 (b4.tr k0 (pq_ml_s (y' := 0) l k2 (fun q => absurd q hx))), fun r q => ?_⟩
    have := a3 _ (hst tj b1 q)
    rw [pz_app_app] at this
    exact this
  · exact absurd b1 hv
theorem pq_sG_sb {Kh Kt Kr d : Nat} {M N N1 N2 : pz_M} {v : Int} (hst : ∀ {j l : Nat} {k : Int}, N 1 18 = pz_mtk 0 (pq_TM M j) → pz_gr (pq_TM M) (pq_XM M) Kh d (j + 1) (.bad k l) → pz_gr (pq_TM M) (pq_XM M) Kt d j (.bad k l))
    (h : pq_sG Kt Kr d M N) (e : pq_same M N) (z1 : pz_rl pz_Q0 N N1) (s1 : pz_tb N → pz_nxt N N1) (u : pq_mg Kh d N1 N2 v) (hv : v = 0) : pq_mg Kr d M N2 0 := by
  intro i c
  obtain ⟨j, o, a1, a2, a3⟩ := h i c
  have tj := a1.1.2.2.2.1
  rw [a1.2, e.T.1] at tj
  have c1 := pq_mz_nx a1 z1 s1
  have g := (e.tr (pq_Q0 z1)).T
  rcases u _ c1 with ⟨b1, -⟩ | ⟨-, k, j', b1, b2, b3⟩
  · omega
  · rw [g.1, g.2.1] at b1
    rw [g.2.2] at b3
    exact Or.inr ⟨rfl, k, j', a3 _ (hst tj b1), b2, b3⟩
theorem pq_sG_e {Kt Kr d : Nat} {M N : pz_M} (hst : ∀ {j : Nat}, N 1 18 = pz_mtk 0 (pq_TM M j) → pz_gr (pq_TM M) (pq_XM M) Kt d j (.ok j [])) (h : pq_sG Kt Kr d M N) (e : pq_same M N) : pq_mg Kr d M N 1 := by
  intro i c
  obtain ⟨j, o, a1, a2, a3⟩ := h i c
  have tj := a1.1.2.2.2.1
  rw [a1.2, e.T.1] at tj
  have := a3 _ (hst tj)
  have f : (pz_res.ok j []).app o = .ok j o := by
    show pz_res.ok j (o ++ []) = _
    rw [List.append_nil]
  rw [f] at this
  exact Or.inl ⟨rfl, j, o, this, a1, a2⟩
theorem pq_tkT {k : Int} {M : pz_M} {j : Nat} (h : k = pz_mtk 0 (pq_TM M j)) : (pq_TM M j = 100 ∧ k = 2) ∨ (0 ≤ pq_TM M j ∧ pq_TM M j ≤ 3 ∧ k = pq_TM M j + 20) ∨ (4 ≤ pq_TM M j ∧ pq_TM M j ≤ 7 ∧ k = pq_TM M j - 1) ∨ (8 ≤ pq_TM M j ∧ pq_TM M j ≤ 16 ∧ k = pq_TM M j + 33) ∨ (17 ≤ pq_TM M j ∧ pq_TM M j ≤ 23 ∧ k = 1) ∨ (40 ≤ pq_TM M j ∧ pq_TM M j ≤ 62 ∧ k = pq_TM M j + 100) ∨ (pq_TM M j = 101 ∧ k = 0) ∨ (pq_TM M j = 102 ∧ k = 1) := pq_tk0 h (pz_T_r (B := M 67) (n := (M 1 16).toNat) (i := j))
theorem pq_st1 {T X : Nat → Int} {d i j : Nat} {o : List (Int × Int)} {r : pz_res} {x : Int} (h : (T i = 43 ∧ x = 23) ∨ (T i = 45 ∧ x = 24)) (a : pz_gr T X 1 d (i + 1) (.ok j o)) (b : pz_gr T X 2 d j r) : pz_gr T X 2 d i (r.app (o ++ [(x, 0)])) := by
  have := pz_gr.sts (by omega) a b
  rw [show pz_op (T i) = x by unfold pz_op; repeat' split; all_goals omega] at this
  exact this
theorem pq_Q5 {M N : pz_M} (h : pz_rl pz_Q5 M N) : pq_same M N := ⟨funext fun j => h.2 67 j (by unfold pz_Q5; omega), h.2 1 16 (by unfold pz_Q5; omega), h.2 1 12 (by unfold pz_Q5; omega)⟩
theorem pq_q5f {M N : pz_M} (h : pz_rl pz_Q5 M N) : N 1 14 = M 1 14 ∧ N 65 = M 65 := ⟨h.2 1 14 (by unfold pz_Q5; omega), funext fun j => h.2 65 j (by unfold pz_Q5; omega)⟩
theorem pq_dpt {M N : pz_M} {w : Int} (e : N = pz_u M 1 24 w) : pq_same M N ∧ N 1 14 = M 1 14 ∧ N 65 = M 65 ∧ ∀ i, pq_mz M i → pq_mz N i := by
  have u : ∀ b j, ¬ (b = 1 ∧ j = 24) → N b j = M b j := fun b j q => by rw [e]; exact pz_une q
  have s : pq_same M N := ⟨funext fun j => u 67 j (by omega), u 1 16 (by omega), u 1 12 (by omega)⟩
  exact ⟨s, u 1 14 (by omega), funext fun j => u 65 j (by omega), fun i c => ⟨pq_mi_cg c.1 s (u 1 19 (by omega)) (u 1 17 (by omega)) (u 1 18 (by omega)) (u 1 20 (by omega)), by rw [s.2.2]; exact c.2⟩⟩
/-- a parenthesis or a not begins -/
def pq_opn (M N : pz_M) (v : Int) : Prop := ∀ i, pq_mz M i → (v = 1 ∧ M 1 24 ≠ 8 ∧ pq_mz N (i + 1)) ∨ (v = 0 ∧ M 1 24 = 8 ∧ pq_mb M N 3 i)
theorem pq_on_x {M N : pz_M} {v : Int} (s : pq_opn M N v) (hv : v = 0) (t : M 1 18 = 6 ∨ M 1 18 = 140) : pq_mg 4 (M 1 24).toNat M N 0 := by
  intro i c
  have tj := pq_tk c
  rcases s i c with ⟨a, -⟩ | ⟨-, a, b⟩
  · omega
  · exact Or.inr ⟨rfl, 3, i, .onx (by omega) (by omega), b⟩
theorem pq_on_nb {M N N1 : pz_M} {v v1 : Int} (s : pq_opn M N v) (hv : ¬ v = 0) (t : M 1 18 = 6) (hd : N 1 24 = M 1 24 + 1 ∧ 0 ≤ M 1 24 ∧ M 1 24 ≤ 8) (e : pq_same M N) (u : pq_mg 4 (N 1 24).toNat N N1 v1) (hv1 : v1 = 0) : pq_mg 4 (M 1 24).toNat M N1 0 := by
  intro i c
  have tj := pq_tk c
  rcases s i c with ⟨-, a, b⟩ | ⟨a, -⟩
  · rcases u _ b with ⟨f, -⟩ | ⟨-, k, j, f, g1, g2⟩
    · omega
    · rw [e.T.1, e.T.2.1, show (N 1 24).toNat = (M 1 24).toNat + 1 by omega] at f
      rw [e.T.2.2] at g2
      exact Or.inr ⟨rfl, k, j, .onnb (by omega) (by omega) f, g1, g2⟩
  · exact absurd a hv
theorem pq_on_n {M N N1 N2 N3 : pz_M} {v v1 w y : Int} (s : pq_opn M N v) (hv : ¬ v = 0) (t : M 1 18 = 6) (hd : N 1 24 = M 1 24 + 1 ∧ 0 ≤ M 1 24 ∧ M 1 24 ≤ 8) (z : pz_rl pz_Q5 M N) (u : pq_mg 4 (N 1 24).toNat N N1 v1) (hv1 : ¬ v1 = 0) (e1 : pq_same N N1) (d : N2 = pz_u N1 1 24 w) (l : pq_ml N2 N3 30 y) (e3 : pq_same N2 N3) (h0 : 0 ≤ M 1 14) : pq_mg 4 (M 1 24).toNat M N3 1 := by
  intro i c
  have tj := pq_tk c
  have e := pq_Q5 z
  have f5 := pq_q5f z
  rcases s i c with ⟨-, a, b⟩ | ⟨a, -⟩
  · rcases u _ b with ⟨-, j, o, f, g1, g2⟩ | ⟨f, -⟩
    · rw [e.T.1, e.T.2.1, show (N 1 24).toNat = (M 1 24).toNat + 1 by omega] at f
      obtain ⟨d1, d2, d3, d4⟩ := pq_dpt d
      have m1 := (g2.la d2 d3).al f5.1 f5.2
      have k2 : 0 ≤ N2 1 14 := by have := m1.1; omega
      exact Or.inl ⟨rfl, j, _, .onn (by omega) (by omega) f, pq_ml_z l e3 (d4 j g1), m1.tr h0 (pq_ml_s (y' := 0) l k2 (fun q => by omega))⟩
    · exact absurd f hv1
  · exact absurd a hv
theorem pq_on_pb {M N N1 : pz_M} {v v1 : Int} (s : pq_opn M N v) (hv : ¬ v = 0) (t : M 1 18 = 140) (hd : N 1 24 = M 1 24 + 1 ∧ 0 ≤ M 1 24 ∧ M 1 24 ≤ 8) (e : pq_same M N) (u : pq_mg 8 (N 1 24).toNat N N1 v1) (hv1 : v1 = 0) : pq_mg 4 (M 1 24).toNat M N1 0 := by
  intro i c
  have tj := pq_tk c
  rcases s i c with ⟨-, a, b⟩ | ⟨a, -⟩
  · rcases u _ b with ⟨f, -⟩ | ⟨-, k, j, f, g1, g2⟩
    · omega
    · rw [e.T.1, e.T.2.1, show (N 1 24).toNat = (M 1 24).toNat + 1 by omega] at f
      rw [e.T.2.2] at g2
      exact Or.inr ⟨rfl, k, j, .onpb (by omega) (by omega) f, g1, g2⟩
  · exact absurd a hv
theorem pq_on_pc {M N N1 N2 : pz_M} {v v1 : Int} (s : pq_opn M N v) (hv : ¬ v = 0) (t : M 1 18 = 140) (hd : N 1 24 = M 1 24 + 1 ∧ 0 ≤ M 1 24 ∧ M 1 24 ≤ 8) (e : pq_same M N) (u : pq_mg 8 (N 1 24).toNat N N1 v1) (hv1 : ¬ v1 = 0) (e1 : pq_same N N1) (n : N1 1 18 ≠ 141) (b1 : N2 1 21 = 1) (b2 : N2 1 22 = N1 1 19) : pq_mg 4 (M 1 24).toNat M N2 0 := by
  intro i c
  have tj := pq_tk c
  rcases s i c with ⟨-, a, b⟩ | ⟨a, -⟩
  · rcases u _ b with ⟨-, j, o, f, g1, g2⟩ | ⟨f, -⟩
    · rw [e.T.1, e.T.2.1, show (N 1 24).toNat = (M 1 24).toNat + 1 by omega] at f
      have tj1 := pq_tk g1
      have p1 := g1.1.2.1
      rw [(e.tr e1).T.1] at tj1
      rw [(e.tr e1).T.2.2] at p1
      exact Or.inr ⟨rfl, 1, j, .onpc (by omega) (by omega) f (by omega), b1, by rw [b2]; exact p1⟩
    · exact absurd f hv1
  · exact absurd a hv
theorem pq_on_p {M N N1 N2 N3 : pz_M} {v v1 w : Int} (s : pq_opn M N v) (hv : ¬ v = 0) (t : M 1 18 = 140) (hd : N 1 24 = M 1 24 + 1 ∧ 0 ≤ M 1 24 ∧ M 1 24 ≤ 8) (z : pz_rl pz_Q5 M N) (u : pq_mg 8 (N 1 24).toNat N N1 v1) (hv1 : ¬ v1 = 0) (e1 : pq_same N N1) (n : N1 1 18 = 141) (z2 : pz_rl pz_Q0 N1 N2) (s2 : pz_tb N1 → pz_nxt N1 N2) (d : N3 = pz_u N2 1 24 w) : pq_mg 4 (M 1 24).toNat M N3 1 := by
  intro i c
  have tj := pq_tk c
  have e := pq_Q5 z
  have f5 := pq_q5f z
  rcases s i c with ⟨-, a, b⟩ | ⟨a, -⟩
  · rcases u _ b with ⟨-, j, o, f, g1, g2⟩ | ⟨f, -⟩
    · rw [e.T.1, e.T.2.1, show (N 1 24).toNat = (M 1 24).toNat + 1 by omega] at f
      have tj1 := pq_tk g1
      rw [(e.tr e1).T.1] at tj1
      obtain ⟨d1, d2, d3, d4⟩ := pq_dpt d
      have f0 := pq_q0f z2
      exact Or.inl ⟨rfl, j + 1, o, .onp (by omega) (by omega) f (by omega), d4 _ (pq_mz_nx g1 z2 s2), (g2.la (d2.trans f0.1) (d3.trans f0.2)).al f5.1 f5.2⟩
    · exact absurd f hv1
  · exact absurd a hv
theorem pq_on_s {M N : pz_M} {v : Int} {d : Nat} (t : M 1 18 ≠ 6 ∧ M 1 18 ≠ 140) (s : pq_mg 3 0 M N v) (hv : v = 0) : pq_mg 4 d M N 0 := by
  intro i c
  have tj := pq_tk c
  rcases s i c with ⟨a, -⟩ | ⟨-, k, j, a, b⟩
  · omega
  · exact Or.inr ⟨rfl, k, j, .ons (by omega) (by omega) a, b⟩
theorem pq_on_r {M N N1 : pz_M} {v : Int} {d : Nat} (t : M 1 18 ≠ 6 ∧ M 1 18 ≠ 140) (s : pq_mg 3 0 M N v) (hv : ¬ v = 0) (e : pq_same M N) (t1 : ¬ (160 ≤ N 1 18 ∧ N 1 18 ≤ 162)) (b1 : N1 1 21 = 1) (b2 : N1 1 22 = N 1 19) : pq_mg 4 d M N1 0 := by
  intro i c
  have tj := pq_tk c
  rcases s i c with ⟨-, j, o, a, b, f⟩ | ⟨a, -⟩
  · have tj1 := pq_tk b
    have p1 := b.1.2.1
    rw [e.T.1] at tj1
    rw [e.T.2.2] at p1
    exact Or.inr ⟨rfl, 1, j, .onr (by omega) (by omega) a (by omega), b1, by rw [b2]; exact p1⟩
  · exact absurd a hv
theorem pq_on_t {M N N1 N2 : pz_M} {v v2 : Int} {d : Nat} (t : M 1 18 ≠ 6 ∧ M 1 18 ≠ 140) (s : pq_mg 3 0 M N v) (hv : ¬ v = 0) (e : pq_same M N) (t1 : 160 ≤ N 1 18 ∧ N 1 18 ≤ 162) (z : pz_rl pz_Q0 N N1) (s1 : pz_tb N → pz_nxt N N1) (u : pq_mg 3 0 N1 N2 v2) (hv2 : v2 = 0) : pq_mg 4 d M N2 0 := by
  intro i c
  have tj := pq_tk c
  rcases s i c with ⟨-, j, o, a, b, f⟩ | ⟨a, -⟩
  · have tj1 := pq_tk b
    rw [e.T.1] at tj1
    have g := (e.tr (pq_Q0 z)).T
    rcases u _ (pq_mz_nx b z s1) with ⟨f, -⟩ | ⟨-, k, j2, f, g1, g2⟩
    · omega
    · rw [g.1, g.2.1] at f
      rw [g.2.2] at g2
      exact Or.inr ⟨rfl, k, j2, .ont (by omega) (by omega) a (by omega) f, g1, g2⟩
  · exact absurd a hv
theorem pq_on_q {M N N1 N2 N3 : pz_M} {v v2 x y : Int} {d : Nat} (t : M 1 18 ≠ 6 ∧ M 1 18 ≠ 140) (s : pq_mg 3 0 M N v) (hv : ¬ v = 0) (e : pq_same M N) (t1 : (N 1 18 = 160 ∧ x = 27) ∨ (N 1 18 = 161 ∧ x = 28) ∨ (N 1 18 = 162 ∧ x = 29)) (z : pz_rl pz_Q0 N N1) (s1 : pz_tb N → pz_nxt N N1) (u : pq_mg 3 0 N1 N2 v2) (hv2 : ¬ v2 = 0) (l : pq_ml N2 N3 x y) (e3 : pq_same N2 N3) (h0 : 0 ≤ M 1 14) : pq_mg 4 d M N3 1 := by
  intro i c
  have tj := pq_tk c
  rcases s i c with ⟨-, j, o, a, b, f⟩ | ⟨a, -⟩
  · have tj1 := pq_tk b
    rw [e.T.1] at tj1
    have g := (e.tr (pq_Q0 z)).T
    have q0 := pq_q0f z
    rcases u _ (pq_mz_nx b z s1) with ⟨-, j2, o2, f2, g1, g2⟩ | ⟨f2, -⟩
    · rw [g.1, g.2.1] at f2
      have k0 : 0 ≤ N 1 14 := by have := f.1; omega
      have g3 := g2.al q0.1 q0.2
      have k2 : 0 ≤ N2 1 14 := by have := g3.1; omega
      have ex : pz_op (pq_TM M j) = x := by
        unfold pz_op
        repeat' split
        all_goals omega
      have w := pz_gr.onq (d := d) (T := pq_TM M) (X := pq_XM M) (i := i) (by omega) (by omega) a (by omega) f2
      rw [ex] at w
      exact Or.inl ⟨rfl, j2, _, w, pq_ml_z l e3 g1, (f.tr h0 g3).tr h0 (pq_ml_s (y' := 0) l k2 (fun q => by omega))⟩
    · exact absurd f2 hv2
  · exact absurd a hv

