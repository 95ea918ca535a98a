noncomputable def k_X12_link : pz_C := (5, 1, fun a M => (match a with | [.inr (.inr (12, th)), .inl p, .inl q, .inl w, .inl s] => pz_im M | _ => False), fun a M r M' => (match a, r with | [.inr (.inr (12, th)), .inl p, .inl q, .inl w, .inl s], some (.inl v) => (((M 60 88 < 12 ∧ (1 ≤ p ∧ p ≤ 999) ∧ (-9999 ≤ q ∧ q ≤ 9999) ∧ (-999 ≤ w ∧ w ≤ 999) ∧ 0 ≤ s ∧ s ≤ 9) ∧ v = M 60 88 ∧ M' = pz_lkm p q w s M) ∨ (¬ (M 60 88 < 12 ∧ (1 ≤ p ∧ p ≤ 999) ∧ (-9999 ≤ q ∧ q ≤ 9999) ∧ (-999 ≤ w ∧ w ≤ 999) ∧ 0 ≤ s ∧ s ≤ 9) ∧ v = -1 ∧ M' = M)) ∧ pz_rl pz_Q9 M M' | _, _ => False))
noncomputable abbrev ct_X12_link : List (Bool × Nat × pz_C) := [(false, 54, k_X12_isIn), (true, 71, k_X12_forgets)]
set_option maxRecDepth 100000 in
set_option maxHeartbeats 4000000 in
theorem h_X12_link : pz_H yX12_link cX12_link 6 (some .int) k_X12_link 1 22 := by
  refine pz_mk (own := RX12) (tb := t_X12_link) (fl := pz_flf fl_RX12) (ci := pz_cif ci_RX12) (ct := pz_ctf ct_X12_link) (rz := false) (by decide +kernel) rfl t_X12_link_ok (pz_flk fl_RX12_ok) (pz_cik ci_RX12_ok) ?_ ?_ (Or.inl ⟨rfl, rfl⟩) ?_ ?_
  · exact fun i k' h => pz_ctk (l := ct_X12_link) (P := fun b i k => b = true → pz_cV 1 22 RX12 i k) (List.forall_mem_cons.mpr ⟨((fun z => by cases z)), List.forall_mem_cons.mpr ⟨(fun _ => v_X12_forgets (by decide) (by decide) (pz_mt 1209 (by decide +kernel))), fun _ h => absurd h List.not_mem_nil⟩⟩) true i k' h rfl
  · exact fun i k' h => pz_ctk (l := ct_X12_link) (P := fun b i k => b = false → (pz_cS 1 22 RX12 i k ∨ (k = pz_kac ∧ 1 ≤ 1 ∧ 60 ≤ 22 ∧ Cond.methodLink RX12 i arraycopyName ∈ pz_tbl))) (List.forall_mem_cons.mpr ⟨(fun _ => Or.inl (s_X12_isIn (by decide) (by decide) (Or.inl (pz_mt 1217 (by decide +kernel))))), List.forall_mem_cons.mpr ⟨((fun z => by cases z)), fun _ h => absurd h List.not_mem_nil⟩⟩) false i k' h rfl
  · intro a M hlen hpre
    obtain ⟨th, p, q, w, s, rfl, hpre⟩ : ∃ th p q w s, a = [.inr (.inr (12, th)), .inl p, .inl q, .inl w, .inl s] ∧ (pz_im M) := by
      have hpre : (match (generalizing := false) a with | [.inr (.inr (12, th)), .inl p, .inl q, .inl w, .inl s] => pz_im M | _ => False) := hpre
      split at hpre
      · exact ⟨_, _, _, _, _, rfl, hpre⟩
      · exact hpre.elim
    exact Nat.le_of_ble_eq_true rfl
  · intro a M hlen hcan hM hpre Ok hgo
    obtain ⟨th, p, q, w, s, rfl, hpre⟩ : ∃ th p q w s, a = [.inr (.inr (12, th)), .inl p, .inl q, .inl w, .inl s] ∧ (pz_im M) := by
      have hpre : (match (generalizing := false) a with | [.inr (.inr (12, th)), .inl p, .inl q, .inl w, .inl s] => pz_im M | _ => False) := hpre
      split at hpre
      · exact ⟨_, _, _, _, _, rfl, hpre⟩
      · exact hpre.elim
    obtain ⟨k_th, hc_th⟩ := pz_tlm hcan
    have k_th : pz_kd th = 12 ∧ th < 231 := k_th
    have R_th := pz_kd12 k_th.1
    subst R_th
    clear k_th
    obtain ⟨k_p, hc_p⟩ := pz_tlm hc_th
    have l_p : -2147483648 ≤ p := k_p.1
    have u_p : p ≤ 2147483647 := k_p.2
    obtain ⟨k_q, hc_q⟩ := pz_tlm hc_p
    have l_q : -2147483648 ≤ q := k_q.1
    have u_q : q ≤ 2147483647 := k_q.2
    obtain ⟨k_w, hc_w⟩ := pz_tlm hc_q
    have l_w : -2147483648 ≤ w := k_w.1
    have u_w : w ≤ 2147483647 := k_w.2
    obtain ⟨k_s, hc_s⟩ := pz_tlm hc_w
    have l_s : -2147483648 ≤ s := k_s.1
    have u_s : s ≤ 2147483647 := k_s.2
    have hI : pz_im M := hpre
    have hI0 := hI
    have hS : pz_rl pz_Q9 M M := pz_rl.rf
    refine hgo (fun _ => false) 123 0 _ [] M ?_
    refine And.intro (True.intro) ?_
    intro v5 M5 a5 b5 q5
    obtain ⟨q5, z5⟩ := q5
    subst z5
    clear a5 b5
    refine And.intro (fun h8 => ?_) (fun h8 => ?_)
    · skip
      replace q5 := q5.resolve_left (fun z => absurd (z.1.symm.trans h8) (by decide))
      clear h8
      refine And.intro rfl ?_
      exact ⟨Or.inr ⟨by omega, rfl, rfl⟩, hS⟩
    · skip
      replace q5 := q5.resolve_right (fun z => h8 z.1)
      clear h8
      refine And.intro (True.intro) ?_
      intro v18 M18 a18 b18 q18
      obtain ⟨q18, z18⟩ := q18
      subst z18
      clear a18 b18
      refine And.intro (fun h21 => ?_) (fun h21 => ?_)
      · skip
        replace q18 := q18.resolve_left (fun z => absurd (z.1.symm.trans h21) (by decide))
        clear h21
        refine And.intro rfl ?_
        exact ⟨Or.inr ⟨by omega, rfl, rfl⟩, hS⟩
      · skip
        replace q18 := q18.resolve_right (fun z => h21 z.1)
        clear h21
        refine And.intro (True.intro) ?_
        intro v31 M31 a31 b31 q31
        obtain ⟨q31, z31⟩ := q31
        subst z31
        clear a31 b31
        refine And.intro (fun h34 => ?_) (fun h34 => ?_)
        · skip
          replace q31 := q31.resolve_left (fun z => absurd (z.1.symm.trans h34) (by decide))
          clear h34
          refine And.intro rfl ?_
          exact ⟨Or.inr ⟨by omega, rfl, rfl⟩, hS⟩
        · skip
          replace q31 := q31.resolve_right (fun z => h34 z.1)
          clear h34
          refine And.intro (True.intro) ?_
          intro v42 M42 a42 b42 q42
          obtain ⟨q42, z42⟩ := q42
          subst z42
          clear a42 b42
          refine And.intro (fun h45 => ?_) (fun h45 => ?_)
          · skip
            replace q42 := q42.resolve_left (fun z => absurd (z.1.symm.trans h45) (by decide))
            clear h45
            refine And.intro rfl ?_
            exact ⟨Or.inr ⟨by omega, rfl, rfl⟩, hS⟩
          · skip
            replace q42 := q42.resolve_right (fun z => h45 z.1)
            clear h45
            refine pz_nrc (c := 60) rfl ?_
            refine And.intro (by omega) (And.intro (show _ < (1725 : Int) from by omega) ?_)
            intro v54 e54 a54 b54
            replace e54 : v54 = M 60 88 := e54
            have I54 : 0 ≤ v54 ∧ v54 ≤ 12 := by
              rw [e54]
              exact hI.1.1
            clear a54 b54
            refine And.intro (fun h57 => ?_) (fun h57 => ?_)
            · skip
              replace h57 : v54 ≤ 11 := by omega
              refine pz_nrc (c := 60) rfl ?_
              refine And.intro (by omega) (And.intro (show _ < (1725 : Int) from by omega) ?_)
              intro v68 e68 a68 b68
              replace e68 : v68 = M 60 88 := e68
              have I68 : 0 ≤ v68 ∧ v68 ≤ 12 := by
                rw [e68]
                exact hI.1.1
              clear a68 b68
              refine pz_nrc (c := 60) rfl ?_
              intro v78 e78 a78 b78
              rw [pz_wi (by omega) (by omega)] at e78
              clear a78 b78
              refine And.intro (by omega) (And.intro (show _ < (1725 : Int) from by omega) ?_)
              intro M80 e80
              have hS : pz_rl pz_Q9 M M80 := by
                rw [e80]
                exact pz_rl_u hS (by unfold pz_Q9; omega) (pz_iom_w1 (by omega) (by omega))
              have hI : pz_im M80 := hS.1 hI0
              have W80 : M80 60 88 = M 60 88 := by
                rw [e80]
                exact (pz_une (by omega))
              have X80 : v78.toNat = 4 + (M 60 88).toNat := by omega
              rw [X80] at e80
              clear X80 e78
              refine pz_nrc (c := 60) rfl ?_
              intro v89 e89 a89 b89
              rw [pz_wi (by omega) (by omega)] at e89
              clear a89 b89
              refine And.intro (by omega) (And.intro (show _ < (1725 : Int) from by omega) ?_)
              intro M91 e91
              have hS : pz_rl pz_Q9 M M91 := by
                rw [e91]
                exact pz_rl_u hS (by unfold pz_Q9; omega) (pz_iom_w1 (by omega) (by omega))
              have hI : pz_im M91 := hS.1 hI0
              have W91 : M91 60 88 = M 60 88 := by
                rw [e91]
                exact (pz_une (by omega)).trans W80
              clear W80
              have X91 : v89.toNat = 16 + (M 60 88).toNat := by omega
              rw [X91] at e91
              clear X91 e89
              refine pz_nrc (c := 60) rfl ?_
              intro v100 e100 a100 b100
              rw [pz_wi (by omega) (by omega)] at e100
              clear a100 b100
              refine And.intro (by omega) (And.intro (show _ < (1725 : Int) from by omega) ?_)
              intro M102 e102
              have hS : pz_rl pz_Q9 M M102 := by
                rw [e102]
                exact pz_rl_u hS (by unfold pz_Q9; omega) (pz_iom_w1 (by omega) (by omega))
              have hI : pz_im M102 := hS.1 hI0
              have W102 : M102 60 88 = M 60 88 := by
                rw [e102]
                exact (pz_une (by omega)).trans W91
              clear W91
              have X102 : v100.toNat = 28 + (M 60 88).toNat := by omega
              rw [X102] at e102
              clear X102 e100
              refine pz_nrc (c := 60) rfl ?_
              intro v111 e111 a111 b111
              rw [pz_wi (by omega) (by omega)] at e111
              clear a111 b111
              refine And.intro (by omega) (And.intro (show _ < (1725 : Int) from by omega) ?_)
              intro M114 e114
              have hS : pz_rl pz_Q9 M M114 := by
                rw [e114]
                exact pz_rl_u hS (by unfold pz_Q9; omega) (pz_iom_w2 (by omega) (by omega))
              have hI : pz_im M114 := hS.1 hI0
              have W114 : M114 60 88 = M 60 88 := by
                rw [e114]
                exact (pz_une (by omega)).trans W102
              clear W102
              have X114 : v111.toNat = 93 + (M 60 88).toNat := by omega
              rw [X114] at e114
              clear X114 e111
              refine pz_nrc (c := 60) rfl ?_
              intro v123 e123 a123 b123
              rw [pz_wi (by omega) (by omega)] at e123
              clear a123 b123
              refine And.intro (by omega) (And.intro (show _ < (1725 : Int) from by omega) ?_)
              intro M125 e125
              have hS : pz_rl pz_Q9 M M125 := by
                rw [e125]
                exact pz_rl_u hS (by unfold pz_Q9; omega) (pz_iom_w1 (by omega) (by omega))
              have hI : pz_im M125 := hS.1 hI0
              have W125 : M125 60 88 = M 60 88 := by
                rw [e125]
                exact (pz_une (by omega)).trans W114
              clear W114
              have X125 : v123.toNat = 40 + (M 60 88).toNat := by omega
              rw [X125] at e125
              clear X125 e123
              refine pz_nrc (c := 60) rfl ?_
              intro v134 e134 a134 b134
              rw [pz_wi (by omega) (by omega)] at e134
              clear a134 b134
              refine And.intro (by omega) (And.intro (show _ < (1725 : Int) from by omega) ?_)
              intro M136 e136
              have hS : pz_rl pz_Q9 M M136 := by
                rw [e136]
                exact pz_rl_u hS (by unfold pz_Q9; omega) (pz_iom_w1 (by omega) (by omega))
              have hI : pz_im M136 := hS.1 hI0
              have W136 : M136 60 88 = M 60 88 := by
                rw [e136]
                exact (pz_une (by omega)).trans W125
              clear W125
              have X136 : v134.toNat = 52 + (M 60 88).toNat := by omega
              rw [X136] at e136
              clear X136 e134
              refine pz_nrc (c := 60) rfl ?_
              intro v145 e145 a145 b145
              rw [pz_wi (by omega) (by omega)] at e145
              clear a145 b145
              refine And.intro (by omega) (And.intro (show _ < (1725 : Int) from by omega) ?_)
              intro M147 e147
              have hS : pz_rl pz_Q9 M M147 := by
                rw [e147]
                exact pz_rl_u hS (by unfold pz_Q9; omega) (pz_iom_w1 (by omega) (by omega))
              have hI : pz_im M147 := hS.1 hI0
              have W147 : M147 60 88 = M 60 88 := by
                rw [e147]
                exact (pz_une (by omega)).trans W136
              clear W136
              have X147 : v145.toNat = 64 + (M 60 88).toNat := by omega
              rw [X147] at e147
              clear X147 e145
              refine pz_nrc (c := 60) rfl ?_
              intro v156 e156 a156 b156
              rw [pz_wi (by omega) (by omega)] at e156
              clear a156 b156
              refine And.intro (by omega) (And.intro (show _ < (1725 : Int) from by omega) ?_)
              intro M158 e158
              have hS : pz_rl pz_Q9 M M158 := by
                rw [e158]
                exact pz_rl_u hS (by unfold pz_Q9; omega) (pz_iom_w1 (by omega) (by omega))
              have hI : pz_im M158 := hS.1 hI0
              have W158 : M158 60 88 = M 60 88 := by
                rw [e158]
                exact (pz_une (by omega)).trans W147
              clear W147
              have X158 : v156.toNat = 76 + (M 60 88).toNat := by omega
              rw [X158] at e158
              clear X158 e156
              refine pz_nrc (c := 60) rfl ?_
              intro v168 e168 a168 b168
              rw [pz_wi (by omega) (by omega)] at e168
              clear a168 b168
              intro v169 e169 a169 b169
              rw [pz_wi (by omega) (by omega)] at e169
              clear a169 b169
              refine And.intro (by omega) (And.intro (show _ < (1725 : Int) from by omega) ?_)
              intro M171 e171
              have hS : pz_rl pz_Q9 M M171 := by
                rw [e171]
                exact pz_rl_u hS (by unfold pz_Q9; omega) (pz_iom_w2 (by omega) (by omega))
              have hI : pz_im M171 := hS.1 hI0
              have W171 : M171 60 88 = M 60 88 := by
                rw [e171]
                exact (pz_une (by omega)).trans W158
              clear W158
              have X171 : v169.toNat = 105 + 2 * (M 60 88).toNat := by omega
              rw [X171] at e171
              clear X171 e169
              refine pz_nrc (c := 60) rfl ?_
              intro v181 e181 a181 b181
              rw [pz_wi (by omega) (by omega)] at e181
              clear a181 b181
              intro v182 e182 a182 b182
              rw [pz_wi (by omega) (by omega)] at e182
              clear a182 b182
              intro v184 e184 a184 b184
              rw [pz_wi (by omega) (by omega)] at e184
              clear a184 b184
              refine And.intro (by omega) (And.intro (show _ < (1725 : Int) from by omega) ?_)
              intro M188 e188
              have hS : pz_rl pz_Q9 M M188 := by
                rw [e188]
                exact pz_rl_u hS (by unfold pz_Q9; omega) (pz_iom_w2 (by omega) (by omega))
              have hI : pz_im M188 := hS.1 hI0
              have W188 : M188 60 88 = M 60 88 := by
                rw [e188]
                exact (pz_une (by omega)).trans W171
              clear W171
              have X188 : v184.toNat = 106 + 2 * (M 60 88).toNat := by omega
              rw [X188] at e188
              clear X188 e184
              refine pz_nrc (c := 60) rfl ?_
              refine And.intro (by omega) (And.intro (show _ < (1725 : Int) from by omega) ?_)
              intro v196 e196 a196 b196
              replace e196 : v196 = M188 60 88 := e196
              have I196 : 0 ≤ v196 ∧ v196 ≤ 12 := by
                rw [e196]
                exact hI.1.1
              clear a196 b196
              intro v198 e198 a198 b198
              rw [pz_wi (by omega) (by omega)] at e198
              clear a198 b198
              refine And.intro (by omega) (And.intro (show _ < (1725 : Int) from by omega) ?_)
              intro M199 e199
              have hS : pz_rl pz_Q9 M M199 := by
                rw [e199]
                exact pz_rl_u hS (by unfold pz_Q9; omega) (pz_iom_88 (by omega))
              have hI : pz_im M199 := hS.1 hI0
              refine And.intro (hI) ?_
              intro M201 q201
              obtain ⟨q201, z201⟩ := q201
              have hS : pz_rl pz_Q9 M M201 := hS.tr (pz_rlQ9_fg q201 z201)
              have T201a := z201.2
              have T201b := z201.1.2
              have hI : pz_im M201 := hS.1 hI0
              refine And.intro rfl ?_
              have K9 : M201 = pz_lkm p q w s M := by
                rw [q201, e199, e198, e196, W188, e188, e171, e158, e147, e136, e125, e114, e102, e91, e80]
                rfl
              exact ⟨Or.inl ⟨by omega, by omega, K9⟩, hS⟩
            · skip
              refine And.intro rfl ?_
              exact ⟨Or.inr ⟨by omega, rfl, rfl⟩, hS⟩
theorem v_X12_link {fr lo i : Nat} {own : String} (h1 : 1 + 1 ≤ fr) (h2 : 8 + (6 + 11) + 22 ≤ lo) (h3 : .methodLink own i yX12_link ∈ lw_tbl) : pz_cV fr lo own i k_X12_link :=
  pz_cVk (maxL := 6) (fr' := 1) (lo' := 22) 4 12 h_X12_link rfl ⟨by decide +kernel, by decide +kernel, by decide +kernel⟩ ⟨(pz_mt 1216 (by decide +kernel)), (pz_mt 1214 (by decide +kernel)), (pz_mt 1215 (by decide +kernel)), (pz_mt 13 (by decide +kernel))⟩ (Or.inl ⟨TX12, 28, rfl⟩) (fun a M _ h => by
    have h : (match (generalizing := false) a with | [.inr (.inr (12, th)), .inl p, .inl q, .inl w, .inl s] => pz_im M | _ => False) := h
    split at h
    · exact ⟨_, _, rfl⟩
    · exact h.elim) h1 h2 h3
