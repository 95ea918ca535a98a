section
noncomputable def k_X12_link : pz_C := (5, 1, fun a M => (match a with | [.inr (.inr (12, th)), .inl p, .inl q, .inl w, .inl s] => pz_im M | _ => False), fun a M r M' => (match a, r with | [.inr (.inr (12, th)), .inl p, .inl q, .inl w, .inl s], some (.inl v) => (((M 60 88 < 12 ∧ (1 ≤ p ∧ p ≤ 999) ∧ (-9999 ≤ q ∧ q ≤ 9999) ∧ (-999 ≤ w ∧ w ≤ 999) ∧ 0 ≤ s ∧ s ≤ 9) ∧ v = M 60 88 ∧ M' = pz_lkm p q w s M) ∨ (¬ (M 60 88 < 12 ∧ (1 ≤ p ∧ p ≤ 999) ∧ (-9999 ≤ q ∧ q ≤ 9999) ∧ (-999 ≤ w ∧ w ≤ 999) ∧ 0 ≤ s ∧ s ≤ 9) ∧ v = -1 ∧ M' = M)) ∧ pz_rl pz_Q9 M M' | _, _ => False))
noncomputable abbrev ct_X12_link : List (Bool × Nat × pz_C) := [(false, 54, k_X12_isIn), (true, 71, k_X12_forgets)]
set_option maxRecDepth 100000 in
set_option maxHeartbeats 4000000 in
theorem h_X12_link : pz_H yX12_link cX12_link 6 (some .int) k_X12_link 1 22 := by
  refine pz_mk (own := RX12) (tb := t_X12_link) (fl := pz_flf fl_RX12) (ci := pz_cif ci_RX12) (ct := pz_ctf ct_X12_link) (rz := false) (pz_pfc_RX12 yX12_link rfl) rfl t_X12_link_ok (pz_flk fl_RX12_ok) (pz_cik ci_RX12_ok) ?_ ?_ (Or.inl ⟨rfl, rfl⟩) ?_ ?_
  · exact fun i k' h => pz_ctk (l := ct_X12_link) (P := fun b i k => b = true → pz_cV 1 22 RX12 i k) (List.forall_mem_cons.mpr ⟨((fun z => by cases z)), List.forall_mem_cons.mpr ⟨(fun _ => v_X12_forgets (by decide) (by decide) pz_wq1209), fun _ h => absurd h List.not_mem_nil⟩⟩) true i k' h rfl
  · exact fun i k' h => pz_ctk (l := ct_X12_link) (P := fun b i k => b = false → (pz_cS 1 22 RX12 i k ∨ (k = pz_kac ∧ 1 ≤ 1 ∧ 60 ≤ 22 ∧ Cond.methodLink RX12 i arraycopyName ∈ pz_tbl))) (List.forall_mem_cons.mpr ⟨(fun _ => Or.inl (s_X12_isIn (by decide) (by decide) (Or.inl pz_wq1217))), List.forall_mem_cons.mpr ⟨((fun z => by cases z)), fun _ h => absurd h List.not_mem_nil⟩⟩) false i k' h rfl
  · intro a M hlen hpre
    obtain ⟨th, p, q, w, s, rfl, hpre⟩ : ∃ th p q w s, a = [.inr (.inr (12, th)), .inl p, .inl q, .inl w, .inl s] ∧ (pz_im M) := by
      have hpre : (match (generalizing := false) a with | [.inr (.inr (12, th)), .inl p, .inl q, .inl w, .inl s] => pz_im M | _ => False) := hpre
      split at hpre
      · exact ⟨_, _, _, _, _, rfl, hpre⟩
      · exact hpre.elim
    exact Nat.le_of_ble_eq_true rfl
  · intro a M hlen hcan hM hpre Ok hgo
    obtain ⟨th, p, q, w, s, rfl, hpre⟩ : ∃ th p q w s, a = [.inr (.inr (12, th)), .inl p, .inl q, .inl w, .inl s] ∧ (pz_im M) := by
      have hpre : (match (generalizing := false) a with | [.inr (.inr (12, th)), .inl p, .inl q, .inl w, .inl s] => pz_im M | _ => False) := hpre
      split at hpre
      · exact ⟨_, _, _, _, _, rfl, hpre⟩
      · exact hpre.elim
    obtain ⟨k_th, hc_th⟩ := pz_tlm hcan
    have k_th : pz_kd th = 12 ∧ th < 231 := k_th
    have R_th := pz_kd12 k_th.1
    subst R_th
    clear k_th
    obtain ⟨k_p, hc_p⟩ := pz_tlm hc_th
    have l_p : -2147483648 ≤ p := k_p.1
    have u_p : p ≤ 2147483647 := k_p.2
    obtain ⟨k_q, hc_q⟩ := pz_tlm hc_p
    have l_q : -2147483648 ≤ q := k_q.1
    have u_q : q ≤ 2147483647 := k_q.2
    obtain ⟨k_w, hc_w⟩ := pz_tlm hc_q
    have l_w : -2147483648 ≤ w := k_w.1
    have u_w : w ≤ 2147483647 := k_w.2
    obtain ⟨k_s, hc_s⟩ := pz_tlm hc_w
    have l_s : -2147483648 ≤ s := k_s.1
    have u_s : s ≤ 2147483647 := k_s.2
    have hI : pz_im M := hpre
    have hI0 := hI
    have hS : pz_rl pz_Q9 M M := pz_rl.rf
    refine hgo (fun _ => false) 123 0 _ [] M ?_
    refine And.intro (True.intro) ?_
    intro v5 M5 a5 b5 q5
    obtain ⟨q5, z5⟩ := q5
    subst z5
    clear a5 b5
    refine And.intro (fun h8 => ?_) (fun h8 => ?_)
    · skip
      replace q5 := q5.resolve_left (fun z => absurd (z.1.symm.trans h8) (by decide))
      clear h8
      refine And.intro rfl ?_
      exact ⟨Or.inr ⟨by omega, rfl, rfl⟩, hS⟩
    · skip
      replace q5 := q5.resolve_right (fun z => h8 z.1)
      clear h8
      refine And.intro (True.intro) ?_
      intro v18 M18 a18 b18 q18
      obtain ⟨q18, z18⟩ := q18
      subst z18
      clear a18 b18
      refine And.intro (fun h21 => ?_) (fun h21 => ?_)
      · skip
        replace q18 := q18.resolve_left (fun z => absurd (z.1.symm.trans h21) (by decide))
        clear h21
        refine And.intro rfl ?_
        exact ⟨Or.inr ⟨by omega, rfl, rfl⟩, hS⟩
      · skip
        replace q18 := q18.resolve_right (fun z => h21 z.1)
        clear h21
        refine And.intro (True.intro) ?_
        intro v31 M31 a31 b31 q31
        obtain ⟨q31, z31⟩ := q31
        subst z31
        clear a31 b31
        refine And.intro (fun h34 => ?_) (fun h34 => ?_)
        · skip
          replace q31 := q31.resolve_left (fun z => absurd (z.1.symm.trans h34) (by decide))
          clear h34
          refine And.intro rfl ?_
          exact ⟨Or.inr ⟨by omega, rfl, rfl⟩, hS⟩
        · skip
          replace q31 := q31.resolve_right (fun z => h34 z.1)
          clear h34
          refine And.intro (True.intro) ?_
          intro v42 M42 a42 b42 q42
          obtain ⟨q42, z42⟩ := q42
          subst z42
          clear a42 b42
          refine And.intro (fun h45 => ?_) (fun h45 => ?_)
          · skip
            replace q42 := q42.resolve_left (fun z => absurd (z.1.symm.trans h45) (by decide))
            clear h45
            refine And.intro rfl ?_
            exact ⟨Or.inr ⟨by omega, rfl, rfl⟩, hS⟩
          · skip
            replace q42 := q42.resolve_right (fun z => h45 z.1)
            clear h45
            refine pz_nrc (c := 60) rfl ?_
            refine And.intro (by first | decide | omega) (And.intro (show _ < (1725 : Int) from by omega) ?_)
            intro v54 e54 a54 b54
            replace e54 : v54 = M 60 88 := e54
            have I54 : 0 ≤ v54 ∧ v54 ≤ 12 := by
              rw [e54]
              exact hI.1.1
            clear a54 b54
            refine And.intro (fun h57 => ?_) (fun h57 => ?_)
            · skip
              replace h57 : v54 ≤ 11 := by omega
              refine pz_nrc (c := 60) rfl ?_
              refine And.intro (by first | decide | omega) (And.intro (show _ < (1725 : Int) from by omega) ?_)
              intro v68 e68 a68 b68
              replace e68 : v68 = M 60 88 := e68
              have I68 : 0 ≤ v68 ∧ v68 ≤ 12 := by
                rw [e68]
                exact hI.1.1
              clear a68 b68
              refine pz_nrc (c := 60) rfl ?_
              intro v78 e78 a78 b78
              rw [pz_wi (by first | decide | omega) (by first | decide | omega)] at e78
              clear a78 b78
              have lo80 : (0 : Int) ≤ v78 := by omega
              have tn80 : (((v78).toNat : Nat) : Int) = v78 := Int.toNat_of_nonneg lo80
              refine And.intro (lo80) (And.intro (show _ < (1725 : Int) from by omega) ?_)
              intro M80 e80
              have hS : pz_rl pz_Q9 M M80 := by
                rw [e80]
                exact pz_rl_u hS (by unfold pz_Q9; first | decide | omega) (pz_iom_w1 (by first | decide | omega) (by first | decide | omega))
              have hI : pz_im M80 := hS.1 hI0
              have W80 : M80 60 88 = M 60 88 := by
                rw [e80]
                exact (pz_une (by first | decide | omega))
              have X80 : v78.toNat = 4 + (M 60 88).toNat := by omega
              rw [X80] at e80
              clear X80 e78
              refine pz_nrc (c := 60) rfl ?_
              intro v89 e89 a89 b89
              rw [pz_wi (by first | decide | omega) (by first | decide | omega)] at e89
              clear a89 b89
              have lo91 : (0 : Int) ≤ v89 := by omega
              have tn91 : (((v89).toNat : Nat) : Int) = v89 := Int.toNat_of_nonneg lo91
              refine And.intro (lo91) (And.intro (show _ < (1725 : Int) from by omega) ?_)
              intro M91 e91
              have hS : pz_rl pz_Q9 M M91 := by
                rw [e91]
                exact pz_rl_u hS (by unfold pz_Q9; first | decide | omega) (pz_iom_w1 (by first | decide | omega) (by first | decide | omega))
              have hI : pz_im M91 := hS.1 hI0
              have W91 : M91 60 88 = M 60 88 := by
                rw [e91]
                exact (pz_une (by first | decide | omega)).trans W80
              clear W80
              have X91 : v89.toNat = 16 + (M 60 88).toNat := by omega
              rw [X91] at e91
              clear X91 e89
              refine pz_nrc (c := 60) rfl ?_
              intro v100 e100 a100 b100
              rw [pz_wi (by first | decide | omega) (by first | decide | omega)] at e100
              clear a100 b100
              have lo102 : (0 : Int) ≤ v100 := by omega
              have tn102 : (((v100).toNat : Nat) : Int) = v100 := Int.toNat_of_nonneg lo102
              refine And.intro (lo102) (And.intro (show _ < (1725 : Int) from by omega) ?_)
              intro M102 e102
              have hS : pz_rl pz_Q9 M M102 := by
                rw [e102]
                exact pz_rl_u hS (by unfold pz_Q9; first | decide | omega) (pz_iom_w1 (by first | decide | omega) (by first | decide | omega))
              have hI : pz_im M102 := hS.1 hI0
              have W102 : M102 60 88 = M 60 88 := by
                rw [e102]
                exact (pz_une (by first | decide | omega)).trans W91
              clear W91
              have X102 : v100.toNat = 28 + (M 60 88).toNat := by omega
              rw [X102] at e102
              clear X102 e100
              refine pz_nrc (c := 60) rfl ?_
              intro v111 e111 a111 b111
              rw [pz_wi (by first | decide | omega) (by first | decide | omega)] at e111
              clear a111 b111
              have lo114 : (0 : Int) ≤ v111 := by omega
              have tn114 : (((v111).toNat : Nat) : Int) = v111 := Int.toNat_of_nonneg lo114
              refine And.intro (lo114) (And.intro (show _ < (1725 : Int) from by omega) ?_)
              intro M114 e114
              have hS : pz_rl pz_Q9 M M114 := by
                rw [e114]
                exact pz_rl_u hS (by unfold pz_Q9; first | decide | omega) (pz_iom_w2 (by first | decide | omega) (by first | decide | omega))
              have hI : pz_im M114 := hS.1 hI0
              have W114 : M114 60 88 = M 60 88 := by
                rw [e114]
                exact (pz_une (by first | decide | omega)).trans W102
              clear W102
              have X114 : v111.toNat = 93 + (M 60 88).toNat := by omega
              rw [X114] at e114
              clear X114 e111
              refine pz_nrc (c := 60) rfl ?_
              intro v123 e123 a123 b123
              rw [pz_wi (by first | decide | omega) (by first | decide | omega)] at e123
              clear a123 b123
              have lo125 : (0 : Int) ≤ v123 := by omega
              have tn125 : (((v123).toNat : Nat) : Int) = v123 := Int.toNat_of_nonneg lo125
              refine And.intro (lo125) (And.intro (show _ < (1725 : Int) from by omega) ?_)
              intro M125 e125
              have hS : pz_rl pz_Q9 M M125 := by
                rw [e125]
                exact pz_rl_u hS (by unfold pz_Q9; first | decide | omega) (pz_iom_w1 (by first | decide | omega) (by first | decide | omega))
              have hI : pz_im M125 := hS.1 hI0
              have W125 : M125 60 88 = M 60 88 := by
                rw [e125]
                exact (pz_une (by first | decide | omega)).trans W114
              clear W114
              have X125 : v123.toNat = 40 + (M 60 88).toNat := by omega
              rw [X125] at e125
              clear X125 e123
              refine pz_nrc (c := 60) rfl ?_
              intro v134 e134 a134 b134
              rw [pz_wi (by first | decide | omega) (by first | decide | omega)] at e134
              clear a134 b134
              have lo136 : (0 : Int) ≤ v134 := by omega
              have tn136 : (((v134).toNat : Nat) : Int) = v134 := Int.toNat_of_nonneg lo136
              refine And.intro (lo136) (And.intro (show _ < (1725 : Int) from by omega) ?_)
              intro M136 e136
              have hS : pz_rl pz_Q9 M M136 := by
                rw [e136]
                exact pz_rl_u hS (by unfold pz_Q9; first | decide | omega) (pz_iom_w1 (by first | decide | omega) (by first | decide | omega))
              have hI : pz_im M136 := hS.1 hI0
              have W136 : M136 60 88 = M 60 88 := by
                rw [e136]
                exact (pz_une (by first | decide | omega)).trans W125
              clear W125
              have X136 : v134.toNat = 52 + (M 60 88).toNat := by omega
              rw [X136] at e136
              clear X136 e134
              refine pz_nrc (c := 60) rfl ?_
              intro v145 e145 a145 b145
              rw [pz_wi (by first | decide | omega) (by first | decide | omega)] at e145
              clear a145 b145
              have lo147 : (0 : Int) ≤ v145 := by omega
              have tn147 : (((v145).toNat : Nat) : Int) = v145 := Int.toNat_of_nonneg lo147
              refine And.intro (lo147) (And.intro (show _ < (1725 : Int) from by omega) ?_)
              intro M147 e147
              have hS : pz_rl pz_Q9 M M147 := by
                rw [e147]
                exact pz_rl_u hS (by unfold pz_Q9; first | decide | omega) (pz_iom_w1 (by first | decide | omega) (by first | decide | omega))
              have hI : pz_im M147 := hS.1 hI0
              have W147 : M147 60 88 = M 60 88 := by
                rw [e147]
                exact (pz_une (by first | decide | omega)).trans W136
              clear W136
              have X147 : v145.toNat = 64 + (M 60 88).toNat := by omega
              rw [X147] at e147
              clear X147 e145
              refine pz_nrc (c := 60) rfl ?_
              intro v156 e156 a156 b156
              rw [pz_wi (by first | decide | omega) (by first | decide | omega)] at e156
              clear a156 b156
              have lo158 : (0 : Int) ≤ v156 := by omega
              have tn158 : (((v156).toNat : Nat) : Int) = v156 := Int.toNat_of_nonneg lo158
              refine And.intro (lo158) (And.intro (show _ < (1725 : Int) from by omega) ?_)
              intro M158 e158
              have hS : pz_rl pz_Q9 M M158 := by
                rw [e158]
                exact pz_rl_u hS (by unfold pz_Q9; first | decide | omega) (pz_iom_w1 (by first | decide | omega) (by first | decide | omega))
              have hI : pz_im M158 := hS.1 hI0
              have W158 : M158 60 88 = M 60 88 := by
                rw [e158]
                exact (pz_une (by first | decide | omega)).trans W147
              clear W147
              have X158 : v156.toNat = 76 + (M 60 88).toNat := by omega
              rw [X158] at e158
              clear X158 e156
              refine pz_nrc (c := 60) rfl ?_
              intro v168 e168 a168 b168
              rw [pz_wi (by first | decide | omega) (by first | decide | omega)] at e168
              clear a168 b168
              intro v169 e169 a169 b169
              rw [pz_wi (by first | decide | omega) (by first | decide | omega)] at e169
              clear a169 b169
              have lo171 : (0 : Int) ≤ v169 := by omega
              have tn171 : (((v169).toNat : Nat) : Int) = v169 := Int.toNat_of_nonneg lo171
              refine And.intro (lo171) (And.intro (show _ < (1725 : Int) from by omega) ?_)
              intro M171 e171
              have hS : pz_rl pz_Q9 M M171 := by
                rw [e171]
                exact pz_rl_u hS (by unfold pz_Q9; first | decide | omega) (pz_iom_w2 (by first | decide | omega) (by first | decide | omega))
              have hI : pz_im M171 := hS.1 hI0
              have W171 : M171 60 88 = M 60 88 := by
                rw [e171]
                exact (pz_une (by first | decide | omega)).trans W158
              clear W158
              have X171 : v169.toNat = 105 + 2 * (M 60 88).toNat := by omega
              rw [X171] at e171
              clear X171 e169
              refine pz_nrc (c := 60) rfl ?_
              intro v181 e181 a181 b181
              rw [pz_wi (by first | decide | omega) (by first | decide | omega)] at e181
              clear a181 b181
              intro v182 e182 a182 b182
              rw [pz_wi (by first | decide | omega) (by first | decide | omega)] at e182
              clear a182 b182
              intro v184 e184 a184 b184
              rw [pz_wi (by first | decide | omega) (by first | decide | omega)] at e184
              clear a184 b184
              have lo188 : (0 : Int) ≤ v184 := by omega
              have tn188 : (((v184).toNat : Nat) : Int) = v184 := Int.toNat_of_nonneg lo188
              refine And.intro (lo188) (And.intro (show _ < (1725 : Int) from by omega) ?_)
              intro M188 e188
              have hS : pz_rl pz_Q9 M M188 := by
                rw [e188]
                exact pz_rl_u hS (by unfold pz_Q9; first | decide | omega) (pz_iom_w2 (by first | decide | omega) (by first | decide | omega))
              have hI : pz_im M188 := hS.1 hI0
              have W188 : M188 60 88 = M 60 88 := by
                rw [e188]
                exact (pz_une (by first | decide | omega)).trans W171
              clear W171
              have X188 : v184.toNat = 106 + 2 * (M 60 88).toNat := by omega
              rw [X188] at e188
              clear X188 e184
              refine pz_nrc (c := 60) rfl ?_
              refine And.intro (by first | decide | omega) (And.intro (show _ < (1725 : Int) from by omega) ?_)
              intro v196 e196 a196 b196
              replace e196 : v196 = M188 60 88 := e196
              have I196 : 0 ≤ v196 ∧ v196 ≤ 12 := by
                rw [e196]
                exact hI.1.1
              clear a196 b196
              intro v198 e198 a198 b198
              rw [pz_wi (by first | decide | omega) (by first | decide | omega)] at e198
              clear a198 b198
              refine And.intro (by first | decide | omega) (And.intro (show _ < (1725 : Int) from by omega) ?_)
              intro M199 e199
              have hS : pz_rl pz_Q9 M M199 := by
                rw [e199]
                exact pz_rl_u hS (by unfold pz_Q9; first | decide | omega) (pz_iom_88 (by first | decide | omega))
              have hI : pz_im M199 := hS.1 hI0
              refine And.intro (hI) ?_
              intro M201 q201
              obtain ⟨q201, z201⟩ := q201
              have hS : pz_rl pz_Q9 M M201 := hS.tr (pz_rlQ9_fg q201 z201)
              have T201a := z201.2
              have T201b := z201.1.2
              have hI : pz_im M201 := hS.1 hI0
              refine And.intro rfl ?_
              have K9 : M201 = pz_lkm p q w s M := by
                rw [q201, e199, e198, e196, W188, e188, e171, e158, e147, e136, e125, e114, e102, e91, e80]
                rfl
              exact ⟨Or.inl ⟨by omega, by omega, K9⟩, hS⟩
            · skip
              refine And.intro rfl ?_
              exact ⟨Or.inr ⟨by omega, rfl, rfl⟩, hS⟩
theorem v_X12_link {fr lo i : Nat} {own : String} (h1 : 1 + 1 ≤ fr) (h2 : 8 + (6 + 11) + 22 ≤ lo) (h3 : .methodLink own i yX12_link ∈ lw_tbl) : pz_cV fr lo own i k_X12_link :=
  pz_cVk (maxL := 6) (fr' := 1) (lo' := 22) 4 12 h_X12_link rfl ⟨(pz_nhc_RX12 yX12_link rfl).1, (pz_nhc_RX12 yX12_link rfl).2, pz_ds18⟩ ⟨pz_wq1216, pz_wq1214, pz_wq1215, pz_wq13⟩ (Or.inl ⟨TX12, 28, rfl⟩) (fun a M _ h => by
    have h : (match (generalizing := false) a with | [.inr (.inr (12, th)), .inl p, .inl q, .inl w, .inl s] => pz_im M | _ => False) := h
    split at h
    · exact ⟨_, _, rfl⟩
    · exact h.elim) h1 h2 h3
end
section
noncomputable def k_X12_canBe : pz_C := (2, 1, fun a M => (match a with | [.inl x, .inl y] => True | _ => False), fun a M r M' => (match a, r with | [.inl x, .inl y], some (.inl v) => ((v = 1 ∧ ((x = 0 ∧ 1 ≤ y ∧ y ≤ 999) ∨ (x = 1 ∧ -9999 ≤ y ∧ y ≤ 9999) ∨ (x = 2 ∧ -999 ≤ y ∧ y ≤ 999) ∨ (x = 3 ∧ 0 ≤ y ∧ y ≤ 9) ∨ (x = 4 ∧ 0 ≤ y ∧ y ≤ 1))) ∨ (v = 0 ∧ ¬ ((x = 0 ∧ 1 ≤ y ∧ y ≤ 999) ∨ (x = 1 ∧ -9999 ≤ y ∧ y ≤ 9999) ∨ (x = 2 ∧ -999 ≤ y ∧ y ≤ 999) ∨ (x = 3 ∧ 0 ≤ y ∧ y ≤ 9) ∨ (x = 4 ∧ 0 ≤ y ∧ y ≤ 1)))) ∧ M = M' | _, _ => False))
noncomputable abbrev ct_X12_canBe : List (Bool × Nat × pz_C) := [(false, 54, k_X12_isIn)]
set_option maxRecDepth 100000 in
set_option maxHeartbeats 4000000 in
theorem h_X12_canBe : pz_H yX12_canBe cX12_canBe 2 (some .boolean) k_X12_canBe 1 22 := by
  refine pz_mk (own := RX12) (tb := t_X12_canBe) (fl := pz_flf fl_RX12) (ci := pz_cif ci_RX12) (ct := pz_ctf ct_X12_canBe) (rz := true) (pz_pfc_RX12 yX12_canBe rfl) rfl t_X12_canBe_ok (pz_flk fl_RX12_ok) (pz_cik ci_RX12_ok) ?_ ?_ (Or.inr ⟨rfl, rfl⟩) ?_ ?_
  · exact fun i k' h => pz_ctk (l := ct_X12_canBe) (P := fun b i k => b = true → pz_cV 1 22 RX12 i k) (List.forall_mem_cons.mpr ⟨((fun z => by cases z)), fun _ h => absurd h List.not_mem_nil⟩) true i k' h rfl
  · exact fun i k' h => pz_ctk (l := ct_X12_canBe) (P := fun b i k => b = false → (pz_cS 1 22 RX12 i k ∨ (k = pz_kac ∧ 1 ≤ 1 ∧ 60 ≤ 22 ∧ Cond.methodLink RX12 i arraycopyName ∈ pz_tbl))) (List.forall_mem_cons.mpr ⟨(fun _ => Or.inl (s_X12_isIn (by decide) (by decide) (Or.inl pz_wq1217))), fun _ h => absurd h List.not_mem_nil⟩) false i k' h rfl
  · intro a M hlen hpre
    obtain ⟨x, y, rfl, hpre⟩ : ∃ x y, a = [.inl x, .inl y] ∧ (True) := by
      have hpre : (match (generalizing := false) a with | [.inl x, .inl y] => True | _ => False) := hpre
      split at hpre
      · exact ⟨_, _, rfl, hpre⟩
      · exact hpre.elim
    exact Nat.le_of_ble_eq_true rfl
  · intro a M hlen hcan hM hpre Ok hgo
    obtain ⟨x, y, rfl, hpre⟩ : ∃ x y, a = [.inl x, .inl y] ∧ (True) := by
      have hpre : (match (generalizing := false) a with | [.inl x, .inl y] => True | _ => False) := hpre
      split at hpre
      · exact ⟨_, _, rfl, hpre⟩
      · exact hpre.elim
    obtain ⟨k_x, hc_x⟩ := pz_tlm hcan
    have l_x : -2147483648 ≤ x := k_x.1
    have u_x : x ≤ 2147483647 := k_x.2
    obtain ⟨k_y, hc_y⟩ := pz_tlm hc_x
    have l_y : -2147483648 ≤ y := k_y.1
    have u_y : y ≤ 2147483647 := k_y.2
    refine hgo (fun _ => false) 31 0 _ [] M ?_
    refine And.intro ?_ ?_
    · skip
      refine And.intro (fun h1 => ?_) ?_
      · skip
        refine And.intro (True.intro) ?_
        intro v41 M41 a41 b41 q41
        obtain ⟨q41, z41⟩ := q41
        subst z41
        clear a41 b41
        refine And.intro (by first | decide | omega) ?_
        refine And.intro rfl ?_
        exact ⟨by omega, rfl⟩
      refine And.intro (fun h1 => ?_) ?_
      · skip
        refine And.intro (True.intro) ?_
        intro v52 M52 a52 b52 q52
        obtain ⟨q52, z52⟩ := q52
        subst z52
        clear a52 b52
        refine And.intro (by first | decide | omega) ?_
        refine And.intro rfl ?_
        exact ⟨by omega, rfl⟩
      refine And.intro (fun h1 => ?_) ?_
      · skip
        refine And.intro (True.intro) ?_
        intro v63 M63 a63 b63 q63
        obtain ⟨q63, z63⟩ := q63
        subst z63
        clear a63 b63
        refine And.intro (by first | decide | omega) ?_
        refine And.intro rfl ?_
        exact ⟨by omega, rfl⟩
      refine And.intro (fun h1 => ?_) ?_
      · skip
        refine And.intro (True.intro) ?_
        intro v71 M71 a71 b71 q71
        obtain ⟨q71, z71⟩ := q71
        subst z71
        clear a71 b71
        refine And.intro (by first | decide | omega) ?_
        refine And.intro rfl ?_
        exact ⟨by omega, rfl⟩
      refine And.intro (fun h1 => ?_) ?_
      · skip
        refine And.intro (True.intro) ?_
        intro v78 M78 a78 b78 q78
        obtain ⟨q78, z78⟩ := q78
        subst z78
        clear a78 b78
        refine And.intro (by first | decide | omega) ?_
        refine And.intro rfl ?_
        exact ⟨by omega, rfl⟩
      exact True.intro
    · intro h1
      refine And.intro (by first | decide | omega) ?_
      refine And.intro rfl ?_
      exact ⟨by omega, rfl⟩
theorem s_X12_canBe {fr lo i : Nat} {own : String} (h1 : 1 + 1 ≤ fr) (h2 : 8 + (2 + 11) + 22 ≤ lo) (h3 : .methodLink own i yX12_canBe ∈ lw_tbl ∨ (own = RX1 ∧ i = 35 ∧ yX12_canBe = yX11_within)) : pz_cS fr lo own i k_X12_canBe := pz_cSk (maxL := 2) (fr' := 1) (lo' := 22) 2 h_X12_canBe rfl ⟨(pz_nhc_RX12 yX12_canBe rfl).1, (pz_nhc_RX12 yX12_canBe rfl).2, pz_ds13⟩ ⟨pz_wq1230, pz_wq1229, pz_wq13⟩ h1 h2 h3
noncomputable def k_X12_set : pz_C := (4, 1, fun a M => (match a with | [.inr (.inr (12, th)), .inl p, .inl i, .inl n] => pz_im M | _ => False), fun a M r M' => (match a, r with | [.inr (.inr (12, th)), .inl p, .inl i, .inl n], some (.inl v) => ((((0 ≤ i ∧ i < M 60 88) ∧ ((p = 0 ∧ 1 ≤ n ∧ n ≤ 999) ∨ (p = 1 ∧ -9999 ≤ n ∧ n ≤ 9999) ∨ (p = 2 ∧ -999 ≤ n ∧ n ≤ 999) ∨ (p = 3 ∧ 0 ≤ n ∧ n ≤ 9) ∨ (p = 4 ∧ 0 ≤ n ∧ n ≤ 1))) ∧ v = 1 ∧ M' = pz_u (pz_u M 60 (pz_bs p + i).toNat n) 1 4 0) ∨ (¬ ((0 ≤ i ∧ i < M 60 88) ∧ ((p = 0 ∧ 1 ≤ n ∧ n ≤ 999) ∨ (p = 1 ∧ -9999 ≤ n ∧ n ≤ 9999) ∨ (p = 2 ∧ -999 ≤ n ∧ n ≤ 999) ∨ (p = 3 ∧ 0 ≤ n ∧ n ≤ 9) ∨ (p = 4 ∧ 0 ≤ n ∧ n ≤ 1))) ∧ v = 0 ∧ M' = M)) ∧ pz_rl pz_Q9 M M' | _, _ => False))
noncomputable abbrev ct_X12_set : List (Bool × Nat × pz_C) := [(true, 58, k_X12_isLink), (false, 76, k_X12_canBe), (true, 71, k_X12_forgets)]
set_option maxRecDepth 100000 in
set_option maxHeartbeats 4000000 in
theorem h_X12_set : pz_H yX12_set cX12_set 4 (some .boolean) k_X12_set 2 43 := by
  refine pz_mk (own := RX12) (tb := t_X12_set) (fl := pz_flf fl_RX12) (ci := pz_cif ci_RX12) (ct := pz_ctf ct_X12_set) (rz := true) (pz_pfc_RX12 yX12_set rfl) rfl t_X12_set_ok (pz_flk fl_RX12_ok) (pz_cik ci_RX12_ok) ?_ ?_ (Or.inr ⟨rfl, rfl⟩) ?_ ?_
  · exact fun i k' h => pz_ctk (l := ct_X12_set) (P := fun b i k => b = true → pz_cV 2 43 RX12 i k) (List.forall_mem_cons.mpr ⟨(fun _ => v_X12_isLink (by decide) (by decide) pz_wq1224), List.forall_mem_cons.mpr ⟨((fun z => by cases z)), List.forall_mem_cons.mpr ⟨(fun _ => v_X12_forgets (by decide) (by decide) pz_wq1209), fun _ h => absurd h List.not_mem_nil⟩⟩⟩) true i k' h rfl
  · exact fun i k' h => pz_ctk (l := ct_X12_set) (P := fun b i k => b = false → (pz_cS 2 43 RX12 i k ∨ (k = pz_kac ∧ 1 ≤ 2 ∧ 60 ≤ 43 ∧ Cond.methodLink RX12 i arraycopyName ∈ pz_tbl))) (List.forall_mem_cons.mpr ⟨((fun z => by cases z)), List.forall_mem_cons.mpr ⟨(fun _ => Or.inl (s_X12_canBe (by decide) (by decide) (Or.inl pz_wq1228))), List.forall_mem_cons.mpr ⟨((fun z => by cases z)), fun _ h => absurd h List.not_mem_nil⟩⟩⟩) false i k' h rfl
  · intro a M hlen hpre
    obtain ⟨th, p, i, n, rfl, hpre⟩ : ∃ th p i n, a = [.inr (.inr (12, th)), .inl p, .inl i, .inl n] ∧ (pz_im M) := by
      have hpre : (match (generalizing := false) a with | [.inr (.inr (12, th)), .inl p, .inl i, .inl n] => pz_im M | _ => False) := hpre
      split at hpre
      · exact ⟨_, _, _, _, rfl, hpre⟩
      · exact hpre.elim
    exact Nat.le_of_ble_eq_true rfl
  · intro a M hlen hcan hM hpre Ok hgo
    obtain ⟨th, p, i, n, rfl, hpre⟩ : ∃ th p i n, a = [.inr (.inr (12, th)), .inl p, .inl i, .inl n] ∧ (pz_im M) := by
      have hpre : (match (generalizing := false) a with | [.inr (.inr (12, th)), .inl p, .inl i, .inl n] => pz_im M | _ => False) := hpre
      split at hpre
      · exact ⟨_, _, _, _, rfl, hpre⟩
      · exact hpre.elim
    obtain ⟨k_th, hc_th⟩ := pz_tlm hcan
    have k_th : pz_kd th = 12 ∧ th < 231 := k_th
    have R_th := pz_kd12 k_th.1
    subst R_th
    clear k_th
    obtain ⟨k_p, hc_p⟩ := pz_tlm hc_th
    have l_p : -2147483648 ≤ p := k_p.1
    have u_p : p ≤ 2147483647 := k_p.2
    obtain ⟨k_i, hc_i⟩ := pz_tlm hc_p
    have l_i : -2147483648 ≤ i := k_i.1
    have u_i : i ≤ 2147483647 := k_i.2
    obtain ⟨k_n, hc_n⟩ := pz_tlm hc_i
    have l_n : -2147483648 ≤ n := k_n.1
    have u_n : n ≤ 2147483647 := k_n.2
    have hI : pz_im M := hpre
    have hI0 := hI
    have hS : pz_rl pz_Q9 M M := pz_rl.rf
    refine hgo (fun _ => false) 42 0 _ [] M ?_
    refine And.intro (hI) ?_
    intro v2 M2 a2 b2 q2
    obtain ⟨q2, z2⟩ := q2
    subst z2
    clear a2 b2
    refine And.intro (fun h5 => ?_) (fun h5 => ?_)
    · skip
      replace q2 := q2.resolve_left (fun z => absurd (z.1.symm.trans h5) (by decide))
      clear h5
      refine And.intro (by first | decide | omega) ?_
      refine And.intro rfl ?_
      exact ⟨Or.inr ⟨by omega, rfl, rfl⟩, hS⟩
    · skip
      replace q2 := q2.resolve_right (fun z => h5 z.1)
      clear h5
      refine And.intro (True.intro) ?_
      intro v10 M10 a10 b10 q10
      obtain ⟨q10, z10⟩ := q10
      subst z10
      clear a10 b10
      refine And.intro (fun h13 => ?_) (fun h13 => ?_)
      · skip
        replace q10 := q10.resolve_right (fun z => h13 z.1)
        clear h13
        refine pz_nrc (c := 60) rfl ?_
        refine And.intro (fun h23 => ?_) (fun h23 => ?_)
        · skip
          refine And.intro (fun h32 => ?_) (fun h32 => ?_)
          · skip
            refine And.intro (fun h42 => ?_) (fun h42 => ?_)
            · skip
              refine And.intro (fun h52 => ?_) (fun h52 => ?_)
              · skip
                intro v63 e63 a63 b63
                rw [pz_wi (by first | decide | omega) (by first | decide | omega)] at e63
                clear a63 b63
                have lo65 : (0 : Int) ≤ v63 := by omega
                have tn65 : (((v63).toNat : Nat) : Int) = v63 := Int.toNat_of_nonneg lo65
                refine And.intro (lo65) (And.intro (show _ < (1725 : Int) from by omega) ?_)
                intro M65 e65
                have hS : pz_rl pz_Q9 M M65 := by
                  rw [e65]
                  exact pz_rl_u hS (by unfold pz_Q9; first | decide | omega) (pz_iom_w1 (by first | decide | omega) (by first | decide | omega))
                have hI : pz_im M65 := hS.1 hI0
                refine And.intro (hI) ?_
                intro M67 q67
                obtain ⟨q67, z67⟩ := q67
                have hS : pz_rl pz_Q9 M M67 := hS.tr (pz_rlQ9_fg q67 z67)
                have T67a := z67.2
                have T67b := z67.1.2
                have hI : pz_im M67 := hS.1 hI0
                refine And.intro (by first | decide | omega) ?_
                refine And.intro rfl ?_
                have B9 : pz_bs p + i = v63 := by
                  unfold pz_bs
                  repeat' split
                  all_goals omega
                have K9 : M67 = pz_u (pz_u M 60 (pz_bs p + i).toNat n) 1 4 0 := by rw [q67, e65, B9]
                exact ⟨Or.inl ⟨by omega, rfl, K9⟩, hS⟩
              · skip
                intro v63 e63 a63 b63
                rw [pz_wi (by first | decide | omega) (by first | decide | omega)] at e63
                clear a63 b63
                have lo65 : (0 : Int) ≤ v63 := by omega
                have tn65 : (((v63).toNat : Nat) : Int) = v63 := Int.toNat_of_nonneg lo65
                refine And.intro (lo65) (And.intro (show _ < (1725 : Int) from by omega) ?_)
                intro M65 e65
                have hS : pz_rl pz_Q9 M M65 := by
                  rw [e65]
                  exact pz_rl_u hS (by unfold pz_Q9; first | decide | omega) (pz_iom_w2 (by first | decide | omega) (by first | decide | omega))
                have hI : pz_im M65 := hS.1 hI0
                refine And.intro (hI) ?_
                intro M67 q67
                obtain ⟨q67, z67⟩ := q67
                have hS : pz_rl pz_Q9 M M67 := hS.tr (pz_rlQ9_fg q67 z67)
                have T67a := z67.2
                have T67b := z67.1.2
                have hI : pz_im M67 := hS.1 hI0
                refine And.intro (by first | decide | omega) ?_
                refine And.intro rfl ?_
                have B9 : pz_bs p + i = v63 := by
                  unfold pz_bs
                  repeat' split
                  all_goals omega
                have K9 : M67 = pz_u (pz_u M 60 (pz_bs p + i).toNat n) 1 4 0 := by rw [q67, e65, B9]
                exact ⟨Or.inl ⟨by omega, rfl, K9⟩, hS⟩
            · skip
              intro v63 e63 a63 b63
              rw [pz_wi (by first | decide | omega) (by first | decide | omega)] at e63
              clear a63 b63
              have lo65 : (0 : Int) ≤ v63 := by omega
              have tn65 : (((v63).toNat : Nat) : Int) = v63 := Int.toNat_of_nonneg lo65
              refine And.intro (lo65) (And.intro (show _ < (1725 : Int) from by omega) ?_)
              intro M65 e65
              have hS : pz_rl pz_Q9 M M65 := by
                rw [e65]
                exact pz_rl_u hS (by unfold pz_Q9; first | decide | omega) (pz_iom_w1 (by first | decide | omega) (by first | decide | omega))
              have hI : pz_im M65 := hS.1 hI0
              refine And.intro (hI) ?_
              intro M67 q67
              obtain ⟨q67, z67⟩ := q67
              have hS : pz_rl pz_Q9 M M67 := hS.tr (pz_rlQ9_fg q67 z67)
              have T67a := z67.2
              have T67b := z67.1.2
              have hI : pz_im M67 := hS.1 hI0
              refine And.intro (by first | decide | omega) ?_
              refine And.intro rfl ?_
              have B9 : pz_bs p + i = v63 := by
                unfold pz_bs
                repeat' split
                all_goals omega
              have K9 : M67 = pz_u (pz_u M 60 (pz_bs p + i).toNat n) 1 4 0 := by rw [q67, e65, B9]
              exact ⟨Or.inl ⟨by omega, rfl, K9⟩, hS⟩
          · skip
            intro v63 e63 a63 b63
            rw [pz_wi (by first | decide | omega) (by first | decide | omega)] at e63
            clear a63 b63
            have lo65 : (0 : Int) ≤ v63 := by omega
            have tn65 : (((v63).toNat : Nat) : Int) = v63 := Int.toNat_of_nonneg lo65
            refine And.intro (lo65) (And.intro (show _ < (1725 : Int) from by omega) ?_)
            intro M65 e65
            have hS : pz_rl pz_Q9 M M65 := by
              rw [e65]
              exact pz_rl_u hS (by unfold pz_Q9; first | decide | omega) (pz_iom_w1 (by first | decide | omega) (by first | decide | omega))
            have hI : pz_im M65 := hS.1 hI0
            refine And.intro (hI) ?_
            intro M67 q67
            obtain ⟨q67, z67⟩ := q67
            have hS : pz_rl pz_Q9 M M67 := hS.tr (pz_rlQ9_fg q67 z67)
            have T67a := z67.2
            have T67b := z67.1.2
            have hI : pz_im M67 := hS.1 hI0
            refine And.intro (by first | decide | omega) ?_
            refine And.intro rfl ?_
            have B9 : pz_bs p + i = v63 := by
              unfold pz_bs
              repeat' split
              all_goals omega
            have K9 : M67 = pz_u (pz_u M 60 (pz_bs p + i).toNat n) 1 4 0 := by rw [q67, e65, B9]
            exact ⟨Or.inl ⟨by omega, rfl, K9⟩, hS⟩
        · skip
          intro v63 e63 a63 b63
          rw [pz_wi (by first | decide | omega) (by first | decide | omega)] at e63
          clear a63 b63
          have lo65 : (0 : Int) ≤ v63 := by omega
          have tn65 : (((v63).toNat : Nat) : Int) = v63 := Int.toNat_of_nonneg lo65
          refine And.intro (lo65) (And.intro (show _ < (1725 : Int) from by omega) ?_)
          intro M65 e65
          have hS : pz_rl pz_Q9 M M65 := by
            rw [e65]
            exact pz_rl_u hS (by unfold pz_Q9; first | decide | omega) (pz_iom_w1 (by first | decide | omega) (by first | decide | omega))
          have hI : pz_im M65 := hS.1 hI0
          refine And.intro (hI) ?_
          intro M67 q67
          obtain ⟨q67, z67⟩ := q67
          have hS : pz_rl pz_Q9 M M67 := hS.tr (pz_rlQ9_fg q67 z67)
          have T67a := z67.2
          have T67b := z67.1.2
          have hI : pz_im M67 := hS.1 hI0
          refine And.intro (by first | decide | omega) ?_
          refine And.intro rfl ?_
          have B9 : pz_bs p + i = v63 := by
            unfold pz_bs
            repeat' split
            all_goals omega
          have K9 : M67 = pz_u (pz_u M 60 (pz_bs p + i).toNat n) 1 4 0 := by rw [q67, e65, B9]
          exact ⟨Or.inl ⟨by omega, rfl, K9⟩, hS⟩
      · skip
        replace q10 := q10.resolve_left (fun z => absurd (z.1.symm.trans h13) (by decide))
        clear h13
        refine And.intro (by first | decide | omega) ?_
        refine And.intro rfl ?_
        exact ⟨Or.inr ⟨by omega, rfl, rfl⟩, hS⟩
theorem v_X12_set {fr lo i : Nat} {own : String} (h1 : 2 + 1 ≤ fr) (h2 : 8 + (4 + 11) + 43 ≤ lo) (h3 : .methodLink own i yX12_set ∈ lw_tbl) : pz_cV fr lo own i k_X12_set :=
  pz_cVk (maxL := 4) (fr' := 2) (lo' := 43) 3 12 h_X12_set rfl ⟨(pz_nhc_RX12 yX12_set rfl).1, (pz_nhc_RX12 yX12_set rfl).2, pz_ds17⟩ ⟨pz_wq1223, pz_wq1221, pz_wq1222, pz_wq13⟩ (Or.inl ⟨TX12, 28, rfl⟩) (fun a M _ h => by
    have h : (match (generalizing := false) a with | [.inr (.inr (12, th)), .inl p, .inl i, .inl n] => pz_im M | _ => False) := h
    split at h
    · exact ⟨_, _, rfl⟩
    · exact h.elim) h1 h2 h3
end
section
noncomputable def k_X12_feed : pz_C := (6, 1, fun a M => (match a with | [.inr (.inr (12, th)), .inl p, .inl q, .inl w, .inl s, .inl u] => pz_im M | _ => False), fun a M r M' => (match a, r with | [.inr (.inr (12, th)), .inl p, .inl q, .inl w, .inl s, .inl u], some (.inl v) => ((M 1 16 + 20 ≤ 400 ∧ v = M 1 16 + 20 ∧ M' 1 16 = M 1 16 + 20 ∧ pz_fm M M' 20 p q w s u) ∨ (¬ M 1 16 + 20 ≤ 400 ∧ v = -1 ∧ M' = M)) ∧ pz_rl pz_QF M M' | _, _ => False))
noncomputable abbrev ct_X12_feed : List (Bool × Nat × pz_C) := []
set_option maxRecDepth 100000 in
set_option maxHeartbeats 4000000 in
theorem h_X12_feed : pz_H yX12_feed cX12_feed 8 (some .int) k_X12_feed 0 0 := by
  refine pz_mk (own := RX12) (tb := t_X12_feed) (fl := pz_flf fl_RX12) (ci := pz_cif ci_RX12) (ct := pz_ctf ct_X12_feed) (rz := false) (pz_pfc_RX12 yX12_feed rfl) rfl t_X12_feed_ok (pz_flk fl_RX12_ok) (pz_cik ci_RX12_ok) ?_ ?_ (Or.inl ⟨rfl, rfl⟩) ?_ ?_
  · exact fun i k' h => pz_ctk (l := ct_X12_feed) (P := fun b i k => b = true → pz_cV 0 0 RX12 i k) (fun _ h => absurd h List.not_mem_nil) true i k' h rfl
  · exact fun i k' h => pz_ctk (l := ct_X12_feed) (P := fun b i k => b = false → (pz_cS 0 0 RX12 i k ∨ (k = pz_kac ∧ 1 ≤ 0 ∧ 60 ≤ 0 ∧ Cond.methodLink RX12 i arraycopyName ∈ pz_tbl))) (fun _ h => absurd h List.not_mem_nil) false i k' h rfl
  · intro a M hlen hpre
    obtain ⟨th, p, q, w, s, u, rfl, hpre⟩ : ∃ th p q w s u, a = [.inr (.inr (12, th)), .inl p, .inl q, .inl w, .inl s, .inl u] ∧ (pz_im M) := by
      have hpre : (match (generalizing := false) a with | [.inr (.inr (12, th)), .inl p, .inl q, .inl w, .inl s, .inl u] => pz_im M | _ => False) := hpre
      split at hpre
      · exact ⟨_, _, _, _, _, _, rfl, hpre⟩
      · exact hpre.elim
    exact Nat.le_of_ble_eq_true rfl
  · intro a M hlen hcan hM hpre Ok hgo
    obtain ⟨th, p, q, w, s, u, rfl, hpre⟩ : ∃ th p q w s u, a = [.inr (.inr (12, th)), .inl p, .inl q, .inl w, .inl s, .inl u] ∧ (pz_im M) := by
      have hpre : (match (generalizing := false) a with | [.inr (.inr (12, th)), .inl p, .inl q, .inl w, .inl s, .inl u] => pz_im M | _ => False) := hpre
      split at hpre
      · exact ⟨_, _, _, _, _, _, rfl, hpre⟩
      · exact hpre.elim
    obtain ⟨k_th, hc_th⟩ := pz_tlm hcan
    have k_th : pz_kd th = 12 ∧ th < 231 := k_th
    have R_th := pz_kd12 k_th.1
    subst R_th
    clear k_th
    obtain ⟨k_p, hc_p⟩ := pz_tlm hc_th
    have l_p : -2147483648 ≤ p := k_p.1
    have u_p : p ≤ 2147483647 := k_p.2
    obtain ⟨k_q, hc_q⟩ := pz_tlm hc_p
    have l_q : -2147483648 ≤ q := k_q.1
    have u_q : q ≤ 2147483647 := k_q.2
    obtain ⟨k_w, hc_w⟩ := pz_tlm hc_q
    have l_w : -2147483648 ≤ w := k_w.1
    have u_w : w ≤ 2147483647 := k_w.2
    obtain ⟨k_s, hc_s⟩ := pz_tlm hc_w
    have l_s : -2147483648 ≤ s := k_s.1
    have u_s : s ≤ 2147483647 := k_s.2
    obtain ⟨k_u, hc_u⟩ := pz_tlm hc_s
    have l_u : -2147483648 ≤ u := k_u.1
    have u_u : u ≤ 2147483647 := k_u.2
    have hI : pz_im M := hpre
    have hI0 := hI
    have hS : pz_rl pz_QF M M := pz_rl.rf
    have I016 := hI.2.1.2.1
    have L18 : ∀ (fu : Nat) (x6 : Int) (d7 : Option pz_V) (N18 : pz_M), (20 - x6).toNat < fu → (pz_rl pz_QF M N18) → (0 ≤ x6) → (x6 ≤ 20) → (M 1 16 + 20 ≤ 400) → (N18 1 16 = M 1 16 + x6) → (pz_fm M N18 x6 p q w s u) → Ok 18 [some (.inr (.inr (12, 1))), some (.inl p), some (.inl q), some (.inl w), some (.inl s), some (.inl u), some (.inl x6), d7] [] N18 := by
      intro fu
      induction fu with
      | zero => exact fun _ _ _ hn => absurd hn (Nat.not_lt_zero _)
      | succ fu ih18 =>
        intro x6 d7 N18 hn18 hS g18_1 g18_2 g18_3 g18_4 g18_5
        have hI : pz_im N18 := hS.1 hI0
        have L71 : ∀ (x6 : Int) (d7 : Option pz_V) (s0 : Int) (N71 : pz_M), (pz_rl pz_QF M N71) → (0 ≤ x6) → (x6 < 20) → ((20 - x6).toNat < fu + 1) → (s0 = pz_sel x6.toNat p q w s u) → (N71 1 16 = M 1 16 + x6) → (pz_fm M N71 x6 p q w s u) → Ok 71 [some (.inr (.inr (12, 1))), some (.inl p), some (.inl q), some (.inl w), some (.inl s), some (.inl u), some (.inl x6), d7] [.inl s0] N71 := by
          intro x6 d7 s0 N71 hS g71_1 g71_2 g71_3 g71_4 g71_5 g71_6
          have hI : pz_im N71 := hS.1 hI0
          refine hgo (fun p => Nat.beq p 18 || Nat.beq p 71) 64 71 _ _ _ ?_
          refine pz_nrc (c := 67) rfl ?_
          intro v78 e78 a78 b78
          have I78 : 0 ≤ v78 ∧ v78 ≤ 400 := by
            rw [e78]
            exact hI.2.1.2.1
          clear a78 b78
          have N78 := hI.2.1.2.1
          refine And.intro (by first | decide | omega) ?_
          intro v90 e90 a90 b90
          rw [Int.tmod_eq_emod_of_nonneg (by first | decide | omega)] at e90
          rw [pz_wi (by first | decide | omega) (by first | decide | omega)] at e90
          intro v91 e91 a91 b91
          rw [pz_wi (by first | decide | omega) (by first | decide | omega)] at e91
          clear a91 b91
          intro v92 e92 a92 b92
          rw [pz_wi (by first | decide | omega) (by first | decide | omega)] at e92
          clear a92 b92
          intro v93 e93 a93 b93
          have R93 : v93 = pz_sr s0 v92 := e93
          intro v97 e97 a97 b97
          have R97 : v97 = pz_a8 v93 := e97
          have lo98 : (0 : Int) ≤ v78 := by omega
          have tn98 : (((v78).toNat : Nat) : Int) = v78 := Int.toNat_of_nonneg lo98
          refine And.intro (lo98) (And.intro (show _ < (400 : Int) from by omega) ?_)
          intro M98 e98
          have hS : pz_rl pz_QF M M98 := by
            rw [e98]
            exact pz_rl_u hS (by unfold pz_QF; first | decide | omega) (pz_iom_a (by decide))
          have hI : pz_im M98 := hS.1 hI0
          have T98_0 : M98 1 16 = N71 1 16 := by
            rw [e98]
            exact (pz_une (fun h => absurd h.1 (by decide)))
          have K98 := e98
          intro v101 e101 a101 b101
          have I101 : 0 ≤ v101 ∧ v101 ≤ 400 := by
            rw [e101]
            exact hI.2.1.2.1
          clear a101 b101
          have N101 := hI.2.1.2.1
          replace e101 := e101.trans T98_0
          intro v105 e105 a105 b105
          rw [pz_wi (by first | decide | omega) (by first | decide | omega)] at e105
          clear a105 b105
          intro M106 e106
          have hS : pz_rl pz_QF M M106 := by
            rw [e106]
            exact pz_rl_u hS (by unfold pz_QF; decide) (pz_iom_16 (by first | decide | omega))
          have hI : pz_im M106 := hS.1 hI0
          have T106_0 : M106 1 16 = v105 := by rw [e106]; exact pz_uu
          have K106 := e106
          intro v109 e109 a109 b109
          rw [pz_wi (by first | decide | omega) (by first | decide | omega)] at e109
          have G109 : pz_fm M M106 v109 p q w s u := pz_fm_s (k := v78.toNat) g71_6 (by first | decide | omega) (by first | decide | omega) (by first | decide | omega) g71_4 (by first | decide | omega) R93 R97 K98 K106 e109
          exact ih18 _ _ _ (by first | decide | omega) hS (by first | omega | exact pz_fm_0 | exact G109) (by first | omega | exact pz_fm_0 | exact G109) (by first | omega | exact pz_fm_0 | exact G109) (by first | omega | exact pz_fm_0 | exact G109) (by first | omega | exact pz_fm_0 | exact G109)
        refine hgo (fun p => Nat.beq p 18 || Nat.beq p 71) 64 18 _ _ _ ?_
        refine And.intro (fun h22 => ?_) (fun h22 => ?_)
        · skip
          intro v116 e116 a116 b116
          have I116 : 0 ≤ v116 ∧ v116 ≤ 400 := by
            rw [e116]
            exact hI.2.1.2.1
          clear a116 b116
          have N116 := hI.2.1.2.1
          refine And.intro rfl ?_
          exact ⟨Or.inl ⟨by omega, by omega, by omega, by rw [show (20 : Int) = x6 by omega]; exact g18_5⟩, hS⟩
        · skip
          refine And.intro (fun h28 => ?_) (fun h28 => ?_)
          · skip
            refine And.intro (fun h39 => ?_) (fun h39 => ?_)
            · skip
              refine And.intro (fun h50 => ?_) (fun h50 => ?_)
              · skip
                refine And.intro (fun h61 => ?_) (fun h61 => ?_)
                · skip
                  exact L71 _ _ _ _ hS (by first | omega | assumption | exact pz_sel_1 (by first | decide | omega) | exact pz_sel_2 ⟨by omega, by omega⟩ | exact pz_sel_3 ⟨by omega, by omega⟩ | exact pz_sel_4 ⟨by omega, by omega⟩ | exact pz_sel_5 (by first | decide | omega)) (by first | omega | assumption | exact pz_sel_1 (by first | decide | omega) | exact pz_sel_2 ⟨by omega, by omega⟩ | exact pz_sel_3 ⟨by omega, by omega⟩ | exact pz_sel_4 ⟨by omega, by omega⟩ | exact pz_sel_5 (by first | decide | omega)) (by first | omega | assumption | exact pz_sel_1 (by first | decide | omega) | exact pz_sel_2 ⟨by omega, by omega⟩ | exact pz_sel_3 ⟨by omega, by omega⟩ | exact pz_sel_4 ⟨by omega, by omega⟩ | exact pz_sel_5 (by first | decide | omega)) (by first | omega | assumption | exact pz_sel_1 (by first | decide | omega) | exact pz_sel_2 ⟨by omega, by omega⟩ | exact pz_sel_3 ⟨by omega, by omega⟩ | exact pz_sel_4 ⟨by omega, by omega⟩ | exact pz_sel_5 (by first | decide | omega)) (by first | omega | assumption | exact pz_sel_1 (by first | decide | omega) | exact pz_sel_2 ⟨by omega, by omega⟩ | exact pz_sel_3 ⟨by omega, by omega⟩ | exact pz_sel_4 ⟨by omega, by omega⟩ | exact pz_sel_5 (by first | decide | omega)) (by first | omega | assumption | exact pz_sel_1 (by first | decide | omega) | exact pz_sel_2 ⟨by omega, by omega⟩ | exact pz_sel_3 ⟨by omega, by omega⟩ | exact pz_sel_4 ⟨by omega, by omega⟩ | exact pz_sel_5 (by first | decide | omega))
                · skip
                  exact L71 _ _ _ _ hS (by first | omega | assumption | exact pz_sel_1 (by first | decide | omega) | exact pz_sel_2 ⟨by omega, by omega⟩ | exact pz_sel_3 ⟨by omega, by omega⟩ | exact pz_sel_4 ⟨by omega, by omega⟩ | exact pz_sel_5 (by first | decide | omega)) (by first | omega | assumption | exact pz_sel_1 (by first | decide | omega) | exact pz_sel_2 ⟨by omega, by omega⟩ | exact pz_sel_3 ⟨by omega, by omega⟩ | exact pz_sel_4 ⟨by omega, by omega⟩ | exact pz_sel_5 (by first | decide | omega)) (by first | omega | assumption | exact pz_sel_1 (by first | decide | omega) | exact pz_sel_2 ⟨by omega, by omega⟩ | exact pz_sel_3 ⟨by omega, by omega⟩ | exact pz_sel_4 ⟨by omega, by omega⟩ | exact pz_sel_5 (by first | decide | omega)) (by first | omega | assumption | exact pz_sel_1 (by first | decide | omega) | exact pz_sel_2 ⟨by omega, by omega⟩ | exact pz_sel_3 ⟨by omega, by omega⟩ | exact pz_sel_4 ⟨by omega, by omega⟩ | exact pz_sel_5 (by first | decide | omega)) (by first | omega | assumption | exact pz_sel_1 (by first | decide | omega) | exact pz_sel_2 ⟨by omega, by omega⟩ | exact pz_sel_3 ⟨by omega, by omega⟩ | exact pz_sel_4 ⟨by omega, by omega⟩ | exact pz_sel_5 (by first | decide | omega)) (by first | omega | assumption | exact pz_sel_1 (by first | decide | omega) | exact pz_sel_2 ⟨by omega, by omega⟩ | exact pz_sel_3 ⟨by omega, by omega⟩ | exact pz_sel_4 ⟨by omega, by omega⟩ | exact pz_sel_5 (by first | decide | omega))
              · skip
                exact L71 _ _ _ _ hS (by first | omega | assumption | exact pz_sel_1 (by first | decide | omega) | exact pz_sel_2 ⟨by omega, by omega⟩ | exact pz_sel_3 ⟨by omega, by omega⟩ | exact pz_sel_4 ⟨by omega, by omega⟩ | exact pz_sel_5 (by first | decide | omega)) (by first | omega | assumption | exact pz_sel_1 (by first | decide | omega) | exact pz_sel_2 ⟨by omega, by omega⟩ | exact pz_sel_3 ⟨by omega, by omega⟩ | exact pz_sel_4 ⟨by omega, by omega⟩ | exact pz_sel_5 (by first | decide | omega)) (by first | omega | assumption | exact pz_sel_1 (by first | decide | omega) | exact pz_sel_2 ⟨by omega, by omega⟩ | exact pz_sel_3 ⟨by omega, by omega⟩ | exact pz_sel_4 ⟨by omega, by omega⟩ | exact pz_sel_5 (by first | decide | omega)) (by first | omega | assumption | exact pz_sel_1 (by first | decide | omega) | exact pz_sel_2 ⟨by omega, by omega⟩ | exact pz_sel_3 ⟨by omega, by omega⟩ | exact pz_sel_4 ⟨by omega, by omega⟩ | exact pz_sel_5 (by first | decide | omega)) (by first | omega | assumption | exact pz_sel_1 (by first | decide | omega) | exact pz_sel_2 ⟨by omega, by omega⟩ | exact pz_sel_3 ⟨by omega, by omega⟩ | exact pz_sel_4 ⟨by omega, by omega⟩ | exact pz_sel_5 (by first | decide | omega)) (by first | omega | assumption | exact pz_sel_1 (by first | decide | omega) | exact pz_sel_2 ⟨by omega, by omega⟩ | exact pz_sel_3 ⟨by omega, by omega⟩ | exact pz_sel_4 ⟨by omega, by omega⟩ | exact pz_sel_5 (by first | decide | omega))
            · skip
              exact L71 _ _ _ _ hS (by first | omega | assumption | exact pz_sel_1 (by first | decide | omega) | exact pz_sel_2 ⟨by omega, by omega⟩ | exact pz_sel_3 ⟨by omega, by omega⟩ | exact pz_sel_4 ⟨by omega, by omega⟩ | exact pz_sel_5 (by first | decide | omega)) (by first | omega | assumption | exact pz_sel_1 (by first | decide | omega) | exact pz_sel_2 ⟨by omega, by omega⟩ | exact pz_sel_3 ⟨by omega, by omega⟩ | exact pz_sel_4 ⟨by omega, by omega⟩ | exact pz_sel_5 (by first | decide | omega)) (by first | omega | assumption | exact pz_sel_1 (by first | decide | omega) | exact pz_sel_2 ⟨by omega, by omega⟩ | exact pz_sel_3 ⟨by omega, by omega⟩ | exact pz_sel_4 ⟨by omega, by omega⟩ | exact pz_sel_5 (by first | decide | omega)) (by first | omega | assumption | exact pz_sel_1 (by first | decide | omega) | exact pz_sel_2 ⟨by omega, by omega⟩ | exact pz_sel_3 ⟨by omega, by omega⟩ | exact pz_sel_4 ⟨by omega, by omega⟩ | exact pz_sel_5 (by first | decide | omega)) (by first | omega | assumption | exact pz_sel_1 (by first | decide | omega) | exact pz_sel_2 ⟨by omega, by omega⟩ | exact pz_sel_3 ⟨by omega, by omega⟩ | exact pz_sel_4 ⟨by omega, by omega⟩ | exact pz_sel_5 (by first | decide | omega)) (by first | omega | assumption | exact pz_sel_1 (by first | decide | omega) | exact pz_sel_2 ⟨by omega, by omega⟩ | exact pz_sel_3 ⟨by omega, by omega⟩ | exact pz_sel_4 ⟨by omega, by omega⟩ | exact pz_sel_5 (by first | decide | omega))
          · skip
            exact L71 _ _ _ _ hS (by first | omega | assumption | exact pz_sel_1 (by first | decide | omega) | exact pz_sel_2 ⟨by omega, by omega⟩ | exact pz_sel_3 ⟨by omega, by omega⟩ | exact pz_sel_4 ⟨by omega, by omega⟩ | exact pz_sel_5 (by first | decide | omega)) (by first | omega | assumption | exact pz_sel_1 (by first | decide | omega) | exact pz_sel_2 ⟨by omega, by omega⟩ | exact pz_sel_3 ⟨by omega, by omega⟩ | exact pz_sel_4 ⟨by omega, by omega⟩ | exact pz_sel_5 (by first | decide | omega)) (by first | omega | assumption | exact pz_sel_1 (by first | decide | omega) | exact pz_sel_2 ⟨by omega, by omega⟩ | exact pz_sel_3 ⟨by omega, by omega⟩ | exact pz_sel_4 ⟨by omega, by omega⟩ | exact pz_sel_5 (by first | decide | omega)) (by first | omega | assumption | exact pz_sel_1 (by first | decide | omega) | exact pz_sel_2 ⟨by omega, by omega⟩ | exact pz_sel_3 ⟨by omega, by omega⟩ | exact pz_sel_4 ⟨by omega, by omega⟩ | exact pz_sel_5 (by first | decide | omega)) (by first | omega | assumption | exact pz_sel_1 (by first | decide | omega) | exact pz_sel_2 ⟨by omega, by omega⟩ | exact pz_sel_3 ⟨by omega, by omega⟩ | exact pz_sel_4 ⟨by omega, by omega⟩ | exact pz_sel_5 (by first | decide | omega)) (by first | omega | assumption | exact pz_sel_1 (by first | decide | omega) | exact pz_sel_2 ⟨by omega, by omega⟩ | exact pz_sel_3 ⟨by omega, by omega⟩ | exact pz_sel_4 ⟨by omega, by omega⟩ | exact pz_sel_5 (by first | decide | omega))
    refine hgo (fun p => Nat.beq p 18 || Nat.beq p 71) 64 0 _ [] M ?_
    intro v1 e1 a1 b1
    have I1 : 0 ≤ v1 ∧ v1 ≤ 400 := by
      rw [e1]
      exact hI.2.1.2.1
    clear a1 b1
    have N1 := hI.2.1.2.1
    intro v6 e6 a6 b6
    rw [pz_wi (by first | decide | omega) (by first | decide | omega)] at e6
    clear a6 b6
    refine And.intro (fun h10 => ?_) (fun h10 => ?_)
    · skip
      exact L18 _ _ _ _ (Nat.lt_succ_self _) hS (by first | omega | exact pz_fm_0 | exact G109) (by first | omega | exact pz_fm_0 | exact G109) (by first | omega | exact pz_fm_0 | exact G109) (by first | omega | exact pz_fm_0 | exact G109) (by first | omega | exact pz_fm_0 | exact G109)
    · skip
      refine And.intro rfl ?_
      exact ⟨Or.inr ⟨by omega, rfl, rfl⟩, hS⟩
theorem v_X12_feed {fr lo i : Nat} {own : String} (h1 : 0 + 1 ≤ fr) (h2 : 8 + (8 + 11) + 0 ≤ lo) (h3 : .methodLink own i yX12_feed ∈ lw_tbl) : pz_cV fr lo own i k_X12_feed :=
  pz_cVk (maxL := 8) (fr' := 0) (lo' := 0) 5 12 h_X12_feed rfl ⟨(pz_nhc_RX12 yX12_feed rfl).1, (pz_nhc_RX12 yX12_feed rfl).2, pz_ds21⟩ ⟨pz_wq1234, pz_wq1232, pz_wq1233, pz_wq13⟩ (Or.inl ⟨TX12, 28, rfl⟩) (fun a M _ h => by
    have h : (match (generalizing := false) a with | [.inr (.inr (12, th)), .inl p, .inl q, .inl w, .inl s, .inl u] => pz_im M | _ => False) := h
    split at h
    · exact ⟨_, _, rfl⟩
    · exact h.elim) h1 h2 h3
end
section





noncomputable def k_X12_canBridge : pz_C := (2, 1, fun a M => (match a with | [.inr (.inr (12, th)), .inl i] => pz_im M | _ => False), fun a M r M' => (match a, r with | [.inr (.inr (12, th)), .inl i], some (.inl v) => ((v = 1 ∧ 0 ≤ i ∧ i < M 60 88 ∧ M 60 88 ≤ 12) ∨ v = 0) ∧ M = M' | _, _ => False))
noncomputable abbrev ct_X12_canBridge : List (Bool × Nat × pz_C) := [(true, 317, k_X12_isThere), (true, 288, k_X12_isBridged)]
set_option maxRecDepth 100000 in
set_option maxHeartbeats 4000000 in
theorem h_X12_canBridge : pz_H yX12_canBridge cX12_canBridge 2 (some .boolean) k_X12_canBridge 3 64 := by
  refine pz_mk (own := RX12) (tb := t_X12_canBridge) (fl := pz_flf fl_RX12) (ci := pz_cif ci_RX12) (ct := pz_ctf ct_X12_canBridge) (rz := true) (pz_pfc_RX12 yX12_canBridge rfl) rfl t_X12_canBridge_ok (pz_flk fl_RX12_ok) (pz_cik ci_RX12_ok) ?_ ?_ (Or.inr ⟨rfl, rfl⟩) ?_ ?_
  · exact fun i k' h => pz_ctk (l := ct_X12_canBridge) (P := fun b i k => b = true → pz_cV 3 64 RX12 i k) (List.forall_mem_cons.mpr ⟨(fun _ => v_X12_isThere (by decide) (by decide) pz_wq1415), List.forall_mem_cons.mpr ⟨(fun _ => v_X12_isBridged (by decide) (by decide) pz_wq1450), fun _ h => absurd h List.not_mem_nil⟩⟩) true i k' h rfl
  · exact fun i k' h => pz_ctk (l := ct_X12_canBridge) (P := fun b i k => b = false → (pz_cS 3 64 RX12 i k ∨ (k = pz_kac ∧ 1 ≤ 3 ∧ 60 ≤ 64 ∧ Cond.methodLink RX12 i arraycopyName ∈ pz_tbl))) (List.forall_mem_cons.mpr ⟨((fun z => by cases z)), List.forall_mem_cons.mpr ⟨((fun z => by cases z)), fun _ h => absurd h List.not_mem_nil⟩⟩) false i k' h rfl
  · intro a M hlen hpre
    obtain ⟨th, i, rfl, hpre⟩ : ∃ th i, a = [.inr (.inr (12, th)), .inl i] ∧ (pz_im M) := by
      have hpre : (match (generalizing := false) a with | [.inr (.inr (12, th)), .inl i] => pz_im M | _ => False) := hpre
      split at hpre
      · exact ⟨_, _, rfl, hpre⟩
      · exact hpre.elim
    exact Nat.le_of_ble_eq_true rfl
  · intro a M hlen hcan hM hpre Ok hgo
    obtain ⟨th, i, rfl, hpre⟩ : ∃ th i, a = [.inr (.inr (12, th)), .inl i] ∧ (pz_im M) := by
      have hpre : (match (generalizing := false) a with | [.inr (.inr (12, th)), .inl i] => pz_im M | _ => False) := hpre
      split at hpre
      · exact ⟨_, _, rfl, hpre⟩
      · exact hpre.elim
    obtain ⟨k_th, hc_th⟩ := pz_tlm hcan
    have k_th : pz_kd th = 12 ∧ th < 231 := k_th
    have R_th := pz_kd12 k_th.1
    subst R_th
    clear k_th
    obtain ⟨k_i, hc_i⟩ := pz_tlm hc_th
    have l_i : -2147483648 ≤ i := k_i.1
    have u_i : i ≤ 2147483647 := k_i.2
    have hI : pz_im M := hpre
    refine hgo (fun _ => false) 24 0 _ [] M ?_
    refine And.intro (hI) ?_
    intro v2 M2 a2 b2 q2
    obtain ⟨q2, z2⟩ := q2
    subst z2
    clear a2 b2
    refine And.intro (fun h5 => ?_) (fun h5 => ?_)
    · skip
      replace q2 := q2.resolve_left (fun z => absurd (z.1.symm.trans h5) (by decide))
      clear h5 q2
      refine And.intro (by first | decide | omega) ?_
      refine And.intro rfl ?_
      exact ⟨by omega, rfl⟩
    · skip
      replace q2 := q2.resolve_right h5
      clear h5
      refine And.intro (fun h9 => ?_) (fun h9 => ?_)
      · skip
        refine And.intro (by first | decide | omega) ?_
        refine And.intro rfl ?_
        exact ⟨by omega, rfl⟩
      · skip
        refine pz_nrc (c := 60) rfl ?_
        refine And.intro (by first | decide | omega) (And.intro (show _ < (1725 : Int) from by omega) ?_)
        intro v19 e19 a19 b19
        replace e19 : v19 = M 60 88 := e19
        have I19 : 0 ≤ v19 ∧ v19 ≤ 12 := by
          rw [e19]
          exact hI.1.1
        clear a19 b19
        intro v21 e21 a21 b21
        rw [pz_wi (by first | decide | omega) (by first | decide | omega)] at e21
        clear a21 b21
        refine And.intro (fun h22 => ?_) (fun h22 => ?_)
        · skip
          refine And.intro (by first | decide | omega) ?_
          refine And.intro rfl ?_
          exact ⟨by omega, rfl⟩
        · skip
          refine And.intro (And.intro hI (And.intro (by first | decide | omega) (by first | decide | omega))) ?_
          intro v27 M27 a27 b27 q27
          obtain ⟨q27, z27⟩ := q27
          subst z27
          clear a27 b27
          refine And.intro (fun h30 => ?_) (fun h30 => ?_)
          · skip
            clear h30 q27
            refine And.intro (by first | decide | omega) ?_
            refine And.intro rfl ?_
            exact ⟨by omega, rfl⟩
          · skip
            clear h30 q27
            refine And.intro (by first | decide | omega) ?_
            refine And.intro rfl ?_
            exact ⟨by omega, rfl⟩
theorem v_X12_canBridge {fr lo i : Nat} {own : String} (h1 : 3 + 1 ≤ fr) (h2 : 8 + (2 + 11) + 64 ≤ lo) (h3 : .methodLink own i yX12_canBridge ∈ lw_tbl) : pz_cV fr lo own i k_X12_canBridge :=
  pz_cVk (maxL := 2) (fr' := 3) (lo' := 64) 1 12 h_X12_canBridge rfl ⟨(pz_nhc_RX12 yX12_canBridge rfl).1, (pz_nhc_RX12 yX12_canBridge rfl).2, pz_ds9⟩ ⟨pz_wq1494, pz_wq1493, pz_ws53, pz_wq13⟩ (Or.inl ⟨TX12, 28, rfl⟩) (fun a M _ h => by
    have h : (match (generalizing := false) a with | [.inr (.inr (12, th)), .inl i] => pz_im M | _ => False) := h
    split at h
    · exact ⟨_, _, rfl⟩
    · exact h.elim) h1 h2 h3
end
section


noncomputable def k_X12_recordsOf : pz_C := (4, 1, fun a M => (match a with | [.inr (.inr (12, th)), .inl i, .inl x, .inl y] => pz_im M | _ => False), fun a M r M' => (match a, r with | [.inr (.inr (12, th)), .inl i, .inl x, .inl y], some (.inl v) => (v = pz_rcd (pz_gmr M) i x y (M 60 92).toNat) ∧ M = M' | _, _ => False))
noncomputable abbrev ct_X12_recordsOf : List (Bool × Nat × pz_C) := [(false, 54, k_X12_isIn)]
set_option maxRecDepth 100000 in
set_option maxHeartbeats 4000000 in
theorem h_X12_recordsOf : pz_H yX12_recordsOf cX12_recordsOf 6 (some .int) k_X12_recordsOf 1 22 := by
  refine pz_mk (own := RX12) (tb := t_X12_recordsOf) (fl := pz_flf fl_RX12) (ci := pz_cif ci_RX12) (ct := pz_ctf ct_X12_recordsOf) (rz := false) (pz_pfc_RX12 yX12_recordsOf rfl) rfl t_X12_recordsOf_ok (pz_flk fl_RX12_ok) (pz_cik ci_RX12_ok) ?_ ?_ (Or.inl ⟨rfl, rfl⟩) ?_ ?_
  · exact fun i k' h => pz_ctk (l := ct_X12_recordsOf) (P := fun b i k => b = true → pz_cV 1 22 RX12 i k) (List.forall_mem_cons.mpr ⟨((fun z => by cases z)), fun _ h => absurd h List.not_mem_nil⟩) true i k' h rfl
  · exact fun i k' h => pz_ctk (l := ct_X12_recordsOf) (P := fun b i k => b = false → (pz_cS 1 22 RX12 i k ∨ (k = pz_kac ∧ 1 ≤ 1 ∧ 60 ≤ 22 ∧ Cond.methodLink RX12 i arraycopyName ∈ pz_tbl))) (List.forall_mem_cons.mpr ⟨(fun _ => Or.inl (s_X12_isIn (by decide) (by decide) (Or.inl pz_wq1217))), fun _ h => absurd h List.not_mem_nil⟩) false i k' h rfl
  · intro a M hlen hpre
    obtain ⟨th, i, x, y, rfl, hpre⟩ : ∃ th i x y, a = [.inr (.inr (12, th)), .inl i, .inl x, .inl y] ∧ (pz_im M) := by
      have hpre : (match (generalizing := false) a with | [.inr (.inr (12, th)), .inl i, .inl x, .inl y] => pz_im M | _ => False) := hpre
      split at hpre
      · exact ⟨_, _, _, _, rfl, hpre⟩
      · exact hpre.elim
    exact Nat.le_of_ble_eq_true rfl
  · intro a M hlen hcan hM hpre Ok hgo
    obtain ⟨th, i, x, y, rfl, hpre⟩ : ∃ th i x y, a = [.inr (.inr (12, th)), .inl i, .inl x, .inl y] ∧ (pz_im M) := by
      have hpre : (match (generalizing := false) a with | [.inr (.inr (12, th)), .inl i, .inl x, .inl y] => pz_im M | _ => False) := hpre
      split at hpre
      · exact ⟨_, _, _, _, rfl, hpre⟩
      · exact hpre.elim
    obtain ⟨k_th, hc_th⟩ := pz_tlm hcan
    have k_th : pz_kd th = 12 ∧ th < 231 := k_th
    have R_th := pz_kd12 k_th.1
    subst R_th
    clear k_th
    obtain ⟨k_i, hc_i⟩ := pz_tlm hc_th
    have l_i : -2147483648 ≤ i := k_i.1
    have u_i : i ≤ 2147483647 := k_i.2
    obtain ⟨k_x, hc_x⟩ := pz_tlm hc_i
    have l_x : -2147483648 ≤ x := k_x.1
    have u_x : x ≤ 2147483647 := k_x.2
    obtain ⟨k_y, hc_y⟩ := pz_tlm hc_x
    have l_y : -2147483648 ≤ y := k_y.1
    have u_y : y ≤ 2147483647 := k_y.2
    have hI : pz_im M := hpre
    have I92 := hI.1.2.2.2.1
    have L6 : ∀ (fu : Nat) (x4 : Int) (x5 : Int), (16 - x5).toNat < fu → (0 ≤ x5) → (x5 ≤ 16) → (x5 ≤ M 60 92) → (0 ≤ x4) → (x4 ≤ x5) → (x4 ≤ 16) → (x4 = pz_rcd (pz_gmr M) i x y x5.toNat) → Ok 6 [some (.inr (.inr (12, 1))), some (.inl i), some (.inl x), some (.inl y), some (.inl x4), some (.inl x5)] [] M := by
      intro fu
      induction fu with
      | zero => exact fun _ _ hn => absurd hn (Nat.not_lt_zero _)
      | succ fu ih6 =>
        intro x4 x5 hn6 g6_0 g6_1 g6_2 g6_3 g6_4 g6_5 g6_6
        have L65 : ∀ (x4 : Int) (x5 : Int) (s0 : Int) (s1 : Int), (0 ≤ x5) → (x5 < 16) → ((16 - x5).toNat < fu + 1) → (x5 < M 60 92) → (0 ≤ s0) → (s0 ≤ x5) → (s0 ≤ 16) → (0 ≤ s1) → (s1 ≤ 1) → (s0 = pz_rcd (pz_gmr M) i x y x5.toNat) → (s1 = (if pz_gmr M x5.toNat 1 = i ∧ x ≤ pz_gmr M x5.toNat 0 ∧ pz_gmr M x5.toNat 0 ≤ y then 1 else 0)) → Ok 65 [some (.inr (.inr (12, 1))), some (.inl i), some (.inl x), some (.inl y), some (.inl x4), some (.inl x5)] [.inl s1, .inl s0] M := by
          intro x4 x5 s0 s1 g65_0 g65_1 g65_2 g65_3 g65_4 g65_5 g65_6 g65_7 g65_8 g65_9 g65_10
          refine hgo (fun p => Nat.beq p 6 || Nat.beq p 65) 46 65 _ _ _ ?_
          intro v65 e65 a65 b65
          rw [pz_wi (by first | decide | omega) (by first | decide | omega)] at e65
          clear a65 b65
          intro v68 e68 a68 b68
          rw [pz_wi (by first | decide | omega) (by first | decide | omega)] at e68
          have G68 : v65 = pz_rcd (pz_gmr M) i x y v68.toNat := by
            rw [show v68.toNat = x5.toNat + 1 by omega]
            show v65 = pz_rcd (pz_gmr M) i x y x5.toNat + (if pz_gmr M x5.toNat 1 = i ∧ x ≤ pz_gmr M x5.toNat 0 ∧ pz_gmr M x5.toNat 0 ≤ y then 1 else 0)
            rw [← g65_9, ← g65_10]
            omega
          exact ih6 _ _ (by first | decide | omega) (by first | omega | assumption | rfl) (by first | omega | assumption | rfl) (by first | omega | assumption | rfl) (by first | omega | assumption | rfl) (by first | omega | assumption | rfl) (by first | omega | assumption | rfl) (by first | omega | assumption | rfl)
        refine hgo (fun p => Nat.beq p 6 || Nat.beq p 65) 46 6 _ _ _ ?_
        refine pz_nrc (c := 60) rfl ?_
        refine And.intro (by first | decide | omega) (And.intro (show _ < (1725 : Int) from by omega) ?_)
        intro v14 e14 a14 b14
        replace e14 : v14 = M 60 92 := e14
        have I14 : 0 ≤ v14 ∧ v14 ≤ 16 := by
          rw [e14]
          exact hI.1.2.2.2.1
        clear a14 b14
        refine And.intro (fun h15 => ?_) (fun h15 => ?_)
        · skip
          refine And.intro rfl ?_
          exact ⟨by rw [show (M 60 92).toNat = x5.toNat by omega]; exact g6_6, rfl⟩
        · skip
          refine pz_nrc (c := 60) rfl ?_
          intro v30 e30 a30 b30
          rw [pz_wi (by first | decide | omega) (by first | decide | omega)] at e30
          clear a30 b30
          intro v31 e31 a31 b31
          rw [pz_wi (by first | decide | omega) (by first | decide | omega)] at e31
          clear a31 b31
          intro v33 e33 a33 b33
          rw [pz_wi (by first | decide | omega) (by first | decide | omega)] at e33
          clear a33 b33
          have lo34 : (0 : Int) ≤ v33 := by omega
          have tn34 : (((v33).toNat : Nat) : Int) = v33 := Int.toNat_of_nonneg lo34
          refine And.intro (lo34) (And.intro (show _ < (1725 : Int) from by omega) ?_)
          intro v34 e34 a34 b34
          have Q34 : v34 = pz_gmr M x5.toNat 1 := by
            rw [e34, show v33.toNat = 209 + (2 * x5.toNat + 1) by omega]
            rfl
          refine And.intro (fun h36 => ?_) (fun h36 => ?_)
          · skip
            exact L65 _ _ _ _ (by first | omega | assumption | (rw [if_pos ⟨by omega, by omega, by omega⟩]) | (rw [if_neg (by first | decide | omega)])) (by first | omega | assumption | (rw [if_pos ⟨by omega, by omega, by omega⟩]) | (rw [if_neg (by first | decide | omega)])) (by first | omega | assumption | (rw [if_pos ⟨by omega, by omega, by omega⟩]) | (rw [if_neg (by first | decide | omega)])) (by first | omega | assumption | (rw [if_pos ⟨by omega, by omega, by omega⟩]) | (rw [if_neg (by first | decide | omega)])) (by first | omega | assumption | (rw [if_pos ⟨by omega, by omega, by omega⟩]) | (rw [if_neg (by first | decide | omega)])) (by first | omega | assumption | (rw [if_pos ⟨by omega, by omega, by omega⟩]) | (rw [if_neg (by first | decide | omega)])) (by first | omega | assumption | (rw [if_pos ⟨by omega, by omega, by omega⟩]) | (rw [if_neg (by first | decide | omega)])) (by first | omega | assumption | (rw [if_pos ⟨by omega, by omega, by omega⟩]) | (rw [if_neg (by first | decide | omega)])) (by first | omega | assumption | (rw [if_pos ⟨by omega, by omega, by omega⟩]) | (rw [if_neg (by first | decide | omega)])) (by first | omega | assumption | (rw [if_pos ⟨by omega, by omega, by omega⟩]) | (rw [if_neg (by first | decide | omega)])) (by first | omega | assumption | (rw [if_pos ⟨by omega, by omega, by omega⟩]) | (rw [if_neg (by first | decide | omega)]))
          · skip
            refine pz_nrc (c := 60) rfl ?_
            intro v49 e49 a49 b49
            rw [pz_wi (by first | decide | omega) (by first | decide | omega)] at e49
            clear a49 b49
            intro v50 e50 a50 b50
            rw [pz_wi (by first | decide | omega) (by first | decide | omega)] at e50
            clear a50 b50
            have lo51 : (0 : Int) ≤ v50 := by omega
            have tn51 : (((v50).toNat : Nat) : Int) = v50 := Int.toNat_of_nonneg lo51
            refine And.intro (lo51) (And.intro (show _ < (1725 : Int) from by omega) ?_)
            intro v51 e51 a51 b51
            have Q51 : v51 = pz_gmr M x5.toNat 0 := by
              rw [e51, show v50.toNat = 209 + (2 * x5.toNat + 0) by omega]
              rfl
            refine And.intro (True.intro) ?_
            intro v54 M54 a54 b54 q54
            obtain ⟨q54, z54⟩ := q54
            subst z54
            clear a54 b54
            refine And.intro (fun h57 => ?_) (fun h57 => ?_)
            · skip
              replace q54 := q54.resolve_left (fun z => absurd (z.1.symm.trans h57) (by decide))
              clear h57
              exact L65 _ _ _ _ (by first | omega | assumption | (rw [if_pos ⟨by omega, by omega, by omega⟩]) | (rw [if_neg (by first | decide | omega)])) (by first | omega | assumption | (rw [if_pos ⟨by omega, by omega, by omega⟩]) | (rw [if_neg (by first | decide | omega)])) (by first | omega | assumption | (rw [if_pos ⟨by omega, by omega, by omega⟩]) | (rw [if_neg (by first | decide | omega)])) (by first | omega | assumption | (rw [if_pos ⟨by omega, by omega, by omega⟩]) | (rw [if_neg (by first | decide | omega)])) (by first | omega | assumption | (rw [if_pos ⟨by omega, by omega, by omega⟩]) | (rw [if_neg (by first | decide | omega)])) (by first | omega | assumption | (rw [if_pos ⟨by omega, by omega, by omega⟩]) | (rw [if_neg (by first | decide | omega)])) (by first | omega | assumption | (rw [if_pos ⟨by omega, by omega, by omega⟩]) | (rw [if_neg (by first | decide | omega)])) (by first | omega | assumption | (rw [if_pos ⟨by omega, by omega, by omega⟩]) | (rw [if_neg (by first | decide | omega)])) (by first | omega | assumption | (rw [if_pos ⟨by omega, by omega, by omega⟩]) | (rw [if_neg (by first | decide | omega)])) (by first | omega | assumption | (rw [if_pos ⟨by omega, by omega, by omega⟩]) | (rw [if_neg (by first | decide | omega)])) (by first | omega | assumption | (rw [if_pos ⟨by omega, by omega, by omega⟩]) | (rw [if_neg (by first | decide | omega)]))
            · skip
              replace q54 := q54.resolve_right (fun z => h57 z.1)
              clear h57
              exact L65 _ _ _ _ (by first | omega | assumption | (rw [if_pos ⟨by omega, by omega, by omega⟩]) | (rw [if_neg (by first | decide | omega)])) (by first | omega | assumption | (rw [if_pos ⟨by omega, by omega, by omega⟩]) | (rw [if_neg (by first | decide | omega)])) (by first | omega | assumption | (rw [if_pos ⟨by omega, by omega, by omega⟩]) | (rw [if_neg (by first | decide | omega)])) (by first | omega | assumption | (rw [if_pos ⟨by omega, by omega, by omega⟩]) | (rw [if_neg (by first | decide | omega)])) (by first | omega | assumption | (rw [if_pos ⟨by omega, by omega, by omega⟩]) | (rw [if_neg (by first | decide | omega)])) (by first | omega | assumption | (rw [if_pos ⟨by omega, by omega, by omega⟩]) | (rw [if_neg (by first | decide | omega)])) (by first | omega | assumption | (rw [if_pos ⟨by omega, by omega, by omega⟩]) | (rw [if_neg (by first | decide | omega)])) (by first | omega | assumption | (rw [if_pos ⟨by omega, by omega, by omega⟩]) | (rw [if_neg (by first | decide | omega)])) (by first | omega | assumption | (rw [if_pos ⟨by omega, by omega, by omega⟩]) | (rw [if_neg (by first | decide | omega)])) (by first | omega | assumption | (rw [if_pos ⟨by omega, by omega, by omega⟩]) | (rw [if_neg (by first | decide | omega)])) (by first | omega | assumption | (rw [if_pos ⟨by omega, by omega, by omega⟩]) | (rw [if_neg (by first | decide | omega)]))
    refine hgo (fun p => Nat.beq p 6 || Nat.beq p 65) 46 0 _ [] M ?_
    exact L6 _ _ _ (Nat.lt_succ_self _) (by first | omega | assumption | rfl) (by first | omega | assumption | rfl) (by first | omega | assumption | rfl) (by first | omega | assumption | rfl) (by first | omega | assumption | rfl) (by first | omega | assumption | rfl) (by first | omega | assumption | rfl)
theorem v_X12_recordsOf {fr lo i : Nat} {own : String} (h1 : 1 + 1 ≤ fr) (h2 : 8 + (6 + 11) + 22 ≤ lo) (h3 : .methodLink own i yX12_recordsOf ∈ lw_tbl) : pz_cV fr lo own i k_X12_recordsOf :=
  pz_cVk (maxL := 6) (fr' := 1) (lo' := 22) 3 12 h_X12_recordsOf rfl ⟨(pz_nhc_RX12 yX12_recordsOf rfl).1, (pz_nhc_RX12 yX12_recordsOf rfl).2, pz_ds14⟩ ⟨pz_wq1593, pz_wq1592, pz_ws71, pz_wq13⟩ (Or.inl ⟨TX12, 28, rfl⟩) (fun a M _ h => by
    have h : (match (generalizing := false) a with | [.inr (.inr (12, th)), .inl i, .inl x, .inl y] => pz_im M | _ => False) := h
    split at h
    · exact ⟨_, _, rfl⟩
    · exact h.elim) h1 h2 h3
noncomputable def k_X12_phone : pz_C := (3, 1, fun a M => (match a with | [.inr (.inr (12, th)), .inl i, .inl n] => pz_im M | _ => False), fun a M r M' => (match a, r with | [.inr (.inr (12, th)), .inl i, .inl n], some (.inl v) => (pz_pn2 M i n v) ∧ M = M' | _, _ => False))
noncomputable abbrev ct_X12_phone : List (Bool × Nat × pz_C) := [(true, 58, k_X12_isLink), (false, 54, k_X12_isIn), (true, 392, k_X12_recordsOf)]
set_option maxRecDepth 100000 in
set_option maxHeartbeats 4000000 in
theorem h_X12_phone : pz_H yX12_phone cX12_phone 3 (some .int) k_X12_phone 2 47 := by
  refine pz_mk (own := RX12) (tb := t_X12_phone) (fl := pz_flf fl_RX12) (ci := pz_cif ci_RX12) (ct := pz_ctf ct_X12_phone) (rz := false) (pz_pfc_RX12 yX12_phone rfl) rfl t_X12_phone_ok (pz_flk fl_RX12_ok) (pz_cik ci_RX12_ok) ?_ ?_ (Or.inl ⟨rfl, rfl⟩) ?_ ?_
  · exact fun i k' h => pz_ctk (l := ct_X12_phone) (P := fun b i k => b = true → pz_cV 2 47 RX12 i k) (List.forall_mem_cons.mpr ⟨(fun _ => v_X12_isLink (by decide) (by decide) pz_wq1224), List.forall_mem_cons.mpr ⟨((fun z => by cases z)), List.forall_mem_cons.mpr ⟨(fun _ => v_X12_recordsOf (by decide) (by decide) pz_wq1590), fun _ h => absurd h List.not_mem_nil⟩⟩⟩) true i k' h rfl
  · exact fun i k' h => pz_ctk (l := ct_X12_phone) (P := fun b i k => b = false → (pz_cS 2 47 RX12 i k ∨ (k = pz_kac ∧ 1 ≤ 2 ∧ 60 ≤ 47 ∧ Cond.methodLink RX12 i arraycopyName ∈ pz_tbl))) (List.forall_mem_cons.mpr ⟨((fun z => by cases z)), List.forall_mem_cons.mpr ⟨(fun _ => Or.inl (s_X12_isIn (by decide) (by decide) (Or.inl pz_wq1217))), List.forall_mem_cons.mpr ⟨((fun z => by cases z)), fun _ h => absurd h List.not_mem_nil⟩⟩⟩) false i k' h rfl
  · intro a M hlen hpre
    obtain ⟨th, i, n, rfl, hpre⟩ : ∃ th i n, a = [.inr (.inr (12, th)), .inl i, .inl n] ∧ (pz_im M) := by
      have hpre : (match (generalizing := false) a with | [.inr (.inr (12, th)), .inl i, .inl n] => pz_im M | _ => False) := hpre
      split at hpre
      · exact ⟨_, _, _, rfl, hpre⟩
      · exact hpre.elim
    exact Nat.le_of_ble_eq_true rfl
  · intro a M hlen hcan hM hpre Ok hgo
    obtain ⟨th, i, n, rfl, hpre⟩ : ∃ th i n, a = [.inr (.inr (12, th)), .inl i, .inl n] ∧ (pz_im M) := by
      have hpre : (match (generalizing := false) a with | [.inr (.inr (12, th)), .inl i, .inl n] => pz_im M | _ => False) := hpre
      split at hpre
      · exact ⟨_, _, _, rfl, hpre⟩
      · exact hpre.elim
    obtain ⟨k_th, hc_th⟩ := pz_tlm hcan
    have k_th : pz_kd th = 12 ∧ th < 231 := k_th
    have R_th := pz_kd12 k_th.1
    subst R_th
    clear k_th
    obtain ⟨k_i, hc_i⟩ := pz_tlm hc_th
    have l_i : -2147483648 ≤ i := k_i.1
    have u_i : i ≤ 2147483647 := k_i.2
    obtain ⟨k_n, hc_n⟩ := pz_tlm hc_i
    have l_n : -2147483648 ≤ n := k_n.1
    have u_n : n ≤ 2147483647 := k_n.2
    have hI : pz_im M := hpre
    refine hgo (fun _ => false) 33 0 _ [] M ?_
    refine And.intro (hI) ?_
    intro v2 M2 a2 b2 q2
    obtain ⟨q2, z2⟩ := q2
    subst z2
    clear a2 b2
    refine And.intro (fun h5 => ?_) (fun h5 => ?_)
    · skip
      replace q2 := q2.resolve_left (fun z => absurd (z.1.symm.trans h5) (by decide))
      clear h5
      refine And.intro rfl ?_
      exact ⟨⟨fun _ => rfl, fun y => ⟨fun z => by omega, fun z => by omega, fun z => by omega, fun _ => rfl⟩⟩, rfl⟩
    · skip
      replace q2 := q2.resolve_right (fun z => h5 z.1)
      clear h5
      refine And.intro (True.intro) ?_
      intro v11 M11 a11 b11 q11
      obtain ⟨q11, z11⟩ := q11
      subst z11
      clear a11 b11
      refine And.intro (fun h14 => ?_) (fun h14 => ?_)
      · skip
        replace q11 := q11.resolve_right (fun z => h14 z.1)
        clear h14
        refine And.intro (fun h21 => ?_) (fun h21 => ?_)
        · skip
          replace h21 : n ≤ 1 := by omega
          refine pz_nrc (c := 60) rfl ?_
          intro v44 e44 a44 b44
          rw [pz_wi (by first | decide | omega) (by first | decide | omega)] at e44
          clear a44 b44
          intro v45 e45 a45 b45
          rw [pz_wi (by first | decide | omega) (by first | decide | omega)] at e45
          clear a45 b45
          intro v47 e47 a47 b47
          rw [pz_wi (by first | decide | omega) (by first | decide | omega)] at e47
          clear a47 b47
          have lo48 : (0 : Int) ≤ v47 := by omega
          have tn48 : (((v47).toNat : Nat) : Int) = v47 := Int.toNat_of_nonneg lo48
          refine And.intro (lo48) (And.intro (show _ < (1725 : Int) from by omega) ?_)
          intro v48 e48 a48 b48
          refine And.intro rfl ?_
          first
            | exact ⟨⟨fun y => absurd ⟨by omega, by omega⟩ y, fun _ => ⟨fun z => absurd z (by first | decide | omega), fun z => absurd z (by first | decide | omega), fun _ => q30, fun z => absurd ⟨by omega, by omega⟩ z⟩⟩, rfl⟩
            | exact ⟨⟨fun y => absurd ⟨by omega, by omega⟩ y, fun _ => ⟨fun z => by rw [e48, show v47.toNat = 105 + 2 * i.toNat by omega], fun z => by rw [e48, show v47.toNat = 106 + 2 * i.toNat by omega], fun z => absurd z (by first | decide | omega), fun z => absurd ⟨by omega, by omega⟩ z⟩⟩, rfl⟩
        · skip
          refine And.intro (hI) ?_
          intro v30 M30 a30 b30 q30
          obtain ⟨q30, z30⟩ := q30
          subst z30
          refine And.intro rfl ?_
          first
            | exact ⟨⟨fun y => absurd ⟨by omega, by omega⟩ y, fun _ => ⟨fun z => absurd z (by first | decide | omega), fun z => absurd z (by first | decide | omega), fun _ => q30, fun z => absurd ⟨by omega, by omega⟩ z⟩⟩, rfl⟩
            | exact ⟨⟨fun y => absurd ⟨by omega, by omega⟩ y, fun _ => ⟨fun z => by rw [e48, show v47.toNat = 105 + 2 * i.toNat by omega], fun z => by rw [e48, show v47.toNat = 106 + 2 * i.toNat by omega], fun z => absurd z (by first | decide | omega), fun z => absurd ⟨by omega, by omega⟩ z⟩⟩, rfl⟩
      · skip
        replace q11 := q11.resolve_left (fun z => absurd (z.1.symm.trans h14) (by decide))
        clear h14
        refine And.intro rfl ?_
        exact ⟨⟨fun _ => rfl, fun y => ⟨fun z => by omega, fun z => by omega, fun z => by omega, fun _ => rfl⟩⟩, rfl⟩
theorem v_X12_phone {fr lo i : Nat} {own : String} (h1 : 2 + 1 ≤ fr) (h2 : 8 + (3 + 11) + 47 ≤ lo) (h3 : .methodLink own i yX12_phone ∈ lw_tbl) : pz_cV fr lo own i k_X12_phone :=
  pz_cVk (maxL := 3) (fr' := 2) (lo' := 47) 2 12 h_X12_phone rfl ⟨(pz_nhc_RX12 yX12_phone rfl).1, (pz_nhc_RX12 yX12_phone rfl).2, pz_ds10⟩ ⟨pz_wq1589, pz_wq1587, pz_wq1588, pz_wq13⟩ (Or.inl ⟨TX12, 28, rfl⟩) (fun a M _ h => by
    have h : (match (generalizing := false) a with | [.inr (.inr (12, th)), .inl i, .inl n] => pz_im M | _ => False) := h
    split at h
    · exact ⟨_, _, rfl⟩
    · exact h.elim) h1 h2 h3
end
section
noncomputable def k_X12_sureBy : pz_C := (2, 2, fun a M => (match a with | [.inl x, .inl y] => True | _ => False), fun a M r M' => (match a, r with | [.inl x, .inl y], some (.inr (.inl v)) => (pz_chx x y v) ∧ M = M' | _, _ => False))
noncomputable abbrev ct_X12_sureBy : List (Bool × Nat × pz_C) := []
set_option maxRecDepth 100000 in
set_option maxHeartbeats 4000000 in
theorem h_X12_sureBy : pz_H yX12_sureBy cX12_sureBy 5 (some .long) k_X12_sureBy 0 0 := by
  refine pz_mk (own := RX12) (tb := t_X12_sureBy) (fl := pz_flf fl_RX12) (ci := pz_cif ci_RX12) (ct := pz_ctf ct_X12_sureBy) (rz := false) (pz_pfc_RX12 yX12_sureBy rfl) rfl t_X12_sureBy_ok (pz_flk fl_RX12_ok) (pz_cik ci_RX12_ok) ?_ ?_ (rfl) ?_ ?_
  · exact fun i k' h => pz_ctk (l := ct_X12_sureBy) (P := fun b i k => b = true → pz_cV 0 0 RX12 i k) (fun _ h => absurd h List.not_mem_nil) true i k' h rfl
  · exact fun i k' h => pz_ctk (l := ct_X12_sureBy) (P := fun b i k => b = false → (pz_cS 0 0 RX12 i k ∨ (k = pz_kac ∧ 1 ≤ 0 ∧ 60 ≤ 0 ∧ Cond.methodLink RX12 i arraycopyName ∈ pz_tbl))) (fun _ h => absurd h List.not_mem_nil) false i k' h rfl
  · intro a M hlen hpre
    obtain ⟨x, y, rfl, hpre⟩ : ∃ x y, a = [.inl x, .inl y] ∧ (True) := by
      have hpre : (match (generalizing := false) a with | [.inl x, .inl y] => True | _ => False) := hpre
      split at hpre
      · exact ⟨_, _, rfl, hpre⟩
      · exact hpre.elim
    exact Nat.le_of_ble_eq_true rfl
  · intro a M hlen hcan hM hpre Ok hgo
    obtain ⟨x, y, rfl, hpre⟩ : ∃ x y, a = [.inl x, .inl y] ∧ (True) := by
      have hpre : (match (generalizing := false) a with | [.inl x, .inl y] => True | _ => False) := hpre
      split at hpre
      · exact ⟨_, _, rfl, hpre⟩
      · exact hpre.elim
    obtain ⟨k_x, hc_x⟩ := pz_tlm hcan
    have l_x : -2147483648 ≤ x := k_x.1
    have u_x : x ≤ 2147483647 := k_x.2
    obtain ⟨k_y, hc_y⟩ := pz_tlm hc_x
    have l_y : -2147483648 ≤ y := k_y.1
    have u_y : y ≤ 2147483647 := k_y.2
    have G0 : pz_lax x 0 1000000 := fun _ _ _ => rfl
    have L7 : ∀ (fu : Nat) (x2 : Int) (x4 : Int), (y - x4).toNat < fu → (0 ≤ x4) → (0 ≤ y → x4 ≤ y) → (pz_lax x x4 x2) → Ok 7 [some (.inl x), some (.inl y), some (.inr (.inl x2)), none, some (.inl x4)] [] M := by
      intro fu
      induction fu with
      | zero => exact fun _ _ hn => absurd hn (Nat.not_lt_zero _)
      | succ fu ih7 =>
        intro x2 x4 hn7 g7_0 g7_1 g7_2
        refine hgo (fun p => Nat.beq p 7) 24 7 _ _ _ ?_
        refine And.intro (fun h10 => ?_) (fun h10 => ?_)
        · skip
          intro v36 e36 a36 b36
          refine And.intro rfl ?_
          exact ⟨fun h0 h1 h2 => by
            have a := g7_2 h0 h1 (by first | decide | omega)
            have b := pz_lf_b h0 h1 x4.toNat
            rw [pz_wli (by first | decide | omega) (by first | decide | omega)] at e36
            rw [e36, a, show x4 = y by omega], rfl⟩
        · skip
          intro v18 e18 a18 b18
          intro v20 e20 a20 b20
          refine And.intro (by first | decide | omega) ?_
          intro v24 e24 a24 b24
          intro v26 e26 a26 b26
          try rw [pz_wi (by first | decide | omega) (by first | decide | omega)] at e26
          have G26 : pz_lax x v26 v24 := fun h0 h1 h2 => by
            have a := g7_2 h0 h1 (by first | decide | omega)
            have b := pz_lf_b h0 h1 x4.toNat
            have B := pz_m9 (x := pz_lf x x4.toNat) (y := 1000 - x) (a := 1000000) (b := 1000) b.1 b.2 (by first | decide | omega) (by first | decide | omega)
            rw [pz_wi (by first | decide | omega) (by first | decide | omega)] at e18
            rw [e18, a] at e20
            rw [pz_wli (by first | decide | omega) (by first | decide | omega)] at e20
            rw [e20, Int.tdiv_eq_ediv_of_nonneg (by first | decide | omega), pz_wli (by first | decide | omega) (by first | decide | omega)] at e24
            rw [e24, show v26.toNat = x4.toNat + 1 by omega]
            rfl
          exact ih7 _ _ (by first | decide | omega) (by first | omega | assumption) (by first | omega | assumption) (by first | omega | assumption)
    refine hgo (fun p => Nat.beq p 7) 24 0 _ [] M ?_
    exact L7 _ _ _ (Nat.lt_succ_self _) (by first | omega | assumption) (by first | omega | assumption) (by first | omega | assumption)
theorem s_X12_sureBy {fr lo i : Nat} {own : String} (h1 : 0 + 1 ≤ fr) (h2 : 8 + (5 + 11) + 0 ≤ lo) (h3 : .methodLink own i yX12_sureBy ∈ lw_tbl ∨ (own = RX1 ∧ i = 35 ∧ yX12_sureBy = yX11_within)) : pz_cS fr lo own i k_X12_sureBy := pz_cSk (maxL := 5) (fr' := 0) (lo' := 0) 2 h_X12_sureBy rfl ⟨(pz_nhc_RX12 yX12_sureBy rfl).1, (pz_nhc_RX12 yX12_sureBy rfl).2, pz_ds11⟩ ⟨pz_wq1628, pz_wq1627, pz_wq13⟩ h1 h2 h3




noncomputable def k_X12_many : pz_C := (3, 1, fun a M => (match a with | [.inr (.inr (12, th)), .inl p, .inl n] => pz_im M | _ => False), fun a M r M' => (match a, r with | [.inr (.inr (12, th)), .inl p, .inl n], some (.inl v) => (v = (if 0 ≤ p ∧ p ≤ 1000 ∧ 1 ≤ n ∧ n ≤ 60 then pz_mc (1000000 - pz_lf p n.toNat) 60 1000000 0 else -1)) ∧ M = M' | _, _ => False))
noncomputable abbrev ct_X12_many : List (Bool × Nat × pz_C) := [(false, 54, k_X12_isIn), (false, 408, k_X12_sureBy)]
set_option maxRecDepth 100000 in
set_option maxHeartbeats 4000000 in
theorem h_X12_many : pz_H yX12_many cX12_many 6 (some .int) k_X12_many 1 24 := by
  refine pz_mk (own := RX12) (tb := t_X12_many) (fl := pz_flf fl_RX12) (ci := pz_cif ci_RX12) (ct := pz_ctf ct_X12_many) (rz := false) (pz_pfc_RX12 yX12_many rfl) rfl t_X12_many_ok (pz_flk fl_RX12_ok) (pz_cik ci_RX12_ok) ?_ ?_ (Or.inl ⟨rfl, rfl⟩) ?_ ?_
  · exact fun i k' h => pz_ctk (l := ct_X12_many) (P := fun b i k => b = true → pz_cV 1 24 RX12 i k) (List.forall_mem_cons.mpr ⟨((fun z => by cases z)), List.forall_mem_cons.mpr ⟨((fun z => by cases z)), fun _ h => absurd h List.not_mem_nil⟩⟩) true i k' h rfl
  · exact fun i k' h => pz_ctk (l := ct_X12_many) (P := fun b i k => b = false → (pz_cS 1 24 RX12 i k ∨ (k = pz_kac ∧ 1 ≤ 1 ∧ 60 ≤ 24 ∧ Cond.methodLink RX12 i arraycopyName ∈ pz_tbl))) (List.forall_mem_cons.mpr ⟨(fun _ => Or.inl (s_X12_isIn (by decide) (by decide) (Or.inl pz_wq1217))), List.forall_mem_cons.mpr ⟨(fun _ => Or.inl (s_X12_sureBy (by decide) (by decide) (Or.inl pz_wq1626))), fun _ h => absurd h List.not_mem_nil⟩⟩) false i k' h rfl
  · intro a M hlen hpre
    obtain ⟨th, p, n, rfl, hpre⟩ : ∃ th p n, a = [.inr (.inr (12, th)), .inl p, .inl n] ∧ (pz_im M) := by
      have hpre : (match (generalizing := false) a with | [.inr (.inr (12, th)), .inl p, .inl n] => pz_im M | _ => False) := hpre
      split at hpre
      · exact ⟨_, _, _, rfl, hpre⟩
      · exact hpre.elim
    exact Nat.le_of_ble_eq_true rfl
  · intro a M hlen hcan hM hpre Ok hgo
    obtain ⟨th, p, n, rfl, hpre⟩ : ∃ th p n, a = [.inr (.inr (12, th)), .inl p, .inl n] ∧ (pz_im M) := by
      have hpre : (match (generalizing := false) a with | [.inr (.inr (12, th)), .inl p, .inl n] => pz_im M | _ => False) := hpre
      split at hpre
      · exact ⟨_, _, _, rfl, hpre⟩
      · exact hpre.elim
    obtain ⟨k_th, hc_th⟩ := pz_tlm hcan
    have k_th : pz_kd th = 12 ∧ th < 231 := k_th
    have R_th := pz_kd12 k_th.1
    subst R_th
    clear k_th
    obtain ⟨k_p, hc_p⟩ := pz_tlm hc_th
    have l_p : -2147483648 ≤ p := k_p.1
    have u_p : p ≤ 2147483647 := k_p.2
    obtain ⟨k_n, hc_n⟩ := pz_tlm hc_p
    have l_n : -2147483648 ≤ n := k_n.1
    have u_n : n ≤ 2147483647 := k_n.2
    have hI : pz_im M := hpre
    have L30 : ∀ (fu : Nat) (x3 : Int) (x5 : Int), (60 - x5).toNat < fu → (0 ≤ x5) → (x5 ≤ 60) → (0 ≤ p ∧ p ≤ 1000 ∧ 1 ≤ n ∧ n ≤ 60) → (0 ≤ x3 ∧ x3 ≤ 1000000) → (pz_mc (1000000 - pz_lf p n.toNat) (60 - x5).toNat x3 x5 = pz_mc (1000000 - pz_lf p n.toNat) 60 1000000 0) → Ok 30 [some (.inr (.inr (12, 1))), some (.inl p), some (.inl n), some (.inr (.inl x3)), none, some (.inl x5)] [] M := by
      intro fu
      induction fu with
      | zero => exact fun _ _ hn => absurd hn (Nat.not_lt_zero _)
      | succ fu ih30 =>
        intro x3 x5 hn30 g30_0 g30_1 g30_2 g30_3 g30_4
        have P30 := g30_2
        have B30 := pz_lf_b P30.1 P30.2.1 n.toNat
        refine hgo (fun p => Nat.beq p 30) 43 30 _ _ _ ?_
        refine And.intro (fun h34 => ?_) (fun h34 => ?_)
        · skip
          refine And.intro rfl ?_
          refine ⟨?_, rfl⟩
          rw [if_pos g30_2, ← g30_4]
          first
            | rw [pz_mcR (n := (60 - x5).toNat) (m := (59 - x5).toNat) (by first | decide | omega) e47 (by first | decide | omega)]
            | rw [pz_mc0 (e := 1000000 - pz_lf p n.toNat) (a := x3) (i := x5) (n := (60 - x5).toNat) (by first | decide | omega)]
        · skip
          refine And.intro (True.intro) ?_
          intro v40 M40 a40 b40 q40
          obtain ⟨q40, z40⟩ := q40
          subst z40
          have q40 := q40 P30.1 P30.2.1 (by first | decide | omega)
          have C40 := pz_m9 (x := x3) (y := 1000000 - pz_lf p n.toNat) (a := 1000000) (b := 1000000) (by first | decide | omega) (by first | decide | omega) (by first | decide | omega) (by first | decide | omega)
          intro v43 e43 a43 b43
          rw [q40] at e43
          rw [pz_wli (by first | decide | omega) (by first | decide | omega)] at e43
          refine And.intro (by first | decide | omega) ?_
          intro v47 e47 a47 b47
          rw [e43, Int.tdiv_eq_ediv_of_nonneg (by first | decide | omega), pz_wli (by first | decide | omega) (by first | decide | omega)] at e47
          refine And.intro (fun h51 => ?_) ?_
          · skip
            refine And.intro (fun h52 => ?_) (fun h52 => ?_)
            · skip
              refine And.intro rfl ?_
              refine ⟨?_, rfl⟩
              rw [if_pos g30_2, ← g30_4]
              first
                | rw [pz_mcR (n := (60 - x5).toNat) (m := (59 - x5).toNat) (by first | decide | omega) e47 (by first | decide | omega)]
                | rw [pz_mc0 (e := 1000000 - pz_lf p n.toNat) (a := x3) (i := x5) (n := (60 - x5).toNat) (by first | decide | omega)]
            · skip
              exact absurd h52 (by decide)
          refine And.intro (fun h51 => ?_) ?_
          · skip
            refine And.intro (fun h52 => ?_) (fun h52 => ?_)
            · skip
              exact absurd h52 (by decide)
            · skip
              refine And.intro (True.intro) ?_
              intro v58 M58 a58 b58 q58
              obtain ⟨q58, z58⟩ := q58
              subst z58
              have q58 := q58 P30.1 P30.2.1 (by first | decide | omega)
              have C58 := pz_m9 (x := x3) (y := 1000000 - pz_lf p n.toNat) (a := 1000000) (b := 1000000) (by first | decide | omega) (by first | decide | omega) (by first | decide | omega) (by first | decide | omega)
              intro v61 e61 a61 b61
              rw [q58] at e61
              rw [pz_wli (by first | decide | omega) (by first | decide | omega)] at e61
              refine And.intro (by first | decide | omega) ?_
              intro v65 e65 a65 b65
              rw [e61, Int.tdiv_eq_ediv_of_nonneg (by first | decide | omega), pz_wli (by first | decide | omega) (by first | decide | omega)] at e65
              intro v67 e67 a67 b67
              try rw [pz_wi (by first | decide | omega) (by first | decide | omega)] at e67
              have G67 : pz_mc (1000000 - pz_lf p n.toNat) (60 - v67).toNat v65 v67 = pz_mc (1000000 - pz_lf p n.toNat) 60 1000000 0 := by
                rw [← g30_4, pz_mcS (n := (60 - x5).toNat) (m := (60 - v67).toNat) (by first | decide | omega) e65 (by first | decide | omega), e67]
              exact ih30 _ _ (by first | decide | omega) (by first | omega | assumption | rfl) (by first | omega | assumption | rfl) (by first | omega | assumption | rfl) (by first | omega | assumption | rfl) (by first | omega | assumption | rfl)
          intro h51
          refine And.intro (fun h52 => ?_) (fun h52 => ?_)
          · skip
            exact absurd h52 (by decide)
          · skip
            refine And.intro (True.intro) ?_
            intro v58 M58 a58 b58 q58
            obtain ⟨q58, z58⟩ := q58
            subst z58
            have q58 := q58 P30.1 P30.2.1 (by first | decide | omega)
            have C58 := pz_m9 (x := x3) (y := 1000000 - pz_lf p n.toNat) (a := 1000000) (b := 1000000) (by first | decide | omega) (by first | decide | omega) (by first | decide | omega) (by first | decide | omega)
            intro v61 e61 a61 b61
            rw [q58] at e61
            rw [pz_wli (by first | decide | omega) (by first | decide | omega)] at e61
            refine And.intro (by first | decide | omega) ?_
            intro v65 e65 a65 b65
            rw [e61, Int.tdiv_eq_ediv_of_nonneg (by first | decide | omega), pz_wli (by first | decide | omega) (by first | decide | omega)] at e65
            intro v67 e67 a67 b67
            try rw [pz_wi (by first | decide | omega) (by first | decide | omega)] at e67
            have G67 : pz_mc (1000000 - pz_lf p n.toNat) (60 - v67).toNat v65 v67 = pz_mc (1000000 - pz_lf p n.toNat) 60 1000000 0 := by
              rw [← g30_4, pz_mcS (n := (60 - x5).toNat) (m := (60 - v67).toNat) (by first | decide | omega) e65 (by first | decide | omega), e67]
            exact ih30 _ _ (by first | decide | omega) (by first | omega | assumption | rfl) (by first | omega | assumption | rfl) (by first | omega | assumption | rfl) (by first | omega | assumption | rfl) (by first | omega | assumption | rfl)
    refine hgo (fun p => Nat.beq p 30) 43 0 _ [] M ?_
    refine And.intro (True.intro) ?_
    intro v5 M5 a5 b5 q5
    obtain ⟨q5, z5⟩ := q5
    subst z5
    clear a5 b5
    refine And.intro (fun h8 => ?_) (fun h8 => ?_)
    · skip
      replace q5 := q5.resolve_left (fun z => absurd (z.1.symm.trans h8) (by decide))
      clear h8
      refine And.intro rfl ?_
      refine ⟨?_, rfl⟩
      rw [if_neg]
      intro z
      omega
    · skip
      replace q5 := q5.resolve_right (fun z => h8 z.1)
      clear h8
      refine And.intro (True.intro) ?_
      intro v15 M15 a15 b15 q15
      obtain ⟨q15, z15⟩ := q15
      subst z15
      clear a15 b15
      refine And.intro (fun h18 => ?_) (fun h18 => ?_)
      · skip
        replace q15 := q15.resolve_right (fun z => h18 z.1)
        clear h18
        exact L30 _ _ _ (Nat.lt_succ_self _) (by first | omega | assumption | rfl) (by first | omega | assumption | rfl) (by first | omega | assumption | rfl) (by first | omega | assumption | rfl) (by first | omega | assumption | rfl)
      · skip
        replace q15 := q15.resolve_left (fun z => absurd (z.1.symm.trans h18) (by decide))
        clear h18
        refine And.intro rfl ?_
        refine ⟨?_, rfl⟩
        rw [if_neg]
        intro z
        omega
theorem v_X12_many {fr lo i : Nat} {own : String} (h1 : 1 + 1 ≤ fr) (h2 : 8 + (6 + 11) + 24 ≤ lo) (h3 : .methodLink own i yX12_many ∈ lw_tbl) : pz_cV fr lo own i k_X12_many :=
  pz_cVk (maxL := 6) (fr' := 1) (lo' := 24) 2 12 h_X12_many rfl ⟨(pz_nhc_RX12 yX12_many rfl).1, (pz_nhc_RX12 yX12_many rfl).2, pz_ds10⟩ ⟨pz_wq1637, pz_wq1635, pz_wq1636, pz_wq13⟩ (Or.inl ⟨TX12, 28, rfl⟩) (fun a M _ h => by
    have h : (match (generalizing := false) a with | [.inr (.inr (12, th)), .inl p, .inl n] => pz_im M | _ => False) := h
    split at h
    · exact ⟨_, _, rfl⟩
    · exact h.elim) h1 h2 h3






noncomputable def k_X12_bridgeable : pz_C := (1, 1, fun a M => (match a with | [.inr (.inr (12, th))] => pz_im M | _ => False), fun a M r M' => (match a, r with | [.inr (.inr (12, th))], some (.inl v) => (0 ≤ v ∧ v ≤ 4095) ∧ M = M' | _, _ => False))
noncomputable abbrev ct_X12_bridgeable : List (Bool × Nat × pz_C) := [(true, 336, k_X12_canBridge)]
set_option maxRecDepth 100000 in
set_option maxHeartbeats 4000000 in
theorem h_X12_bridgeable : pz_H yX12_bridgeable cX12_bridgeable 3 (some .int) k_X12_bridgeable 4 85 := by
  refine pz_mk (own := RX12) (tb := t_X12_bridgeable) (fl := pz_flf fl_RX12) (ci := pz_cif ci_RX12) (ct := pz_ctf ct_X12_bridgeable) (rz := false) (pz_pfc_RX12 yX12_bridgeable rfl) rfl t_X12_bridgeable_ok (pz_flk fl_RX12_ok) (pz_cik ci_RX12_ok) ?_ ?_ (Or.inl ⟨rfl, rfl⟩) ?_ ?_
  · exact fun i k' h => pz_ctk (l := ct_X12_bridgeable) (P := fun b i k => b = true → pz_cV 4 85 RX12 i k) (List.forall_mem_cons.mpr ⟨(fun _ => v_X12_canBridge (by decide) (by decide) pz_wq1491), fun _ h => absurd h List.not_mem_nil⟩) true i k' h rfl
  · exact fun i k' h => pz_ctk (l := ct_X12_bridgeable) (P := fun b i k => b = false → (pz_cS 4 85 RX12 i k ∨ (k = pz_kac ∧ 1 ≤ 4 ∧ 60 ≤ 85 ∧ Cond.methodLink RX12 i arraycopyName ∈ pz_tbl))) (List.forall_mem_cons.mpr ⟨((fun z => by cases z)), fun _ h => absurd h List.not_mem_nil⟩) false i k' h rfl
  · intro a M hlen hpre
    obtain ⟨th, rfl, hpre⟩ : ∃ th, a = [.inr (.inr (12, th))] ∧ (pz_im M) := by
      have hpre : (match (generalizing := false) a with | [.inr (.inr (12, th))] => pz_im M | _ => False) := hpre
      split at hpre
      · exact ⟨_, rfl, hpre⟩
      · exact hpre.elim
    exact Nat.le_of_ble_eq_true rfl
  · intro a M hlen hcan hM hpre Ok hgo
    obtain ⟨th, rfl, hpre⟩ : ∃ th, a = [.inr (.inr (12, th))] ∧ (pz_im M) := by
      have hpre : (match (generalizing := false) a with | [.inr (.inr (12, th))] => pz_im M | _ => False) := hpre
      split at hpre
      · exact ⟨_, rfl, hpre⟩
      · exact hpre.elim
    obtain ⟨k_th, hc_th⟩ := pz_tlm hcan
    have k_th : pz_kd th = 12 ∧ th < 231 := k_th
    have R_th := pz_kd12 k_th.1
    subst R_th
    clear k_th
    have hI : pz_im M := hpre
    have L4 : ∀ (fu : Nat) (x1 : Int) (x2 : Int), (12 - x2).toNat < fu → (0 ≤ x2) → (0 ≤ x1) → (x1 ≤ 4095) → Ok 4 [some (.inr (.inr (12, 1))), some (.inl x1), some (.inl x2)] [] M := by
      intro fu
      induction fu with
      | zero => exact fun _ _ hn => absurd hn (Nat.not_lt_zero _)
      | succ fu ih4 =>
        intro x1 x2 hn4 g4_0 g4_1 g4_2
        have L31 : ∀ (x1 : Int) (x2 : Int) (s0 : Int) (s1 : Int), (0 ≤ x2) → (x2 < 12) → (0 ≤ s0) → (s0 ≤ 4095) → (0 ≤ s1) → (s1 ≤ 4095) → ((12 - x2).toNat < fu + 1) → Ok 31 [some (.inr (.inr (12, 1))), some (.inl x1), some (.inl x2)] [.inl s1, .inl s0] M := by
          intro x1 x2 s0 s1 g31_0 g31_1 g31_2 g31_3 g31_4 g31_5 g31_6
          refine hgo (fun p => Nat.beq p 4 || Nat.beq p 31) 28 31 _ _ _ ?_
          intro v31 e31 a31 b31
          have X31 := pz_or12 (x := s0) (y := s1) (by first | decide | omega) (by first | decide | omega) (by first | decide | omega) (by first | decide | omega)
          rw [← e31] at X31
          intro v33 e33 a33 b33
          rw [pz_wi (by first | decide | omega) (by first | decide | omega)] at e33
          clear a33 b33
          exact ih4 _ _ (by first | decide | omega) (by first | decide | omega) (by first | decide | omega) (by first | decide | omega)
        refine hgo (fun p => Nat.beq p 4 || Nat.beq p 31) 28 4 _ _ _ ?_
        refine pz_nrc (c := 60) rfl ?_
        refine And.intro (by first | decide | omega) (And.intro (show _ < (1725 : Int) from by omega) ?_)
        intro v11 e11 a11 b11
        replace e11 : v11 = M 60 88 := e11
        have I11 : 0 ≤ v11 ∧ v11 ≤ 12 := by
          rw [e11]
          exact hI.1.1
        clear a11 b11
        refine And.intro (fun h12 => ?_) (fun h12 => ?_)
        · skip
          refine And.intro rfl ?_
          exact ⟨by omega, rfl⟩
        · skip
          refine And.intro (hI) ?_
          intro v18 M18 a18 b18 q18
          obtain ⟨q18, z18⟩ := q18
          subst z18
          clear a18 b18
          refine And.intro (fun h21 => ?_) (fun h21 => ?_)
          · skip
            replace q18 := q18.resolve_left (fun z => absurd (z.1.symm.trans h21) (by decide))
            clear h21 q18
            exact L31 _ _ _ _ (by first | decide | omega) (by first | decide | omega) (by first | decide | omega) (by first | decide | omega) (by first | decide | omega) (by first | decide | omega) (by first | decide | omega)
          · skip
            replace q18 := q18.resolve_right h21
            clear h21
            intro v26 e26 a26 b26
            have S26 := pz_shl1 (c := x2) (by first | decide | omega) (by first | decide | omega)
            rw [← e26] at S26
            exact L31 _ _ _ _ (by first | decide | omega) (by first | decide | omega) (by first | decide | omega) (by first | decide | omega) (by first | decide | omega) (by first | decide | omega) (by first | decide | omega)
    refine hgo (fun p => Nat.beq p 4 || Nat.beq p 31) 28 0 _ [] M ?_
    exact L4 _ _ _ (Nat.lt_succ_self _) (by first | decide | omega) (by first | decide | omega) (by first | decide | omega)
theorem v_X12_bridgeable {fr lo i : Nat} {own : String} (h1 : 4 + 1 ≤ fr) (h2 : 8 + (3 + 11) + 85 ≤ lo) (h3 : .methodLink own i yX12_bridgeable ∈ lw_tbl) : pz_cV fr lo own i k_X12_bridgeable :=
  pz_cVk (maxL := 3) (fr' := 4) (lo' := 85) 0 12 h_X12_bridgeable rfl ⟨(pz_nhc_RX12 yX12_bridgeable rfl).1, (pz_nhc_RX12 yX12_bridgeable rfl).2, pz_ds1⟩ ⟨pz_wq1668, pz_wq1667, pz_ws78, pz_wq13⟩ (Or.inl ⟨TX12, 28, rfl⟩) (fun a M _ h => by
    have h : (match (generalizing := false) a with | [.inr (.inr (12, th))] => pz_im M | _ => False) := h
    split at h
    · exact ⟨_, _, rfl⟩
    · exact h.elim) h1 h2 h3
end
section
noncomputable def k_X12_isGiving : pz_C := (2, 1, fun a M => (match a with | [.inr (.inr (12, th)), .inl i] => pz_im M | _ => False), fun a M r M' => (match a, r with | [.inr (.inr (12, th)), .inl i], some (.inl v) => ((v = 1 ∧ 0 ≤ i ∧ i < M 60 88 ∧ M 60 88 ≤ 12) ∨ v = 0) ∧ M = M' | _, _ => False))
noncomputable abbrev ct_X12_isGiving : List (Bool × Nat × pz_C) := [(true, 317, k_X12_isThere)]
set_option maxRecDepth 100000 in
set_option maxHeartbeats 4000000 in
theorem h_X12_isGiving : pz_H yX12_isGiving cX12_isGiving 2 (some .boolean) k_X12_isGiving 3 64 := by
  refine pz_mk (own := RX12) (tb := t_X12_isGiving) (fl := pz_flf fl_RX12) (ci := pz_cif ci_RX12) (ct := pz_ctf ct_X12_isGiving) (rz := true) (pz_pfc_RX12 yX12_isGiving rfl) rfl t_X12_isGiving_ok (pz_flk fl_RX12_ok) (pz_cik ci_RX12_ok) ?_ ?_ (Or.inr ⟨rfl, rfl⟩) ?_ ?_
  · exact fun i k' h => pz_ctk (l := ct_X12_isGiving) (P := fun b i k => b = true → pz_cV 3 64 RX12 i k) (List.forall_mem_cons.mpr ⟨(fun _ => v_X12_isThere (by decide) (by decide) pz_wq1415), fun _ h => absurd h List.not_mem_nil⟩) true i k' h rfl
  · exact fun i k' h => pz_ctk (l := ct_X12_isGiving) (P := fun b i k => b = false → (pz_cS 3 64 RX12 i k ∨ (k = pz_kac ∧ 1 ≤ 3 ∧ 60 ≤ 64 ∧ Cond.methodLink RX12 i arraycopyName ∈ pz_tbl))) (List.forall_mem_cons.mpr ⟨((fun z => by cases z)), fun _ h => absurd h List.not_mem_nil⟩) false i k' h rfl
  · intro a M hlen hpre
    obtain ⟨th, i, rfl, hpre⟩ : ∃ th i, a = [.inr (.inr (12, th)), .inl i] ∧ (pz_im M) := by
      have hpre : (match (generalizing := false) a with | [.inr (.inr (12, th)), .inl i] => pz_im M | _ => False) := hpre
      split at hpre
      · exact ⟨_, _, rfl, hpre⟩
      · exact hpre.elim
    exact Nat.le_of_ble_eq_true rfl
  · intro a M hlen hcan hM hpre Ok hgo
    obtain ⟨th, i, rfl, hpre⟩ : ∃ th i, a = [.inr (.inr (12, th)), .inl i] ∧ (pz_im M) := by
      have hpre : (match (generalizing := false) a with | [.inr (.inr (12, th)), .inl i] => pz_im M | _ => False) := hpre
      split at hpre
      · exact ⟨_, _, rfl, hpre⟩
      · exact hpre.elim
    obtain ⟨k_th, hc_th⟩ := pz_tlm hcan
    have k_th : pz_kd th = 12 ∧ th < 231 := k_th
    have R_th := pz_kd12 k_th.1
    subst R_th
    clear k_th
    obtain ⟨k_i, hc_i⟩ := pz_tlm hc_th
    have l_i : -2147483648 ≤ i := k_i.1
    have u_i : i ≤ 2147483647 := k_i.2
    have hI : pz_im M := hpre
    refine hgo (fun _ => false) 17 0 _ [] M ?_
    refine And.intro (hI) ?_
    intro v2 M2 a2 b2 q2
    obtain ⟨q2, z2⟩ := q2
    subst z2
    clear a2 b2
    refine And.intro (fun h5 => ?_) (fun h5 => ?_)
    · skip
      replace q2 := q2.resolve_left (fun z => absurd (z.1.symm.trans h5) (by decide))
      clear h5 q2
      refine And.intro (by first | decide | omega) ?_
      refine And.intro rfl ?_
      exact ⟨by omega, rfl⟩
    · skip
      replace q2 := q2.resolve_right h5
      clear h5
      refine pz_nrc (c := 60) rfl ?_
      intro v15 e15 a15 b15
      rw [pz_wi (by first | decide | omega) (by first | decide | omega)] at e15
      clear a15 b15
      have lo16 : (0 : Int) ≤ v15 := by omega
      have tn16 : (((v15).toNat : Nat) : Int) = v15 := Int.toNat_of_nonneg lo16
      refine And.intro (lo16) (And.intro (show _ < (1725 : Int) from by omega) ?_)
      intro v16 e16 a16 b16
      refine And.intro (fun h17 => ?_) (fun h17 => ?_)
      · skip
        refine And.intro (by first | decide | omega) ?_
        refine And.intro rfl ?_
        exact ⟨by omega, rfl⟩
      · skip
        refine And.intro (by first | decide | omega) ?_
        refine And.intro rfl ?_
        exact ⟨by omega, rfl⟩
theorem v_X12_isGiving {fr lo i : Nat} {own : String} (h1 : 3 + 1 ≤ fr) (h2 : 8 + (2 + 11) + 64 ≤ lo) (h3 : .methodLink own i yX12_isGiving ∈ lw_tbl) : pz_cV fr lo own i k_X12_isGiving :=
  pz_cVk (maxL := 2) (fr' := 3) (lo' := 64) 1 12 h_X12_isGiving rfl ⟨(pz_nhc_RX12 yX12_isGiving rfl).1, (pz_nhc_RX12 yX12_isGiving rfl).2, pz_ds9⟩ ⟨pz_wq1684, pz_wq1683, pz_ws81, pz_wq13⟩ (Or.inl ⟨TX12, 28, rfl⟩) (fun a M _ h => by
    have h : (match (generalizing := false) a with | [.inr (.inr (12, th)), .inl i] => pz_im M | _ => False) := h
    split at h
    · exact ⟨_, _, rfl⟩
    · exact h.elim) h1 h2 h3
noncomputable def k_X12_givenBy : pz_C := (2, 1, fun a M => (match a with | [.inr (.inr (12, th)), .inl x] => pz_im M | _ => False), fun a M r M' => (match a, r with | [.inr (.inr (12, th)), .inl x], some (.inl v) => (True) ∧ M = M' | _, _ => False))
noncomputable abbrev ct_X12_givenBy : List (Bool × Nat × pz_C) := [(true, 436, k_X12_isGiving), (false, 47, k_X12_lesser)]
set_option maxRecDepth 100000 in
set_option maxHeartbeats 4000000 in
theorem h_X12_givenBy : pz_H yX12_givenBy cX12_givenBy 4 (some .int) k_X12_givenBy 4 85 := by
  refine pz_mk (own := RX12) (tb := t_X12_givenBy) (fl := pz_flf fl_RX12) (ci := pz_cif ci_RX12) (ct := pz_ctf ct_X12_givenBy) (rz := false) (pz_pfc_RX12 yX12_givenBy rfl) rfl t_X12_givenBy_ok (pz_flk fl_RX12_ok) (pz_cik ci_RX12_ok) ?_ ?_ (Or.inl ⟨rfl, rfl⟩) ?_ ?_
  · exact fun i k' h => pz_ctk (l := ct_X12_givenBy) (P := fun b i k => b = true → pz_cV 4 85 RX12 i k) (List.forall_mem_cons.mpr ⟨(fun _ => v_X12_isGiving (by decide) (by decide) pz_wq1681), List.forall_mem_cons.mpr ⟨((fun z => by cases z)), fun _ h => absurd h List.not_mem_nil⟩⟩) true i k' h rfl
  · exact fun i k' h => pz_ctk (l := ct_X12_givenBy) (P := fun b i k => b = false → (pz_cS 4 85 RX12 i k ∨ (k = pz_kac ∧ 1 ≤ 4 ∧ 60 ≤ 85 ∧ Cond.methodLink RX12 i arraycopyName ∈ pz_tbl))) (List.forall_mem_cons.mpr ⟨((fun z => by cases z)), List.forall_mem_cons.mpr ⟨(fun _ => Or.inl (s_X12_lesser (by decide) (by decide) (Or.inl pz_wq1462))), fun _ h => absurd h List.not_mem_nil⟩⟩) false i k' h rfl
  · intro a M hlen hpre
    obtain ⟨th, x, rfl, hpre⟩ : ∃ th x, a = [.inr (.inr (12, th)), .inl x] ∧ (pz_im M) := by
      have hpre : (match (generalizing := false) a with | [.inr (.inr (12, th)), .inl x] => pz_im M | _ => False) := hpre
      split at hpre
      · exact ⟨_, _, rfl, hpre⟩
      · exact hpre.elim
    exact Nat.le_of_ble_eq_true rfl
  · intro a M hlen hcan hM hpre Ok hgo
    obtain ⟨th, x, rfl, hpre⟩ : ∃ th x, a = [.inr (.inr (12, th)), .inl x] ∧ (pz_im M) := by
      have hpre : (match (generalizing := false) a with | [.inr (.inr (12, th)), .inl x] => pz_im M | _ => False) := hpre
      split at hpre
      · exact ⟨_, _, rfl, hpre⟩
      · exact hpre.elim
    obtain ⟨k_th, hc_th⟩ := pz_tlm hcan
    have k_th : pz_kd th = 12 ∧ th < 231 := k_th
    have R_th := pz_kd12 k_th.1
    subst R_th
    clear k_th
    obtain ⟨k_x, hc_x⟩ := pz_tlm hc_th
    have l_x : -2147483648 ≤ x := k_x.1
    have u_x : x ≤ 2147483647 := k_x.2
    have hI : pz_im M := hpre
    have L4 : ∀ (fu : Nat) (x2 : Int) (x3 : Int), (12 - x3).toNat < fu → (0 ≤ x3) → Ok 4 [some (.inr (.inr (12, 1))), some (.inl x), some (.inl x2), some (.inl x3)] [] M := by
      intro fu
      induction fu with
      | zero => exact fun _ _ hn => absurd hn (Nat.not_lt_zero _)
      | succ fu ih4 =>
        intro x2 x3 hn4 g4_0
        have L41 : ∀ (x2 : Int) (x3 : Int) (s0 : Int) (s1 : Int), (0 ≤ x3) → (x3 < 12) → ((12 - x3).toNat < fu + 1) → Ok 41 [some (.inr (.inr (12, 1))), some (.inl x), some (.inl x2), some (.inl x3)] [.inl s1, .inl s0] M := by
          intro x2 x3 s0 s1 g41_0 g41_1 g41_2
          refine hgo (fun p => Nat.beq p 4 || Nat.beq p 41) 33 41 _ _ _ ?_
          intro v41 e41 a41 b41
          intro v43 e43 a43 b43
          rw [pz_wi (by first | decide | omega) (by first | decide | omega)] at e43
          clear a43 b43
          exact ih4 _ _ (by first | decide | omega) (by first | decide | omega)
        refine hgo (fun p => Nat.beq p 4 || Nat.beq p 41) 33 4 _ _ _ ?_
        refine pz_nrc (c := 60) rfl ?_
        refine And.intro (by first | decide | omega) (And.intro (show _ < (1725 : Int) from by omega) ?_)
        intro v11 e11 a11 b11
        replace e11 : v11 = M 60 88 := e11
        have I11 : 0 ≤ v11 ∧ v11 ≤ 12 := by
          rw [e11]
          exact hI.1.1
        clear a11 b11
        refine And.intro (fun h12 => ?_) (fun h12 => ?_)
        · skip
          refine And.intro rfl ?_
          exact ⟨trivial, rfl⟩
        · skip
          refine And.intro (hI) ?_
          intro v18 M18 a18 b18 q18
          obtain ⟨q18, z18⟩ := q18
          subst z18
          clear a18 b18
          refine And.intro (fun h21 => ?_) (fun h21 => ?_)
          · skip
            replace q18 := q18.resolve_left (fun z => absurd (z.1.symm.trans h21) (by decide))
            clear h21 q18
            exact L41 _ _ _ _ (by first | decide | omega) (by first | decide | omega) (by first | decide | omega)
          · skip
            replace q18 := q18.resolve_right h21
            clear h21
            refine pz_nrc (c := 60) rfl ?_
            intro v32 e32 a32 b32
            rw [pz_wi (by first | decide | omega) (by first | decide | omega)] at e32
            clear a32 b32
            have lo33 : (0 : Int) ≤ v32 := by omega
            have tn33 : (((v32).toNat : Nat) : Int) = v32 := Int.toNat_of_nonneg lo33
            refine And.intro (lo33) (And.intro (show _ < (1725 : Int) from by omega) ?_)
            intro v33 e33 a33 b33
            refine And.intro (True.intro) ?_
            intro v34 M34 a34 b34 q34
            obtain ⟨q34, z34⟩ := q34
            subst z34
            replace q34 : v34 ≤ x ∧ v34 ≤ v33 := by omega
            exact L41 _ _ _ _ (by first | decide | omega) (by first | decide | omega) (by first | decide | omega)
    refine hgo (fun p => Nat.beq p 4 || Nat.beq p 41) 33 0 _ [] M ?_
    exact L4 _ _ _ (Nat.lt_succ_self _) (by first | decide | omega)
theorem v_X12_givenBy {fr lo i : Nat} {own : String} (h1 : 4 + 1 ≤ fr) (h2 : 8 + (4 + 11) + 85 ≤ lo) (h3 : .methodLink own i yX12_givenBy ∈ lw_tbl) : pz_cV fr lo own i k_X12_givenBy :=
  pz_cVk (maxL := 4) (fr' := 4) (lo' := 85) 1 12 h_X12_givenBy rfl ⟨(pz_nhc_RX12 yX12_givenBy rfl).1, (pz_nhc_RX12 yX12_givenBy rfl).2, pz_ds5⟩ ⟨pz_wq1680, pz_wq1679, pz_ws80, pz_wq13⟩ (Or.inl ⟨TX12, 28, rfl⟩) (fun a M _ h => by
    have h : (match (generalizing := false) a with | [.inr (.inr (12, th)), .inl x] => pz_im M | _ => False) := h
    split at h
    · exact ⟨_, _, rfl⟩
    · exact h.elim) h1 h2 h3
noncomputable def k_X12_share : pz_C := (3, 1, fun a M => (match a with | [.inr (.inr (12, th)), .inl n, .inl i] => pz_im M | _ => False), fun a M r M' => (match a, r with | [.inr (.inr (12, th)), .inl n, .inl i], some (.inl v) => (True) ∧ M = M' | _, _ => False))
noncomputable abbrev ct_X12_share : List (Bool × Nat × pz_C) := [(false, 54, k_X12_isIn), (true, 58, k_X12_isLink), (true, 439, k_X12_givenBy), (true, 436, k_X12_isGiving)]
set_option maxRecDepth 100000 in
set_option maxHeartbeats 4000000 in
theorem h_X12_share : pz_H yX12_share cX12_share 6 (some .int) k_X12_share 5 108 := by
  refine pz_mk (own := RX12) (tb := t_X12_share) (fl := pz_flf fl_RX12) (ci := pz_cif ci_RX12) (ct := pz_ctf ct_X12_share) (rz := false) (pz_pfc_RX12 yX12_share rfl) rfl t_X12_share_ok (pz_flk fl_RX12_ok) (pz_cik ci_RX12_ok) ?_ ?_ (Or.inl ⟨rfl, rfl⟩) ?_ ?_
  · exact fun i k' h => pz_ctk (l := ct_X12_share) (P := fun b i k => b = true → pz_cV 5 108 RX12 i k) (List.forall_mem_cons.mpr ⟨((fun z => by cases z)), List.forall_mem_cons.mpr ⟨(fun _ => v_X12_isLink (by decide) (by decide) pz_wq1224), List.forall_mem_cons.mpr ⟨(fun _ => v_X12_givenBy (by decide) (by decide) pz_wq1677), List.forall_mem_cons.mpr ⟨(fun _ => v_X12_isGiving (by decide) (by decide) pz_wq1681), fun _ h => absurd h List.not_mem_nil⟩⟩⟩⟩) true i k' h rfl
  · exact fun i k' h => pz_ctk (l := ct_X12_share) (P := fun b i k => b = false → (pz_cS 5 108 RX12 i k ∨ (k = pz_kac ∧ 1 ≤ 5 ∧ 60 ≤ 108 ∧ Cond.methodLink RX12 i arraycopyName ∈ pz_tbl))) (List.forall_mem_cons.mpr ⟨(fun _ => Or.inl (s_X12_isIn (by decide) (by decide) (Or.inl pz_wq1217))), List.forall_mem_cons.mpr ⟨((fun z => by cases z)), List.forall_mem_cons.mpr ⟨((fun z => by cases z)), List.forall_mem_cons.mpr ⟨((fun z => by cases z)), fun _ h => absurd h List.not_mem_nil⟩⟩⟩⟩) false i k' h rfl
  · intro a M hlen hpre
    obtain ⟨th, n, i, rfl, hpre⟩ : ∃ th n i, a = [.inr (.inr (12, th)), .inl n, .inl i] ∧ (pz_im M) := by
      have hpre : (match (generalizing := false) a with | [.inr (.inr (12, th)), .inl n, .inl i] => pz_im M | _ => False) := hpre
      split at hpre
      · exact ⟨_, _, _, rfl, hpre⟩
      · exact hpre.elim
    exact Nat.le_of_ble_eq_true rfl
  · intro a M hlen hcan hM hpre Ok hgo
    obtain ⟨th, n, i, rfl, hpre⟩ : ∃ th n i, a = [.inr (.inr (12, th)), .inl n, .inl i] ∧ (pz_im M) := by
      have hpre : (match (generalizing := false) a with | [.inr (.inr (12, th)), .inl n, .inl i] => pz_im M | _ => False) := hpre
      split at hpre
      · exact ⟨_, _, _, rfl, hpre⟩
      · exact hpre.elim
    obtain ⟨k_th, hc_th⟩ := pz_tlm hcan
    have k_th : pz_kd th = 12 ∧ th < 231 := k_th
    have R_th := pz_kd12 k_th.1
    subst R_th
    clear k_th
    obtain ⟨k_n, hc_n⟩ := pz_tlm hc_th
    have l_n : -2147483648 ≤ n := k_n.1
    have u_n : n ≤ 2147483647 := k_n.2
    obtain ⟨k_i, hc_i⟩ := pz_tlm hc_n
    have l_i : -2147483648 ≤ i := k_i.1
    have u_i : i ≤ 2147483647 := k_i.2
    have hI : pz_im M := hpre
    have L70 : ∀ (fu : Nat) (x3 : Int) (x4 : Int) (x5 : Int), (12 - x5).toNat < fu → (0 ≤ x5) → (i < 12) → Ok 70 [some (.inr (.inr (12, 1))), some (.inl n), some (.inl i), some (.inl x3), some (.inl x4), some (.inl x5)] [] M := by
      intro fu
      induction fu with
      | zero => exact fun _ _ _ hn => absurd hn (Nat.not_lt_zero _)
      | succ fu ih70 =>
        intro x3 x4 x5 hn70 g70_0 g70_1
        have L106 : ∀ (x3 : Int) (x4 : Int) (x5 : Int) (s0 : Int) (s1 : Int), (0 ≤ x5) → (x5 < 12) → ((12 - x5).toNat < fu + 1) → Ok 106 [some (.inr (.inr (12, 1))), some (.inl n), some (.inl i), some (.inl x3), some (.inl x4), some (.inl x5)] [.inl s1, .inl s0] M := by
          intro x3 x4 x5 s0 s1 g106_0 g106_1 g106_2
          refine hgo (fun p => Nat.beq p 34 || Nat.beq p 58 || Nat.beq p 70 || Nat.beq p 106) 92 106 _ _ _ ?_
          intro v106 e106 a106 b106
          intro v109 e109 a109 b109
          rw [pz_wi (by first | decide | omega) (by first | decide | omega)] at e109
          clear a109 b109
          exact ih70 _ _ _ (by first | decide | omega) (by first | decide | omega) (by first | decide | omega)
        refine hgo (fun p => Nat.beq p 34 || Nat.beq p 58 || Nat.beq p 70 || Nat.beq p 106) 92 70 _ _ _ ?_
        refine And.intro (fun h73 => ?_) (fun h73 => ?_)
        · skip
          refine And.intro (hI) ?_
          intro v117 M117 a117 b117 q117
          obtain ⟨q117, z117⟩ := q117
          subst z117
          clear a117 b117
          refine And.intro (fun h120 => ?_) (fun h120 => ?_)
          · skip
            replace q117 := q117.resolve_right h120
            clear h120
            refine pz_nrc (c := 60) rfl ?_
            intro v134 e134 a134 b134
            rw [pz_wi (by first | decide | omega) (by first | decide | omega)] at e134
            clear a134 b134
            have lo135 : (0 : Int) ≤ v134 := by omega
            have tn135 : (((v134).toNat : Nat) : Int) = v134 := Int.toNat_of_nonneg lo135
            refine And.intro (lo135) (And.intro (show _ < (1725 : Int) from by omega) ?_)
            intro v135 e135 a135 b135
            refine And.intro (fun h137 => ?_) (fun h137 => ?_)
            · skip
              refine And.intro (fun h154 => ?_) (fun h154 => ?_)
              · skip
                refine And.intro rfl ?_
                exact ⟨trivial, rfl⟩
              · skip
                intro v159 e159 a159 b159
                refine And.intro rfl ?_
                exact ⟨trivial, rfl⟩
            · skip
              refine pz_nrc (c := 60) rfl ?_
              intro v147 e147 a147 b147
              rw [pz_wi (by first | decide | omega) (by first | decide | omega)] at e147
              clear a147 b147
              have lo148 : (0 : Int) ≤ v147 := by omega
              have tn148 : (((v147).toNat : Nat) : Int) = v147 := Int.toNat_of_nonneg lo148
              refine And.intro (lo148) (And.intro (show _ < (1725 : Int) from by omega) ?_)
              intro v148 e148 a148 b148
              refine And.intro rfl ?_
              exact ⟨trivial, rfl⟩
          · skip
            replace q117 := q117.resolve_left (fun z => absurd (z.1.symm.trans h120) (by decide))
            clear h120 q117
            refine And.intro rfl ?_
            exact ⟨trivial, rfl⟩
        · skip
          refine And.intro (hI) ?_
          intro v81 M81 a81 b81 q81
          obtain ⟨q81, z81⟩ := q81
          subst z81
          clear a81 b81
          refine And.intro (fun h84 => ?_) (fun h84 => ?_)
          · skip
            replace q81 := q81.resolve_left (fun z => absurd (z.1.symm.trans h84) (by decide))
            clear h84 q81
            exact L106 _ _ _ _ _ (by first | decide | omega) (by first | decide | omega) (by first | decide | omega)
          · skip
            replace q81 := q81.resolve_right h84
            clear h84
            refine pz_nrc (c := 60) rfl ?_
            intro v95 e95 a95 b95
            rw [pz_wi (by first | decide | omega) (by first | decide | omega)] at e95
            clear a95 b95
            have lo96 : (0 : Int) ≤ v95 := by omega
            have tn96 : (((v95).toNat : Nat) : Int) = v95 := Int.toNat_of_nonneg lo96
            refine And.intro (lo96) (And.intro (show _ < (1725 : Int) from by omega) ?_)
            intro v96 e96 a96 b96
            refine And.intro (fun h98 => ?_) (fun h98 => ?_)
            · skip
              exact L106 _ _ _ _ _ (by first | decide | omega) (by first | decide | omega) (by first | decide | omega)
            · skip
              exact L106 _ _ _ _ _ (by first | decide | omega) (by first | decide | omega) (by first | decide | omega)
    have L58 : ∀ (x3 : Int) (d4 : Option pz_V) (d5 : Option pz_V), (0 ≤ i) → (i < 12) → Ok 58 [some (.inr (.inr (12, 1))), some (.inl n), some (.inl i), some (.inl x3), d4, d5] [] M := by
      intro x3 d4 d5 g58_0 g58_1
      refine hgo (fun p => Nat.beq p 34 || Nat.beq p 58 || Nat.beq p 70 || Nat.beq p 106) 92 58 _ _ _ ?_
      refine And.intro (hI) ?_
      intro v61 M61 a61 b61 q61
      obtain ⟨q61, z61⟩ := q61
      subst z61
      intro v64 e64 a64 b64
      exact L70 _ _ _ _ (Nat.lt_succ_self _) (by first | decide | omega) (by first | decide | omega)
    have L34 : ∀ (fu : Nat) (x3 : Int) (d4 : Option pz_V) (d5 : Option pz_V), (999 - x3).toNat < fu → (0 ≤ x3) → (0 ≤ i) → (i < 12) → Ok 34 [some (.inr (.inr (12, 1))), some (.inl n), some (.inl i), some (.inl x3), d4, d5] [] M := by
      intro fu
      induction fu with
      | zero => exact fun _ _ _ hn => absurd hn (Nat.not_lt_zero _)
      | succ fu ih34 =>
        intro x3 d4 d5 hn34 g34_0 g34_1 g34_2
        refine hgo (fun p => Nat.beq p 34 || Nat.beq p 58 || Nat.beq p 70 || Nat.beq p 106) 92 34 _ _ _ ?_
        refine And.intro (fun h38 => ?_) (fun h38 => ?_)
        · skip
          exact L58 _ _ _ (by first | decide | omega) (by first | decide | omega)
        · skip
          intro v44 e44 a44 b44
          rw [pz_wi (by first | decide | omega) (by first | decide | omega)] at e44
          clear a44 b44
          refine And.intro (hI) ?_
          intro v45 M45 a45 b45 q45
          obtain ⟨q45, z45⟩ := q45
          subst z45
          refine And.intro (fun h49 => ?_) (fun h49 => ?_)
          · skip
            exact L58 _ _ _ (by first | decide | omega) (by first | decide | omega)
          · skip
            intro v52 e52 a52 b52
            rw [pz_wi (by first | decide | omega) (by first | decide | omega)] at e52
            clear a52 b52
            exact ih34 _ _ _ (by first | decide | omega) (by first | decide | omega) (by first | decide | omega) (by first | decide | omega)
    refine hgo (fun p => Nat.beq p 34 || Nat.beq p 58 || Nat.beq p 70 || Nat.beq p 106) 92 0 _ [] M ?_
    refine And.intro (True.intro) ?_
    intro v5 M5 a5 b5 q5
    obtain ⟨q5, z5⟩ := q5
    subst z5
    clear a5 b5
    refine And.intro (fun h8 => ?_) (fun h8 => ?_)
    · skip
      replace q5 := q5.resolve_left (fun z => absurd (z.1.symm.trans h8) (by decide))
      clear h8
      refine And.intro rfl ?_
      exact ⟨trivial, rfl⟩
    · skip
      replace q5 := q5.resolve_right (fun z => h8 z.1)
      clear h8
      refine And.intro (hI) ?_
      intro v13 M13 a13 b13 q13
      obtain ⟨q13, z13⟩ := q13
      subst z13
      clear a13 b13
      refine And.intro (fun h16 => ?_) (fun h16 => ?_)
      · skip
        replace q13 := q13.resolve_left (fun z => absurd (z.1.symm.trans h16) (by decide))
        clear h16
        refine And.intro rfl ?_
        exact ⟨trivial, rfl⟩
      · skip
        replace q13 := q13.resolve_right (fun z => h16 z.1)
        clear h16
        refine And.intro (hI) ?_
        intro v23 M23 a23 b23 q23
        obtain ⟨q23, z23⟩ := q23
        subst z23
        refine And.intro (fun h27 => ?_) (fun h27 => ?_)
        · skip
          exact L34 _ _ _ _ (Nat.lt_succ_self _) (by first | decide | omega) (by first | decide | omega) (by first | decide | omega)
        · skip
          refine And.intro rfl ?_
          exact ⟨trivial, rfl⟩
theorem v_X12_share {fr lo i : Nat} {own : String} (h1 : 5 + 1 ≤ fr) (h2 : 8 + (6 + 11) + 108 ≤ lo) (h3 : .methodLink own i yX12_share ∈ lw_tbl) : pz_cV fr lo own i k_X12_share :=
  pz_cVk (maxL := 6) (fr' := 5) (lo' := 108) 2 12 h_X12_share rfl ⟨(pz_nhc_RX12 yX12_share rfl).1, (pz_nhc_RX12 yX12_share rfl).2, pz_ds10⟩ ⟨pz_wq1676, pz_wq1674, pz_wq1675, pz_wq13⟩ (Or.inl ⟨TX12, 28, rfl⟩) (fun a M _ h => by
    have h : (match (generalizing := false) a with | [.inr (.inr (12, th)), .inl n, .inl i] => pz_im M | _ => False) := h
    split at h
    · exact ⟨_, _, rfl⟩
    · exact h.elim) h1 h2 h3



noncomputable def k_X12_bluff : pz_C := (4, 1, fun a M => (match a with | [.inr (.inr (12, th)), .inl p, .inl q, .inl w] => pz_im M | _ => False), fun a M r M' => (match a, r with | [.inr (.inr (12, th)), .inl p, .inl q, .inl w], some (.inl v) => (v = (if 0 ≤ p ∧ p ≤ 1000 ∧ 0 ≤ q ∧ q ≤ 1000 ∧ 0 ≤ w ∧ w ≤ 1000 ∧ 0 < p * q + (1000 - p) * w then p * q * 1000000 / (p * q + (1000 - p) * w) else -1)) ∧ M = M' | _, _ => False))
noncomputable abbrev ct_X12_bluff : List (Bool × Nat × pz_C) := [(false, 54, k_X12_isIn)]
set_option maxRecDepth 100000 in
set_option maxHeartbeats 4000000 in
theorem h_X12_bluff : pz_H yX12_bluff cX12_bluff 8 (some .int) k_X12_bluff 1 22 := by
  refine pz_mk (own := RX12) (tb := t_X12_bluff) (fl := pz_flf fl_RX12) (ci := pz_cif ci_RX12) (ct := pz_ctf ct_X12_bluff) (rz := false) (pz_pfc_RX12 yX12_bluff rfl) rfl t_X12_bluff_ok (pz_flk fl_RX12_ok) (pz_cik ci_RX12_ok) ?_ ?_ (Or.inl ⟨rfl, rfl⟩) ?_ ?_
  · exact fun i k' h => pz_ctk (l := ct_X12_bluff) (P := fun b i k => b = true → pz_cV 1 22 RX12 i k) (List.forall_mem_cons.mpr ⟨((fun z => by cases z)), fun _ h => absurd h List.not_mem_nil⟩) true i k' h rfl
  · exact fun i k' h => pz_ctk (l := ct_X12_bluff) (P := fun b i k => b = false → (pz_cS 1 22 RX12 i k ∨ (k = pz_kac ∧ 1 ≤ 1 ∧ 60 ≤ 22 ∧ Cond.methodLink RX12 i arraycopyName ∈ pz_tbl))) (List.forall_mem_cons.mpr ⟨(fun _ => Or.inl (s_X12_isIn (by decide) (by decide) (Or.inl pz_wq1217))), fun _ h => absurd h List.not_mem_nil⟩) false i k' h rfl
  · intro a M hlen hpre
    obtain ⟨th, p, q, w, rfl, hpre⟩ : ∃ th p q w, a = [.inr (.inr (12, th)), .inl p, .inl q, .inl w] ∧ (pz_im M) := by
      have hpre : (match (generalizing := false) a with | [.inr (.inr (12, th)), .inl p, .inl q, .inl w] => pz_im M | _ => False) := hpre
      split at hpre
      · exact ⟨_, _, _, _, rfl, hpre⟩
      · exact hpre.elim
    exact Nat.le_of_ble_eq_true rfl
  · intro a M hlen hcan hM hpre Ok hgo
    obtain ⟨th, p, q, w, rfl, hpre⟩ : ∃ th p q w, a = [.inr (.inr (12, th)), .inl p, .inl q, .inl w] ∧ (pz_im M) := by
      have hpre : (match (generalizing := false) a with | [.inr (.inr (12, th)), .inl p, .inl q, .inl w] => pz_im M | _ => False) := hpre
      split at hpre
      · exact ⟨_, _, _, _, rfl, hpre⟩
      · exact hpre.elim
    obtain ⟨k_th, hc_th⟩ := pz_tlm hcan
    have k_th : pz_kd th = 12 ∧ th < 231 := k_th
    have R_th := pz_kd12 k_th.1
    subst R_th
    clear k_th
    obtain ⟨k_p, hc_p⟩ := pz_tlm hc_th
    have l_p : -2147483648 ≤ p := k_p.1
    have u_p : p ≤ 2147483647 := k_p.2
    obtain ⟨k_q, hc_q⟩ := pz_tlm hc_p
    have l_q : -2147483648 ≤ q := k_q.1
    have u_q : q ≤ 2147483647 := k_q.2
    obtain ⟨k_w, hc_w⟩ := pz_tlm hc_q
    have l_w : -2147483648 ≤ w := k_w.1
    have u_w : w ≤ 2147483647 := k_w.2
    have hI : pz_im M := hpre
    refine hgo (fun _ => false) 48 0 _ [] M ?_
    refine And.intro (True.intro) ?_
    intro v5 M5 a5 b5 q5
    obtain ⟨q5, z5⟩ := q5
    subst z5
    clear a5 b5
    refine And.intro (fun h8 => ?_) (fun h8 => ?_)
    · skip
      replace q5 := q5.resolve_left (fun z => absurd (z.1.symm.trans h8) (by decide))
      clear h8
      refine And.intro rfl ?_
      refine ⟨?_, rfl⟩
      by_cases h9 : 0 ≤ p ∧ p ≤ 1000 ∧ 0 ≤ q ∧ q ≤ 1000 ∧ 0 ≤ w ∧ w ≤ 1000 ∧ 0 < p * q + (1000 - p) * w
      · rw [if_pos h9]
        first
          | (exfalso; omega)
          | (have F9 := pz_blf h9
             have E72 : v72 = p * q * 1000000 := by omega
             have E53 : v53 = p * q + (1000 - p) * w := by omega
             rw [E72, E53, F9.1, pz_wli (by first | decide | omega) (by first | decide | omega)] at e75
             rw [pz_wi (by first | decide | omega) (by first | decide | omega)] at e76
             exact e76.trans e75)
      · first
          | (rw [if_neg h9]; done)
          | (exfalso; omega)
    · skip
      replace q5 := q5.resolve_right (fun z => h8 z.1)
      clear h8
      refine And.intro (True.intro) ?_
      intro v16 M16 a16 b16 q16
      obtain ⟨q16, z16⟩ := q16
      subst z16
      clear a16 b16
      refine And.intro (fun h19 => ?_) (fun h19 => ?_)
      · skip
        replace q16 := q16.resolve_left (fun z => absurd (z.1.symm.trans h19) (by decide))
        clear h19
        refine And.intro rfl ?_
        refine ⟨?_, rfl⟩
        by_cases h9 : 0 ≤ p ∧ p ≤ 1000 ∧ 0 ≤ q ∧ q ≤ 1000 ∧ 0 ≤ w ∧ w ≤ 1000 ∧ 0 < p * q + (1000 - p) * w
        · rw [if_pos h9]
          first
            | (exfalso; omega)
            | (have F9 := pz_blf h9
               have E72 : v72 = p * q * 1000000 := by omega
               have E53 : v53 = p * q + (1000 - p) * w := by omega
               rw [E72, E53, F9.1, pz_wli (by first | decide | omega) (by first | decide | omega)] at e75
               rw [pz_wi (by first | decide | omega) (by first | decide | omega)] at e76
               exact e76.trans e75)
        · first
            | (rw [if_neg h9]; done)
            | (exfalso; omega)
      · skip
        replace q16 := q16.resolve_right (fun z => h19 z.1)
        clear h19
        refine And.intro (True.intro) ?_
        intro v27 M27 a27 b27 q27
        obtain ⟨q27, z27⟩ := q27
        subst z27
        clear a27 b27
        refine And.intro (fun h30 => ?_) (fun h30 => ?_)
        · skip
          replace q27 := q27.resolve_right (fun z => h30 z.1)
          clear h30
          intro v39 e39 a39 b39
          have B39 := pz_m3 (x := p) (y := q) (by first | decide | omega) (by first | decide | omega) (by first | decide | omega) (by first | decide | omega)
          rw [pz_wli (by first | decide | omega) (by first | decide | omega)] at e39
          intro v48 e48 a48 b48
          rw [pz_wi (by first | decide | omega) (by first | decide | omega)] at e48
          clear a48 b48
          intro v52 e52 a52 b52
          have B52 := pz_m3 (x := v48) (y := w) (by first | decide | omega) (by first | decide | omega) (by first | decide | omega) (by first | decide | omega)
          rw [pz_wli (by first | decide | omega) (by first | decide | omega)] at e52
          rw [e48] at e52 B52
          intro v53 e53 a53 b53
          rw [pz_wli (by first | decide | omega) (by first | decide | omega)] at e53
          clear a53 b53
          refine And.intro (fun h59 => ?_) ?_
          · skip
            refine And.intro (fun h60 => ?_) (fun h60 => ?_)
            · skip
              intro v72 e72 a72 b72
              rw [pz_wli (by first | decide | omega) (by first | decide | omega)] at e72
              clear a72 b72
              refine And.intro (by first | decide | omega) ?_
              intro v75 e75 a75 b75
              intro v76 e76 a76 b76
              refine And.intro rfl ?_
              refine ⟨?_, rfl⟩
              by_cases h9 : 0 ≤ p ∧ p ≤ 1000 ∧ 0 ≤ q ∧ q ≤ 1000 ∧ 0 ≤ w ∧ w ≤ 1000 ∧ 0 < p * q + (1000 - p) * w
              · rw [if_pos h9]
                first
                  | (exfalso; omega)
                  | (have F9 := pz_blf h9
                     have E72 : v72 = p * q * 1000000 := by omega
                     have E53 : v53 = p * q + (1000 - p) * w := by omega
                     rw [E72, E53, F9.1, pz_wli (by first | decide | omega) (by first | decide | omega)] at e75
                     rw [pz_wi (by first | decide | omega) (by first | decide | omega)] at e76
                     exact e76.trans e75)
              · first
                  | (rw [if_neg h9]; done)
                  | (exfalso; omega)
            · skip
              exact absurd h60 (by decide)
          refine And.intro (fun h59 => ?_) ?_
          · skip
            refine And.intro (fun h60 => ?_) (fun h60 => ?_)
            · skip
              exact absurd h60 (by decide)
            · skip
              refine And.intro rfl ?_
              refine ⟨?_, rfl⟩
              by_cases h9 : 0 ≤ p ∧ p ≤ 1000 ∧ 0 ≤ q ∧ q ≤ 1000 ∧ 0 ≤ w ∧ w ≤ 1000 ∧ 0 < p * q + (1000 - p) * w
              · rw [if_pos h9]
                first
                  | (exfalso; omega)
                  | (have F9 := pz_blf h9
                     have E72 : v72 = p * q * 1000000 := by omega
                     have E53 : v53 = p * q + (1000 - p) * w := by omega
                     rw [E72, E53, F9.1, pz_wli (by first | decide | omega) (by first | decide | omega)] at e75
                     rw [pz_wi (by first | decide | omega) (by first | decide | omega)] at e76
                     exact e76.trans e75)
              · first
                  | (rw [if_neg h9]; done)
                  | (exfalso; omega)
          intro h59
          refine And.intro (fun h60 => ?_) (fun h60 => ?_)
          · skip
            intro v72 e72 a72 b72
            rw [pz_wli (by first | decide | omega) (by first | decide | omega)] at e72
            clear a72 b72
            refine And.intro (by first | decide | omega) ?_
            intro v75 e75 a75 b75
            intro v76 e76 a76 b76
            refine And.intro rfl ?_
            refine ⟨?_, rfl⟩
            by_cases h9 : 0 ≤ p ∧ p ≤ 1000 ∧ 0 ≤ q ∧ q ≤ 1000 ∧ 0 ≤ w ∧ w ≤ 1000 ∧ 0 < p * q + (1000 - p) * w
            · rw [if_pos h9]
              first
                | (exfalso; omega)
                | (have F9 := pz_blf h9
                   have E72 : v72 = p * q * 1000000 := by omega
                   have E53 : v53 = p * q + (1000 - p) * w := by omega
                   rw [E72, E53, F9.1, pz_wli (by first | decide | omega) (by first | decide | omega)] at e75
                   rw [pz_wi (by first | decide | omega) (by first | decide | omega)] at e76
                   exact e76.trans e75)
            · first
                | (rw [if_neg h9]; done)
                | (exfalso; omega)
          · skip
            exact absurd h60 (by decide)
        · skip
          replace q27 := q27.resolve_left (fun z => absurd (z.1.symm.trans h30) (by decide))
          clear h30
          refine And.intro rfl ?_
          refine ⟨?_, rfl⟩
          by_cases h9 : 0 ≤ p ∧ p ≤ 1000 ∧ 0 ≤ q ∧ q ≤ 1000 ∧ 0 ≤ w ∧ w ≤ 1000 ∧ 0 < p * q + (1000 - p) * w
          · rw [if_pos h9]
            first
              | (exfalso; omega)
              | (have F9 := pz_blf h9
                 have E72 : v72 = p * q * 1000000 := by omega
                 have E53 : v53 = p * q + (1000 - p) * w := by omega
                 rw [E72, E53, F9.1, pz_wli (by first | decide | omega) (by first | decide | omega)] at e75
                 rw [pz_wi (by first | decide | omega) (by first | decide | omega)] at e76
                 exact e76.trans e75)
          · first
              | (rw [if_neg h9]; done)
              | (exfalso; omega)
theorem v_X12_bluff {fr lo i : Nat} {own : String} (h1 : 1 + 1 ≤ fr) (h2 : 8 + (8 + 11) + 22 ≤ lo) (h3 : .methodLink own i yX12_bluff ∈ lw_tbl) : pz_cV fr lo own i k_X12_bluff :=
  pz_cVk (maxL := 8) (fr' := 1) (lo' := 22) 3 12 h_X12_bluff rfl ⟨(pz_nhc_RX12 yX12_bluff rfl).1, (pz_nhc_RX12 yX12_bluff rfl).2, pz_ds14⟩ ⟨pz_wq1699, pz_wq1697, pz_wq1698, pz_wq13⟩ (Or.inl ⟨TX12, 28, rfl⟩) (fun a M _ h => by
    have h : (match (generalizing := false) a with | [.inr (.inr (12, th)), .inl p, .inl q, .inl w] => pz_im M | _ => False) := h
    split at h
    · exact ⟨_, _, rfl⟩
    · exact h.elim) h1 h2 h3
end
