noncomputable def k_X12_aRow : pz_C := (1, 1, fun a M => (match a with | [.inr (.inr (12, th))] => pz_im M ∧ M 1 15 < 16 ∧ (1 ≤ M 1 12 ∧ M 1 12 ≤ 3) ∧ M 1 18 = pq_bg (M 1 12) | _ => False), fun a M r M' => (match a, r with | [.inr (.inr (12, th))], some (.inl v) => (((v = 0 ∨ v = 1) ∧ (M 1 12 = 2 → (∀ j : Nat, (j : Int) < 3 * M 1 15 → M' 66 j = M 66 j) ∧ (v = 0 ∨ (v = 1 ∧ 0 ≤ M' 66 (3 * M 1 15).toNat ∧ M' 66 (3 * M 1 15).toNat ≤ 11)))) ∧ pq_aw M M' v) ∧ pz_rl pz_Q8 M M' | _, _ => False))
noncomputable abbrev ct_X12_aRow : List (Bool × Nat × pz_C) := [(true, 248, k_X12_aPlan), (true, 251, k_X12_aPhone), (true, 254, k_X12_aRecord), (true, 223, k_X12_need)]
set_option maxRecDepth 100000 in
set_option maxHeartbeats 4000000 in
theorem h_X12_aRow : pz_H yX12_aRow cX12_aRow 1 (some .boolean) k_X12_aRow 12 259 := by
  refine pz_mk (own := RX12) (tb := t_X12_aRow) (fl := pz_flf fl_RX12) (ci := pz_cif ci_RX12) (ct := pz_ctf ct_X12_aRow) (rz := true) (pz_pfc_RX12 yX12_aRow rfl) rfl t_X12_aRow_ok (pz_flk fl_RX12_ok) (pz_cik ci_RX12_ok) ?_ ?_ (Or.inr ⟨rfl, rfl⟩) ?_ ?_
  · exact fun i k' h => pz_ctk (l := ct_X12_aRow) (P := fun b i k => b = true → pz_cV 12 259 RX12 i k) (List.forall_mem_cons.mpr ⟨(fun _ => v_X12_aPlan (by decide) (by decide) pz_wq1359), List.forall_mem_cons.mpr ⟨(fun _ => v_X12_aPhone (by decide) (by decide) pz_wq1375), List.forall_mem_cons.mpr ⟨(fun _ => v_X12_aRecord (by decide) (by decide) pz_wq1379), List.forall_mem_cons.mpr ⟨(fun _ => v_X12_need (by decide) (by decide) pz_wq1347), fun _ h => absurd h List.not_mem_nil⟩⟩⟩⟩) true i k' h rfl
  · exact fun i k' h => pz_ctk (l := ct_X12_aRow) (P := fun b i k => b = false → (pz_cS 12 259 RX12 i k ∨ (k = pz_kac ∧ 1 ≤ 12 ∧ 60 ≤ 259 ∧ Cond.methodLink RX12 i arraycopyName ∈ pz_tbl))) (List.forall_mem_cons.mpr ⟨((fun z => by cases z)), List.forall_mem_cons.mpr ⟨((fun z => by cases z)), List.forall_mem_cons.mpr ⟨((fun z => by cases z)), List.forall_mem_cons.mpr ⟨((fun z => by cases z)), fun _ h => absurd h List.not_mem_nil⟩⟩⟩⟩) false i k' h rfl
  · intro a M hlen hpre
    obtain ⟨th, rfl, hpre⟩ : ∃ th, a = [.inr (.inr (12, th))] ∧ (pz_im M ∧ M 1 15 < 16 ∧ (1 ≤ M 1 12 ∧ M 1 12 ≤ 3) ∧ M 1 18 = pq_bg (M 1 12)) := by
      have hpre : (match (generalizing := false) a with | [.inr (.inr (12, th))] => pz_im M ∧ M 1 15 < 16 ∧ (1 ≤ M 1 12 ∧ M 1 12 ≤ 3) ∧ M 1 18 = pq_bg (M 1 12) | _ => False) := hpre
      split at hpre
      · exact ⟨_, rfl, hpre⟩
      · exact hpre.elim
    exact Nat.le_of_ble_eq_true rfl
  · intro a M hlen hcan hM hpre Ok hgo
    obtain ⟨th, rfl, hpre⟩ : ∃ th, a = [.inr (.inr (12, th))] ∧ (pz_im M ∧ M 1 15 < 16 ∧ (1 ≤ M 1 12 ∧ M 1 12 ≤ 3) ∧ M 1 18 = pq_bg (M 1 12)) := by
      have hpre : (match (generalizing := false) a with | [.inr (.inr (12, th))] => pz_im M ∧ M 1 15 < 16 ∧ (1 ≤ M 1 12 ∧ M 1 12 ≤ 3) ∧ M 1 18 = pq_bg (M 1 12) | _ => False) := hpre
      split at hpre
      · exact ⟨_, rfl, hpre⟩
      · exact hpre.elim
    obtain ⟨k_th, hc_th⟩ := pz_tlm hcan
    have k_th : pz_kd th = 12 ∧ th < 231 := k_th
    have R_th := pz_kd12 k_th.1
    subst R_th
    clear k_th
    have hI : pz_im M := hpre.1
    have hI0 := hI
    have hS : pz_rl pz_Q8 M M := pz_rl.rf
    have I15 := hI.2.1.2.2.2.2.2.2.2.1
    obtain ⟨-, pr1, pr2, pr3⟩ := hpre
    refine hgo (fun _ => false) 29 0 _ [] M ?_
    intro v1 e1 a1 b1
    refine And.intro (fun h5 => ?_) (fun h5 => ?_)
    · skip
      intro v19 e19 a19 b19
      refine And.intro (fun h23 => ?_) (fun h23 => ?_)
      · skip
        refine And.intro (And.intro hI (And.intro (by omega) (by omega))) ?_
        intro v37 M37 a37 b37 q37
        obtain ⟨q37, z37⟩ := q37
        have hS : pz_rl pz_Q8 M M37 := hS.tr z37
        have hI : pz_im M37 := hS.1 hI0
        obtain ⟨q37, s37⟩ := q37
        refine And.intro (fun h40 => ?_) (fun h40 => ?_)
        · skip
          refine And.intro (by omega) ?_
          refine And.intro rfl ?_
          first
            | exact ⟨⟨⟨Or.inr rfl, fun q => absurd q (by omega)⟩, pq_aw_y s9 h12 (by omega) (pq_hG1 (by omega) pr3) (q47.resolve_left h50).2.1 z47 (s47.resolve_right (fun y => h50 y.1)).2⟩, hS⟩
            | (have n9 := (s47.resolve_left (fun y => absurd (y.1.symm.trans h50) (by decide))).2
               exact ⟨⟨⟨Or.inl rfl, fun q => absurd q (by omega)⟩, pq_aw_n s9 h12 (pq_hG1 (by omega) pr3) n9.1 n9.2.1 n9.2.2⟩, hS⟩)
            | exact ⟨⟨⟨Or.inl rfl, fun q => absurd q (by omega)⟩, pq_aw_b s9 h12 (pq_hG1 (by omega) pr3)⟩, hS⟩
            | exact ⟨⟨⟨Or.inr rfl, fun _ => ⟨fun j hj => (z47.2 66 j (by unfold pz_Q0; omega)).trans (q27.1 j hj), Or.inr ⟨rfl, by rw [z47.2 66 _ (by unfold pz_Q0; omega)]; exact (q27.2.resolve_left h30).2⟩⟩⟩, pq_aw_y s27 h30 (by omega) (pq_hG2 (by omega) pr3) (q47.resolve_left h50).2.1 z47 (s47.resolve_right (fun y => h50 y.1)).2⟩, hS⟩
            | (have n9 := (s47.resolve_left (fun y => absurd (y.1.symm.trans h50) (by decide))).2
               exact ⟨⟨⟨Or.inl rfl, fun _ => ⟨fun j hj => (z47.2 66 j (by unfold pz_Q0; omega)).trans (q27.1 j hj), Or.inl rfl⟩⟩, pq_aw_n s27 h30 (pq_hG2 (by omega) pr3) n9.1 n9.2.1 n9.2.2⟩, hS⟩)
            | exact ⟨⟨⟨Or.inl rfl, fun _ => ⟨q27.1, Or.inl rfl⟩⟩, pq_aw_b s27 h30 (pq_hG2 (by omega) pr3)⟩, hS⟩
            | exact ⟨⟨⟨Or.inr rfl, fun q => absurd q (by omega)⟩, pq_aw_y s37 h40 (by omega) (pq_hG3 (by omega) pr3) (q47.resolve_left h50).2.1 z47 (s47.resolve_right (fun y => h50 y.1)).2⟩, hS⟩
            | (have n9 := (s47.resolve_left (fun y => absurd (y.1.symm.trans h50) (by decide))).2
               exact ⟨⟨⟨Or.inl rfl, fun q => absurd q (by omega)⟩, pq_aw_n s37 h40 (pq_hG3 (by omega) pr3) n9.1 n9.2.1 n9.2.2⟩, hS⟩)
            | exact ⟨⟨⟨Or.inl rfl, fun q => absurd q (by omega)⟩, pq_aw_b s37 h40 (pq_hG3 (by omega) pr3)⟩, hS⟩
        · skip
          refine And.intro (hI) ?_
          intro v47 M47 a47 b47 q47
          obtain ⟨q47, z47⟩ := q47
          have hS : pz_rl pz_Q8 M M47 := hS.tr (pz_rl.wk pz_wk_Q0_Q8 z47)
          have hI : pz_im M47 := hS.1 hI0
          obtain ⟨q47, s47⟩ := q47
          have f47 := pz_q0f z47
          obtain ⟨f47a, f47b, f47c⟩ := f47
          refine And.intro (fun h50 => ?_) (fun h50 => ?_)
          · skip
            refine And.intro (by omega) ?_
            refine And.intro rfl ?_
            first
              | exact ⟨⟨⟨Or.inr rfl, fun q => absurd q (by omega)⟩, pq_aw_y s9 h12 (by omega) (pq_hG1 (by omega) pr3) (q47.resolve_left h50).2.1 z47 (s47.resolve_right (fun y => h50 y.1)).2⟩, hS⟩
              | (have n9 := (s47.resolve_left (fun y => absurd (y.1.symm.trans h50) (by decide))).2
                 exact ⟨⟨⟨Or.inl rfl, fun q => absurd q (by omega)⟩, pq_aw_n s9 h12 (pq_hG1 (by omega) pr3) n9.1 n9.2.1 n9.2.2⟩, hS⟩)
              | exact ⟨⟨⟨Or.inl rfl, fun q => absurd q (by omega)⟩, pq_aw_b s9 h12 (pq_hG1 (by omega) pr3)⟩, hS⟩
              | exact ⟨⟨⟨Or.inr rfl, fun _ => ⟨fun j hj => (z47.2 66 j (by unfold pz_Q0; omega)).trans (q27.1 j hj), Or.inr ⟨rfl, by rw [z47.2 66 _ (by unfold pz_Q0; omega)]; exact (q27.2.resolve_left h30).2⟩⟩⟩, pq_aw_y s27 h30 (by omega) (pq_hG2 (by omega) pr3) (q47.resolve_left h50).2.1 z47 (s47.resolve_right (fun y => h50 y.1)).2⟩, hS⟩
              | (have n9 := (s47.resolve_left (fun y => absurd (y.1.symm.trans h50) (by decide))).2
                 exact ⟨⟨⟨Or.inl rfl, fun _ => ⟨fun j hj => (z47.2 66 j (by unfold pz_Q0; omega)).trans (q27.1 j hj), Or.inl rfl⟩⟩, pq_aw_n s27 h30 (pq_hG2 (by omega) pr3) n9.1 n9.2.1 n9.2.2⟩, hS⟩)
              | exact ⟨⟨⟨Or.inl rfl, fun _ => ⟨q27.1, Or.inl rfl⟩⟩, pq_aw_b s27 h30 (pq_hG2 (by omega) pr3)⟩, hS⟩
              | exact ⟨⟨⟨Or.inr rfl, fun q => absurd q (by omega)⟩, pq_aw_y s37 h40 (by omega) (pq_hG3 (by omega) pr3) (q47.resolve_left h50).2.1 z47 (s47.resolve_right (fun y => h50 y.1)).2⟩, hS⟩
              | (have n9 := (s47.resolve_left (fun y => absurd (y.1.symm.trans h50) (by decide))).2
                 exact ⟨⟨⟨Or.inl rfl, fun q => absurd q (by omega)⟩, pq_aw_n s37 h40 (pq_hG3 (by omega) pr3) n9.1 n9.2.1 n9.2.2⟩, hS⟩)
              | exact ⟨⟨⟨Or.inl rfl, fun q => absurd q (by omega)⟩, pq_aw_b s37 h40 (pq_hG3 (by omega) pr3)⟩, hS⟩
          · skip
            refine And.intro (by omega) ?_
            refine And.intro rfl ?_
            first
              | exact ⟨⟨⟨Or.inr rfl, fun q => absurd q (by omega)⟩, pq_aw_y s9 h12 (by omega) (pq_hG1 (by omega) pr3) (q47.resolve_left h50).2.1 z47 (s47.resolve_right (fun y => h50 y.1)).2⟩, hS⟩
              | (have n9 := (s47.resolve_left (fun y => absurd (y.1.symm.trans h50) (by decide))).2
                 exact ⟨⟨⟨Or.inl rfl, fun q => absurd q (by omega)⟩, pq_aw_n s9 h12 (pq_hG1 (by omega) pr3) n9.1 n9.2.1 n9.2.2⟩, hS⟩)
              | exact ⟨⟨⟨Or.inl rfl, fun q => absurd q (by omega)⟩, pq_aw_b s9 h12 (pq_hG1 (by omega) pr3)⟩, hS⟩
              | exact ⟨⟨⟨Or.inr rfl, fun _ => ⟨fun j hj => (z47.2 66 j (by unfold pz_Q0; omega)).trans (q27.1 j hj), Or.inr ⟨rfl, by rw [z47.2 66 _ (by unfold pz_Q0; omega)]; exact (q27.2.resolve_left h30).2⟩⟩⟩, pq_aw_y s27 h30 (by omega) (pq_hG2 (by omega) pr3) (q47.resolve_left h50).2.1 z47 (s47.resolve_right (fun y => h50 y.1)).2⟩, hS⟩
              | (have n9 := (s47.resolve_left (fun y => absurd (y.1.symm.trans h50) (by decide))).2
                 exact ⟨⟨⟨Or.inl rfl, fun _ => ⟨fun j hj => (z47.2 66 j (by unfold pz_Q0; omega)).trans (q27.1 j hj), Or.inl rfl⟩⟩, pq_aw_n s27 h30 (pq_hG2 (by omega) pr3) n9.1 n9.2.1 n9.2.2⟩, hS⟩)
              | exact ⟨⟨⟨Or.inl rfl, fun _ => ⟨q27.1, Or.inl rfl⟩⟩, pq_aw_b s27 h30 (pq_hG2 (by omega) pr3)⟩, hS⟩
              | exact ⟨⟨⟨Or.inr rfl, fun q => absurd q (by omega)⟩, pq_aw_y s37 h40 (by omega) (pq_hG3 (by omega) pr3) (q47.resolve_left h50).2.1 z47 (s47.resolve_right (fun y => h50 y.1)).2⟩, hS⟩
              | (have n9 := (s47.resolve_left (fun y => absurd (y.1.symm.trans h50) (by decide))).2
                 exact ⟨⟨⟨Or.inl rfl, fun q => absurd q (by omega)⟩, pq_aw_n s37 h40 (pq_hG3 (by omega) pr3) n9.1 n9.2.1 n9.2.2⟩, hS⟩)
              | exact ⟨⟨⟨Or.inl rfl, fun q => absurd q (by omega)⟩, pq_aw_b s37 h40 (pq_hG3 (by omega) pr3)⟩, hS⟩
      · skip
        refine And.intro (And.intro hI (And.intro (by omega) (by omega))) ?_
        intro v27 M27 a27 b27 q27
        obtain ⟨q27, z27⟩ := q27
        have hS : pz_rl pz_Q8 M M27 := hS.tr z27
        have hI : pz_im M27 := hS.1 hI0
        obtain ⟨q27, s27⟩ := q27
        refine And.intro (fun h30 => ?_) (fun h30 => ?_)
        · skip
          refine And.intro (by omega) ?_
          refine And.intro rfl ?_
          first
            | exact ⟨⟨⟨Or.inr rfl, fun q => absurd q (by omega)⟩, pq_aw_y s9 h12 (by omega) (pq_hG1 (by omega) pr3) (q47.resolve_left h50).2.1 z47 (s47.resolve_right (fun y => h50 y.1)).2⟩, hS⟩
            | (have n9 := (s47.resolve_left (fun y => absurd (y.1.symm.trans h50) (by decide))).2
               exact ⟨⟨⟨Or.inl rfl, fun q => absurd q (by omega)⟩, pq_aw_n s9 h12 (pq_hG1 (by omega) pr3) n9.1 n9.2.1 n9.2.2⟩, hS⟩)
            | exact ⟨⟨⟨Or.inl rfl, fun q => absurd q (by omega)⟩, pq_aw_b s9 h12 (pq_hG1 (by omega) pr3)⟩, hS⟩
            | exact ⟨⟨⟨Or.inr rfl, fun _ => ⟨fun j hj => (z47.2 66 j (by unfold pz_Q0; omega)).trans (q27.1 j hj), Or.inr ⟨rfl, by rw [z47.2 66 _ (by unfold pz_Q0; omega)]; exact (q27.2.resolve_left h30).2⟩⟩⟩, pq_aw_y s27 h30 (by omega) (pq_hG2 (by omega) pr3) (q47.resolve_left h50).2.1 z47 (s47.resolve_right (fun y => h50 y.1)).2⟩, hS⟩
            | (have n9 := (s47.resolve_left (fun y => absurd (y.1.symm.trans h50) (by decide))).2
               exact ⟨⟨⟨Or.inl rfl, fun _ => ⟨fun j hj => (z47.2 66 j (by unfold pz_Q0; omega)).trans (q27.1 j hj), Or.inl rfl⟩⟩, pq_aw_n s27 h30 (pq_hG2 (by omega) pr3) n9.1 n9.2.1 n9.2.2⟩, hS⟩)
            | exact ⟨⟨⟨Or.inl rfl, fun _ => ⟨q27.1, Or.inl rfl⟩⟩, pq_aw_b s27 h30 (pq_hG2 (by omega) pr3)⟩, hS⟩
            | exact ⟨⟨⟨Or.inr rfl, fun q => absurd q (by omega)⟩, pq_aw_y s37 h40 (by omega) (pq_hG3 (by omega) pr3) (q47.resolve_left h50).2.1 z47 (s47.resolve_right (fun y => h50 y.1)).2⟩, hS⟩
            | (have n9 := (s47.resolve_left (fun y => absurd (y.1.symm.trans h50) (by decide))).2
               exact ⟨⟨⟨Or.inl rfl, fun q => absurd q (by omega)⟩, pq_aw_n s37 h40 (pq_hG3 (by omega) pr3) n9.1 n9.2.1 n9.2.2⟩, hS⟩)
            | exact ⟨⟨⟨Or.inl rfl, fun q => absurd q (by omega)⟩, pq_aw_b s37 h40 (pq_hG3 (by omega) pr3)⟩, hS⟩
        · skip
          refine And.intro (hI) ?_
          intro v47 M47 a47 b47 q47
          obtain ⟨q47, z47⟩ := q47
          have hS : pz_rl pz_Q8 M M47 := hS.tr (pz_rl.wk pz_wk_Q0_Q8 z47)
          have hI : pz_im M47 := hS.1 hI0
          obtain ⟨q47, s47⟩ := q47
          have f47 := pz_q0f z47
          obtain ⟨f47a, f47b, f47c⟩ := f47
          refine And.intro (fun h50 => ?_) (fun h50 => ?_)
          · skip
            refine And.intro (by omega) ?_
            refine And.intro rfl ?_
            first
              | exact ⟨⟨⟨Or.inr rfl, fun q => absurd q (by omega)⟩, pq_aw_y s9 h12 (by omega) (pq_hG1 (by omega) pr3) (q47.resolve_left h50).2.1 z47 (s47.resolve_right (fun y => h50 y.1)).2⟩, hS⟩
              | (have n9 := (s47.resolve_left (fun y => absurd (y.1.symm.trans h50) (by decide))).2
                 exact ⟨⟨⟨Or.inl rfl, fun q => absurd q (by omega)⟩, pq_aw_n s9 h12 (pq_hG1 (by omega) pr3) n9.1 n9.2.1 n9.2.2⟩, hS⟩)
              | exact ⟨⟨⟨Or.inl rfl, fun q => absurd q (by omega)⟩, pq_aw_b s9 h12 (pq_hG1 (by omega) pr3)⟩, hS⟩
              | exact ⟨⟨⟨Or.inr rfl, fun _ => ⟨fun j hj => (z47.2 66 j (by unfold pz_Q0; omega)).trans (q27.1 j hj), Or.inr ⟨rfl, by rw [z47.2 66 _ (by unfold pz_Q0; omega)]; exact (q27.2.resolve_left h30).2⟩⟩⟩, pq_aw_y s27 h30 (by omega) (pq_hG2 (by omega) pr3) (q47.resolve_left h50).2.1 z47 (s47.resolve_right (fun y => h50 y.1)).2⟩, hS⟩
              | (have n9 := (s47.resolve_left (fun y => absurd (y.1.symm.trans h50) (by decide))).2
                 exact ⟨⟨⟨Or.inl rfl, fun _ => ⟨fun j hj => (z47.2 66 j (by unfold pz_Q0; omega)).trans (q27.1 j hj), Or.inl rfl⟩⟩, pq_aw_n s27 h30 (pq_hG2 (by omega) pr3) n9.1 n9.2.1 n9.2.2⟩, hS⟩)
              | exact ⟨⟨⟨Or.inl rfl, fun _ => ⟨q27.1, Or.inl rfl⟩⟩, pq_aw_b s27 h30 (pq_hG2 (by omega) pr3)⟩, hS⟩
              | exact ⟨⟨⟨Or.inr rfl, fun q => absurd q (by omega)⟩, pq_aw_y s37 h40 (by omega) (pq_hG3 (by omega) pr3) (q47.resolve_left h50).2.1 z47 (s47.resolve_right (fun y => h50 y.1)).2⟩, hS⟩
              | (have n9 := (s47.resolve_left (fun y => absurd (y.1.symm.trans h50) (by decide))).2
                 exact ⟨⟨⟨Or.inl rfl, fun q => absurd q (by omega)⟩, pq_aw_n s37 h40 (pq_hG3 (by omega) pr3) n9.1 n9.2.1 n9.2.2⟩, hS⟩)
              | exact ⟨⟨⟨Or.inl rfl, fun q => absurd q (by omega)⟩, pq_aw_b s37 h40 (pq_hG3 (by omega) pr3)⟩, hS⟩
          · skip
            refine And.intro (by omega) ?_
            refine And.intro rfl ?_
            first
              | exact ⟨⟨⟨Or.inr rfl, fun q => absurd q (by omega)⟩, pq_aw_y s9 h12 (by omega) (pq_hG1 (by omega) pr3) (q47.resolve_left h50).2.1 z47 (s47.resolve_right (fun y => h50 y.1)).2⟩, hS⟩
              | (have n9 := (s47.resolve_left (fun y => absurd (y.1.symm.trans h50) (by decide))).2
                 exact ⟨⟨⟨Or.inl rfl, fun q => absurd q (by omega)⟩, pq_aw_n s9 h12 (pq_hG1 (by omega) pr3) n9.1 n9.2.1 n9.2.2⟩, hS⟩)
              | exact ⟨⟨⟨Or.inl rfl, fun q => absurd q (by omega)⟩, pq_aw_b s9 h12 (pq_hG1 (by omega) pr3)⟩, hS⟩
              | exact ⟨⟨⟨Or.inr rfl, fun _ => ⟨fun j hj => (z47.2 66 j (by unfold pz_Q0; omega)).trans (q27.1 j hj), Or.inr ⟨rfl, by rw [z47.2 66 _ (by unfold pz_Q0; omega)]; exact (q27.2.resolve_left h30).2⟩⟩⟩, pq_aw_y s27 h30 (by omega) (pq_hG2 (by omega) pr3) (q47.resolve_left h50).2.1 z47 (s47.resolve_right (fun y => h50 y.1)).2⟩, hS⟩
              | (have n9 := (s47.resolve_left (fun y => absurd (y.1.symm.trans h50) (by decide))).2
                 exact ⟨⟨⟨Or.inl rfl, fun _ => ⟨fun j hj => (z47.2 66 j (by unfold pz_Q0; omega)).trans (q27.1 j hj), Or.inl rfl⟩⟩, pq_aw_n s27 h30 (pq_hG2 (by omega) pr3) n9.1 n9.2.1 n9.2.2⟩, hS⟩)
              | exact ⟨⟨⟨Or.inl rfl, fun _ => ⟨q27.1, Or.inl rfl⟩⟩, pq_aw_b s27 h30 (pq_hG2 (by omega) pr3)⟩, hS⟩
              | exact ⟨⟨⟨Or.inr rfl, fun q => absurd q (by omega)⟩, pq_aw_y s37 h40 (by omega) (pq_hG3 (by omega) pr3) (q47.resolve_left h50).2.1 z47 (s47.resolve_right (fun y => h50 y.1)).2⟩, hS⟩
              | (have n9 := (s47.resolve_left (fun y => absurd (y.1.symm.trans h50) (by decide))).2
                 exact ⟨⟨⟨Or.inl rfl, fun q => absurd q (by omega)⟩, pq_aw_n s37 h40 (pq_hG3 (by omega) pr3) n9.1 n9.2.1 n9.2.2⟩, hS⟩)
              | exact ⟨⟨⟨Or.inl rfl, fun q => absurd q (by omega)⟩, pq_aw_b s37 h40 (pq_hG3 (by omega) pr3)⟩, hS⟩
    · skip
      refine And.intro (And.intro hI (And.intro (by omega) (by omega))) ?_
      intro v9 M9 a9 b9 q9
      obtain ⟨q9, z9⟩ := q9
      have hS : pz_rl pz_Q8 M M9 := hS.tr z9
      have hI : pz_im M9 := hS.1 hI0
      obtain ⟨q9, s9⟩ := q9
      refine And.intro (fun h12 => ?_) (fun h12 => ?_)
      · skip
        refine And.intro (by omega) ?_
        refine And.intro rfl ?_
        first
          | exact ⟨⟨⟨Or.inr rfl, fun q => absurd q (by omega)⟩, pq_aw_y s9 h12 (by omega) (pq_hG1 (by omega) pr3) (q47.resolve_left h50).2.1 z47 (s47.resolve_right (fun y => h50 y.1)).2⟩, hS⟩
          | (have n9 := (s47.resolve_left (fun y => absurd (y.1.symm.trans h50) (by decide))).2
             exact ⟨⟨⟨Or.inl rfl, fun q => absurd q (by omega)⟩, pq_aw_n s9 h12 (pq_hG1 (by omega) pr3) n9.1 n9.2.1 n9.2.2⟩, hS⟩)
          | exact ⟨⟨⟨Or.inl rfl, fun q => absurd q (by omega)⟩, pq_aw_b s9 h12 (pq_hG1 (by omega) pr3)⟩, hS⟩
          | exact ⟨⟨⟨Or.inr rfl, fun _ => ⟨fun j hj => (z47.2 66 j (by unfold pz_Q0; omega)).trans (q27.1 j hj), Or.inr ⟨rfl, by rw [z47.2 66 _ (by unfold pz_Q0; omega)]; exact (q27.2.resolve_left h30).2⟩⟩⟩, pq_aw_y s27 h30 (by omega) (pq_hG2 (by omega) pr3) (q47.resolve_left h50).2.1 z47 (s47.resolve_right (fun y => h50 y.1)).2⟩, hS⟩
          | (have n9 := (s47.resolve_left (fun y => absurd (y.1.symm.trans h50) (by decide))).2
             exact ⟨⟨⟨Or.inl rfl, fun _ => ⟨fun j hj => (z47.2 66 j (by unfold pz_Q0; omega)).trans (q27.1 j hj), Or.inl rfl⟩⟩, pq_aw_n s27 h30 (pq_hG2 (by omega) pr3) n9.1 n9.2.1 n9.2.2⟩, hS⟩)
          | exact ⟨⟨⟨Or.inl rfl, fun _ => ⟨q27.1, Or.inl rfl⟩⟩, pq_aw_b s27 h30 (pq_hG2 (by omega) pr3)⟩, hS⟩
          | exact ⟨⟨⟨Or.inr rfl, fun q => absurd q (by omega)⟩, pq_aw_y s37 h40 (by omega) (pq_hG3 (by omega) pr3) (q47.resolve_left h50).2.1 z47 (s47.resolve_right (fun y => h50 y.1)).2⟩, hS⟩
          | (have n9 := (s47.resolve_left (fun y => absurd (y.1.symm.trans h50) (by decide))).2
             exact ⟨⟨⟨Or.inl rfl, fun q => absurd q (by omega)⟩, pq_aw_n s37 h40 (pq_hG3 (by omega) pr3) n9.1 n9.2.1 n9.2.2⟩, hS⟩)
          | exact ⟨⟨⟨Or.inl rfl, fun q => absurd q (by omega)⟩, pq_aw_b s37 h40 (pq_hG3 (by omega) pr3)⟩, hS⟩
      · skip
        refine And.intro (hI) ?_
        intro v47 M47 a47 b47 q47
        obtain ⟨q47, z47⟩ := q47
        have hS : pz_rl pz_Q8 M M47 := hS.tr (pz_rl.wk pz_wk_Q0_Q8 z47)
        have hI : pz_im M47 := hS.1 hI0
        obtain ⟨q47, s47⟩ := q47
        have f47 := pz_q0f z47
        obtain ⟨f47a, f47b, f47c⟩ := f47
        refine And.intro (fun h50 => ?_) (fun h50 => ?_)
        · skip
          refine And.intro (by omega) ?_
          refine And.intro rfl ?_
          first
            | exact ⟨⟨⟨Or.inr rfl, fun q => absurd q (by omega)⟩, pq_aw_y s9 h12 (by omega) (pq_hG1 (by omega) pr3) (q47.resolve_left h50).2.1 z47 (s47.resolve_right (fun y => h50 y.1)).2⟩, hS⟩
            | (have n9 := (s47.resolve_left (fun y => absurd (y.1.symm.trans h50) (by decide))).2
               exact ⟨⟨⟨Or.inl rfl, fun q => absurd q (by omega)⟩, pq_aw_n s9 h12 (pq_hG1 (by omega) pr3) n9.1 n9.2.1 n9.2.2⟩, hS⟩)
            | exact ⟨⟨⟨Or.inl rfl, fun q => absurd q (by omega)⟩, pq_aw_b s9 h12 (pq_hG1 (by omega) pr3)⟩, hS⟩
            | exact ⟨⟨⟨Or.inr rfl, fun _ => ⟨fun j hj => (z47.2 66 j (by unfold pz_Q0; omega)).trans (q27.1 j hj), Or.inr ⟨rfl, by rw [z47.2 66 _ (by unfold pz_Q0; omega)]; exact (q27.2.resolve_left h30).2⟩⟩⟩, pq_aw_y s27 h30 (by omega) (pq_hG2 (by omega) pr3) (q47.resolve_left h50).2.1 z47 (s47.resolve_right (fun y => h50 y.1)).2⟩, hS⟩
            | (have n9 := (s47.resolve_left (fun y => absurd (y.1.symm.trans h50) (by decide))).2
               exact ⟨⟨⟨Or.inl rfl, fun _ => ⟨fun j hj => (z47.2 66 j (by unfold pz_Q0; omega)).trans (q27.1 j hj), Or.inl rfl⟩⟩, pq_aw_n s27 h30 (pq_hG2 (by omega) pr3) n9.1 n9.2.1 n9.2.2⟩, hS⟩)
            | exact ⟨⟨⟨Or.inl rfl, fun _ => ⟨q27.1, Or.inl rfl⟩⟩, pq_aw_b s27 h30 (pq_hG2 (by omega) pr3)⟩, hS⟩
            | exact ⟨⟨⟨Or.inr rfl, fun q => absurd q (by omega)⟩, pq_aw_y s37 h40 (by omega) (pq_hG3 (by omega) pr3) (q47.resolve_left h50).2.1 z47 (s47.resolve_right (fun y => h50 y.1)).2⟩, hS⟩
            | (have n9 := (s47.resolve_left (fun y => absurd (y.1.symm.trans h50) (by decide))).2
               exact ⟨⟨⟨Or.inl rfl, fun q => absurd q (by omega)⟩, pq_aw_n s37 h40 (pq_hG3 (by omega) pr3) n9.1 n9.2.1 n9.2.2⟩, hS⟩)
            | exact ⟨⟨⟨Or.inl rfl, fun q => absurd q (by omega)⟩, pq_aw_b s37 h40 (pq_hG3 (by omega) pr3)⟩, hS⟩
        · skip
          refine And.intro (by omega) ?_
          refine And.intro rfl ?_
          first
            | exact ⟨⟨⟨Or.inr rfl, fun q => absurd q (by omega)⟩, pq_aw_y s9 h12 (by omega) (pq_hG1 (by omega) pr3) (q47.resolve_left h50).2.1 z47 (s47.resolve_right (fun y => h50 y.1)).2⟩, hS⟩
            | (have n9 := (s47.resolve_left (fun y => absurd (y.1.symm.trans h50) (by decide))).2
               exact ⟨⟨⟨Or.inl rfl, fun q => absurd q (by omega)⟩, pq_aw_n s9 h12 (pq_hG1 (by omega) pr3) n9.1 n9.2.1 n9.2.2⟩, hS⟩)
            | exact ⟨⟨⟨Or.inl rfl, fun q => absurd q (by omega)⟩, pq_aw_b s9 h12 (pq_hG1 (by omega) pr3)⟩, hS⟩
            | exact ⟨⟨⟨Or.inr rfl, fun _ => ⟨fun j hj => (z47.2 66 j (by unfold pz_Q0; omega)).trans (q27.1 j hj), Or.inr ⟨rfl, by rw [z47.2 66 _ (by unfold pz_Q0; omega)]; exact (q27.2.resolve_left h30).2⟩⟩⟩, pq_aw_y s27 h30 (by omega) (pq_hG2 (by omega) pr3) (q47.resolve_left h50).2.1 z47 (s47.resolve_right (fun y => h50 y.1)).2⟩, hS⟩
            | (have n9 := (s47.resolve_left (fun y => absurd (y.1.symm.trans h50) (by decide))).2
               exact ⟨⟨⟨Or.inl rfl, fun _ => ⟨fun j hj => (z47.2 66 j (by unfold pz_Q0; omega)).trans (q27.1 j hj), Or.inl rfl⟩⟩, pq_aw_n s27 h30 (pq_hG2 (by omega) pr3) n9.1 n9.2.1 n9.2.2⟩, hS⟩)
            | exact ⟨⟨⟨Or.inl rfl, fun _ => ⟨q27.1, Or.inl rfl⟩⟩, pq_aw_b s27 h30 (pq_hG2 (by omega) pr3)⟩, hS⟩
            | exact ⟨⟨⟨Or.inr rfl, fun q => absurd q (by omega)⟩, pq_aw_y s37 h40 (by omega) (pq_hG3 (by omega) pr3) (q47.resolve_left h50).2.1 z47 (s47.resolve_right (fun y => h50 y.1)).2⟩, hS⟩
            | (have n9 := (s47.resolve_left (fun y => absurd (y.1.symm.trans h50) (by decide))).2
               exact ⟨⟨⟨Or.inl rfl, fun q => absurd q (by omega)⟩, pq_aw_n s37 h40 (pq_hG3 (by omega) pr3) n9.1 n9.2.1 n9.2.2⟩, hS⟩)
            | exact ⟨⟨⟨Or.inl rfl, fun q => absurd q (by omega)⟩, pq_aw_b s37 h40 (pq_hG3 (by omega) pr3)⟩, hS⟩
theorem v_X12_aRow {fr lo i : Nat} {own : String} (h1 : 12 + 1 ≤ fr) (h2 : 8 + (1 + 11) + 259 ≤ lo) (h3 : .methodLink own i yX12_aRow ∈ lw_tbl) : pz_cV fr lo own i k_X12_aRow :=
  pz_cVk (maxL := 1) (fr' := 12) (lo' := 259) 0 12 h_X12_aRow rfl ⟨(pz_nhc_RX12 yX12_aRow rfl).1, (pz_nhc_RX12 yX12_aRow rfl).2, pz_ds3⟩ ⟨pz_wq1358, pz_wq1357, pz_ws26, pz_wq13⟩ (Or.inl ⟨TX12, 28, rfl⟩) (fun a M _ h => by
    have h : (match (generalizing := false) a with | [.inr (.inr (12, th))] => pz_im M ∧ M 1 15 < 16 ∧ (1 ≤ M 1 12 ∧ M 1 12 ≤ 3) ∧ M 1 18 = pq_bg (M 1 12) | _ => False) := h
    split at h
    · exact ⟨_, _, rfl⟩
    · exact h.elim) h1 h2 h3
