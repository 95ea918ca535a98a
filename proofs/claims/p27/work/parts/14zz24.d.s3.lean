noncomputable def k3_X12_isRunning : pz_C := (2, 1, fun a M => (match a with | [.inr (.inr (12, th)), .inl i] => pz_im M | _ => False), fun a M r M' => (match a, r with | [.inr (.inr (12, th)), .inl i], some (.inl v) => ((v = 0 ∨ v = 1) ∧ (0 ≤ i → i < M 60 88 → (v = 1 ↔ sd_fi (M 60) i.toNat))) ∧ M = M' | _, _ => False))
noncomputable abbrev ct3_X12_isRunning : List (Bool × Nat × pz_C) := [(true, 317, k3_X12_isThere), (true, 361, k3_X12_canPay)]
set_option maxRecDepth 100000 in
set_option maxHeartbeats 4000000 in
theorem h3_X12_isRunning : pz_H yX12_isRunning cX12_isRunning 2 (some .boolean) k3_X12_isRunning 3 64 := by
  refine pz_mk (own := RX12) (tb := t_X12_isRunning) (fl := pz_flf fl_RX12) (ci := pz_cif ci_RX12) (ct := pz_ctf ct3_X12_isRunning) (rz := true) (by decide +kernel) rfl t_X12_isRunning_ok (pz_flk fl_RX12_ok) (pz_cik ci_RX12_ok) ?_ ?_ (Or.inr ⟨rfl, rfl⟩) ?_ ?_
  · exact fun i k' h => pz_ctk (l := ct3_X12_isRunning) (P := fun b i k => b = true → pz_cV 3 64 RX12 i k) (List.forall_mem_cons.mpr ⟨(fun _ => v3_X12_isThere (by decide) (by decide) (pz_mt 1415 (by decide +kernel))), List.forall_mem_cons.mpr ⟨(fun _ => v3_X12_canPay (by decide) (by decide) (pz_mt 1573 (by decide +kernel))), fun _ h => absurd h List.not_mem_nil⟩⟩) true i k' h rfl
  · exact fun i k' h => pz_ctk (l := ct3_X12_isRunning) (P := fun b i k => b = false → (pz_cS 3 64 RX12 i k ∨ (k = pz_kac ∧ 1 ≤ 3 ∧ 60 ≤ 64 ∧ Cond.methodLink RX12 i arraycopyName ∈ pz_tbl))) (List.forall_mem_cons.mpr ⟨((fun z => by cases z)), List.forall_mem_cons.mpr ⟨((fun z => by cases z)), fun _ h => absurd h List.not_mem_nil⟩⟩) false i k' h rfl
  · intro a M hlen hpre
    obtain ⟨th, i, rfl, hpre⟩ : ∃ th i, a = [.inr (.inr (12, th)), .inl i] ∧ (pz_im M) := by
      have hpre : (match (generalizing := false) a with | [.inr (.inr (12, th)), .inl i] => pz_im M | _ => False) := hpre
      split at hpre
      · exact ⟨_, _, rfl, hpre⟩
      · exact hpre.elim
    exact Nat.le_of_ble_eq_true rfl
  · intro a M hlen hcan hM hpre Ok hgo
    obtain ⟨th, i, rfl, hpre⟩ : ∃ th i, a = [.inr (.inr (12, th)), .inl i] ∧ (pz_im M) := by
      have hpre : (match (generalizing := false) a with | [.inr (.inr (12, th)), .inl i] => pz_im M | _ => False) := hpre
      split at hpre
      · exact ⟨_, _, rfl, hpre⟩
      · exact hpre.elim
    obtain ⟨k_th, hc_th⟩ := pz_tlm hcan
    have k_th : pz_kd th = 12 ∧ th < 231 := k_th
    have R_th := pz_kd12 k_th.1
    subst R_th
    clear k_th
    obtain ⟨k_i, hc_i⟩ := pz_tlm hc_th
    have l_i : -2147483648 ≤ i := k_i.1
    have u_i : i ≤ 2147483647 := k_i.2
    have hI : pz_im M := hpre
    have I88 := hI.1.1
    refine hgo (fun _ => false) 14 0 _ [] M ?_
    refine And.intro (hI) ?_
    intro v2 M2 a2 b2 q2
    obtain ⟨q2, z2⟩ := q2
    subst z2
    clear a2 b2
    refine And.intro (fun h5 => ?_) (fun h5 => ?_)
    · skip
      replace q2 := q2.resolve_left (fun z => absurd (z.1.symm.trans h5) (by decide))
      refine And.intro (by omega) ?_
      refine And.intro rfl ?_
      refine ⟨⟨by omega, fun h0 h1 => ?_⟩, rfl⟩
      rw [show (52 + i).toNat = 52 + i.toNat by omega, show (76 + i).toNat = 76 + i.toNat by omega] at q2
      unfold sd_fi
      first
        | exact ⟨fun z => by omega, fun z => by
            have z1 := z.1
            unfold sd_in at z1
            omega⟩
        | (have a := q10.2.trans (sd_py_i (F := M 60) h0)
           first
             | exact ⟨fun z => by omega, fun z => absurd (a.mpr z.2) (by omega)⟩
             | exact ⟨fun _ => ⟨by unfold sd_in; omega, a.mp (by omega)⟩, fun _ => by omega⟩)
    · skip
      replace q2 := q2.resolve_right (fun z => h5 z.1)
      refine And.intro (And.intro hI (And.intro (by omega) (by omega))) ?_
      intro v10 M10 a10 b10 q10
      obtain ⟨q10, z10⟩ := q10
      subst z10
      refine And.intro (fun h13 => ?_) (fun h13 => ?_)
      · skip
        refine And.intro (by omega) ?_
        refine And.intro rfl ?_
        refine ⟨⟨by omega, fun h0 h1 => ?_⟩, rfl⟩
        rw [show (52 + i).toNat = 52 + i.toNat by omega, show (76 + i).toNat = 76 + i.toNat by omega] at q2
        unfold sd_fi
        first
          | exact ⟨fun z => by omega, fun z => by
              have z1 := z.1
              unfold sd_in at z1
              omega⟩
          | (have a := q10.2.trans (sd_py_i (F := M 60) h0)
             first
               | exact ⟨fun z => by omega, fun z => absurd (a.mpr z.2) (by omega)⟩
               | exact ⟨fun _ => ⟨by unfold sd_in; omega, a.mp (by omega)⟩, fun _ => by omega⟩)
      · skip
        refine And.intro (by omega) ?_
        refine And.intro rfl ?_
        refine ⟨⟨by omega, fun h0 h1 => ?_⟩, rfl⟩
        rw [show (52 + i).toNat = 52 + i.toNat by omega, show (76 + i).toNat = 76 + i.toNat by omega] at q2
        unfold sd_fi
        first
          | exact ⟨fun z => by omega, fun z => by
              have z1 := z.1
              unfold sd_in at z1
              omega⟩
          | (have a := q10.2.trans (sd_py_i (F := M 60) h0)
             first
               | exact ⟨fun z => by omega, fun z => absurd (a.mpr z.2) (by omega)⟩
               | exact ⟨fun _ => ⟨by unfold sd_in; omega, a.mp (by omega)⟩, fun _ => by omega⟩)
theorem v3_X12_isRunning {fr lo i : Nat} {own : String} (h1 : 3 + 1 ≤ fr) (h2 : 8 + (2 + 11) + 64 ≤ lo) (h3 : .methodLink own i yX12_isRunning ∈ lw_tbl) : pz_cV fr lo own i k3_X12_isRunning :=
  pz_cVk (maxL := 2) (fr' := 3) (lo' := 64) 1 12 h3_X12_isRunning rfl ⟨by decide +kernel, by decide +kernel, by decide +kernel⟩ ⟨(pz_mt 1711 (by decide +kernel)), (pz_mt 1710 (by decide +kernel)), (pz_ms 82 (by decide +kernel)), (pz_mt 13 (by decide +kernel))⟩ (Or.inl ⟨TX12, 28, rfl⟩) (fun a M _ h => by
    have h : (match (generalizing := false) a with | [.inr (.inr (12, th)), .inl i] => pz_im M | _ => False) := h
    split at h
    · exact ⟨_, _, rfl⟩
    · exact h.elim) h1 h2 h3
noncomputable def k3_X11_runs : pz_C := (2, 1, fun a M => (match a with | [.inr (.inr (11, th)), .inl w] => pz_ic M | _ => False), fun a M r M' => (match a, r with | [.inr (.inr (11, th)), .inl w], some (.inl v) => (sd_wc M v (fun _ F => sd_rnv F w)) ∧ M = M' | _, _ => False))
noncomputable abbrev ct3_X11_runs : List (Bool × Nat × pz_C) := [(true, 107, k_X0_at), (true, 297, k_X5_isIn), (true, 218, k3_X0_canPay)]
set_option maxRecDepth 100000 in
set_option maxHeartbeats 4000000 in
theorem h3_X11_runs : pz_H yX11_runs cX11_runs 9 (some .int) k3_X11_runs 3 64 := by
  refine pz_mk (own := RX11) (tb := t_X11_runs) (fl := pz_flf fl_RX11) (ci := pz_cif ci_RX11) (ct := pz_ctf ct3_X11_runs) (rz := false) (by decide +kernel) rfl t_X11_runs_ok (pz_flk fl_RX11_ok) (pz_cik ci_RX11_ok) ?_ ?_ (Or.inl ⟨rfl, rfl⟩) ?_ ?_
  · exact fun i k' h => pz_ctk (l := ct3_X11_runs) (P := fun b i k => b = true → pz_cV 3 64 RX11 i k) (List.forall_mem_cons.mpr ⟨(fun _ => v_X0_at (by decide) (by decide) (pz_mt 428 (by decide +kernel))), List.forall_mem_cons.mpr ⟨(fun _ => v_X5_isIn (by decide) (by decide) (pz_mt 984 (by decide +kernel))), List.forall_mem_cons.mpr ⟨(fun _ => v3_X0_canPay (by decide) (by decide) (pz_mt 839 (by decide +kernel))), fun _ h => absurd h List.not_mem_nil⟩⟩⟩) true i k' h rfl
  · exact fun i k' h => pz_ctk (l := ct3_X11_runs) (P := fun b i k => b = false → (pz_cS 3 64 RX11 i k ∨ (k = pz_kac ∧ 1 ≤ 3 ∧ 60 ≤ 64 ∧ Cond.methodLink RX11 i arraycopyName ∈ pz_tbl))) (List.forall_mem_cons.mpr ⟨((fun z => by cases z)), List.forall_mem_cons.mpr ⟨((fun z => by cases z)), List.forall_mem_cons.mpr ⟨((fun z => by cases z)), fun _ h => absurd h List.not_mem_nil⟩⟩⟩) false i k' h rfl
  · intro a M hlen hpre
    obtain ⟨th, w, rfl, hpre⟩ : ∃ th w, a = [.inr (.inr (11, th)), .inl w] ∧ (pz_ic M) := by
      have hpre : (match (generalizing := false) a with | [.inr (.inr (11, th)), .inl w] => pz_ic M | _ => False) := hpre
      split at hpre
      · exact ⟨_, _, rfl, hpre⟩
      · exact hpre.elim
    exact Nat.le_of_ble_eq_true rfl
  · intro a M hlen hcan hM hpre Ok hgo
    obtain ⟨th, w, rfl, hpre⟩ : ∃ th w, a = [.inr (.inr (11, th)), .inl w] ∧ (pz_ic M) := by
      have hpre : (match (generalizing := false) a with | [.inr (.inr (11, th)), .inl w] => pz_ic M | _ => False) := hpre
      split at hpre
      · exact ⟨_, _, rfl, hpre⟩
      · exact hpre.elim
    obtain ⟨k_th, hc_th⟩ := pz_tlm hcan
    have k_th : pz_kd th = 11 ∧ th < 231 := k_th
    have R_th := pz_kd11 k_th.1
    subst R_th
    obtain ⟨k_w, hc_w⟩ := pz_tlm hc_th
    have l_w : -2147483648 ≤ w := k_w.1
    have u_w : w ≤ 2147483647 := k_w.2
    have hI : pz_ic M := hpre
    have L13 : ∀ (fu : Nat) (x2 : Int) (x3 : Int) (x4 : Int) (x5 : Int) (x6 : Int) (d7 : Option pz_V) (d8 : Option pz_V), (12 - x6).toNat < fu → (0 ≤ x6) → (0 ≤ x5) → (x5 ≤ x6) → (sd_q M 71 (fun F => sd_rnE F x5 x2 x3 x4 x6)) → Ok 13 [some (.inr (.inr (11, 0))), some (.inl w), some (.inl x2), some (.inl x3), some (.inl x4), some (.inl x5), some (.inl x6), d7, d8] [] M := by
      intro fu
      induction fu with
      | zero => exact fun _ _ _ _ _ _ _ hn => absurd hn (Nat.not_lt_zero _)
      | succ fu ih13 =>
        intro x2 x3 x4 x5 x6 d7 d8 hn13 g13_0 g13_1 g13_2 g13_3
        have L130 : ∀ (x2 : Int) (x3 : Int) (x4 : Int) (x5 : Int) (x6 : Int) (r7 : Nat) (x8 : Int), (pz_kd r7 = 5) → (0 ≤ x6) → (x6 < 12) → (0 ≤ x5) → (x5 ≤ x6 + 1) → ((12 - x6).toNat < fu + 1) → (x6 < M 71 3) → (sd_q M 71 (fun F => sd_rnE F x5 x2 x3 x4 (x6 + 1))) → Ok 130 [some (.inr (.inr (11, 0))), some (.inl w), some (.inl x2), some (.inl x3), some (.inl x4), some (.inl x5), some (.inl x6), some (.inr (.inr (5, r7))), some (.inl x8)] [] M := by
          intro x2 x3 x4 x5 x6 r7 x8 K_r7 g130_1 g130_2 g130_3 g130_4 g130_5 g130_6 g130_7
          have R_r7 := pz_kd5 K_r7
          refine hgo (fun p => Nat.beq p 13 || Nat.beq p 61 || Nat.beq p 76 || Nat.beq p 95 || Nat.beq p 130) 80 130 _ _ _ ?_
          intro v130 e130 a130 b130
          rw [pz_wi (by omega) (by omega)] at e130
          have G13 : sd_q M 71 (fun F => sd_rnE F x5 x2 x3 x4 v130) := by
            rw [e130]
            assumption
          exact ih13 _ _ _ _ _ _ _ (by omega) (by first | omega | assumption | exact fun F hF hW => ⟨⟨Int.le_refl _, hW.1.1⟩, Or.inl rfl, rfl⟩) (by first | omega | assumption | exact fun F hF hW => ⟨⟨Int.le_refl _, hW.1.1⟩, Or.inl rfl, rfl⟩) (by first | omega | assumption | exact fun F hF hW => ⟨⟨Int.le_refl _, hW.1.1⟩, Or.inl rfl, rfl⟩) (by first | omega | assumption | exact fun F hF hW => ⟨⟨Int.le_refl _, hW.1.1⟩, Or.inl rfl, rfl⟩)
        have L95 : ∀ (x2 : Int) (x3 : Int) (x4 : Int) (x5 : Int) (x6 : Int) (r7 : Nat) (x8 : Int), (pz_kd r7 = 5) → (0 ≤ x6) → (x6 < 12) → (0 ≤ x5) → (x5 ≤ x6 + 1) → ((12 - x6).toNat < fu + 1) → (x6 < M 71 3) → (r7 = pz_lnk 71 x6) → (sd_q M 71 (fun F => sd_rnP F x5 x2 x3 x4 x6 ∧ x8 = (if sd_fi F x6.toNat then 1 else 0))) → Ok 95 [some (.inr (.inr (11, 0))), some (.inl w), some (.inl x2), some (.inl x3), some (.inl x4), some (.inl x5), some (.inl x6), some (.inr (.inr (5, r7))), some (.inl x8)] [] M := by
          intro x2 x3 x4 x5 x6 r7 x8 K_r7 g95_1 g95_2 g95_3 g95_4 g95_5 g95_6 g95_7 g95_8
          have R_r7 := pz_kd5 K_r7
          refine hgo (fun p => Nat.beq p 13 || Nat.beq p 61 || Nat.beq p 76 || Nat.beq p 95 || Nat.beq p 130) 80 95 _ _ _ ?_
          refine And.intro (fun h97 => ?_) (fun h97 => ?_)
          · skip
            have G130 : sd_q M 71 (fun F => sd_rnE F x5 x2 x3 x4 (x6 + 1)) := fun F hF hW => by
              obtain ⟨g, c⟩ := (by assumption : sd_q M 71 (fun F => sd_rnP F x5 x2 x3 x4 x6 ∧ x8 = (if sd_fi F x6.toNat then 1 else 0))) F hF hW
              have n9 := hF.1
              have m9 := hW.1
              have pp := (sd_rnP_p g).1
              exact sd_rnP_s g hW (by omega) (by omega) rfl (Or.inr ⟨fun z => by
                rw [if_pos z.1] at c
                omega, rfl⟩)
            exact L130 _ _ _ _ _ _ _ (by first | assumption | rfl) (by first | omega | assumption) (by first | omega | assumption) (by first | omega | assumption) (by first | omega | assumption) (by first | omega | assumption) (by first | omega | assumption) (by first | omega | assumption)
          · skip
            skip
            refine And.intro (fun h103 => ?_) (fun h103 => ?_)
            · skip
              have G130 : sd_q M 71 (fun F => sd_rnE F x5 x2 x3 x6 (x6 + 1)) := fun F hF hW => by
                obtain ⟨g, c⟩ := (by assumption : sd_q M 71 (fun F => sd_rnP F x5 x2 x3 x4 x6 ∧ x8 = (if sd_fi F x6.toNat then 1 else 0))) F hF hW
                have n9 := hF.1
                have m9 := hW.1
                have pp := (sd_rnP_p g).1
                exact sd_rnP_s g hW (by omega) (by omega) rfl (Or.inl ⟨(by
                  by_cases y : sd_fi F x6.toNat
                  · exact y
                  · rw [if_neg y] at c
                    omega), Or.inl (by omega), rfl⟩)
              exact L130 _ _ _ _ _ _ _ (by first | assumption | rfl) (by first | omega | assumption) (by first | omega | assumption) (by first | omega | assumption) (by first | omega | assumption) (by first | omega | assumption) (by first | omega | assumption) (by first | omega | assumption)
            · skip
              skip
              intro v108 e108 a108 b108
              refine pz_nrc (c := 71) rfl ?_
              refine And.intro (True.intro) ?_
              intro r117 M117 k117 q117
              have R117 := pz_kd5 k117
              obtain ⟨q117, z117⟩ := q117
              subst z117
              have A117 := pz_at_lk (c := 71) (⟨by decide, by decide⟩ : 71 ≤ 71 ∧ 71 < 80) q117
              intro v120 e120 a120 b120
              refine And.intro (fun h123 => ?_) (fun h123 => ?_)
              · skip
                have G130 : sd_q M 71 (fun F => sd_rnE F x5 x2 x3 x4 (x6 + 1)) := fun F hF hW => by
                  obtain ⟨g, c⟩ := (by assumption : sd_q M 71 (fun F => sd_rnP F x5 x2 x3 x4 x6 ∧ x8 = (if sd_fi F x6.toNat then 1 else 0))) F hF hW
                  have n9 := hF.1
                  have m9 := hW.1
                  have pp := (sd_rnP_p g).1
                  have b1 := (sd_at (⟨by decide, by decide⟩ : 71 ≤ 71 ∧ 71 < 80) hF hW (show 0 ≤ x6 by omega) (by omega) (by assumption)).2.1
                  have b2 := (sd_at (⟨by decide, by decide⟩ : 71 ≤ 71 ∧ 71 < 80) hF hW (show 0 ≤ x4 by omega) (by omega) A117).2.1
                  exact sd_rnP_s g hW (by omega) (by omega) rfl (Or.inr ⟨fun z => by
                    have z2 := z.2
                    omega, rfl⟩)
                exact L130 _ _ _ _ _ _ _ (by first | assumption | rfl) (by first | omega | assumption) (by first | omega | assumption) (by first | omega | assumption) (by first | omega | assumption) (by first | omega | assumption) (by first | omega | assumption) (by first | omega | assumption)
              · skip
                have G130 : sd_q M 71 (fun F => sd_rnE F x5 x2 x3 x6 (x6 + 1)) := fun F hF hW => by
                  obtain ⟨g, c⟩ := (by assumption : sd_q M 71 (fun F => sd_rnP F x5 x2 x3 x4 x6 ∧ x8 = (if sd_fi F x6.toNat then 1 else 0))) F hF hW
                  have n9 := hF.1
                  have m9 := hW.1
                  have pp := (sd_rnP_p g).1
                  have b1 := (sd_at (⟨by decide, by decide⟩ : 71 ≤ 71 ∧ 71 < 80) hF hW (show 0 ≤ x6 by omega) (by omega) (by assumption)).2.1
                  have b2 := (sd_at (⟨by decide, by decide⟩ : 71 ≤ 71 ∧ 71 < 80) hF hW (show 0 ≤ x4 by omega) (by omega) A117).2.1
                  exact sd_rnP_s g hW (by omega) (by omega) rfl (Or.inl ⟨(by
                    by_cases y : sd_fi F x6.toNat
                    · exact y
                    · rw [if_neg y] at c
                      omega), Or.inr (by omega), rfl⟩)
                exact L130 _ _ _ _ _ _ _ (by first | assumption | rfl) (by first | omega | assumption) (by first | omega | assumption) (by first | omega | assumption) (by first | omega | assumption) (by first | omega | assumption) (by first | omega | assumption) (by first | omega | assumption)
        have L76 : ∀ (x2 : Int) (x3 : Int) (x4 : Int) (x5 : Int) (x6 : Int) (r7 : Nat) (x8 : Int) (s0 : Int), (pz_kd r7 = 5) → (0 ≤ x6) → (x6 < 12) → (0 ≤ s0) → (s0 ≤ x6 + 1) → ((12 - x6).toNat < fu + 1) → (x6 < M 71 3) → (r7 = pz_lnk 71 x6) → (sd_q M 71 (fun F => sd_rnE F x5 x2 x3 x4 x6 ∧ x8 = (if sd_fi F x6.toNat then 1 else 0) ∧ s0 = if sd_fi F x6.toNat then x5 + 1 else 0)) → Ok 76 [some (.inr (.inr (11, 0))), some (.inl w), some (.inl x2), some (.inl x3), some (.inl x4), some (.inl x5), some (.inl x6), some (.inr (.inr (5, r7))), some (.inl x8)] [.inl s0] M := by
          intro x2 x3 x4 x5 x6 r7 x8 s0 K_r7 g76_1 g76_2 g76_3 g76_4 g76_5 g76_6 g76_7 g76_8
          have R_r7 := pz_kd5 K_r7
          refine hgo (fun p => Nat.beq p 13 || Nat.beq p 61 || Nat.beq p 76 || Nat.beq p 95 || Nat.beq p 130) 80 76 _ _ _ ?_
          refine And.intro (fun h81 => ?_) (fun h81 => ?_)
          · skip
            have G95 : sd_q M 71 (fun F => sd_rnP F s0 x2 x3 x4 x6 ∧ x8 = (if sd_fi F x6.toNat then 1 else 0)) := fun F hF hW => by
              obtain ⟨g, c, d⟩ := (by assumption : sd_q M 71 (fun F => sd_rnE F x5 x2 x3 x4 x6 ∧ x8 = (if sd_fi F x6.toNat then 1 else 0) ∧ s0 = if sd_fi F x6.toNat then x5 + 1 else 0)) F hF hW
              exact ⟨⟨x5, x2, x3, g, d, Or.inr ⟨by omega, rfl, rfl⟩⟩, c⟩
            exact L95 _ _ _ _ _ _ _ (by first | assumption | rfl) (by first | omega | assumption) (by first | omega | assumption) (by first | omega | assumption) (by first | omega | assumption) (by first | omega | assumption) (by first | omega | assumption) (by first | omega | assumption) (by first | omega | assumption)
          · skip
            skip
            intro v91 e91 a91 b91
            intro v93 e93 a93 b93
            rw [pz_wi (by omega) (by omega)] at e91
            rw [pz_wi (by omega) (by omega)] at e93
            have G95 : sd_q M 71 (fun F => sd_rnP F s0 s0 v93 x4 x6 ∧ x8 = (if sd_fi F x6.toNat then 1 else 0)) := fun F hF hW => by
              obtain ⟨g, c, d⟩ := (by assumption : sd_q M 71 (fun F => sd_rnE F x5 x2 x3 x4 x6 ∧ x8 = (if sd_fi F x6.toNat then 1 else 0) ∧ s0 = if sd_fi F x6.toNat then x5 + 1 else 0)) F hF hW
              exact ⟨⟨x5, x2, x3, g, d, Or.inl ⟨by omega, rfl, by omega⟩⟩, c⟩
            exact L95 _ _ _ _ _ _ _ (by first | assumption | rfl) (by first | omega | assumption) (by first | omega | assumption) (by first | omega | assumption) (by first | omega | assumption) (by first | omega | assumption) (by first | omega | assumption) (by first | omega | assumption) (by first | omega | assumption)
        have L61 : ∀ (x2 : Int) (x3 : Int) (x4 : Int) (x5 : Int) (x6 : Int) (r7 : Nat) (d8 : Option pz_V) (s0 : Int), (pz_kd r7 = 5) → (0 ≤ x6) → (x6 < 12) → (0 ≤ x5) → (x5 ≤ x6) → ((12 - x6).toNat < fu + 1) → (x6 < M 71 3) → (r7 = pz_lnk 71 x6) → (sd_q M 71 (fun F => sd_rnE F x5 x2 x3 x4 x6 ∧ s0 = (if sd_fi F x6.toNat then 1 else 0))) → Ok 61 [some (.inr (.inr (11, 0))), some (.inl w), some (.inl x2), some (.inl x3), some (.inl x4), some (.inl x5), some (.inl x6), some (.inr (.inr (5, r7))), d8] [.inl s0] M := by
          intro x2 x3 x4 x5 x6 r7 d8 s0 K_r7 g61_1 g61_2 g61_3 g61_4 g61_5 g61_6 g61_7 g61_8
          have R_r7 := pz_kd5 K_r7
          refine hgo (fun p => Nat.beq p 13 || Nat.beq p 61 || Nat.beq p 76 || Nat.beq p 95 || Nat.beq p 130) 80 61 _ _ _ ?_
          refine And.intro (fun h65 => ?_) (fun h65 => ?_)
          · skip
            have G76 : sd_q M 71 (fun F => sd_rnE F x5 x2 x3 x4 x6 ∧ s0 = (if sd_fi F x6.toNat then 1 else 0) ∧ (0 : Int) = if sd_fi F x6.toNat then x5 + 1 else 0) := fun F hF hW => by
              obtain ⟨g, c⟩ := (by assumption : sd_q M 71 (fun F => sd_rnE F x5 x2 x3 x4 x6 ∧ s0 = (if sd_fi F x6.toNat then 1 else 0))) F hF hW
              refine ⟨g, c, ?_⟩
              by_cases y : sd_fi F x6.toNat
              · rw [if_pos y] at c ⊢
                omega
              · (rw [if_neg y] at c ⊢) <;> omega
            exact L76 _ _ _ _ _ _ _ _ (by first | assumption | rfl) (by first | omega | assumption) (by first | omega | assumption) (by first | omega | assumption) (by first | omega | assumption) (by first | omega | assumption) (by first | omega | assumption) (by first | omega | assumption) (by first | omega | assumption)
          · skip
            skip
            intro v71 e71 a71 b71
            rw [pz_wi (by omega) (by omega)] at e71
            have G76 : sd_q M 71 (fun F => sd_rnE F x5 x2 x3 x4 x6 ∧ s0 = (if sd_fi F x6.toNat then 1 else 0) ∧ v71 = if sd_fi F x6.toNat then x5 + 1 else 0) := fun F hF hW => by
              obtain ⟨g, c⟩ := (by assumption : sd_q M 71 (fun F => sd_rnE F x5 x2 x3 x4 x6 ∧ s0 = (if sd_fi F x6.toNat then 1 else 0))) F hF hW
              refine ⟨g, c, ?_⟩
              by_cases y : sd_fi F x6.toNat
              · rw [if_pos y] at c ⊢
                omega
              · (rw [if_neg y] at c ⊢) <;> omega
            exact L76 _ _ _ _ _ _ _ _ (by first | assumption | rfl) (by first | omega | assumption) (by first | omega | assumption) (by first | omega | assumption) (by first | omega | assumption) (by first | omega | assumption) (by first | omega | assumption) (by first | omega | assumption) (by first | omega | assumption)
        refine hgo (fun p => Nat.beq p 13 || Nat.beq p 61 || Nat.beq p 76 || Nat.beq p 95 || Nat.beq p 130) 80 13 _ _ _ ?_
        refine pz_nrc (c := 71) rfl ?_
        intro v19 e19 a19 b19
        have I19 := hI.1 71 (by omega) (by omega)
        refine And.intro (fun h22 => ?_) (fun h22 => ?_)
        · skip
          refine And.intro ?_ ?_
          · skip
            refine And.intro (fun h137 => ?_) ?_
            · skip
              refine And.intro rfl ?_
              refine ⟨fun ls l1 F hT hF hW => ?_, rfl⟩
              have hn := hF.1
              have hm := hW.1
              show _ = sd_rnv F w
              have z := sd_rnE_z ((by assumption : sd_q M 71 (fun F => sd_rnE F x5 x2 x3 x4 x6)) F hF hW) hW (by omega)
              unfold sd_rnv
              rw [← z]
              repeat first | rw [if_pos (by omega)] | rw [if_neg (by omega)]
            refine And.intro (fun h137 => ?_) ?_
            · skip
              refine And.intro rfl ?_
              refine ⟨fun ls l1 F hT hF hW => ?_, rfl⟩
              have hn := hF.1
              have hm := hW.1
              show _ = sd_rnv F w
              have z := sd_rnE_z ((by assumption : sd_q M 71 (fun F => sd_rnE F x5 x2 x3 x4 x6)) F hF hW) hW (by omega)
              unfold sd_rnv
              rw [← z]
              repeat first | rw [if_pos (by omega)] | rw [if_neg (by omega)]
            refine And.intro (fun h137 => ?_) ?_
            · skip
              refine And.intro rfl ?_
              refine ⟨fun ls l1 F hT hF hW => ?_, rfl⟩
              have hn := hF.1
              have hm := hW.1
              show _ = sd_rnv F w
              have z := sd_rnE_z ((by assumption : sd_q M 71 (fun F => sd_rnE F x5 x2 x3 x4 x6)) F hF hW) hW (by omega)
              unfold sd_rnv
              rw [← z]
              repeat first | rw [if_pos (by omega)] | rw [if_neg (by omega)]
            exact True.intro
          · intro h137
            refine And.intro rfl ?_
            refine ⟨fun ls l1 F hT hF hW => ?_, rfl⟩
            have hn := hF.1
            have hm := hW.1
            show _ = sd_rnv F w
            have z := sd_rnE_z ((by assumption : sd_q M 71 (fun F => sd_rnE F x5 x2 x3 x4 x6)) F hF hW) hW (by omega)
            unfold sd_rnv
            rw [← z]
            repeat first | rw [if_pos (by omega)] | rw [if_neg (by omega)]
        · skip
          refine pz_nrc (c := 71) rfl ?_
          refine And.intro (True.intro) ?_
          intro r31 M31 k31 q31
          have R31 := pz_kd5 k31
          obtain ⟨q31, z31⟩ := q31
          subst z31
          have A31 := pz_at_lk (c := 71) (⟨by decide, by decide⟩ : 71 ≤ 71 ∧ 71 < 80) q31
          refine And.intro (True.intro) ?_
          intro v38 M38 a38 b38 q38
          obtain ⟨q38, z38⟩ := q38
          subst z38
          refine And.intro (fun h41 => ?_) (fun h41 => ?_)
          · skip
            have G61 : sd_q M 71 (fun F => sd_rnE F x5 x2 x3 x4 x6 ∧ (0 : Int) = (if sd_fi F x6.toNat then 1 else 0)) := fun F hF hW => by
              have g := (by assumption : sd_q M 71 (fun F => sd_rnE F x5 x2 x3 x4 x6)) F hF hW
              have n9 := hF.1
              have m9 := hW.1
              have b := sd_at (⟨by decide, by decide⟩ : 71 ≤ 71 ∧ 71 < 80) hF hW (show 0 ≤ x6 by omega) (by omega) A31
              have b5 := b.2.2.2.2.2.1
              have b7 := b.2.2.2.2.2.2.2
              have P := hW.2.2 x6.toNat (by omega)
              unfold sd_lw at P
              have q38 := q38
              rw [b5, b7] at q38
              refine ⟨g, ?_⟩
              exact (if_neg (fun z => by
                have z1 := z.1
                unfold sd_in at z1
                split at q38 <;> omega)).symm
            exact L61 _ _ _ _ _ _ _ _ (by first | assumption | rfl) (by first | omega | assumption) (by first | omega | assumption) (by first | omega | assumption) (by first | omega | assumption) (by first | omega | assumption) (by first | omega | assumption) (by first | omega | assumption) (by first | omega | assumption)
          · skip
            skip
            refine pz_nrc (c := 71) rfl ?_
            refine And.intro (hI) ?_
            intro v50 M50 a50 b50 q50
            obtain ⟨q50, z50⟩ := q50
            subst z50
            refine And.intro (fun h53 => ?_) (fun h53 => ?_)
            · skip
              have G61 : sd_q M 71 (fun F => sd_rnE F x5 x2 x3 x4 x6 ∧ (0 : Int) = (if sd_fi F x6.toNat then 1 else 0)) := fun F hF hW => by
                have g := (by assumption : sd_q M 71 (fun F => sd_rnE F x5 x2 x3 x4 x6)) F hF hW
                have n9 := hF.1
                have m9 := hW.1
                have b := sd_at (⟨by decide, by decide⟩ : 71 ≤ 71 ∧ 71 < 80) hF hW (show 0 ≤ x6 by omega) (by omega) A31
                have b5 := b.2.2.2.2.2.1
                have b7 := b.2.2.2.2.2.2.2
                have P := hW.2.2 x6.toNat (by omega)
                unfold sd_lw at P
                have q38 := q38
                rw [b5, b7] at q38
                refine ⟨g, ?_⟩
                exact (if_neg (fun z => by
                  have c := (q50.2 F hF hW (by omega) (by omega)).mpr z.2
                  omega)).symm
              exact L61 _ _ _ _ _ _ _ _ (by first | assumption | rfl) (by first | omega | assumption) (by first | omega | assumption) (by first | omega | assumption) (by first | omega | assumption) (by first | omega | assumption) (by first | omega | assumption) (by first | omega | assumption) (by first | omega | assumption)
            · skip
              have G61 : sd_q M 71 (fun F => sd_rnE F x5 x2 x3 x4 x6 ∧ (1 : Int) = (if sd_fi F x6.toNat then 1 else 0)) := fun F hF hW => by
                have g := (by assumption : sd_q M 71 (fun F => sd_rnE F x5 x2 x3 x4 x6)) F hF hW
                have n9 := hF.1
                have m9 := hW.1
                have b := sd_at (⟨by decide, by decide⟩ : 71 ≤ 71 ∧ 71 < 80) hF hW (show 0 ≤ x6 by omega) (by omega) A31
                have b5 := b.2.2.2.2.2.1
                have b7 := b.2.2.2.2.2.2.2
                have P := hW.2.2 x6.toNat (by omega)
                unfold sd_lw at P
                have q38 := q38
                rw [b5, b7] at q38
                refine ⟨g, ?_⟩
                exact (if_pos ⟨by
                  unfold sd_in
                  split at q38 <;> omega, (q50.2 F hF hW (by omega) (by omega)).mp (by omega)⟩).symm
              exact L61 _ _ _ _ _ _ _ _ (by first | assumption | rfl) (by first | omega | assumption) (by first | omega | assumption) (by first | omega | assumption) (by first | omega | assumption) (by first | omega | assumption) (by first | omega | assumption) (by first | omega | assumption) (by first | omega | assumption)
    refine hgo (fun p => Nat.beq p 13 || Nat.beq p 61 || Nat.beq p 76 || Nat.beq p 95 || Nat.beq p 130) 80 0 _ [] M ?_
    exact L13 _ _ _ _ _ _ _ _ (Nat.lt_succ_self _) (by first | omega | assumption | exact fun F hF hW => ⟨⟨Int.le_refl _, hW.1.1⟩, Or.inl rfl, rfl⟩) (by first | omega | assumption | exact fun F hF hW => ⟨⟨Int.le_refl _, hW.1.1⟩, Or.inl rfl, rfl⟩) (by first | omega | assumption | exact fun F hF hW => ⟨⟨Int.le_refl _, hW.1.1⟩, Or.inl rfl, rfl⟩) (by first | omega | assumption | exact fun F hF hW => ⟨⟨Int.le_refl _, hW.1.1⟩, Or.inl rfl, rfl⟩)
theorem v3_X11_runs {fr lo i : Nat} {own : String} (h1 : 3 + 1 ≤ fr) (h2 : 8 + (9 + 11) + 64 ≤ lo) (h3 : .methodLink own i yX11_runs ∈ lw_tbl) : pz_cV fr lo own i k3_X11_runs :=
  pz_cVk (maxL := 9) (fr' := 3) (lo' := 64) 1 11 h3_X11_runs rfl ⟨by decide +kernel, by decide +kernel, by decide +kernel⟩ ⟨(pz_mt 1089 (by decide +kernel)), (pz_mt 1087 (by decide +kernel)), (pz_mt 1088 (by decide +kernel)), (pz_mt 1 (by decide +kernel))⟩ (Or.inl ⟨TX11, 14, rfl⟩) (fun a M _ h => by
    have h : (match (generalizing := false) a with | [.inr (.inr (11, th)), .inl w] => pz_ic M | _ => False) := h
    split at h
    · exact ⟨_, _, rfl⟩
    · exact h.elim) h1 h2 h3
noncomputable def k3_X12_runs : pz_C := (2, 1, fun a M => (match a with | [.inr (.inr (12, th)), .inl w] => pz_im M | _ => False), fun a M r M' => (match a, r with | [.inr (.inr (12, th)), .inl w], some (.inl v) => (sd_wm M v (fun _ F => sd_rnv F w)) ∧ M = M' | _, _ => False))
noncomputable abbrev ct3_X12_runs : List (Bool × Nat × pz_C) := [(false, 54, k_X12_isIn), (true, 445, k3_X12_isRunning)]
set_option maxRecDepth 100000 in
set_option maxHeartbeats 4000000 in
theorem h3_X12_runs : pz_H yX12_runs cX12_runs 7 (some .int) k3_X12_runs 4 85 := by
  refine pz_mk (own := RX12) (tb := t_X12_runs) (fl := pz_flf fl_RX12) (ci := pz_cif ci_RX12) (ct := pz_ctf ct3_X12_runs) (rz := false) (by decide +kernel) rfl t_X12_runs_ok (pz_flk fl_RX12_ok) (pz_cik ci_RX12_ok) ?_ ?_ (Or.inl ⟨rfl, rfl⟩) ?_ ?_
  · exact fun i k' h => pz_ctk (l := ct3_X12_runs) (P := fun b i k => b = true → pz_cV 4 85 RX12 i k) (List.forall_mem_cons.mpr ⟨((fun z => by cases z)), List.forall_mem_cons.mpr ⟨(fun _ => v3_X12_isRunning (by decide) (by decide) (pz_mt 1708 (by decide +kernel))), fun _ h => absurd h List.not_mem_nil⟩⟩) true i k' h rfl
  · exact fun i k' h => pz_ctk (l := ct3_X12_runs) (P := fun b i k => b = false → (pz_cS 4 85 RX12 i k ∨ (k = pz_kac ∧ 1 ≤ 4 ∧ 60 ≤ 85 ∧ Cond.methodLink RX12 i arraycopyName ∈ pz_tbl))) (List.forall_mem_cons.mpr ⟨(fun _ => Or.inl (s_X12_isIn (by decide) (by decide) (Or.inl (pz_mt 1217 (by decide +kernel))))), List.forall_mem_cons.mpr ⟨((fun z => by cases z)), fun _ h => absurd h List.not_mem_nil⟩⟩) false i k' h rfl
  · intro a M hlen hpre
    obtain ⟨th, w, rfl, hpre⟩ : ∃ th w, a = [.inr (.inr (12, th)), .inl w] ∧ (pz_im M) := by
      have hpre : (match (generalizing := false) a with | [.inr (.inr (12, th)), .inl w] => pz_im M | _ => False) := hpre
      split at hpre
      · exact ⟨_, _, rfl, hpre⟩
      · exact hpre.elim
    exact Nat.le_of_ble_eq_true rfl
  · intro a M hlen hcan hM hpre Ok hgo
    obtain ⟨th, w, rfl, hpre⟩ : ∃ th w, a = [.inr (.inr (12, th)), .inl w] ∧ (pz_im M) := by
      have hpre : (match (generalizing := false) a with | [.inr (.inr (12, th)), .inl w] => pz_im M | _ => False) := hpre
      split at hpre
      · exact ⟨_, _, rfl, hpre⟩
      · exact hpre.elim
    obtain ⟨k_th, hc_th⟩ := pz_tlm hcan
    have k_th : pz_kd th = 12 ∧ th < 231 := k_th
    have R_th := pz_kd12 k_th.1
    subst R_th
    clear k_th
    obtain ⟨k_w, hc_w⟩ := pz_tlm hc_th
    have l_w : -2147483648 ≤ w := k_w.1
    have u_w : w ≤ 2147483647 := k_w.2
    have hI : pz_im M := hpre
    have I88 := hI.1.1
    have L24 : ∀ (fu : Nat) (x2 : Int) (x3 : Int) (x4 : Int) (x5 : Int) (x6 : Int), (12 - x6).toNat < fu → (0 ≤ x6) → (-1 ≤ x5) → (x5 < 12) → (0 ≤ x4) → (x4 ≤ x6) → (x6 ≤ M 60 88) → (0 ≤ w) → (w ≤ 2) → (sd_wf (M 60) → sd_rnE (M 60) x4 x2 x3 x5 x6) → Ok 24 [some (.inr (.inr (12, 1))), some (.inl w), some (.inl x2), some (.inl x3), some (.inl x4), some (.inl x5), some (.inl x6)] [] M := by
      intro fu
      induction fu with
      | zero => exact fun _ _ _ _ _ hn => absurd hn (Nat.not_lt_zero _)
      | succ fu ih24 =>
        intro x2 x3 x4 x5 x6 hn24 g24_0 g24_1 g24_2 g24_3 g24_4 g24_5 g24_6 g24_7 g24_8
        have L110 : ∀ (x2 : Int) (x3 : Int) (x4 : Int) (x5 : Int) (x6 : Int), (0 ≤ x6) → (x6 < 12) → ((12 - x6).toNat < fu + 1) → (-1 ≤ x5) → (x5 < 12) → (x6 < M 60 88) → (0 ≤ x4) → (x4 ≤ x6 + 1) → (0 ≤ w) → (w ≤ 2) → (sd_wf (M 60) → sd_rnE (M 60) x4 x2 x3 x5 (x6 + 1)) → Ok 110 [some (.inr (.inr (12, 1))), some (.inl w), some (.inl x2), some (.inl x3), some (.inl x4), some (.inl x5), some (.inl x6)] [] M := by
          intro x2 x3 x4 x5 x6 g110_0 g110_1 g110_2 g110_3 g110_4 g110_5 g110_6 g110_7 g110_8 g110_9 g110_10
          refine hgo (fun p => Nat.beq p 24 || Nat.beq p 53 || Nat.beq p 72 || Nat.beq p 110) 79 110 _ _ _ ?_
          intro v110 e110 a110 b110
          rw [pz_wi (by omega) (by omega)] at e110
          have G24 : sd_wf (M 60) → sd_rnE (M 60) x4 x2 x3 x5 v110 := by
            rw [e110]
            assumption
          exact ih24 _ _ _ _ _ (by omega) (by first | omega | assumption | exact fun w9 => ⟨⟨Int.le_refl _, w9.1.1⟩, Or.inl rfl, rfl⟩) (by first | omega | assumption | exact fun w9 => ⟨⟨Int.le_refl _, w9.1.1⟩, Or.inl rfl, rfl⟩) (by first | omega | assumption | exact fun w9 => ⟨⟨Int.le_refl _, w9.1.1⟩, Or.inl rfl, rfl⟩) (by first | omega | assumption | exact fun w9 => ⟨⟨Int.le_refl _, w9.1.1⟩, Or.inl rfl, rfl⟩) (by first | omega | assumption | exact fun w9 => ⟨⟨Int.le_refl _, w9.1.1⟩, Or.inl rfl, rfl⟩) (by first | omega | assumption | exact fun w9 => ⟨⟨Int.le_refl _, w9.1.1⟩, Or.inl rfl, rfl⟩) (by first | omega | assumption | exact fun w9 => ⟨⟨Int.le_refl _, w9.1.1⟩, Or.inl rfl, rfl⟩) (by first | omega | assumption | exact fun w9 => ⟨⟨Int.le_refl _, w9.1.1⟩, Or.inl rfl, rfl⟩) (by first | omega | assumption | exact fun w9 => ⟨⟨Int.le_refl _, w9.1.1⟩, Or.inl rfl, rfl⟩)
        have L72 : ∀ (x2 : Int) (x3 : Int) (x4 : Int) (x5 : Int) (x6 : Int), (0 ≤ x6) → (x6 < 12) → ((12 - x6).toNat < fu + 1) → (-1 ≤ x5) → (x5 < 12) → (x6 < M 60 88) → (0 ≤ x4) → (x4 ≤ x6 + 1) → (0 ≤ w) → (w ≤ 2) → (sd_wf (M 60) → sd_rnP (M 60) x4 x2 x3 x5 x6) → Ok 72 [some (.inr (.inr (12, 1))), some (.inl w), some (.inl x2), some (.inl x3), some (.inl x4), some (.inl x5), some (.inl x6)] [] M := by
          intro x2 x3 x4 x5 x6 g72_0 g72_1 g72_2 g72_3 g72_4 g72_5 g72_6 g72_7 g72_8 g72_9 g72_10
          refine hgo (fun p => Nat.beq p 24 || Nat.beq p 53 || Nat.beq p 72 || Nat.beq p 110) 79 72 _ _ _ ?_
          refine And.intro (fun h74 => ?_) (fun h74 => ?_)
          · skip
            have G110 : sd_wf (M 60) → sd_rnE (M 60) x4 x2 x3 x5 (x6 + 1) := fun w9 => by
              have g := (by assumption : sd_wf (M 60) → sd_rnP (M 60) x4 x2 x3 x5 x6) w9
              have pp := sd_rnP_p g
              exact sd_rnP_s g w9 (by omega) (by omega) rfl (Or.inr ⟨fun z => absurd (pp.2.mpr z.1) (by omega), rfl⟩)
            exact L110 _ _ _ _ _ (by first | omega | assumption) (by first | omega | assumption) (by first | omega | assumption) (by first | omega | assumption) (by first | omega | assumption) (by first | omega | assumption) (by first | omega | assumption) (by first | omega | assumption) (by first | omega | assumption) (by first | omega | assumption) (by first | omega | assumption)
          · skip
            skip
            refine And.intro (fun h80 => ?_) (fun h80 => ?_)
            · skip
              have G110 : sd_wf (M 60) → sd_rnE (M 60) x4 x2 x3 x6 (x6 + 1) := fun w9 => by
                have g := (by assumption : sd_wf (M 60) → sd_rnP (M 60) x4 x2 x3 x5 x6) w9
                have pp := sd_rnP_p g
                exact sd_rnP_s g w9 (by omega) (by omega) rfl (Or.inl ⟨pp.2.mp (by omega), Or.inl (by omega), rfl⟩)
              exact L110 _ _ _ _ _ (by first | omega | assumption) (by first | omega | assumption) (by first | omega | assumption) (by first | omega | assumption) (by first | omega | assumption) (by first | omega | assumption) (by first | omega | assumption) (by first | omega | assumption) (by first | omega | assumption) (by first | omega | assumption) (by first | omega | assumption)
            · skip
              skip
              replace h80 : 0 ≤ x5 := by omega
              refine pz_nrc (c := 60) rfl ?_
              intro v91 e91 a91 b91
              rw [pz_wi (by omega) (by omega)] at e91
              clear a91 b91
              refine And.intro (by omega) (And.intro (show _ < (1725 : Int) from by omega) ?_)
              intro v92 e92 a92 b92
              rw [show v91.toNat = 16 + x6.toNat by omega] at e92
              refine pz_nrc (c := 60) rfl ?_
              intro v101 e101 a101 b101
              rw [pz_wi (by omega) (by omega)] at e101
              clear a101 b101
              refine And.intro (by omega) (And.intro (show _ < (1725 : Int) from by omega) ?_)
              intro v102 e102 a102 b102
              rw [show v101.toNat = 16 + x5.toNat by omega] at e102
              refine And.intro (fun h103 => ?_) (fun h103 => ?_)
              · skip
                have G110 : sd_wf (M 60) → sd_rnE (M 60) x4 x2 x3 x5 (x6 + 1) := fun w9 => by
                  have g := (by assumption : sd_wf (M 60) → sd_rnP (M 60) x4 x2 x3 x5 x6) w9
                  have pp := sd_rnP_p g
                  exact sd_rnP_s g w9 (by omega) (by omega) rfl (Or.inr ⟨fun z => by
                    have z2 := z.2
                    omega, rfl⟩)
                exact L110 _ _ _ _ _ (by first | omega | assumption) (by first | omega | assumption) (by first | omega | assumption) (by first | omega | assumption) (by first | omega | assumption) (by first | omega | assumption) (by first | omega | assumption) (by first | omega | assumption) (by first | omega | assumption) (by first | omega | assumption) (by first | omega | assumption)
              · skip
                have G110 : sd_wf (M 60) → sd_rnE (M 60) x4 x2 x3 x6 (x6 + 1) := fun w9 => by
                  have g := (by assumption : sd_wf (M 60) → sd_rnP (M 60) x4 x2 x3 x5 x6) w9
                  have pp := sd_rnP_p g
                  exact sd_rnP_s g w9 (by omega) (by omega) rfl (Or.inl ⟨pp.2.mp (by omega), Or.inr (by omega), rfl⟩)
                exact L110 _ _ _ _ _ (by first | omega | assumption) (by first | omega | assumption) (by first | omega | assumption) (by first | omega | assumption) (by first | omega | assumption) (by first | omega | assumption) (by first | omega | assumption) (by first | omega | assumption) (by first | omega | assumption) (by first | omega | assumption) (by first | omega | assumption)
        have L53 : ∀ (x2 : Int) (x3 : Int) (x4 : Int) (x5 : Int) (x6 : Int) (s0 : Int), (0 ≤ x6) → (x6 < 12) → ((12 - x6).toNat < fu + 1) → (-1 ≤ x5) → (x5 < 12) → (x6 < M 60 88) → (0 ≤ x4) → (x4 ≤ x6) → (0 ≤ s0) → (s0 ≤ x6 + 1) → (0 ≤ w) → (w ≤ 2) → (sd_wf (M 60) → sd_rnE (M 60) x4 x2 x3 x5 x6 ∧ s0 = if sd_fi (M 60) x6.toNat then x4 + 1 else 0) → Ok 53 [some (.inr (.inr (12, 1))), some (.inl w), some (.inl x2), some (.inl x3), some (.inl x4), some (.inl x5), some (.inl x6)] [.inl s0] M := by
          intro x2 x3 x4 x5 x6 s0 g53_0 g53_1 g53_2 g53_3 g53_4 g53_5 g53_6 g53_7 g53_8 g53_9 g53_10 g53_11 g53_12
          refine hgo (fun p => Nat.beq p 24 || Nat.beq p 53 || Nat.beq p 72 || Nat.beq p 110) 79 53 _ _ _ ?_
          refine And.intro (fun h58 => ?_) (fun h58 => ?_)
          · skip
            have G72 : sd_wf (M 60) → sd_rnP (M 60) s0 x2 x3 x5 x6 := fun w9 => by
              obtain ⟨g, d⟩ := (by assumption : sd_wf (M 60) → sd_rnE (M 60) x4 x2 x3 x5 x6 ∧ s0 = if sd_fi (M 60) x6.toNat then x4 + 1 else 0) w9
              exact ⟨x4, x2, x3, g, d, Or.inr ⟨by omega, rfl, rfl⟩⟩
            exact L72 _ _ _ _ _ (by first | omega | assumption) (by first | omega | assumption) (by first | omega | assumption) (by first | omega | assumption) (by first | omega | assumption) (by first | omega | assumption) (by first | omega | assumption) (by first | omega | assumption) (by first | omega | assumption) (by first | omega | assumption) (by first | omega | assumption)
          · skip
            skip
            intro v68 e68 a68 b68
            intro v70 e70 a70 b70
            rw [pz_wi (by omega) (by omega)] at e68
            rw [pz_wi (by omega) (by omega)] at e70
            have G72 : sd_wf (M 60) → sd_rnP (M 60) s0 s0 v70 x5 x6 := fun w9 => by
              obtain ⟨g, d⟩ := (by assumption : sd_wf (M 60) → sd_rnE (M 60) x4 x2 x3 x5 x6 ∧ s0 = if sd_fi (M 60) x6.toNat then x4 + 1 else 0) w9
              exact ⟨x4, x2, x3, g, d, Or.inl ⟨by omega, rfl, by omega⟩⟩
            exact L72 _ _ _ _ _ (by first | omega | assumption) (by first | omega | assumption) (by first | omega | assumption) (by first | omega | assumption) (by first | omega | assumption) (by first | omega | assumption) (by first | omega | assumption) (by first | omega | assumption) (by first | omega | assumption) (by first | omega | assumption) (by first | omega | assumption)
        refine hgo (fun p => Nat.beq p 24 || Nat.beq p 53 || Nat.beq p 72 || Nat.beq p 110) 79 24 _ _ _ ?_
        refine pz_nrc (c := 60) rfl ?_
        refine And.intro (by omega) (And.intro (show _ < (1725 : Int) from by omega) ?_)
        intro v32 e32 a32 b32
        replace e32 : v32 = M 60 88 := e32
        have I32 : 0 ≤ v32 ∧ v32 ≤ 12 := by
          rw [e32]
          exact hI.1.1
        clear a32 b32
        refine And.intro (fun h33 => ?_) (fun h33 => ?_)
        · skip
          refine And.intro (fun h117 => ?_) (fun h117 => ?_)
          · skip
            replace h117 : 1 ≤ w := by omega
            refine And.intro (fun h126 => ?_) (fun h126 => ?_)
            · skip
              replace h126 : 2 ≤ w := by omega
              refine And.intro rfl ?_
              refine ⟨fun ls hl hq hW => ?_, rfl⟩
              show _ = sd_rnv (M 60) w
              have z := sd_rnE_z ((by assumption : sd_wf (M 60) → sd_rnE (M 60) x4 x2 x3 x5 x6) hW) hW (by omega)
              unfold sd_rnv
              rw [← z]
              repeat first | rw [if_pos (by omega)] | rw [if_neg (by omega)]
            · skip
              refine And.intro rfl ?_
              refine ⟨fun ls hl hq hW => ?_, rfl⟩
              show _ = sd_rnv (M 60) w
              have z := sd_rnE_z ((by assumption : sd_wf (M 60) → sd_rnE (M 60) x4 x2 x3 x5 x6) hW) hW (by omega)
              unfold sd_rnv
              rw [← z]
              repeat first | rw [if_pos (by omega)] | rw [if_neg (by omega)]
          · skip
            refine And.intro rfl ?_
            refine ⟨fun ls hl hq hW => ?_, rfl⟩
            show _ = sd_rnv (M 60) w
            have z := sd_rnE_z ((by assumption : sd_wf (M 60) → sd_rnE (M 60) x4 x2 x3 x5 x6) hW) hW (by omega)
            unfold sd_rnv
            rw [← z]
            repeat first | rw [if_pos (by omega)] | rw [if_neg (by omega)]
        · skip
          refine And.intro (hI) ?_
          intro v39 M39 a39 b39 q39
          obtain ⟨q39, z39⟩ := q39
          subst z39
          refine And.intro (fun h42 => ?_) (fun h42 => ?_)
          · skip
            have G53 : sd_wf (M 60) → sd_rnE (M 60) x4 x2 x3 x5 x6 ∧ (0 : Int) = if sd_fi (M 60) x6.toNat then x4 + 1 else 0 := fun w9 => ⟨(by assumption : sd_wf (M 60) → sd_rnE (M 60) x4 x2 x3 x5 x6) w9, by
              have q := q39.2 (by omega) (by omega)
              first
                | (rw [if_pos (q.mp (by omega))]; omega)
                | (rw [if_neg (fun z => absurd (q.mpr z) (by omega))])⟩
            exact L53 _ _ _ _ _ _ (by first | omega | assumption) (by first | omega | assumption) (by first | omega | assumption) (by first | omega | assumption) (by first | omega | assumption) (by first | omega | assumption) (by first | omega | assumption) (by first | omega | assumption) (by first | omega | assumption) (by first | omega | assumption) (by first | omega | assumption) (by first | omega | assumption) (by first | omega | assumption)
          · skip
            skip
            intro v48 e48 a48 b48
            rw [pz_wi (by omega) (by omega)] at e48
            have G53 : sd_wf (M 60) → sd_rnE (M 60) x4 x2 x3 x5 x6 ∧ v48 = if sd_fi (M 60) x6.toNat then x4 + 1 else 0 := fun w9 => ⟨(by assumption : sd_wf (M 60) → sd_rnE (M 60) x4 x2 x3 x5 x6) w9, by
              have q := q39.2 (by omega) (by omega)
              first
                | (rw [if_pos (q.mp (by omega))]; omega)
                | (rw [if_neg (fun z => absurd (q.mpr z) (by omega))])⟩
            exact L53 _ _ _ _ _ _ (by first | omega | assumption) (by first | omega | assumption) (by first | omega | assumption) (by first | omega | assumption) (by first | omega | assumption) (by first | omega | assumption) (by first | omega | assumption) (by first | omega | assumption) (by first | omega | assumption) (by first | omega | assumption) (by first | omega | assumption) (by first | omega | assumption) (by first | omega | assumption)
    refine hgo (fun p => Nat.beq p 24 || Nat.beq p 53 || Nat.beq p 72 || Nat.beq p 110) 79 0 _ [] M ?_
    refine And.intro (True.intro) ?_
    intro v3 M3 a3 b3 q3
    obtain ⟨q3, z3⟩ := q3
    subst z3
    clear a3 b3
    refine And.intro (fun h6 => ?_) (fun h6 => ?_)
    · skip
      replace q3 := q3.resolve_right (fun z => h6 z.1)
      clear h6
      exact L24 _ _ _ _ _ _ (Nat.lt_succ_self _) (by first | omega | assumption | exact fun w9 => ⟨⟨Int.le_refl _, w9.1.1⟩, Or.inl rfl, rfl⟩) (by first | omega | assumption | exact fun w9 => ⟨⟨Int.le_refl _, w9.1.1⟩, Or.inl rfl, rfl⟩) (by first | omega | assumption | exact fun w9 => ⟨⟨Int.le_refl _, w9.1.1⟩, Or.inl rfl, rfl⟩) (by first | omega | assumption | exact fun w9 => ⟨⟨Int.le_refl _, w9.1.1⟩, Or.inl rfl, rfl⟩) (by first | omega | assumption | exact fun w9 => ⟨⟨Int.le_refl _, w9.1.1⟩, Or.inl rfl, rfl⟩) (by first | omega | assumption | exact fun w9 => ⟨⟨Int.le_refl _, w9.1.1⟩, Or.inl rfl, rfl⟩) (by first | omega | assumption | exact fun w9 => ⟨⟨Int.le_refl _, w9.1.1⟩, Or.inl rfl, rfl⟩) (by first | omega | assumption | exact fun w9 => ⟨⟨Int.le_refl _, w9.1.1⟩, Or.inl rfl, rfl⟩) (by first | omega | assumption | exact fun w9 => ⟨⟨Int.le_refl _, w9.1.1⟩, Or.inl rfl, rfl⟩)
    · skip
      replace q3 := q3.resolve_left (fun z => absurd (z.1.symm.trans h6) (by decide))
      clear h6
      refine And.intro rfl ?_
      refine ⟨fun ls hl hq hW => ?_, rfl⟩
      show _ = sd_rnv (M 60) w
      unfold sd_rnv
      rw [if_neg (by omega), if_neg (by omega), if_neg (by omega)]
theorem v3_X12_runs {fr lo i : Nat} {own : String} (h1 : 4 + 1 ≤ fr) (h2 : 8 + (7 + 11) + 85 ≤ lo) (h3 : .methodLink own i yX12_runs ∈ lw_tbl) : pz_cV fr lo own i k3_X12_runs :=
  pz_cVk (maxL := 7) (fr' := 4) (lo' := 85) 1 12 h3_X12_runs rfl ⟨by decide +kernel, by decide +kernel, by decide +kernel⟩ ⟨(pz_mt 1707 (by decide +kernel)), (pz_mt 1705 (by decide +kernel)), (pz_mt 1706 (by decide +kernel)), (pz_mt 13 (by decide +kernel))⟩ (Or.inl ⟨TX12, 28, rfl⟩) (fun a M _ h => by
    have h : (match (generalizing := false) a with | [.inr (.inr (12, th)), .inl w] => pz_im M | _ => False) := h
    split at h
    · exact ⟨_, _, rfl⟩
    · exact h.elim) h1 h2 h3
