section
noncomputable def k3_X1_mayLeave : pz_C := (3, 0, fun a M => (match a with | [.inr (.inr (1, d)), .inr (.inr (0, c)), .inl i] => pz_ic M ∧ 0 ≤ i ∧ i < 12 | _ => False), fun a M r M' => (match a, r with | [.inr (.inr (1, d)), .inr (.inr (0, c)), .inl i], none => (sd_dd M M' c (fun _ F => i < F 88 ∧ sd_in F i.toNat) (fun tr ls _ F => sd_m3 tr ls i.toNat F)) ∧ pq_pr (pq_Pd c) M M' | _, _ => False))
noncomputable abbrev ct3_X1_mayLeave : List (Bool × Nat × pz_C) := [(true, 64, k3_X3_tells), (true, 114, k3_X0_happens), (true, 39, k_X0_at), (true, 76, k3_X1_write)]
set_option maxRecDepth 100000 in
set_option maxHeartbeats 4000000 in
theorem h3_X1_mayLeave : pz_H yX1_mayLeave cX1_mayLeave 5 none k3_X1_mayLeave 4 97 := by
  refine pz_mk (own := RX1) (tb := t_X1_mayLeave) (fl := pz_flf fl_RX1) (ci := fun _ => none) (ct := pz_ctf ct3_X1_mayLeave) (rz := false) (pz_pfc_RX1 yX1_mayLeave rfl) rfl t_X1_mayLeave_ok (pz_flk fl_RX1_ok) (fun i v h => by cases h) ?_ ?_ (rfl) ?_ ?_
  · exact fun i k' h => pz_ctk (l := ct3_X1_mayLeave) (P := fun b i k => b = true → pz_cV 4 97 RX1 i k) (List.forall_mem_cons.mpr ⟨(fun _ => v3_X3_tells (by decide) (by decide) pz_wq482), List.forall_mem_cons.mpr ⟨(fun _ => v3_X0_happens (by decide) (by decide) pz_wq591), List.forall_mem_cons.mpr ⟨(fun _ => v_X0_at (by decide) (by decide) pz_wq457), List.forall_mem_cons.mpr ⟨(fun _ => v3_X1_write (by decide) (by decide) pz_wq517), fun _ h => absurd h List.not_mem_nil⟩⟩⟩⟩) true i k' h rfl
  · exact fun i k' h => pz_ctk (l := ct3_X1_mayLeave) (P := fun b i k => b = false → (pz_cS 4 97 RX1 i k ∨ (k = pz_kac ∧ 1 ≤ 4 ∧ 60 ≤ 97 ∧ Cond.methodLink RX1 i arraycopyName ∈ pz_tbl))) (List.forall_mem_cons.mpr ⟨((fun z => by cases z)), List.forall_mem_cons.mpr ⟨((fun z => by cases z)), List.forall_mem_cons.mpr ⟨((fun z => by cases z)), List.forall_mem_cons.mpr ⟨((fun z => by cases z)), fun _ h => absurd h List.not_mem_nil⟩⟩⟩⟩) false i k' h rfl
  · intro a M hlen hpre
    obtain ⟨d, c, i, rfl, hpre⟩ : ∃ d c i, a = [.inr (.inr (1, d)), .inr (.inr (0, c)), .inl i] ∧ (pz_ic M ∧ 0 ≤ i ∧ i < 12) := by
      have hpre : (match (generalizing := false) a with | [.inr (.inr (1, d)), .inr (.inr (0, c)), .inl i] => pz_ic M ∧ 0 ≤ i ∧ i < 12 | _ => False) := hpre
      split at hpre
      · exact ⟨_, _, _, rfl, hpre⟩
      · exact hpre.elim
    exact Nat.le_of_ble_eq_true rfl
  · intro a M hlen hcan hM hpre Ok hgo
    obtain ⟨d, c, i, rfl, hpre⟩ : ∃ d c i, a = [.inr (.inr (1, d)), .inr (.inr (0, c)), .inl i] ∧ (pz_ic M ∧ 0 ≤ i ∧ i < 12) := by
      have hpre : (match (generalizing := false) a with | [.inr (.inr (1, d)), .inr (.inr (0, c)), .inl i] => pz_ic M ∧ 0 ≤ i ∧ i < 12 | _ => False) := hpre
      split at hpre
      · exact ⟨_, _, _, rfl, hpre⟩
      · exact hpre.elim
    obtain ⟨k_d, hc_d⟩ := pz_tlm hcan
    have k_d : pz_kd d = 1 ∧ d < 231 := k_d
    have R_d := pz_kd1 k_d.1
    subst R_d
    obtain ⟨k_c, hc_c⟩ := pz_tlm hc_d
    have k_c : pz_kd c = 0 ∧ c < 231 := k_c
    have R_c := pz_kd0 k_c.1
    obtain ⟨k_i, hc_i⟩ := pz_tlm hc_c
    have l_i : -2147483648 ≤ i := k_i.1
    have u_i : i ≤ 2147483647 := k_i.2
    have hI : pz_ic M := hpre.1
    have hI0 := hI
    have hS : pq_pr (pq_Pd c) M M := pq_pr.rf
    have hi0 := hpre.2.1
    have hi1 := hpre.2.2
    have L59 : ∀ (fu : Nat) (x3 : Int) (x4 : Int) (N59 : pz_M), (i + 2 - x4).toNat < fu → (pq_pr (pq_Pd c) M N59) → (i - 1 ≤ x4) → (x4 ≤ i + 2) → (sd_lq M N59 c (fun F => i < F 88 ∧ sd_in F i.toNat) (fun ls _ F G => (0 < sd_le ls F i.toNat ∧ sd_fb (decide (M c 0 = 0)) F (sd_le ls F i.toNat) = true) ∧ G = sd_lvH (decide (M c 0 = 0)) F i.toNat (x4 - (i - 1)).toNat)) → Ok 59 [some (.inr (.inr (1, 2))), some (.inr (.inr (0, c))), some (.inl i), some (.inl x3), some (.inl x4)] [] N59 := by
      intro fu
      induction fu with
      | zero => exact fun _ _ _ hn => absurd hn (Nat.not_lt_zero _)
      | succ fu ih59 =>
        intro x3 x4 N59 hn59 hS g59_1 g59_2 g59_3
        have hI : pz_ic N59 := hS.1 hI0
        have L90 : ∀ (x3 : Int) (x4 : Int) (N90 : pz_M), (pq_pr (pq_Pd c) M N90) → (x4 ≤ i + 1) → (i - 1 ≤ x4) → ((i + 2 - x4).toNat < fu + 1) → (sd_lq M N90 c (fun F => i < F 88 ∧ sd_in F i.toNat) (fun ls _ F G => (0 < sd_le ls F i.toNat ∧ sd_fb (decide (M c 0 = 0)) F (sd_le ls F i.toNat) = true) ∧ G = sd_lvH (decide (M c 0 = 0)) F i.toNat (x4 + 1 - (i - 1)).toNat)) → Ok 90 [some (.inr (.inr (1, 2))), some (.inr (.inr (0, c))), some (.inl i), some (.inl x3), some (.inl x4)] [] N90 := by
          intro x3 x4 N90 hS g90_1 g90_2 g90_3 g90_4
          have hI : pz_ic N90 := hS.1 hI0
          refine hgo (fun p => Nat.beq p 59 || Nat.beq p 90) 57 90 _ _ _ ?_
          intro v90 e90 a90 b90
          rw [pz_wi (by omega) (by omega)] at e90
          have G90 : sd_lq M N90 c (fun F => i < F 88 ∧ sd_in F i.toNat) (fun ls _ F G => (0 < sd_le ls F i.toNat ∧ sd_fb (decide (M c 0 = 0)) F (sd_le ls F i.toNat) = true) ∧ G = sd_lvH (decide (M c 0 = 0)) F i.toNat (v90 - (i - 1)).toNat) := by
            rw [e90]
            exact g90_4
          exact ih59 _ _ _ (by omega) hS (by first | omega | assumption) (by first | omega | assumption) (by first | omega | assumption)
        refine hgo (fun p => Nat.beq p 59 || Nat.beq p 90) 57 59 _ _ _ ?_
        intro v63 e63 a63 b63
        try rw [pz_wi (by omega) (by omega)] at e63
        refine And.intro (fun h64 => ?_) (fun h64 => ?_)
        · skip
          refine And.intro rfl ?_
          refine ⟨fun ls l1 F hT hF hP hW hp => ?_, hS⟩
          obtain ⟨G, s, p, w, t, r1, r2⟩ := g59_3 ls l1 F hT hF hP hW hp
          rw [show (x4 - (i - 1)).toNat = 3 by omega, sd_lvH_3 hW (by have := hp.1; omega) hp.2] at r2
          unfold sd_m3
          dsimp only
          rw [if_pos r1.1, if_pos r1.2, ← r2]
          exact ⟨s, p, w⟩
        · skip
          refine And.intro (True.intro) ?_
          intro r70 M70 k70 q70
          have R70 := pz_kd5 k70
          obtain ⟨q70, z70⟩ := q70
          subst z70
          have A70 := pz_at_lk R_c q70
          have B70 : 89 + 13 * (c - 71) ≤ r70 ∧ r70 ≤ 89 + 13 * (c - 71) + 12 := by
            rw [A70]
            exact pz_lnk_c
          intro v73 e73 a73 b73
          refine And.intro (fun h77 => ?_) (fun h77 => ?_)
          · skip
            have G77 : sd_lq M N59 c (fun F => i < F 88 ∧ sd_in F i.toNat) (fun ls _ F G => (0 < sd_le ls F i.toNat ∧ sd_fb (decide (M c 0 = 0)) F (sd_le ls F i.toNat) = true) ∧ G = sd_lvH (decide (M c 0 = 0)) F i.toNat (x4 + 1 - (i - 1)).toNat) := fun ls l1 F hT hF hP hW hp => by
              obtain ⟨G, s, p, w, t, r1, r2⟩ := g59_3 ls l1 F hT hF hP hW hp
              have n9 := w.1
              have e : sd_lvH (decide (M c 0 = 0)) F i.toNat (x4 + 1 - (i - 1)).toNat = sd_lvk G x4 := by
                rw [show (x4 + 1 - (i - 1)).toNat = (x4 - (i - 1)).toNat + 1 by omega, r2]
                show sd_lvk _ (((i.toNat : Nat) : Int) - 1 + ((x4 - (i - 1)).toNat : Nat)) = _
                rw [show ((i.toNat : Nat) : Int) - 1 + ((x4 - (i - 1)).toNat : Nat) = x4 by omega]
              have k : sd_lvk G x4 = G := if_neg (fun z => by
                have b7 := (sd_at R_c s w z.1 z.2.1 A70).2.2.2.2.2.2.2
                have z3 := z.2.2
                omega)
              exact ⟨G, s, p, w, t, r1, by rw [e, k]⟩
            exact L90 _ _ _ hS (by first | omega | assumption) (by first | omega | assumption) (by first | omega | assumption) (by first | omega | assumption)
          · skip
            skip
            refine And.intro (True.intro) ?_
            intro r83 M83 k83 q83
            have R83 := pz_kd5 k83
            obtain ⟨q83, z83⟩ := q83
            subst z83
            have A83 := pz_at_lk R_c q83
            have B83 : 89 + 13 * (c - 71) ≤ r83 ∧ r83 ≤ 89 + 13 * (c - 71) + 12 := by
              rw [A83]
              exact pz_lnk_c
            intro M87 e87
            have hS : pq_pr (pq_Pd c) M M87 := by
              rw [e87]
              exact pq_pr_u hS (by unfold pq_Pd pq_Pw pz_lb; omega) (by unfold pz_iok; omega)
            have hI : pz_ic M87 := hS.1 hI0
            have G87 : sd_lq M M87 c (fun F => i < F 88 ∧ sd_in F i.toNat) (fun ls _ F G => (0 < sd_le ls F i.toNat ∧ sd_fb (decide (M c 0 = 0)) F (sd_le ls F i.toNat) = true) ∧ G = sd_lvH (decide (M c 0 = 0)) F i.toNat (x4 + 1 - (i - 1)).toNat) := fun ls l1 F hT hF hP hW hp => by
              obtain ⟨G, s, p, w, t, r1, r2⟩ := g59_3 ls l1 F hT hF hP hW hp
              have n9 := w.1
              have e : sd_lvH (decide (M c 0 = 0)) F i.toNat (x4 + 1 - (i - 1)).toNat = sd_lvk G x4 := by
                rw [show (x4 + 1 - (i - 1)).toNat = (x4 - (i - 1)).toNat + 1 by omega, r2]
                show sd_lvk _ (((i.toNat : Nat) : Int) - 1 + ((x4 - (i - 1)).toNat : Nat)) = _
                rw [show ((i.toNat : Nat) : Int) - 1 + ((x4 - (i - 1)).toNat : Nat) = x4 by omega]
              have t87 : sd_tx M87 ls l1 := sd_tx_cg t (fun b j q => by rw [e87]; exact pz_una (by omega))
              have p87 : sd_pg M87 (sd_lvk G x4) := sd_pg_cg p (fun j => by rw [e87]; exact pz_una (by omega)) (fun k b _ => sd_lvk_o (by omega) (by omega))
              refine ⟨sd_lvk G x4, ?_, p87, sd_lvk_wf w, t87, r1, e.symm⟩
              by_cases z : 0 ≤ x4 ∧ x4 < G 88
              · have b7 := (sd_at R_c s w z.1 z.2 A70).2.2.2.2.2.2.2
                have k : sd_lvk G x4 = sd_u G (40 + x4.toNat) 0 := if_pos ⟨z.1, z.2, by omega⟩
                rw [k]
                exact (sd_put (f := 4) (i := x4) (v := 0) R_c s p w z.1 z.2 A83 (by decide) e87 (sd_okv_4 (Or.inl rfl))).1
              · have k : sd_lvk G x4 = G := if_neg (fun y => z ⟨y.1, y.2.1⟩)
                rw [k, e87]
                exact sd_se_x R_c s (by omega) A83 z
            exact L90 _ _ _ hS (by first | omega | assumption) (by first | omega | assumption) (by first | omega | assumption) (by first | omega | assumption)
    refine hgo (fun p => Nat.beq p 59 || Nat.beq p 90) 57 0 _ [] M ?_
    intro r1 e1 k1
    have R1 := pz_kd10 k1
    intro r4 e4 k4
    have R4 := pz_kd3 k4
    have L4 : r4 = 10 := by rw [e4, e1]; rfl
    refine And.intro (hI) ?_
    intro v10 M10 a10 b10 q10
    obtain ⟨q10, z10⟩ := q10
    have hS : pq_pr (pq_Pd c) M M10 := hS.tr z10.dw
    have hI : pz_ic M10 := hS.1 hI0
    rw [L4] at q10
    refine And.intro (fun h15 => ?_) (fun h15 => ?_)
    · skip
      refine And.intro rfl ?_
      refine ⟨fun ls l1 F hT hF hP hW hp => ?_, hS⟩
      obtain ⟨h1, h2⟩ := hp
      have hm := hW.1
      have T := sd_tel1 R_c hT hF hW (by omega) h1 q10.2
      have s10 := sd_se_d R_c hF hW z10
      have p10 := sd_pg_d hP z10
      have d10 : M10 c 0 = M c 0 := z10.2 c 0 (by unfold pq_Pw; omega)
      unfold sd_m3
      dsimp only
      first
        | (rw [if_neg (by rw [← T]; omega)]
           exact ⟨s10, p10, hW⟩)
        | (obtain ⟨a1, a2, a3⟩ := q20
           obtain ⟨a4, a5⟩ := a3 F s10 hW
           rw [d10] at a4 a5
           rw [if_pos (by rw [← T]; omega), if_neg (by rw [← T]; exact fun y => absurd (a4.mpr y) (by omega))]
           exact ⟨a5, sd_pg_cg p10 a2 (fun k b _ => sd_fF_o (by omega)), sd_fF_wf hW⟩)
    · skip
      refine And.intro (hI) ?_
      intro v20 M20 a20 b20 q20
      obtain ⟨q20, z20⟩ := q20
      have hS : pq_pr (pq_Pd c) M M20 := hS.tr z20
      have hI : pz_ic M20 := hS.1 hI0
      refine And.intro (fun h23 => ?_) (fun h23 => ?_)
      · skip
        refine And.intro (True.intro) ?_
        intro r29 M29 k29 q29
        have R29 := pz_kd5 k29
        obtain ⟨q29, z29⟩ := q29
        subst z29
        have A29 := pz_at_lk R_c q29
        have B29 : 89 + 13 * (c - 71) ≤ r29 ∧ r29 ≤ 89 + 13 * (c - 71) + 12 := by
          rw [A29]
          exact pz_lnk_c
        intro M33 e33
        have hS : pq_pr (pq_Pd c) M M33 := by
          rw [e33]
          exact pq_pr_u hS (by unfold pq_Pd pq_Pw pz_lb; omega) (by unfold pz_iok; omega)
        have hI : pz_ic M33 := hS.1 hI0
        intro v38 e38 a38 b38
        intro v42 e42 a42 b42
        intro M43 e43
        have hS : pq_pr (pq_Pd c) M M43 := by
          rw [e43]
          exact pq_pr_u hS (by unfold pq_Pd pq_Pw pz_lb; omega) (by unfold pz_iok; omega)
        have hI : pz_ic M43 := hS.1 hI0
        refine And.intro (hI) ?_
        intro M51 q51
        obtain ⟨q51, z51⟩ := q51
        have hS : pq_pr (pq_Pd c) M M51 := hS.tr z51
        have hI : pz_ic M51 := hS.1 hI0
        intro v56 e56 a56 b56
        rw [pz_wi (by omega) (by omega)] at e56
        have G56 : sd_lq M M51 c (fun F => i < F 88 ∧ sd_in F i.toNat) (fun ls _ F G => (0 < sd_le ls F i.toNat ∧ sd_fb (decide (M c 0 = 0)) F (sd_le ls F i.toNat) = true) ∧ G = sd_lvH (decide (M c 0 = 0)) F i.toNat (v56 - (i - 1)).toNat) := fun ls l1 F hT hF hP hW hp => by
          obtain ⟨h1, h2⟩ := hp
          have hm := hW.1
          have T := sd_tel1 R_c hT hF hW (by omega) h1 q10.2
          have s10 := sd_se_d R_c hF hW z10
          have p10 := sd_pg_d hP z10
          have t10 := sd_tx_w hT z10
          have d10 : M10 c 0 = M c 0 := z10.2 c 0 (by unfold pq_Pw; omega)
          obtain ⟨a1, a2, a3⟩ := q20
          obtain ⟨a4, a5⟩ := a3 F s10 hW
          rw [d10] at a4 a5
          have p20 : sd_pg M20 (sd_fF (decide (M c 0 = 0)) F) := sd_pg_cg p10 a2 (fun k b _ => sd_fF_o (by omega))
          have w20 := sd_fF_wf (tr := decide (M c 0 = 0)) hW
          have k88 : sd_fF (decide (M c 0 = 0)) F 88 = F 88 := sd_fF_o (by decide)
          have t20 : sd_tx M20 ls l1 := sd_tx_d t10 (by omega) z20
          have d20 : M20 c 0 = M c 0 := (z20.2 c 0 (by unfold pq_Pd pq_Pw pz_lb; omega)).trans d10
          obtain ⟨s33, p33, w33, d33⟩ := sd_put (f := 5) (i := i) (v := 1) R_c a5 p20 w20 (by omega) (by rw [k88]; exact h1) A29 (by decide) e33 (sd_okv_5 (Or.inr rfl))
          have k1 : (sd_u (sd_fF (decide (M c 0 = 0)) F) (sd_fo 5 + i.toNat) 1) 88 = F 88 := (sd_un (by show (88 : Nat) ≠ 52 + i.toNat; omega)).trans k88
          have k2 : (sd_u (sd_fF (decide (M c 0 = 0)) F) (sd_fo 5 + i.toNat) 1) 1 = sd_fF (decide (M c 0 = 0)) F 1 := sd_un (by show (1 : Nat) ≠ 52 + i.toNat; omega)
          have s43 : sd_se M43 c (sd_u (sd_u (sd_fF (decide (M c 0 = 0)) F) (sd_fo 5 + i.toNat) 1) 1 (pz_w (sd_fF (decide (M c 0 = 0)) F 1 + 1))) := by
            rw [e43, e42, e38, s33.2.2.1, k2]
            exact sd_se_c (k := 1) (f := 5) R_c s33 (by omega) ⟨by decide, rfl⟩
          have p43 : sd_pg M43 (sd_u (sd_u (sd_fF (decide (M c 0 = 0)) F) (sd_fo 5 + i.toNat) 1) 1 (pz_w (sd_fF (decide (M c 0 = 0)) F 1 + 1))) := sd_pg_cg p33 (fun j => by rw [e43]; exact pz_una (by omega)) (fun k b _ => sd_un (by omega))
          have w43 : sd_wf (sd_u (sd_u (sd_fF (decide (M c 0 = 0)) F) (sd_fo 5 + i.toNat) 1) 1 (pz_w (sd_fF (decide (M c 0 = 0)) F 1 + 1))) := sd_wf_cg w33 (fun k hk => sd_un (by omega)) (by rw [sd_un (by decide)]; exact w33.2.1)
          have q := q51 _ s43 p43 w43
          have d43 : M43 c 0 = M c 0 := by
            rw [e43, pz_unk (by decide), d33]
            exact d20
          rw [d43] at q
          have ei : ((i.toNat : Nat) : Int) = i := by omega
          refine ⟨sd_lvH (decide (M c 0 = 0)) F i.toNat (v56 - (i - 1)).toNat, ?_, ?_, ?_, sd_tx_cg t20 (fun b j q => (z51.2 b j (by unfold pq_Pd pq_Pw pz_lb; omega)).trans (by rw [e43, pz_una (by omega), e33]; exact pz_una (by omega))), ⟨⟨by rw [← T]; omega, by rw [← T]; exact a4.mp (by omega)⟩, rfl⟩⟩
          · rw [show (v56 - (i - 1)).toNat = 0 by omega]
            show sd_se M51 c (sd_note _ (sd_u (sd_u (sd_fF (decide (M c 0 = 0)) F) (52 + i.toNat) 1) 1 (pz_w (sd_fF (decide (M c 0 = 0)) F 1 + 1))) 4 ((i.toNat : Nat) : Int) 0)
            rw [ei]
            exact q.1
          · rw [show (v56 - (i - 1)).toNat = 0 by omega]
            show sd_pg M51 (sd_note _ (sd_u (sd_u (sd_fF (decide (M c 0 = 0)) F) (52 + i.toNat) 1) 1 (pz_w (sd_fF (decide (M c 0 = 0)) F 1 + 1))) 4 ((i.toNat : Nat) : Int) 0)
            rw [ei]
            exact q.2
          · rw [show (v56 - (i - 1)).toNat = 0 by omega]
            exact sd_note_wf w43
        exact L59 _ _ _ _ (Nat.lt_succ_self _) hS (by first | omega | assumption) (by first | omega | assumption) (by first | omega | assumption)
      · skip
        refine And.intro rfl ?_
        refine ⟨fun ls l1 F hT hF hP hW hp => ?_, hS⟩
        obtain ⟨h1, h2⟩ := hp
        have hm := hW.1
        have T := sd_tel1 R_c hT hF hW (by omega) h1 q10.2
        have s10 := sd_se_d R_c hF hW z10
        have p10 := sd_pg_d hP z10
        have d10 : M10 c 0 = M c 0 := z10.2 c 0 (by unfold pq_Pw; omega)
        unfold sd_m3
        dsimp only
        first
          | (rw [if_neg (by rw [← T]; omega)]
             exact ⟨s10, p10, hW⟩)
          | (obtain ⟨a1, a2, a3⟩ := q20
             obtain ⟨a4, a5⟩ := a3 F s10 hW
             rw [d10] at a4 a5
             rw [if_pos (by rw [← T]; omega), if_neg (by rw [← T]; exact fun y => absurd (a4.mpr y) (by omega))]
             exact ⟨a5, sd_pg_cg p10 a2 (fun k b _ => sd_fF_o (by omega)), sd_fF_wf hW⟩)
theorem v3_X1_mayLeave {fr lo i : Nat} {own : String} (h1 : 4 + 1 ≤ fr) (h2 : 8 + (5 + 11) + 97 ≤ lo) (h3 : .methodLink own i yX1_mayLeave ∈ lw_tbl) : pz_cV fr lo own i k3_X1_mayLeave :=
  pz_cVk (maxL := 5) (fr' := 4) (lo' := 97) 2 1 h3_X1_mayLeave rfl ⟨(pz_nhc_RX1 yX1_mayLeave rfl).1, (pz_nhc_RX1 yX1_mayLeave rfl).2, pz_ds34⟩ ⟨pz_wq600, pz_wq598, pz_wq599, pz_wq7⟩ (Or.inl ⟨TX1, 2, rfl⟩) (fun a M _ h => by
    have h : (match (generalizing := false) a with | [.inr (.inr (1, d)), .inr (.inr (0, c)), .inl i] => pz_ic M ∧ 0 ≤ i ∧ i < 12 | _ => False) := h
    split at h
    · exact ⟨_, _, rfl⟩
    · exact h.elim) h1 h2 h3
noncomputable def k3_X1_oneDay : pz_C := (2, 1, fun a M => (match a with | [.inr (.inr (1, d)), .inr (.inr (0, c))] => pz_ic M | _ => False), fun a M r M' => (match a, r with | [.inr (.inr (1, d)), .inr (.inr (0, c))], some (.inl v) => (sd_od M M' c v) ∧ pq_pr (pq_Pd c) M M' | _, _ => False))
noncomputable abbrev ct3_X1_oneDay : List (Bool × Nat × pz_C) := [(true, 103, k_X6_cell), (true, 106, k3_X1_doPlanned), (true, 110, k3_X1_canGetReady), (true, 64, k3_X3_tells), (true, 114, k3_X0_happens), (true, 117, k3_X1_getReady), (true, 39, k_X0_at), (true, 43, k_X5_isIn), (true, 120, k3_X1_mayLeave), (true, 123, k3_X1_moveParts), (true, 127, k3_X1_payForBridges)]
set_option maxRecDepth 100000 in
set_option maxHeartbeats 4000000 in
theorem h3_X1_oneDay : pz_H yX1_oneDay cX1_oneDay 3 (some .int) k3_X1_oneDay 6 147 := by
  refine pz_mk (own := RX1) (tb := t_X1_oneDay) (fl := pz_flf fl_RX1) (ci := fun _ => none) (ct := pz_ctf ct3_X1_oneDay) (rz := false) (pz_pfc_RX1 yX1_oneDay rfl) rfl t_X1_oneDay_ok (pz_flk fl_RX1_ok) (fun i v h => by cases h) ?_ ?_ (Or.inl ⟨rfl, rfl⟩) ?_ ?_
  · exact fun i k' h => pz_ctk (l := ct3_X1_oneDay) (P := fun b i k => b = true → pz_cV 6 147 RX1 i k) (List.forall_mem_cons.mpr ⟨(fun _ => v_X6_cell (by decide) (by decide) pz_wq575), List.forall_mem_cons.mpr ⟨(fun _ => v3_X1_doPlanned (by decide) (by decide) pz_wq579), List.forall_mem_cons.mpr ⟨(fun _ => v3_X1_canGetReady (by decide) (by decide) pz_wq589), List.forall_mem_cons.mpr ⟨(fun _ => v3_X3_tells (by decide) (by decide) pz_wq482), List.forall_mem_cons.mpr ⟨(fun _ => v3_X0_happens (by decide) (by decide) pz_wq591), List.forall_mem_cons.mpr ⟨(fun _ => v3_X1_getReady (by decide) (by decide) pz_wq590), List.forall_mem_cons.mpr ⟨(fun _ => v_X0_at (by decide) (by decide) pz_wq457), List.forall_mem_cons.mpr ⟨(fun _ => v_X5_isIn (by decide) (by decide) pz_wq458), List.forall_mem_cons.mpr ⟨(fun _ => v3_X1_mayLeave (by decide) (by decide) pz_wq597), List.forall_mem_cons.mpr ⟨(fun _ => v3_X1_moveParts (by decide) (by decide) pz_wq601), List.forall_mem_cons.mpr ⟨(fun _ => v3_X1_payForBridges (by decide) (by decide) pz_wq639), fun _ h => absurd h List.not_mem_nil⟩⟩⟩⟩⟩⟩⟩⟩⟩⟩⟩) true i k' h rfl
  · exact fun i k' h => pz_ctk (l := ct3_X1_oneDay) (P := fun b i k => b = false → (pz_cS 6 147 RX1 i k ∨ (k = pz_kac ∧ 1 ≤ 6 ∧ 60 ≤ 147 ∧ Cond.methodLink RX1 i arraycopyName ∈ pz_tbl))) (List.forall_mem_cons.mpr ⟨((fun z => by cases z)), List.forall_mem_cons.mpr ⟨((fun z => by cases z)), List.forall_mem_cons.mpr ⟨((fun z => by cases z)), List.forall_mem_cons.mpr ⟨((fun z => by cases z)), List.forall_mem_cons.mpr ⟨((fun z => by cases z)), List.forall_mem_cons.mpr ⟨((fun z => by cases z)), List.forall_mem_cons.mpr ⟨((fun z => by cases z)), List.forall_mem_cons.mpr ⟨((fun z => by cases z)), List.forall_mem_cons.mpr ⟨((fun z => by cases z)), List.forall_mem_cons.mpr ⟨((fun z => by cases z)), List.forall_mem_cons.mpr ⟨((fun z => by cases z)), fun _ h => absurd h List.not_mem_nil⟩⟩⟩⟩⟩⟩⟩⟩⟩⟩⟩) false i k' h rfl
  · intro a M hlen hpre
    obtain ⟨d, c, rfl, hpre⟩ : ∃ d c, a = [.inr (.inr (1, d)), .inr (.inr (0, c))] ∧ (pz_ic M) := by
      have hpre : (match (generalizing := false) a with | [.inr (.inr (1, d)), .inr (.inr (0, c))] => pz_ic M | _ => False) := hpre
      split at hpre
      · exact ⟨_, _, rfl, hpre⟩
      · exact hpre.elim
    exact Nat.le_of_ble_eq_true rfl
  · intro a M hlen hcan hM hpre Ok hgo
    obtain ⟨d, c, rfl, hpre⟩ : ∃ d c, a = [.inr (.inr (1, d)), .inr (.inr (0, c))] ∧ (pz_ic M) := by
      have hpre : (match (generalizing := false) a with | [.inr (.inr (1, d)), .inr (.inr (0, c))] => pz_ic M | _ => False) := hpre
      split at hpre
      · exact ⟨_, _, rfl, hpre⟩
      · exact hpre.elim
    obtain ⟨k_d, hc_d⟩ := pz_tlm hcan
    have k_d : pz_kd d = 1 ∧ d < 231 := k_d
    have R_d := pz_kd1 k_d.1
    subst R_d
    obtain ⟨k_c, hc_c⟩ := pz_tlm hc_d
    have k_c : pz_kd c = 0 ∧ c < 231 := k_c
    have R_c := pz_kd0 k_c.1
    have hI : pz_ic M := hpre
    have hI0 := hI
    have hS : pq_pr (pq_Pd c) M M := pq_pr.rf
    have L100 : ∀ (fu : Nat) (x2 : Int) (N100 : pz_M), (12 - x2).toNat < fu → (pq_pr (pq_Pd c) M N100) → (0 ≤ x2) → (sd_lp M N100 c (fun ls l1 F G => G 88 = F 88 ∧ sd_p3 (decide (M c 0 = 0)) ls (sd_n F - x2.toNat) x2.toNat G = sd_d3 (decide (M c 0 = 0)) ls l1 F)) → Ok 100 [some (.inr (.inr (1, 2))), some (.inr (.inr (0, c))), some (.inl x2)] [] N100 := by
      intro fu
      induction fu with
      | zero => exact fun _ _ hn => absurd hn (Nat.not_lt_zero _)
      | succ fu ih100 =>
        intro x2 N100 hn100 hS g100_1 g100_2
        have hI : pz_ic N100 := hS.1 hI0
        have hS9 := hS
        have t0 : N100 c 0 = M c 0 := hS.2 c 0 (by unfold pq_Pd pq_Pw pz_lb; omega)
        have L125 : ∀ (x2 : Int) (N125 : pz_M), (pq_pr (pq_Pd c) M N125) → (0 ≤ x2) → (x2 < 12) → ((12 - x2).toNat < fu + 1) → (sd_lp M N125 c (fun ls l1 F G => G 88 = F 88 ∧ sd_p3 (decide (M c 0 = 0)) ls (sd_n F - (x2.toNat + 1)) (x2.toNat + 1) G = sd_d3 (decide (M c 0 = 0)) ls l1 F)) → Ok 125 [some (.inr (.inr (1, 2))), some (.inr (.inr (0, c))), some (.inl x2)] [] N125 := by
          intro x2 N125 hS g125_1 g125_2 g125_3 g125_4
          have hI : pz_ic N125 := hS.1 hI0
          refine hgo (fun p => Nat.beq p 2 || Nat.beq p 41 || Nat.beq p 49 || Nat.beq p 92 || Nat.beq p 100 || Nat.beq p 125) 84 125 _ _ _ ?_
          intro v125 e125 a125 b125
          rw [pz_wi (by omega) (by omega)] at e125
          have G125 : sd_lp M N125 c (fun ls l1 F G => G 88 = F 88 ∧ sd_p3 (decide (M c 0 = 0)) ls (sd_n F - v125.toNat) v125.toNat G = sd_d3 (decide (M c 0 = 0)) ls l1 F) := by
            rw [show v125.toNat = x2.toNat + 1 by omega]
            exact g125_4
          exact ih100 _ _ (by omega) hS (by first | omega | assumption) (by first | omega | assumption)
        refine hgo (fun p => Nat.beq p 2 || Nat.beq p 41 || Nat.beq p 49 || Nat.beq p 92 || Nat.beq p 100 || Nat.beq p 125) 84 100 _ _ _ ?_
        intro v102 e102 a102 b102
        have I102 := hI.1 c (by omega) (by omega)
        refine And.intro (fun h105 => ?_) (fun h105 => ?_)
        · skip
          refine And.intro (hI) ?_
          intro v133 M133 a133 b133 q133
          obtain ⟨q133, z133⟩ := q133
          have hS : pq_pr (pq_Pd c) M M133 := hS.tr z133
          have hI : pz_ic M133 := hS.1 hI0
          refine And.intro (hI) ?_
          intro M139 q139
          obtain ⟨q139, z139⟩ := q139
          have hS : pq_pr (pq_Pd c) M M139 := hS.tr z139
          have hI : pz_ic M139 := hS.1 hI0
          intro v144 e144 a144 b144
          intro v148 e148 a148 b148
          intro M149 e149
          have hS : pq_pr (pq_Pd c) M M149 := by
            rw [e149]
            exact pq_pr_u hS (by unfold pq_Pd pq_Pw pz_lb; omega) (by unfold pz_iok; omega)
          have hI : pz_ic M149 := hS.1 hI0
          refine And.intro rfl ?_
          refine ⟨fun ls l1 F hT hF hP hW => ?_, hS⟩
          obtain ⟨G, s, p, w, t, r1, r2⟩ := g100_2 ls l1 F hT hF hP hW
          have n9 := s.1
          have m9 := w.1
          have k9 := sd_n_i hW
          rw [show sd_n F - x2.toNat = 0 by omega] at r2
          have r2 : G = sd_d3 (decide (M c 0 = 0)) ls l1 F := r2
          have nn : sd_n G = sd_n F := by unfold sd_n; rw [r1]
          have y := q133 ls l1 G t s p w
          rw [t0, nn, r2] at y
          obtain ⟨y1, y2, y3, y4, y5⟩ := y
          have t133 := sd_tx_d t (by omega) z133
          have d133 : M133 c 0 = M c 0 := (z133.2 c 0 (by unfold pq_Pd pq_Pw pz_lb; omega)).trans t0
          have z := q139 ls l1 _ t133 y2 y3 y4 trivial
          have n4 : sd_n (sd_mv (decide (M c 0 = 0)) (sd_bb (sd_d3 (decide (M c 0 = 0)) ls l1 F)) (sd_n F) 12 0 (sd_d3 (decide (M c 0 = 0)) ls l1 F) 0).1 = sd_n F := by
            exact congrArg Int.toNat (y5.trans (by rw [← r2]; exact r1))
          dsimp only at z
          rw [n4] at z
          obtain ⟨z1, z2, z3⟩ := z
          have z1 : sd_se M139 c (sd_d5 (decide (M c 0 = 0)) ls l1 F) := z1
          have z2 : sd_pg M139 (sd_d5 (decide (M c 0 = 0)) ls l1 F) := z2
          have z3 : sd_wf (sd_d5 (decide (M c 0 = 0)) ls l1 F) := z3
          have m5 := z3.1
          unfold sd_day
          refine ⟨y1, ?_, sd_pg_cg z2 (fun j => by rw [e149]; exact pz_una (by omega)) (fun k a _ => sd_un (by omega)), sd_wf_cg z3 (fun k hk => sd_un (by omega)) (by rw [sd_un (by decide)]; exact z3.2.1)⟩
          rw [e149, e148, e144, z1.2.1]
          exact sd_se_c (k := 0) (f := 4) R_c z1 (by omega) ⟨by decide, rfl⟩
        · skip
          refine And.intro (True.intro) ?_
          intro r110 M110 k110 q110
          have R110 := pz_kd5 k110
          obtain ⟨q110, z110⟩ := q110
          subst z110
          have A110 := pz_at_lk R_c q110
          have B110 : 89 + 13 * (c - 71) ≤ r110 ∧ r110 ≤ 89 + 13 * (c - 71) + 12 := by
            rw [A110]
            exact pz_lnk_c
          refine And.intro (True.intro) ?_
          intro v113 M113 a113 b113 q113
          obtain ⟨q113, z113⟩ := q113
          subst z113
          refine And.intro (fun h116 => ?_) (fun h116 => ?_)
          · skip
            have G116 : sd_lp M N100 c (fun ls l1 F G => G 88 = F 88 ∧ sd_p3 (decide (M c 0 = 0)) ls (sd_n F - (x2.toNat + 1)) (x2.toNat + 1) G = sd_d3 (decide (M c 0 = 0)) ls l1 F) := fun ls l1 F hT hF hP hW => by
              obtain ⟨G, s, p, w, t, r1, r2⟩ := g100_2 ls l1 F hT hF hP hW
              have n9 := s.1
              have m9 := w.1
              have k9 := sd_n_i hW
              have b := sd_at R_c s w g100_1 (by omega) A110
              have b5 := b.2.2.2.2.2.1
              have b7 := b.2.2.2.2.2.2.2
              have P := w.2.2 x2.toNat (by omega)
              unfold sd_lw at P
              rw [b5, b7] at q113
              have ni : ¬ sd_in G x2.toNat := fun y => by
                unfold sd_in at y
                split at q113 <;> omega
              rw [show sd_n F - x2.toNat = (sd_n F - (x2.toNat + 1)) + 1 by omega] at r2
              refine ⟨G, s, p, w, t, r1, ?_⟩
              rw [← r2]
              show _ = sd_p3 _ ls _ (x2.toNat + 1) (sd_s3 _ ls x2.toNat G)
              rw [sd_s3_no ni]
            exact L125 _ _ hS (by first | omega | assumption) (by first | omega | assumption) (by first | omega | assumption) (by first | omega | assumption)
          · skip
            skip
            refine And.intro (And.intro hI (And.intro (by omega) (by omega))) ?_
            intro M122 q122
            obtain ⟨q122, z122⟩ := q122
            have hS : pq_pr (pq_Pd c) M M122 := hS.tr z122
            have hI : pz_ic M122 := hS.1 hI0
            have G122 : sd_lp M M122 c (fun ls l1 F G => G 88 = F 88 ∧ sd_p3 (decide (M c 0 = 0)) ls (sd_n F - (x2.toNat + 1)) (x2.toNat + 1) G = sd_d3 (decide (M c 0 = 0)) ls l1 F) := fun ls l1 F hT hF hP hW => by
              obtain ⟨G, s, p, w, t, r1, r2⟩ := g100_2 ls l1 F hT hF hP hW
              have n9 := s.1
              have m9 := w.1
              have k9 := sd_n_i hW
              have b := sd_at R_c s w g100_1 (by omega) A110
              have b5 := b.2.2.2.2.2.1
              have b7 := b.2.2.2.2.2.2.2
              rw [b5, b7] at q113
              have yi : sd_in G x2.toNat := by
                unfold sd_in
                split at q113 <;> omega
              have z := q122 ls l1 G t s p w ⟨by omega, yi⟩
              rw [t0] at z
              rw [show sd_n F - x2.toNat = (sd_n F - (x2.toNat + 1)) + 1 by omega] at r2
              exact ⟨_, z.1, z.2.1, z.2.2, sd_tx_d t (by omega) z122, (sd_m3_88 (by omega)).trans r1, by
                rw [← r2]
                show sd_p3 _ ls _ (x2.toNat + 1) (sd_m3 _ ls x2.toNat G) = _
                rw [← sd_s3_in yi]
                rfl⟩
            exact L125 _ _ hS (by first | omega | assumption) (by first | omega | assumption) (by first | omega | assumption) (by first | omega | assumption)
    have L49 : ∀ (fu : Nat) (x2 : Int) (N49 : pz_M), (12 - x2).toNat < fu → (pq_pr (pq_Pd c) M N49) → (0 ≤ x2) → (sd_lp M N49 c (fun ls l1 F G => G 88 = F 88 ∧ sd_p2 (decide (M c 0 = 0)) ls (sd_n F - x2.toNat) x2.toNat G = sd_p2 (decide (M c 0 = 0)) ls (sd_n F) 0 (sd_p1 (decide (M c 0 = 0)) ls l1 F))) → Ok 49 [some (.inr (.inr (1, 2))), some (.inr (.inr (0, c))), some (.inl x2)] [] N49 := by
      intro fu
      induction fu with
      | zero => exact fun _ _ hn => absurd hn (Nat.not_lt_zero _)
      | succ fu ih49 =>
        intro x2 N49 hn49 hS g49_1 g49_2
        have hI : pz_ic N49 := hS.1 hI0
        have hS9 := hS
        have t0 : N49 c 0 = M c 0 := hS.2 c 0 (by unfold pq_Pd pq_Pw pz_lb; omega)
        have L92 : ∀ (x2 : Int) (N92 : pz_M), (pq_pr (pq_Pd c) M N92) → (0 ≤ x2) → (x2 < 12) → ((12 - x2).toNat < fu + 1) → (sd_lp M N92 c (fun ls l1 F G => G 88 = F 88 ∧ sd_p2 (decide (M c 0 = 0)) ls (sd_n F - (x2.toNat + 1)) (x2.toNat + 1) G = sd_p2 (decide (M c 0 = 0)) ls (sd_n F) 0 (sd_p1 (decide (M c 0 = 0)) ls l1 F))) → Ok 92 [some (.inr (.inr (1, 2))), some (.inr (.inr (0, c))), some (.inl x2)] [] N92 := by
          intro x2 N92 hS g92_1 g92_2 g92_3 g92_4
          have hI : pz_ic N92 := hS.1 hI0
          refine hgo (fun p => Nat.beq p 2 || Nat.beq p 41 || Nat.beq p 49 || Nat.beq p 92 || Nat.beq p 100 || Nat.beq p 125) 84 92 _ _ _ ?_
          intro v92 e92 a92 b92
          rw [pz_wi (by omega) (by omega)] at e92
          have G92 : sd_lp M N92 c (fun ls l1 F G => G 88 = F 88 ∧ sd_p2 (decide (M c 0 = 0)) ls (sd_n F - v92.toNat) v92.toNat G = sd_p2 (decide (M c 0 = 0)) ls (sd_n F) 0 (sd_p1 (decide (M c 0 = 0)) ls l1 F)) := by
            rw [show v92.toNat = x2.toNat + 1 by omega]
            exact g92_4
          exact ih49 _ _ (by omega) hS (by first | omega | assumption) (by first | omega | assumption)
        refine hgo (fun p => Nat.beq p 2 || Nat.beq p 41 || Nat.beq p 49 || Nat.beq p 92 || Nat.beq p 100 || Nat.beq p 125) 84 49 _ _ _ ?_
        intro v51 e51 a51 b51
        have I51 := hI.1 c (by omega) (by omega)
        refine And.intro (fun h54 => ?_) (fun h54 => ?_)
        · skip
          have G54 : sd_lp M N49 c (fun ls l1 F G => G 88 = F 88 ∧ sd_p3 (decide (M c 0 = 0)) ls (sd_n F - (0 : Int).toNat) (0 : Int).toNat G = sd_d3 (decide (M c 0 = 0)) ls l1 F) := fun ls l1 F hT hF hP hW => by
            obtain ⟨G, s, p, w, t, r1, r2⟩ := g49_2 ls l1 F hT hF hP hW
            have n9 := s.1
            have m9 := w.1
            have k9 := sd_n_i hW
            rw [show sd_n F - x2.toNat = 0 by omega] at r2
            have r2 : G = sd_p2 (decide (M c 0 = 0)) ls (sd_n F) 0 (sd_p1 (decide (M c 0 = 0)) ls l1 F) := r2
            refine ⟨G, s, p, w, t, r1, ?_⟩
            rw [r2]
            rfl
          exact L100 _ _ _ (Nat.lt_succ_self _) hS (by first | omega | assumption) (by first | omega | assumption)
        · skip
          skip
          refine And.intro (hI) ?_
          intro v60 M60 a60 b60 q60
          obtain ⟨q60, z60⟩ := q60
          subst z60
          refine And.intro (fun h63 => ?_) (fun h63 => ?_)
          · skip
            have G63 : sd_lp M N49 c (fun ls l1 F G => G 88 = F 88 ∧ sd_p2 (decide (M c 0 = 0)) ls (sd_n F - (x2.toNat + 1)) (x2.toNat + 1) G = sd_p2 (decide (M c 0 = 0)) ls (sd_n F) 0 (sd_p1 (decide (M c 0 = 0)) ls l1 F)) := fun ls l1 F hT hF hP hW => by
              obtain ⟨G, s, p, w, t, r1, r2⟩ := g49_2 ls l1 F hT hF hP hW
              have n9 := s.1
              have m9 := w.1
              have k9 := sd_n_i hW
              have a := q60.2 G s w
              rw [show sd_n F - x2.toNat = (sd_n F - (x2.toNat + 1)) + 1 by omega] at r2
              refine ⟨G, s, p, w, t, r1, ?_⟩
              rw [← r2]
              show _ = sd_p2 _ ls _ (x2.toNat + 1) (sd_s2 _ ls x2.toNat G)
              rw [show sd_s2 (decide (M c 0 = 0)) ls x2.toNat G = G from if_neg (fun y => absurd (a.mpr ⟨g49_1, y⟩) (by omega))]
            exact L92 _ _ hS (by first | omega | assumption) (by first | omega | assumption) (by first | omega | assumption) (by first | omega | assumption)
          · skip
            skip
            intro r68 e68 k68
            have R68 := pz_kd10 k68
            intro r71 e71 k71
            have R71 := pz_kd3 k71
            have L71 : r71 = 10 := by rw [e71, e68]; rfl
            refine And.intro (hI) ?_
            intro v77 M77 a77 b77 q77
            obtain ⟨q77, z77⟩ := q77
            have hS : pq_pr (pq_Pd c) M M77 := hS.tr z77.dw
            have hI : pz_ic M77 := hS.1 hI0
            rw [L71] at q77
            refine And.intro (hI) ?_
            intro v80 M80 a80 b80 q80
            obtain ⟨q80, z80⟩ := q80
            have hS : pq_pr (pq_Pd c) M M80 := hS.tr z80
            have hI : pz_ic M80 := hS.1 hI0
            refine And.intro (fun h83 => ?_) (fun h83 => ?_)
            · skip
              have G83 : sd_lp M M80 c (fun ls l1 F G => G 88 = F 88 ∧ sd_p2 (decide (M c 0 = 0)) ls (sd_n F - (x2.toNat + 1)) (x2.toNat + 1) G = sd_p2 (decide (M c 0 = 0)) ls (sd_n F) 0 (sd_p1 (decide (M c 0 = 0)) ls l1 F)) := fun ls l1 F hT hF hP hW => by
                obtain ⟨G, s, p, w, t, r1, r2⟩ := g49_2 ls l1 F hT hF hP hW
                have n9 := s.1
                have m9 := w.1
                have k9 := sd_n_i hW
                have a := q60.2 G s w
                have a1 := a.mp (by omega)
                have T := sd_tel0 R_c t s w g49_1 (by omega) q77.2
                have s77 := sd_se_d R_c s w z77
                have p77 := sd_pg_d p z77
                have t77 := sd_tx_w t z77
                have d77 : M77 c 0 = M c 0 := (z77.2 c 0 (by unfold pq_Pw; omega)).trans t0
                obtain ⟨b1, b2, b3⟩ := q80
                obtain ⟨b4, b5⟩ := b3 G s77 w
                rw [d77] at b4 b5
                rw [show sd_n F - x2.toNat = (sd_n F - (x2.toNat + 1)) + 1 by omega] at r2
                refine ⟨sd_fF (decide (M c 0 = 0)) G, b5, sd_pg_cg p77 b2 (fun k b _ => sd_fF_o (by omega)), sd_fF_wf w, sd_tx_d t77 (by omega) z80, (sd_fF_o (by decide)).trans r1, ?_⟩
                rw [← r2]
                show _ = sd_p2 _ ls _ (x2.toNat + 1) (sd_s2 _ ls x2.toNat G)
                rw [show sd_s2 (decide (M c 0 = 0)) ls x2.toNat G = sd_fF (decide (M c 0 = 0)) G by
                  unfold sd_s2
                  rw [if_pos a1.2, if_neg (by rw [← T]; exact fun y => absurd (b4.mpr y) (by omega))]]
              exact L92 _ _ hS (by first | omega | assumption) (by first | omega | assumption) (by first | omega | assumption) (by first | omega | assumption)
            · skip
              skip
              refine And.intro (hI) ?_
              intro M89 q89
              obtain ⟨q89, z89⟩ := q89
              have hS : pq_pr (pq_Pd c) M M89 := hS.tr z89
              have hI : pz_ic M89 := hS.1 hI0
              have G89 : sd_lp M M89 c (fun ls l1 F G => G 88 = F 88 ∧ sd_p2 (decide (M c 0 = 0)) ls (sd_n F - (x2.toNat + 1)) (x2.toNat + 1) G = sd_p2 (decide (M c 0 = 0)) ls (sd_n F) 0 (sd_p1 (decide (M c 0 = 0)) ls l1 F)) := fun ls l1 F hT hF hP hW => by
                obtain ⟨G, s, p, w, t, r1, r2⟩ := g49_2 ls l1 F hT hF hP hW
                have n9 := s.1
                have m9 := w.1
                have k9 := sd_n_i hW
                have a := q60.2 G s w
                have a1 := a.mp (by omega)
                have T := sd_tel0 R_c t s w g49_1 (by omega) q77.2
                have s77 := sd_se_d R_c s w z77
                have p77 := sd_pg_d p z77
                have t77 := sd_tx_w t z77
                have d77 : M77 c 0 = M c 0 := (z77.2 c 0 (by unfold pq_Pw; omega)).trans t0
                obtain ⟨b1, b2, b3⟩ := q80
                obtain ⟨b4, b5⟩ := b3 G s77 w
                rw [d77] at b4 b5
                have p80 : sd_pg M80 (sd_fF (decide (M c 0 = 0)) G) := sd_pg_cg p77 b2 (fun k b _ => sd_fF_o (by omega))
                have t80 := sd_tx_d t77 (by omega) z80
                have d80 : M80 c 0 = M c 0 := (z80.2 c 0 (by unfold pq_Pd pq_Pw pz_lb; omega)).trans d77
                have k88 : sd_fF (decide (M c 0 = 0)) G 88 = G 88 := sd_fF_o (by decide)
                have z := q89 ls l1 _ t80 b5 p80 (sd_fF_wf w) ⟨g49_1, by rw [k88]; omega⟩
                rw [d80] at z
                rw [show sd_n F - x2.toNat = (sd_n F - (x2.toNat + 1)) + 1 by omega] at r2
                have K : sd_s2 (decide (M c 0 = 0)) ls x2.toNat G = sd_get (decide (M c 0 = 0)) (sd_fF (decide (M c 0 = 0)) G) x2.toNat := by
                  unfold sd_s2
                  rw [if_pos a1.2, if_pos (by rw [← T]; exact b4.mp (by omega))]
                exact ⟨_, z.1, z.2.1, z.2.2, sd_tx_d t80 (by omega) z89, ((sd_get_88 (by omega)).trans k88).trans r1, by
                  rw [← r2]
                  show sd_p2 _ ls _ (x2.toNat + 1) (sd_get _ (sd_fF _ G) x2.toNat) = _
                  rw [← K]
                  rfl⟩
              exact L92 _ _ hS (by first | omega | assumption) (by first | omega | assumption) (by first | omega | assumption) (by first | omega | assumption)
    have L2 : ∀ (fu : Nat) (x2 : Int) (N2 : pz_M), (16 - x2).toNat < fu → (pq_pr (pq_Pd c) M N2) → (0 ≤ x2) → (sd_lp M N2 c (fun ls l1 F G => G 88 = F 88 ∧ sd_p1 (decide (M c 0 = 0)) ls (l1.drop x2.toNat) G = sd_p1 (decide (M c 0 = 0)) ls l1 F)) → Ok 2 [some (.inr (.inr (1, 2))), some (.inr (.inr (0, c))), some (.inl x2)] [] N2 := by
      intro fu
      induction fu with
      | zero => exact fun _ _ hn => absurd hn (Nat.not_lt_zero _)
      | succ fu ih2 =>
        intro x2 N2 hn2 hS g2_1 g2_2
        have hI : pz_ic N2 := hS.1 hI0
        have hS9 := hS
        have t0 : N2 c 0 = M c 0 := hS.2 c 0 (by unfold pq_Pd pq_Pw pz_lb; omega)
        have L41 : ∀ (x2 : Int) (N41 : pz_M), (pq_pr (pq_Pd c) M N41) → (0 ≤ x2) → (x2 < 16) → ((16 - x2).toNat < fu + 1) → (sd_lp M N41 c (fun ls l1 F G => G 88 = F 88 ∧ sd_p1 (decide (M c 0 = 0)) ls (l1.drop (x2.toNat + 1)) G = sd_p1 (decide (M c 0 = 0)) ls l1 F)) → Ok 41 [some (.inr (.inr (1, 2))), some (.inr (.inr (0, c))), some (.inl x2)] [] N41 := by
          intro x2 N41 hS g41_1 g41_2 g41_3 g41_4
          have hI : pz_ic N41 := hS.1 hI0
          refine hgo (fun p => Nat.beq p 2 || Nat.beq p 41 || Nat.beq p 49 || Nat.beq p 92 || Nat.beq p 100 || Nat.beq p 125) 84 41 _ _ _ ?_
          intro v41 e41 a41 b41
          rw [pz_wi (by omega) (by omega)] at e41
          have G41 : sd_lp M N41 c (fun ls l1 F G => G 88 = F 88 ∧ sd_p1 (decide (M c 0 = 0)) ls (l1.drop v41.toNat) G = sd_p1 (decide (M c 0 = 0)) ls l1 F) := by
            rw [show v41.toNat = x2.toNat + 1 by omega]
            exact g41_4
          exact ih2 _ _ (by omega) hS (by first | omega | assumption | exact fun ls l1 F hT hF hP hW => ⟨F, hF, hP, hW, hT, rfl, rfl⟩) (by first | omega | assumption | exact fun ls l1 F hT hF hP hW => ⟨F, hF, hP, hW, hT, rfl, rfl⟩)
        refine hgo (fun p => Nat.beq p 2 || Nat.beq p 41 || Nat.beq p 49 || Nat.beq p 92 || Nat.beq p 100 || Nat.beq p 125) 84 2 _ _ _ ?_
        intro r4 e4 k4
        have R4 := pz_kd10 k4
        intro r7 e7 k7
        have R7 := pz_kd6 k7
        have L7 : r7 = 13 := by rw [e7, e4]; rfl
        intro v10 e10 a10 b10
        have I10 := hI.2.2.1 r7 (by omega) (by omega)
        have E10 := e10
        rw [L7] at E10
        refine And.intro (fun h13 => ?_) (fun h13 => ?_)
        · skip
          have G13 : sd_lp M N2 c (fun ls l1 F G => G 88 = F 88 ∧ sd_p2 (decide (M c 0 = 0)) ls (sd_n F - (0 : Int).toNat) (0 : Int).toNat G = sd_p2 (decide (M c 0 = 0)) ls (sd_n F) 0 (sd_p1 (decide (M c 0 = 0)) ls l1 F)) := fun ls l1 F hT hF hP hW => by
            obtain ⟨G, s, p, w, t, r1, r2⟩ := g2_2 ls l1 F hT hF hP hW
            have n9 := s.1
            have m9 := w.1
            have k9 := sd_n_i hW
            have l9 := sd_l1_16 t
            rw [List.drop_eq_nil_of_le (by omega)] at r2
            have r2 : G = sd_p1 (decide (M c 0 = 0)) ls l1 F := r2
            refine ⟨G, s, p, w, t, r1, ?_⟩
            rw [← r2]
            rfl
          exact L49 _ _ _ (Nat.lt_succ_self _) hS (by first | omega | assumption) (by first | omega | assumption)
        · skip
          skip
          intro r17 e17 k17
          have R17 := pz_kd10 k17
          intro r20 e20 k20
          have R20 := pz_kd6 k20
          have L20 : r20 = 13 := by rw [e20, e17]; rfl
          refine And.intro (hI) ?_
          intro v25 M25 a25 b25 q25
          obtain ⟨q25, z25⟩ := q25
          subst z25
          rw [L20] at q25
          intro v29 e29 a29 b29
          refine And.intro (fun h32 => ?_) (fun h32 => ?_)
          · skip
            have G32 : sd_lp M N2 c (fun ls l1 F G => G 88 = F 88 ∧ sd_p1 (decide (M c 0 = 0)) ls (l1.drop (x2.toNat + 1)) G = sd_p1 (decide (M c 0 = 0)) ls l1 F) := fun ls l1 F hT hF hP hW => by
              obtain ⟨G, s, p, w, t, r1, r2⟩ := g2_2 ls l1 F hT hF hP hW
              have n9 := s.1
              have m9 := w.1
              have k9 := sd_n_i hW
              have l9 := sd_l1_16 t
              have C := sd_cel t ⟨g2_1, by omega⟩ ⟨by decide, by decide⟩ q25
              have C : v25 = (l1.getD x2.toNat []).getD 0 0 := C
              rw [sd_p1_s (by omega), if_neg (by rw [← C, ← s.2.1, ← e29]; assumption)] at r2
              exact ⟨G, s, p, w, t, r1, r2⟩
            exact L41 _ _ hS (by first | omega | assumption) (by first | omega | assumption) (by first | omega | assumption) (by first | omega | assumption)
          · skip
            skip
            refine And.intro (hI) ?_
            intro M38 q38
            obtain ⟨q38, z38⟩ := q38
            have hS : pq_pr (pq_Pd c) M M38 := hS.tr z38
            have hI : pz_ic M38 := hS.1 hI0
            have G38 : sd_lp M M38 c (fun ls l1 F G => G 88 = F 88 ∧ sd_p1 (decide (M c 0 = 0)) ls (l1.drop (x2.toNat + 1)) G = sd_p1 (decide (M c 0 = 0)) ls l1 F) := fun ls l1 F hT hF hP hW => by
              obtain ⟨G, s, p, w, t, r1, r2⟩ := g2_2 ls l1 F hT hF hP hW
              have n9 := s.1
              have m9 := w.1
              have k9 := sd_n_i hW
              have l9 := sd_l1_16 t
              have C := sd_cel t ⟨g2_1, by omega⟩ ⟨by decide, by decide⟩ q25
              have C : v25 = (l1.getD x2.toNat []).getD 0 0 := C
              rw [sd_p1_s (by omega), if_pos (by rw [← C, ← s.2.1, ← e29]; omega)] at r2
              have z := q38 ls l1 G t s p w ⟨g2_1, by omega⟩
              rw [t0] at z
              exact ⟨_, z.1, z.2.1, z.2.2, sd_tx_d t (by omega) z38, (sd_doe_88 (by omega)).trans r1, r2⟩
            exact L41 _ _ hS (by first | omega | assumption) (by first | omega | assumption) (by first | omega | assumption) (by first | omega | assumption)
    refine hgo (fun p => Nat.beq p 2 || Nat.beq p 41 || Nat.beq p 49 || Nat.beq p 92 || Nat.beq p 100 || Nat.beq p 125) 84 0 _ [] M ?_
    exact L2 _ _ _ (Nat.lt_succ_self _) hS (by first | omega | assumption | exact fun ls l1 F hT hF hP hW => ⟨F, hF, hP, hW, hT, rfl, rfl⟩) (by first | omega | assumption | exact fun ls l1 F hT hF hP hW => ⟨F, hF, hP, hW, hT, rfl, rfl⟩)
theorem v3_X1_oneDay {fr lo i : Nat} {own : String} (h1 : 6 + 1 ≤ fr) (h2 : 8 + (3 + 11) + 147 ≤ lo) (h3 : .methodLink own i yX1_oneDay ∈ lw_tbl) : pz_cV fr lo own i k3_X1_oneDay :=
  pz_cVk (maxL := 3) (fr' := 6) (lo' := 147) 1 1 h3_X1_oneDay rfl ⟨(pz_nhc_RX1 yX1_oneDay rfl).1, (pz_nhc_RX1 yX1_oneDay rfl).2, pz_ds30⟩ ⟨pz_wq574, pz_wq572, pz_wq573, pz_wq7⟩ (Or.inl ⟨TX1, 2, rfl⟩) (fun a M _ h => by
    have h : (match (generalizing := false) a with | [.inr (.inr (1, d)), .inr (.inr (0, c))] => pz_ic M | _ => False) := h
    split at h
    · exact ⟨_, _, rfl⟩
    · exact h.elim) h1 h2 h3
end
