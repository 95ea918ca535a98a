noncomputable def k3_X12_laysSigns : pz_C := (3, 0, fun a M => (match a with | [.inr (.inr (12, th)), .inl x, .inl y] => pz_im M | _ => False), fun a M r M' => (match a, r with | [.inr (.inr (12, th)), .inl x, .inl y], none => (∀ (f g : Nat → Int) (h : Nat → Bool), sg_fg f g (M 60 88) → sg_pm (M 60) f g (M 60 88) → pz_zs y h → 0 ≤ x ∧ x ≤ 240 → sg_TM f g h x M' (sg_2 (M 60 88))) ∧ pz_rl pz_QV M M' | _, _ => False))
noncomputable abbrev ct3_X12_laysSigns : List (Bool × Nat × pz_C) := [(false, 51, k_X12_greater), (false, 47, k_X12_lesser)]
set_option maxRecDepth 100000 in
set_option maxHeartbeats 4000000 in
theorem h3_X12_laysSigns : pz_H yX12_laysSigns cX12_laysSigns 7 none k3_X12_laysSigns 1 21 := by
  refine pz_mk (own := RX12) (tb := t_X12_laysSigns) (fl := pz_flf fl_RX12) (ci := pz_cif ci_RX12) (ct := pz_ctf ct3_X12_laysSigns) (rz := false) (by decide +kernel) rfl t_X12_laysSigns_ok (pz_flk fl_RX12_ok) (pz_cik ci_RX12_ok) ?_ ?_ (rfl) ?_ ?_
  · exact fun i k' h => pz_ctk (l := ct3_X12_laysSigns) (P := fun b i k => b = true → pz_cV 1 21 RX12 i k) (List.forall_mem_cons.mpr ⟨((fun z => by cases z)), List.forall_mem_cons.mpr ⟨((fun z => by cases z)), fun _ h => absurd h List.not_mem_nil⟩⟩) true i k' h rfl
  · exact fun i k' h => pz_ctk (l := ct3_X12_laysSigns) (P := fun b i k => b = false → (pz_cS 1 21 RX12 i k ∨ (k = pz_kac ∧ 1 ≤ 1 ∧ 60 ≤ 21 ∧ Cond.methodLink RX12 i arraycopyName ∈ pz_tbl))) (List.forall_mem_cons.mpr ⟨(fun _ => Or.inl (s_X12_greater (by decide) (by decide) (Or.inl (pz_mt 1447 (by decide +kernel))))), List.forall_mem_cons.mpr ⟨(fun _ => Or.inl (s_X12_lesser (by decide) (by decide) (Or.inl (pz_mt 1462 (by decide +kernel))))), fun _ h => absurd h List.not_mem_nil⟩⟩) false i k' h rfl
  · intro a M hlen hpre
    obtain ⟨th, x, y, rfl, hpre⟩ : ∃ th x y, a = [.inr (.inr (12, th)), .inl x, .inl y] ∧ (pz_im M) := by
      have hpre : (match (generalizing := false) a with | [.inr (.inr (12, th)), .inl x, .inl y] => pz_im M | _ => False) := hpre
      split at hpre
      · exact ⟨_, _, _, rfl, hpre⟩
      · exact hpre.elim
    exact Nat.le_of_ble_eq_true rfl
  · intro a M hlen hcan hM hpre Ok hgo
    obtain ⟨th, x, y, rfl, hpre⟩ : ∃ th x y, a = [.inr (.inr (12, th)), .inl x, .inl y] ∧ (pz_im M) := by
      have hpre : (match (generalizing := false) a with | [.inr (.inr (12, th)), .inl x, .inl y] => pz_im M | _ => False) := hpre
      split at hpre
      · exact ⟨_, _, _, rfl, hpre⟩
      · exact hpre.elim
    obtain ⟨k_th, hc_th⟩ := pz_tlm hcan
    have k_th : pz_kd th = 12 ∧ th < 231 := k_th
    have R_th := pz_kd12 k_th.1
    subst R_th
    clear k_th
    obtain ⟨k_x, hc_x⟩ := pz_tlm hc_th
    have l_x : -2147483648 ≤ x := k_x.1
    have u_x : x ≤ 2147483647 := k_x.2
    obtain ⟨k_y, hc_y⟩ := pz_tlm hc_x
    have l_y : -2147483648 ≤ y := k_y.1
    have u_y : y ≤ 2147483647 := k_y.2
    have hI : pz_im M := hpre
    have hI0 := hI
    have hS : pz_rl pz_QV M M := pz_rl.rf
    have I88 := hI.1.1
    have B2 := sg_2_b I88.2
    have L15 : ∀ (fo : Nat) (x3 : Int) (x4 : Int) (d5 : Option pz_V) (d6 : Option pz_V) (N15 : pz_M), (4096 - x4).toNat < fo → (pz_rl pz_QV M N15) → (0 ≤ x4) → (x3 ≤ 4095) → (x3 = sg_2 (M 60 88) - 1) → (x4 ≤ sg_2 (M 60 88)) → (∀ (f g : Nat → Int) (h : Nat → Bool), sg_fg f g (M 60 88) → sg_pm (M 60) f g (M 60 88) → pz_zs y h → 0 ≤ x ∧ x ≤ 240 → sg_TM f g h x N15 x4) → Ok 15 [some (.inr (.inr (12, 1))), some (.inl x), some (.inl y), some (.inl x3), some (.inl x4), d5, d6] [] N15 := by
      intro fo
      induction fo with
      | zero => exact fun _ _ _ _ _ hn => absurd hn (Nat.not_lt_zero _)
      | succ fo ih15 =>
        intro x3 x4 d5 d6 N15 hn15 hS g15_1 g15_2 g15_3 g15_4 g15_5
        have hI : pz_im N15 := hS.1 hI0
        have L168 : ∀ (x3 : Int) (x4 : Int) (d5 : Option pz_V) (d6 : Option pz_V) (N168 : pz_M), (pz_rl pz_QV M N168) → (0 ≤ x4) → (x4 ≤ 4095) → (x3 ≤ 4095) → ((4096 - x4).toNat < fo + 1) → (x3 = sg_2 (M 60 88) - 1) → (x4 < sg_2 (M 60 88)) → (∀ (f g : Nat → Int) (h : Nat → Bool), sg_fg f g (M 60 88) → sg_pm (M 60) f g (M 60 88) → pz_zs y h → 0 ≤ x ∧ x ≤ 240 → sg_TM f g h x N168 (x4 + 1)) → Ok 168 [some (.inr (.inr (12, 1))), some (.inl x), some (.inl y), some (.inl x3), some (.inl x4), d5, d6] [] N168 := by
          intro x3 x4 d5 d6 N168 hS g168_1 g168_2 g168_3 g168_4 g168_5 g168_6 g168_7
          have hI : pz_im N168 := hS.1 hI0
          refine hgo (fun p => Nat.beq p 15 || Nat.beq p 51 || Nat.beq p 55 || Nat.beq p 162 || Nat.beq p 168) 103 168 _ _ _ ?_
          intro v168 e168 a168 b168
          rw [pz_wi (by omega) (by omega)] at e168
          have G15 : ∀ (f g : Nat → Int) (h : Nat → Bool), sg_fg f g (M 60 88) → sg_pm (M 60) f g (M 60 88) → pz_zs y h → 0 ≤ x ∧ x ≤ 240 → sg_TM f g h x N168 v168 := by
            rw [e168]
            assumption
          exact ih15 _ _ _ _ _ (by omega) hS (by first | omega | assumption) (by first | omega | assumption) (by first | omega | assumption) (by first | omega | assumption) (by first | omega | assumption)
        have L55 : ∀ (fu : Nat) (x3 : Int) (x4 : Int) (x5 : Int) (d6 : Option pz_V) (N55 : pz_M), (12 - x5).toNat < fu → (pz_rl pz_QV M N55) → (0 ≤ x5) → (0 ≤ x4) → (x4 ≤ 4095) → (x3 ≤ 4095) → ((4096 - x4).toNat < fo + 1) → (x3 = sg_2 (M 60 88) - 1) → (x4 < sg_2 (M 60 88)) → (∀ (f g : Nat → Int) (h : Nat → Bool), sg_fg f g (M 60 88) → sg_pm (M 60) f g (M 60 88) → pz_zs y h → 0 ≤ x ∧ x ≤ 240 → sg_TM f g h x N55 x4 ∧ sg_li f g h x N55 x4 x5) → Ok 55 [some (.inr (.inr (12, 1))), some (.inl x), some (.inl y), some (.inl x3), some (.inl x4), some (.inl x5), d6] [] N55 := by
          intro fu
          induction fu with
          | zero => exact fun _ _ _ _ _ hn => absurd hn (Nat.not_lt_zero _)
          | succ fu ih55 =>
            intro x3 x4 x5 d6 N55 hn55 hS g55_1 g55_2 g55_3 g55_4 g55_5 g55_6 g55_7 g55_8
            have hI : pz_im N55 := hS.1 hI0
            have L162 : ∀ (x3 : Int) (x4 : Int) (x5 : Int) (d6 : Option pz_V) (N162 : pz_M), (pz_rl pz_QV M N162) → (0 ≤ x5) → (x5 < 12) → ((12 - x5).toNat < fu + 1) → (0 ≤ x4) → (x4 ≤ 4095) → (x3 ≤ 4095) → ((4096 - x4).toNat < fo + 1) → (x3 = sg_2 (M 60 88) - 1) → (x4 < sg_2 (M 60 88)) → (x5 < M 60 88) → (∀ (f g : Nat → Int) (h : Nat → Bool), sg_fg f g (M 60 88) → sg_pm (M 60) f g (M 60 88) → pz_zs y h → 0 ≤ x ∧ x ≤ 240 → sg_TM f g h x N162 x4 ∧ sg_li f g h x N162 x4 (x5 + 1)) → Ok 162 [some (.inr (.inr (12, 1))), some (.inl x), some (.inl y), some (.inl x3), some (.inl x4), some (.inl x5), d6] [] N162 := by
              intro x3 x4 x5 d6 N162 hS g162_1 g162_2 g162_3 g162_4 g162_5 g162_6 g162_7 g162_8 g162_9 g162_10 g162_11
              have hI : pz_im N162 := hS.1 hI0
              refine hgo (fun p => Nat.beq p 15 || Nat.beq p 51 || Nat.beq p 55 || Nat.beq p 162 || Nat.beq p 168) 103 162 _ _ _ ?_
              intro v162 e162 a162 b162
              rw [pz_wi (by omega) (by omega)] at e162
              have G55 : ∀ (f g : Nat → Int) (h : Nat → Bool), sg_fg f g (M 60 88) → sg_pm (M 60) f g (M 60 88) → pz_zs y h → 0 ≤ x ∧ x ≤ 240 → sg_TM f g h x N162 x4 ∧ sg_li f g h x N162 x4 v162 := by
                rw [e162]
                assumption
              exact ih55 _ _ _ _ _ (by omega) hS (by first | omega | assumption) (by first | omega | assumption) (by first | omega | assumption) (by first | omega | assumption) (by first | omega | assumption) (by first | omega | assumption) (by first | omega | assumption) (by first | omega | assumption)
            refine hgo (fun p => Nat.beq p 15 || Nat.beq p 51 || Nat.beq p 55 || Nat.beq p 162 || Nat.beq p 168) 103 55 _ _ _ ?_
            refine pz_nrc (c := 60) rfl ?_
            refine And.intro (by omega) (And.intro (show _ < (1725 : Int) from by omega) ?_)
            intro v63 e63 a63 b63
            replace e63 : v63 = N55 60 88 := e63
            have I63 : 0 ≤ v63 ∧ v63 ≤ 12 := by
              rw [e63]
              exact hI.1.1
            clear a63 b63
            have C63 : v63 = M 60 88 := e63.trans (hS.2 60 88 (by unfold pz_QV; omega))
            refine And.intro (fun h64 => ?_) (fun h64 => ?_)
            · skip
              have G168 : ∀ (f g : Nat → Int) (h : Nat → Bool), sg_fg f g (M 60 88) → sg_pm (M 60) f g (M 60 88) → pz_zs y h → 0 ≤ x ∧ x ≤ 240 → sg_TM f g h x N55 (x4 + 1) := fun f g h hf hp hz hx => by
                obtain ⟨a1, a2⟩ := (by assumption : ∀ (f g : Nat → Int) (h : Nat → Bool), sg_fg f g (M 60 88) → sg_pm (M 60) f g (M 60 88) → pz_zs y h → 0 ≤ x ∧ x ≤ 240 → sg_TM f g h x N55 x4 ∧ sg_li f g h x N55 x4 x5) f g h hf hp hz hx
                exact sg_TM_s a1 a2 hf hx (by omega) (by omega) (by omega) (by omega)
              exact L168 _ _ _ _ _ hS (by first | omega | assumption) (by first | omega | assumption) (by first | omega | assumption) (by first | omega | assumption) (by first | omega | assumption) (by first | omega | assumption) (by first | omega | assumption)
            · skip
              skip
              intro v71 e71 a71 b71
              intro v73 e73 a73 b73
              have B73 := pz_sb_at (sg_zs (x := x4) (by omega) (by omega)) (show 0 ≤ x5 by omega) (by omega) e71 e73
              refine And.intro (fun h74 => ?_) (fun h74 => ?_)
              · skip
                have F74 : sg_bt x4.toNat x5.toNat = false := sg_at_n B73 (by omega)
                have G162 : ∀ (f g : Nat → Int) (h : Nat → Bool), sg_fg f g (M 60 88) → sg_pm (M 60) f g (M 60 88) → pz_zs y h → 0 ≤ x ∧ x ≤ 240 → sg_TM f g h x N55 x4 ∧ sg_li f g h x N55 x4 (x5 + 1) := fun f g h hf hp hz hx => by
                  obtain ⟨a1, a2⟩ := (by assumption : ∀ (f g : Nat → Int) (h : Nat → Bool), sg_fg f g (M 60 88) → sg_pm (M 60) f g (M 60 88) → pz_zs y h → 0 ≤ x ∧ x ≤ 240 → sg_TM f g h x N55 x4 ∧ sg_li f g h x N55 x4 x5) f g h hf hp hz hx
                  exact ⟨a1, sg_li_n a2 (by omega) rfl (fun d => by
                    have d1 := (sg_di_t.mp d.1).1
                    rw [F74] at d1
                    cases d1)⟩
                exact L162 _ _ _ _ _ hS (by first | omega | assumption) (by first | omega | assumption) (by first | omega | assumption) (by first | omega | assumption) (by first | omega | assumption) (by first | omega | assumption) (by first | omega | assumption) (by first | omega | assumption) (by first | omega | assumption) (by first | omega | assumption) (by first | omega | assumption)
              · skip
                have F74 : sg_bt x4.toNat x5.toNat = true := sg_at_y B73 (by omega)
                replace h74 : 1 ≤ v73 := by omega
                intro v80 e80 a80 b80
                intro v82 e82 a82 b82
                refine And.intro (fun h84 => ?_) (fun h84 => ?_)
                · skip
                  have D84 : ∀ h : Nat → Bool, pz_zs y h → sg_di x4.toNat h x5.toNat = true := fun h hz => sg_di_t.mpr ⟨F74, by
                    cases q : h x5.toNat with
                    | false => rfl
                    | true =>
                      have b := pz_sb_at hz (show 0 ≤ x5 by omega) (by omega) e80 e82
                      rw [q, if_pos rfl] at b
                      omega⟩
                  refine pz_nrc (c := 70) rfl ?_
                  intro v99 e99 a99 b99
                  intro v101 e101 a101 b101
                  intro v102 e102 a102 b102
                  have X102 := pz_and12 (x := x4) (y := v101) (by omega) (by omega)
                  rw [← e102] at X102
                  refine And.intro (by omega) (And.intro (show _ < (4096 : Int) from by omega) ?_)
                  intro v103 e103 a103 b103
                  refine pz_nrc (c := 60) rfl ?_
                  intro v113 e113 a113 b113
                  rw [pz_wi (by omega) (by omega)] at e113
                  clear a113 b113
                  intro v114 e114 a114 b114
                  rw [pz_wi (by omega) (by omega)] at e114
                  clear a114 b114
                  refine And.intro (by omega) (And.intro (show _ < (1725 : Int) from by omega) ?_)
                  intro v115 e115 a115 b115
                  have C115 : v115 = M 60 (105 + 2 * x5.toNat) := by
                    rw [e115, hS.2 60 _ (by unfold pz_QV; omega), show v114.toNat = 105 + 2 * x5.toNat by omega]
                  refine And.intro (True.intro) ?_
                  intro v116 M116 a116 b116 q116
                  obtain ⟨q116, z116⟩ := q116
                  subst z116
                  intro v121 e121 a121 b121
                  refine pz_nrc (c := 60) rfl ?_
                  intro v135 e135 a135 b135
                  rw [pz_wi (by omega) (by omega)] at e135
                  clear a135 b135
                  intro v136 e136 a136 b136
                  rw [pz_wi (by omega) (by omega)] at e136
                  clear a136 b136
                  intro v138 e138 a138 b138
                  rw [pz_wi (by omega) (by omega)] at e138
                  clear a138 b138
                  refine And.intro (by omega) (And.intro (show _ < (1725 : Int) from by omega) ?_)
                  intro v139 e139 a139 b139
                  have C139 : v139 = M 60 (106 + 2 * x5.toNat) := by
                    rw [e139, hS.2 60 _ (by unfold pz_QV; omega), show v138.toNat = 106 + 2 * x5.toNat by omega]
                  refine And.intro (fun h140 => ?_) (fun h140 => ?_)
                  · skip
                    have G162 : ∀ (f g : Nat → Int) (h : Nat → Bool), sg_fg f g (M 60 88) → sg_pm (M 60) f g (M 60 88) → pz_zs y h → 0 ≤ x ∧ x ≤ 240 → sg_TM f g h x N55 x4 ∧ sg_li f g h x N55 x4 (x5 + 1) := fun f g h hf hp hz hx => by
                      obtain ⟨a1, a2⟩ := (by assumption : ∀ (f g : Nat → Int) (h : Nat → Bool), sg_fg f g (M 60 88) → sg_pm (M 60) f g (M 60 88) → pz_zs y h → 0 ≤ x ∧ x ≤ 240 → sg_TM f g h x N55 x4 ∧ sg_li f g h x N55 x4 x5) f g h hf hp hz hx
                      have pp := hp x5.toNat (by omega)
                      have b9 := sg_by_of a1 a2.1 hf ⟨⟨by omega, by omega⟩, by omega⟩ ⟨by omega, by omega⟩ e99 e101 e102 e103 (C115.trans pp.1) ⟨⟨q116.1, q116.2.1⟩, q116.2.2⟩ e121
                      have p2 := pp.2
                      exact ⟨a1, sg_li_n a2 (by omega) rfl (fun d => absurd ((sg_D_u (D84 h hz) b9).1.mp d) (by omega))⟩
                    exact L162 _ _ _ _ _ hS (by first | omega | assumption) (by first | omega | assumption) (by first | omega | assumption) (by first | omega | assumption) (by first | omega | assumption) (by first | omega | assumption) (by first | omega | assumption) (by first | omega | assumption) (by first | omega | assumption) (by first | omega | assumption) (by first | omega | assumption)
                  · skip
                    skip
                    refine pz_nrc (c := 70) rfl ?_
                    refine pz_nrc (c := 70) rfl ?_
                    refine And.intro (by omega) (And.intro (show _ < (4096 : Int) from by omega) ?_)
                    intro v155 e155 a155 b155
                    have E155 : v155 = N55 70 x4.toNat := e155
                    refine And.intro (True.intro) ?_
                    intro v158 M158 a158 b158 q158
                    obtain ⟨q158, z158⟩ := q158
                    subst z158
                    refine And.intro (by omega) (And.intro (show _ < (4096 : Int) from by omega) ?_)
                    intro M161 e161
                    have hS : pz_rl pz_QV M M161 := by
                      rw [e161]
                      exact pz_rl_u hS (by unfold pz_QV; omega) (pz_iom_a (by decide))
                    have hI : pz_im M161 := hS.1 hI0
                    have G162 : ∀ (f g : Nat → Int) (h : Nat → Bool), sg_fg f g (M 60 88) → sg_pm (M 60) f g (M 60 88) → pz_zs y h → 0 ≤ x ∧ x ≤ 240 → sg_TM f g h x M161 x4 ∧ sg_li f g h x M161 x4 (x5 + 1) := fun f g h hf hp hz hx => by
                      obtain ⟨a1, a2⟩ := (by assumption : ∀ (f g : Nat → Int) (h : Nat → Bool), sg_fg f g (M 60 88) → sg_pm (M 60) f g (M 60 88) → pz_zs y h → 0 ≤ x ∧ x ≤ 240 → sg_TM f g h x N55 x4 ∧ sg_li f g h x N55 x4 x5) f g h hf hp hz hx
                      have pp := hp x5.toNat (by omega)
                      have b9 := sg_by_of a1 a2.1 hf ⟨⟨by omega, by omega⟩, by omega⟩ ⟨by omega, by omega⟩ e99 e101 e102 e103 (C115.trans pp.1) ⟨⟨q116.1, q116.2.1⟩, q116.2.2⟩ e121
                      have p2 := pp.2
                      exact ⟨sg_TM_cg a1 e161 (by omega), sg_li_y a2 hf (by omega) (by omega) (by omega) rfl (D84 h hz) b9 (by omega) (show v158 = min (N55 70 x4.toNat) v121 by omega) e161⟩
                    exact L162 _ _ _ _ _ hS (by first | omega | assumption) (by first | omega | assumption) (by first | omega | assumption) (by first | omega | assumption) (by first | omega | assumption) (by first | omega | assumption) (by first | omega | assumption) (by first | omega | assumption) (by first | omega | assumption) (by first | omega | assumption) (by first | omega | assumption)
                · skip
                  have G162 : ∀ (f g : Nat → Int) (h : Nat → Bool), sg_fg f g (M 60 88) → sg_pm (M 60) f g (M 60 88) → pz_zs y h → 0 ≤ x ∧ x ≤ 240 → sg_TM f g h x N55 x4 ∧ sg_li f g h x N55 x4 (x5 + 1) := fun f g h hf hp hz hx => by
                    obtain ⟨a1, a2⟩ := (by assumption : ∀ (f g : Nat → Int) (h : Nat → Bool), sg_fg f g (M 60 88) → sg_pm (M 60) f g (M 60 88) → pz_zs y h → 0 ≤ x ∧ x ≤ 240 → sg_TM f g h x N55 x4 ∧ sg_li f g h x N55 x4 x5) f g h hf hp hz hx
                    exact ⟨a1, sg_li_n a2 (by omega) rfl (fun d => by
                      have d1 := (sg_di_t.mp d.1).2
                      have b := pz_sb_at hz (show 0 ≤ x5 by omega) (by omega) e80 e82
                      rw [d1, if_neg (by decide)] at b
                      omega)⟩
                  exact L162 _ _ _ _ _ hS (by first | omega | assumption) (by first | omega | assumption) (by first | omega | assumption) (by first | omega | assumption) (by first | omega | assumption) (by first | omega | assumption) (by first | omega | assumption) (by first | omega | assumption) (by first | omega | assumption) (by first | omega | assumption) (by first | omega | assumption)
        have L51 : ∀ (x3 : Int) (x4 : Int) (d5 : Option pz_V) (d6 : Option pz_V) (sr0 : Nat) (s1 : Int) (s2 : Int) (N51 : pz_M), (pz_kd sr0 = 22) → (pz_rl pz_QV M N51) → (sr0 = 70) → (s1 = x4) → (0 ≤ x4) → (x4 ≤ 4095) → (x3 ≤ 4095) → ((4096 - x4).toNat < fo + 1) → (x3 = sg_2 (M 60 88) - 1) → (x4 < sg_2 (M 60 88)) → (∀ (f g : Nat → Int) (h : Nat → Bool), sg_fg f g (M 60 88) → sg_pm (M 60) f g (M 60 88) → pz_zs y h → 0 ≤ x ∧ x ≤ 240 → sg_TM f g h x N51 x4 ∧ sg_su h x4.toNat ∧ ((x4 = y ∧ s2 = x) ∨ (x4 ≠ y ∧ s2 = 1000000000))) → Ok 51 [some (.inr (.inr (12, 1))), some (.inl x), some (.inl y), some (.inl x3), some (.inl x4), d5, d6] [.inl s2, .inl s1, .inr (.inr (22, sr0))] N51 := by
          intro x3 x4 d5 d6 sr0 s1 s2 N51 K_sr0 hS g51_2 g51_3 g51_4 g51_5 g51_6 g51_7 g51_8 g51_9 g51_10
          have hI : pz_im N51 := hS.1 hI0
          refine hgo (fun p => Nat.beq p 15 || Nat.beq p 51 || Nat.beq p 55 || Nat.beq p 162 || Nat.beq p 168) 103 51 _ _ _ ?_
          refine And.intro (by omega) (And.intro (show _ < (4096 : Int) from by omega) ?_)
          intro M51 e51
          have hS : pz_rl pz_QV M M51 := by
            rw [e51]
            exact pz_rl_u hS (by rw [g51_2]; unfold pz_QV; omega) (by rw [g51_2]; exact pz_iom_a (by decide))
          have hI : pz_im M51 := hS.1 hI0
          have E51 : M51 = pz_u N51 70 x4.toNat s2 := by
            rw [e51, g51_2, g51_3]
          have G55 : ∀ (f g : Nat → Int) (h : Nat → Bool), sg_fg f g (M 60 88) → sg_pm (M 60) f g (M 60 88) → pz_zs y h → 0 ≤ x ∧ x ≤ 240 → sg_TM f g h x M51 x4 ∧ sg_li f g h x M51 x4 0 := fun f g h hf hp hz hx => by
            obtain ⟨a1, a2, a3⟩ := (by assumption : ∀ (f g : Nat → Int) (h : Nat → Bool), sg_fg f g (M 60 88) → sg_pm (M 60) f g (M 60 88) → pz_zs y h → 0 ≤ x ∧ x ≤ 240 → sg_TM f g h x N51 x4 ∧ sg_su h x4.toNat ∧ ((x4 = y ∧ s2 = x) ∨ (x4 ≠ y ∧ s2 = 1000000000))) f g h hf hp hz hx
            exact ⟨sg_TM_cg a1 E51 (by omega), sg_li_0 ⟨by omega, by omega⟩ hz a2 hx E51 a3⟩
          exact L55 _ _ _ _ _ _ (Nat.lt_succ_self _) hS (by first | omega | assumption) (by first | omega | assumption) (by first | omega | assumption) (by first | omega | assumption) (by first | omega | assumption) (by first | omega | assumption) (by first | omega | assumption) (by first | omega | assumption)
        refine hgo (fun p => Nat.beq p 15 || Nat.beq p 51 || Nat.beq p 55 || Nat.beq p 162 || Nat.beq p 168) 103 15 _ _ _ ?_
        refine And.intro (fun h18 => ?_) (fun h18 => ?_)
        · skip
          refine And.intro rfl ?_
          refine ⟨fun f g h hf hp hz hx => ?_, hS⟩
          have a := (by assumption : ∀ (f g : Nat → Int) (h : Nat → Bool), sg_fg f g (M 60 88) → sg_pm (M 60) f g (M 60 88) → pz_zs y h → 0 ≤ x ∧ x ≤ 240 → sg_TM f g h x N15 x4) f g h hf hp hz hx
          rw [show x4 = sg_2 (M 60 88) by omega] at a
          exact a
        · skip
          intro v24 e24 a24 b24
          refine And.intro (fun h26 => ?_) (fun h26 => ?_)
          · skip
            have U26 : ∀ h : Nat → Bool, pz_zs y h → sg_su h x4.toNat := fun h hz => (sg_su_of ⟨by omega, by omega⟩ hz e24).mp h26
            refine pz_nrc (c := 70) rfl ?_
            refine And.intro (fun h41 => ?_) (fun h41 => ?_)
            · skip
              have G51 : ∀ (f g : Nat → Int) (h : Nat → Bool), sg_fg f g (M 60 88) → sg_pm (M 60) f g (M 60 88) → pz_zs y h → 0 ≤ x ∧ x ≤ 240 → sg_TM f g h x N15 x4 ∧ sg_su h x4.toNat ∧ ((x4 = y ∧ (1000000000 : Int) = x) ∨ (x4 ≠ y ∧ (1000000000 : Int) = 1000000000)) := fun f g h hf hp hz hx => ⟨(by assumption : ∀ (f g : Nat → Int) (h : Nat → Bool), sg_fg f g (M 60 88) → sg_pm (M 60) f g (M 60 88) → pz_zs y h → 0 ≤ x ∧ x ≤ 240 → sg_TM f g h x N15 x4) f g h hf hp hz hx, U26 h hz, Or.inr ⟨by omega, rfl⟩⟩
              exact L51 _ _ _ _ _ _ _ _ (by first | assumption | rfl) hS (by first | omega | assumption) (by first | omega | assumption) (by first | omega | assumption) (by first | omega | assumption) (by first | omega | assumption) (by first | omega | assumption) (by first | omega | assumption) (by first | omega | assumption) (by first | omega | assumption)
            · skip
              have G51 : ∀ (f g : Nat → Int) (h : Nat → Bool), sg_fg f g (M 60 88) → sg_pm (M 60) f g (M 60 88) → pz_zs y h → 0 ≤ x ∧ x ≤ 240 → sg_TM f g h x N15 x4 ∧ sg_su h x4.toNat ∧ ((x4 = y ∧ x = x) ∨ (x4 ≠ y ∧ x = 1000000000)) := fun f g h hf hp hz hx => ⟨(by assumption : ∀ (f g : Nat → Int) (h : Nat → Bool), sg_fg f g (M 60 88) → sg_pm (M 60) f g (M 60 88) → pz_zs y h → 0 ≤ x ∧ x ≤ 240 → sg_TM f g h x N15 x4) f g h hf hp hz hx, U26 h hz, Or.inl ⟨by omega, rfl⟩⟩
              exact L51 _ _ _ _ _ _ _ _ (by first | assumption | rfl) hS (by first | omega | assumption) (by first | omega | assumption) (by first | omega | assumption) (by first | omega | assumption) (by first | omega | assumption) (by first | omega | assumption) (by first | omega | assumption) (by first | omega | assumption) (by first | omega | assumption)
          · skip
            have G168 : ∀ (f g : Nat → Int) (h : Nat → Bool), sg_fg f g (M 60 88) → sg_pm (M 60) f g (M 60 88) → pz_zs y h → 0 ≤ x ∧ x ≤ 240 → sg_TM f g h x N15 (x4 + 1) := fun f g h hf hp hz hx => sg_TM_n ((by assumption : ∀ (f g : Nat → Int) (h : Nat → Bool), sg_fg f g (M 60 88) → sg_pm (M 60) f g (M 60 88) → pz_zs y h → 0 ≤ x ∧ x ≤ 240 → sg_TM f g h x N15 x4) f g h hf hp hz hx) (by omega) (fun z => absurd ((sg_su_of ⟨by omega, by omega⟩ hz e24).mpr z) h26)
            exact L168 _ _ _ _ _ hS (by first | omega | assumption) (by first | omega | assumption) (by first | omega | assumption) (by first | omega | assumption) (by first | omega | assumption) (by first | omega | assumption) (by first | omega | assumption)
    refine hgo (fun p => Nat.beq p 15 || Nat.beq p 51 || Nat.beq p 55 || Nat.beq p 162 || Nat.beq p 168) 103 0 _ [] M ?_
    refine pz_nrc (c := 60) rfl ?_
    refine And.intro (by omega) (And.intro (show _ < (1725 : Int) from by omega) ?_)
    intro v7 e7 a7 b7
    replace e7 : v7 = M 60 88 := e7
    have I7 : 0 ≤ v7 ∧ v7 ≤ 12 := by
      rw [e7]
      exact hI.1.1
    clear a7 b7
    intro v8 e8 a8 b8
    have S8 := pz_shl1 (c := v7) (by omega) (by omega)
    rw [← e8] at S8
    have P8 : v8 = sg_2 (M 60 88) := by
      rw [e8, e7]
      exact sg_2_v (by omega) (by omega)
    intro v10 e10 a10 b10
    rw [pz_wi (by omega) (by omega)] at e10
    have G15 : ∀ (f g : Nat → Int) (h : Nat → Bool), sg_fg f g (M 60 88) → sg_pm (M 60) f g (M 60 88) → pz_zs y h → 0 ≤ x ∧ x ≤ 240 → sg_TM f g h x M 0 := fun _ _ _ _ _ _ _ => sg_TM_0
    exact L15 _ _ _ _ _ _ (Nat.lt_succ_self _) hS (by first | omega | assumption) (by first | omega | assumption) (by first | omega | assumption) (by first | omega | assumption) (by first | omega | assumption)
theorem v3_X12_laysSigns {fr lo i : Nat} {own : String} (h1 : 1 + 1 ≤ fr) (h2 : 8 + (7 + 11) + 21 ≤ lo) (h3 : .methodLink own i yX12_laysSigns ∈ lw_tbl) : pz_cV fr lo own i k3_X12_laysSigns :=
  pz_cVk (maxL := 7) (fr' := 1) (lo' := 21) 2 12 h3_X12_laysSigns rfl ⟨by decide +kernel, by decide +kernel, by decide +kernel⟩ ⟨(pz_mt 1719 (by decide +kernel)), (pz_mt 1718 (by decide +kernel)), (pz_ms 83 (by decide +kernel)), (pz_mt 13 (by decide +kernel))⟩ (Or.inl ⟨TX12, 28, rfl⟩) (fun a M _ h => by
    have h : (match (generalizing := false) a with | [.inr (.inr (12, th)), .inl x, .inl y] => pz_im M | _ => False) := h
    split at h
    · exact ⟨_, _, rfl⟩
    · exact h.elim) h1 h2 h3
noncomputable def k3_X12_mostSigned : pz_C := (1, 1, fun a M => (match a with | [.inr (.inr (12, th))] => pz_im M | _ => False), fun a M r M' => (match a, r with | [.inr (.inr (12, th))], some (.inl v) => (∀ f g : Nat → Int, sg_TM f g (fun _ => false) 0 M (sg_2 (M 60 88)) → sg_most f g (M 60 88).toNat v) ∧ M = M' | _, _ => False))
noncomputable abbrev ct3_X12_mostSigned : List (Bool × Nat × pz_C) := [(false, 398, k3_X12_count), (false, 51, k_X12_greater)]
set_option maxRecDepth 100000 in
set_option maxHeartbeats 4000000 in
theorem h3_X12_mostSigned : pz_H yX12_mostSigned cX12_mostSigned 3 (some .int) k3_X12_mostSigned 1 22 := by
  refine pz_mk (own := RX12) (tb := t_X12_mostSigned) (fl := pz_flf fl_RX12) (ci := pz_cif ci_RX12) (ct := pz_ctf ct3_X12_mostSigned) (rz := false) (by decide +kernel) rfl t_X12_mostSigned_ok (pz_flk fl_RX12_ok) (pz_cik ci_RX12_ok) ?_ ?_ (Or.inl ⟨rfl, rfl⟩) ?_ ?_
  · exact fun i k' h => pz_ctk (l := ct3_X12_mostSigned) (P := fun b i k => b = true → pz_cV 1 22 RX12 i k) (List.forall_mem_cons.mpr ⟨((fun z => by cases z)), List.forall_mem_cons.mpr ⟨((fun z => by cases z)), fun _ h => absurd h List.not_mem_nil⟩⟩) true i k' h rfl
  · exact fun i k' h => pz_ctk (l := ct3_X12_mostSigned) (P := fun b i k => b = false → (pz_cS 1 22 RX12 i k ∨ (k = pz_kac ∧ 1 ≤ 1 ∧ 60 ≤ 22 ∧ Cond.methodLink RX12 i arraycopyName ∈ pz_tbl))) (List.forall_mem_cons.mpr ⟨(fun _ => Or.inl (s3_X12_count (by decide) (by decide) (Or.inl (pz_mt 1606 (by decide +kernel))))), List.forall_mem_cons.mpr ⟨(fun _ => Or.inl (s_X12_greater (by decide) (by decide) (Or.inl (pz_mt 1447 (by decide +kernel))))), fun _ h => absurd h List.not_mem_nil⟩⟩) false i k' h rfl
  · intro a M hlen hpre
    obtain ⟨th, rfl, hpre⟩ : ∃ th, a = [.inr (.inr (12, th))] ∧ (pz_im M) := by
      have hpre : (match (generalizing := false) a with | [.inr (.inr (12, th))] => pz_im M | _ => False) := hpre
      split at hpre
      · exact ⟨_, rfl, hpre⟩
      · exact hpre.elim
    exact Nat.le_of_ble_eq_true rfl
  · intro a M hlen hcan hM hpre Ok hgo
    obtain ⟨th, rfl, hpre⟩ : ∃ th, a = [.inr (.inr (12, th))] ∧ (pz_im M) := by
      have hpre : (match (generalizing := false) a with | [.inr (.inr (12, th))] => pz_im M | _ => False) := hpre
      split at hpre
      · exact ⟨_, rfl, hpre⟩
      · exact hpre.elim
    obtain ⟨k_th, hc_th⟩ := pz_tlm hcan
    have k_th : pz_kd th = 12 ∧ th < 231 := k_th
    have R_th := pz_kd12 k_th.1
    subst R_th
    clear k_th
    have hI : pz_im M := hpre
    have I88 := hI.1.1
    have B2 := sg_2_b I88.2
    have L4 : ∀ (fu : Nat) (x1 : Int) (x2 : Int), (4096 - x2).toNat < fu → (0 ≤ x2) → (x2 ≤ sg_2 (M 60 88)) → (sg_mm M x2 x1) → Ok 4 [some (.inr (.inr (12, 1))), some (.inl x1), some (.inl x2)] [] M := by
      intro fu
      induction fu with
      | zero => exact fun _ _ hn => absurd hn (Nat.not_lt_zero _)
      | succ fu ih4 =>
        intro x1 x2 hn4 g4_0 g4_1 g4_2
        have L41 : ∀ (x1 : Int) (x2 : Int) (s0 : Int), (0 ≤ x2) → (x2 < 4096) → ((4096 - x2).toNat < fu + 1) → (x2 < sg_2 (M 60 88)) → (sg_mm M (x2 + 1) s0) → Ok 41 [some (.inr (.inr (12, 1))), some (.inl x1), some (.inl x2)] [.inl s0] M := by
          intro x1 x2 s0 g41_0 g41_1 g41_2 g41_3 g41_4
          refine hgo (fun p => Nat.beq p 4 || Nat.beq p 41) 31 41 _ _ _ ?_
          intro v42 e42 a42 b42
          rw [pz_wi (by omega) (by omega)] at e42
          have G4 : sg_mm M v42 s0 := by
            rw [e42]
            assumption
          exact ih4 _ _ (by omega) (by first | omega | assumption | exact sg_mm_0) (by first | omega | assumption | exact sg_mm_0) (by first | omega | assumption | exact sg_mm_0)
        refine hgo (fun p => Nat.beq p 4 || Nat.beq p 41) 31 4 _ _ _ ?_
        refine pz_nrc (c := 60) rfl ?_
        refine And.intro (by omega) (And.intro (show _ < (1725 : Int) from by omega) ?_)
        intro v12 e12 a12 b12
        replace e12 : v12 = M 60 88 := e12
        have I12 : 0 ≤ v12 ∧ v12 ≤ 12 := by
          rw [e12]
          exact hI.1.1
        clear a12 b12
        intro v13 e13 a13 b13
        have S13 := pz_shl1 (c := v12) (by omega) (by omega)
        rw [← e13] at S13
        have P13 : v13 = sg_2 (M 60 88) := by
          rw [e13, e12]
          exact sg_2_v (by omega) (by omega)
        refine And.intro (fun h14 => ?_) (fun h14 => ?_)
        · skip
          refine And.intro rfl ?_
          refine ⟨fun f g t => ?_, rfl⟩
          exact sg_mm_z (by assumption : sg_mm M x2 x1) t (by omega) (by omega)
        · skip
          refine pz_nrc (c := 70) rfl ?_
          refine And.intro (by omega) (And.intro (show _ < (4096 : Int) from by omega) ?_)
          intro v22 e22 a22 b22
          refine And.intro (fun h26 => ?_) (fun h26 => ?_)
          · skip
            have G41 : sg_mm M (x2 + 1) x1 := sg_mm_s (c := 0) (by assumption) (by omega) rfl e22 (fun z => absurd z (by omega)) (fun _ => rfl)
            exact L41 _ _ _ (by first | omega | assumption) (by first | omega | assumption) (by first | omega | assumption) (by first | omega | assumption) (by first | omega | assumption)
          · skip
            skip
            refine And.intro (True.intro) ?_
            intro v31 M31 a31 b31 q31
            obtain ⟨q31, z31⟩ := q31
            subst z31
            refine And.intro (True.intro) ?_
            intro v34 M34 a34 b34 q34
            obtain ⟨q34, z34⟩ := q34
            subst z34
            have G41 : sg_mm M (x2 + 1) v34 := sg_mm_s (by assumption) (by omega) rfl e22 (fun _ => ⟨q31 _ (sg_zs (by omega) (by omega)), ⟨q34.1, q34.2.1⟩, q34.2.2⟩) (fun z => absurd (by omega) z)
            exact L41 _ _ _ (by first | omega | assumption) (by first | omega | assumption) (by first | omega | assumption) (by first | omega | assumption) (by first | omega | assumption)
    refine hgo (fun p => Nat.beq p 4 || Nat.beq p 41) 31 0 _ [] M ?_
    exact L4 _ _ _ (Nat.lt_succ_self _) (by first | omega | assumption | exact sg_mm_0) (by first | omega | assumption | exact sg_mm_0) (by first | omega | assumption | exact sg_mm_0)
theorem v3_X12_mostSigned {fr lo i : Nat} {own : String} (h1 : 1 + 1 ≤ fr) (h2 : 8 + (3 + 11) + 22 ≤ lo) (h3 : .methodLink own i yX12_mostSigned ∈ lw_tbl) : pz_cV fr lo own i k3_X12_mostSigned :=
  pz_cVk (maxL := 3) (fr' := 1) (lo' := 22) 0 12 h3_X12_mostSigned rfl ⟨by decide +kernel, by decide +kernel, by decide +kernel⟩ ⟨(pz_mt 1724 (by decide +kernel)), (pz_mt 1723 (by decide +kernel)), (pz_ms 84 (by decide +kernel)), (pz_mt 13 (by decide +kernel))⟩ (Or.inl ⟨TX12, 28, rfl⟩) (fun a M _ h => by
    have h : (match (generalizing := false) a with | [.inr (.inr (12, th))] => pz_im M | _ => False) := h
    split at h
    · exact ⟨_, _, rfl⟩
    · exact h.elim) h1 h2 h3
