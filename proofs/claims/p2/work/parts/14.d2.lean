def k_X12_laysSigns : pz_C := (3, 0, fun a M => (match a with | [.inr (.inr (12, th)), .inl x, .inl y] => pz_im M | _ => False), fun a M r M' => (match a, r with | [.inr (.inr (12, th)), .inl x, .inl y], none => (True) ∧ pz_sm M M' | _, _ => False))
abbrev ct_X12_laysSigns : List (Bool × Nat × pz_C) := [(false, 51, k_X12_greater), (false, 47, k_X12_lesser)]
set_option maxRecDepth 100000 in
set_option maxHeartbeats 4000000 in
theorem h_X12_laysSigns : pz_H yX12_laysSigns cX12_laysSigns 7 none k_X12_laysSigns 1 21 := by
  refine pz_mk (own := RX12) (tb := t_X12_laysSigns) (fl := pz_flf fl_RX12) (ci := pz_cif ci_RX12) (ct := pz_ctf ct_X12_laysSigns) (rz := false) (by decide +kernel) rfl t_X12_laysSigns_ok (pz_flk fl_RX12_ok) (pz_cik ci_RX12_ok) ?_ ?_ (rfl) ?_ ?_
  · exact fun i k' h => pz_ctk (l := ct_X12_laysSigns) (P := fun b i k => b = true → pz_cV 1 21 RX12 i k) (List.forall_mem_cons.mpr ⟨((fun z => by cases z)), List.forall_mem_cons.mpr ⟨((fun z => by cases z)), fun _ h => absurd h List.not_mem_nil⟩⟩) true i k' h rfl
  · exact fun i k' h => pz_ctk (l := ct_X12_laysSigns) (P := fun b i k => b = false → (pz_cS 1 21 RX12 i k ∨ (k = pz_kac ∧ 1 ≤ 1 ∧ 60 ≤ 21 ∧ Cond.methodLink RX12 i arraycopyName ∈ pz_tbl))) (List.forall_mem_cons.mpr ⟨(fun _ => Or.inl (s_X12_greater (by decide) (by decide) (Or.inl (pz_mt 1447 (by decide +kernel))))), List.forall_mem_cons.mpr ⟨(fun _ => Or.inl (s_X12_lesser (by decide) (by decide) (Or.inl (pz_mt 1462 (by decide +kernel))))), fun _ h => absurd h List.not_mem_nil⟩⟩) false i k' h rfl
  · intro a M hlen hpre
    obtain ⟨th, x, y, rfl, hpre⟩ : ∃ th x y, a = [.inr (.inr (12, th)), .inl x, .inl y] ∧ (pz_im M) := by
      have hpre : (match (generalizing := false) a with | [.inr (.inr (12, th)), .inl x, .inl y] => pz_im M | _ => False) := hpre
      split at hpre
      · exact ⟨_, _, _, rfl, hpre⟩
      · exact hpre.elim
    exact Nat.le_of_ble_eq_true rfl
  · intro a M hlen hcan hM hpre Ok hgo
    obtain ⟨th, x, y, rfl, hpre⟩ : ∃ th x y, a = [.inr (.inr (12, th)), .inl x, .inl y] ∧ (pz_im M) := by
      have hpre : (match (generalizing := false) a with | [.inr (.inr (12, th)), .inl x, .inl y] => pz_im M | _ => False) := hpre
      split at hpre
      · exact ⟨_, _, _, rfl, hpre⟩
      · exact hpre.elim
    obtain ⟨k_th, hc_th⟩ := pz_tlm hcan
    have k_th : pz_kd th = 12 ∧ th < 231 := k_th
    have R_th := pz_kd12 k_th.1
    subst R_th
    clear k_th
    obtain ⟨k_x, hc_x⟩ := pz_tlm hc_th
    have l_x : -2147483648 ≤ x := k_x.1
    have u_x : x ≤ 2147483647 := k_x.2
    obtain ⟨k_y, hc_y⟩ := pz_tlm hc_x
    have l_y : -2147483648 ≤ y := k_y.1
    have u_y : y ≤ 2147483647 := k_y.2
    have hI : pz_im M := hpre
    have hI0 := hI
    have hS : pz_sm M M := pz_sm.rf
    have L15 : ∀ (fo : Nat) (x3 : Int) (x4 : Int) (d5 : Option pz_V) (d6 : Option pz_V) (N15 : pz_M), (4096 - x4).toNat < fo → (pz_sm M N15) → (0 ≤ x4) → (x3 ≤ 4095) → Ok 15 [some (.inr (.inr (12, 1))), some (.inl x), some (.inl y), some (.inl x3), some (.inl x4), d5, d6] [] N15 := by
      intro fo
      induction fo with
      | zero => exact fun _ _ _ _ _ hn => absurd hn (Nat.not_lt_zero _)
      | succ fo ih15 =>
        intro x3 x4 d5 d6 N15 hn15 hS g15_1 g15_2
        have hI : pz_im N15 := hS.1.1.1 hI0
        have L168 : ∀ (x3 : Int) (x4 : Int) (d5 : Option pz_V) (d6 : Option pz_V) (N168 : pz_M), (pz_sm M N168) → (0 ≤ x4) → (x4 ≤ 4095) → (x3 ≤ 4095) → ((4096 - x4).toNat < fo + 1) → Ok 168 [some (.inr (.inr (12, 1))), some (.inl x), some (.inl y), some (.inl x3), some (.inl x4), d5, d6] [] N168 := by
          intro x3 x4 d5 d6 N168 hS g168_1 g168_2 g168_3 g168_4
          have hI : pz_im N168 := hS.1.1.1 hI0
          refine hgo (fun p => Nat.beq p 15 || Nat.beq p 51 || Nat.beq p 55 || Nat.beq p 162 || Nat.beq p 168) 103 168 _ _ _ ?_
          intro v168 e168 a168 b168
          rw [pz_wi (by omega) (by omega)] at e168
          clear a168 b168
          exact ih15 _ _ _ _ _ (by omega) hS (by omega) (by omega)
        have L55 : ∀ (fu : Nat) (x3 : Int) (x4 : Int) (x5 : Int) (d6 : Option pz_V) (N55 : pz_M), (12 - x5).toNat < fu → (pz_sm M N55) → (0 ≤ x5) → (0 ≤ x4) → (x4 ≤ 4095) → (x3 ≤ 4095) → ((4096 - x4).toNat < fo + 1) → Ok 55 [some (.inr (.inr (12, 1))), some (.inl x), some (.inl y), some (.inl x3), some (.inl x4), some (.inl x5), d6] [] N55 := by
          intro fu
          induction fu with
          | zero => exact fun _ _ _ _ _ hn => absurd hn (Nat.not_lt_zero _)
          | succ fu ih55 =>
            intro x3 x4 x5 d6 N55 hn55 hS g55_1 g55_2 g55_3 g55_4 g55_5
            have hI : pz_im N55 := hS.1.1.1 hI0
            have L162 : ∀ (x3 : Int) (x4 : Int) (x5 : Int) (d6 : Option pz_V) (N162 : pz_M), (pz_sm M N162) → (0 ≤ x5) → (x5 < 12) → ((12 - x5).toNat < fu + 1) → (0 ≤ x4) → (x4 ≤ 4095) → (x3 ≤ 4095) → ((4096 - x4).toNat < fo + 1) → Ok 162 [some (.inr (.inr (12, 1))), some (.inl x), some (.inl y), some (.inl x3), some (.inl x4), some (.inl x5), d6] [] N162 := by
              intro x3 x4 x5 d6 N162 hS g162_1 g162_2 g162_3 g162_4 g162_5 g162_6 g162_7
              have hI : pz_im N162 := hS.1.1.1 hI0
              refine hgo (fun p => Nat.beq p 15 || Nat.beq p 51 || Nat.beq p 55 || Nat.beq p 162 || Nat.beq p 168) 103 162 _ _ _ ?_
              intro v162 e162 a162 b162
              rw [pz_wi (by omega) (by omega)] at e162
              clear a162 b162
              exact ih55 _ _ _ _ _ (by omega) hS (by omega) (by omega) (by omega) (by omega) (by omega)
            refine hgo (fun p => Nat.beq p 15 || Nat.beq p 51 || Nat.beq p 55 || Nat.beq p 162 || Nat.beq p 168) 103 55 _ _ _ ?_
            refine pz_nrc (c := 60) rfl ?_
            refine And.intro (by omega) (And.intro (show _ < (1725 : Int) from by omega) ?_)
            intro v63 e63 a63 b63
            replace e63 : v63 = N55 60 88 := e63
            have I63 : 0 ≤ v63 ∧ v63 ≤ 12 := by
              rw [e63]
              exact hI.1.1
            clear a63 b63
            refine And.intro (fun h64 => ?_) (fun h64 => ?_)
            · skip
              exact L168 _ _ _ _ _ hS (by omega) (by omega) (by omega) (by omega)
            · skip
              intro v71 e71 a71 b71
              intro v73 e73 a73 b73
              refine And.intro (fun h74 => ?_) (fun h74 => ?_)
              · skip
                exact L162 _ _ _ _ _ hS (by omega) (by omega) (by omega) (by omega) (by omega) (by omega) (by omega)
              · skip
                intro v80 e80 a80 b80
                intro v82 e82 a82 b82
                refine And.intro (fun h84 => ?_) (fun h84 => ?_)
                · skip
                  refine pz_nrc (c := 70) rfl ?_
                  intro v99 e99 a99 b99
                  intro v101 e101 a101 b101
                  intro v102 e102 a102 b102
                  have X102 := pz_and12 (x := x4) (y := v101) (by omega) (by omega)
                  rw [← e102] at X102
                  refine And.intro (by omega) (And.intro (show _ < (4096 : Int) from by omega) ?_)
                  intro v103 e103 a103 b103
                  refine pz_nrc (c := 60) rfl ?_
                  intro v113 e113 a113 b113
                  rw [pz_wi (by omega) (by omega)] at e113
                  clear a113 b113
                  intro v114 e114 a114 b114
                  rw [pz_wi (by omega) (by omega)] at e114
                  clear a114 b114
                  refine And.intro (by omega) (And.intro (show _ < (1725 : Int) from by omega) ?_)
                  intro v115 e115 a115 b115
                  refine And.intro (True.intro) ?_
                  intro v116 M116 a116 b116 q116
                  obtain ⟨q116, z116⟩ := q116
                  subst z116
                  replace q116 : v103 ≤ v116 ∧ v115 ≤ v116 := by omega
                  intro v121 e121 a121 b121
                  refine pz_nrc (c := 60) rfl ?_
                  intro v135 e135 a135 b135
                  rw [pz_wi (by omega) (by omega)] at e135
                  clear a135 b135
                  intro v136 e136 a136 b136
                  rw [pz_wi (by omega) (by omega)] at e136
                  clear a136 b136
                  intro v138 e138 a138 b138
                  rw [pz_wi (by omega) (by omega)] at e138
                  clear a138 b138
                  refine And.intro (by omega) (And.intro (show _ < (1725 : Int) from by omega) ?_)
                  intro v139 e139 a139 b139
                  refine And.intro (fun h140 => ?_) (fun h140 => ?_)
                  · skip
                    exact L162 _ _ _ _ _ hS (by omega) (by omega) (by omega) (by omega) (by omega) (by omega) (by omega)
                  · skip
                    refine pz_nrc (c := 70) rfl ?_
                    refine pz_nrc (c := 70) rfl ?_
                    refine And.intro (by omega) (And.intro (show _ < (4096 : Int) from by omega) ?_)
                    intro v155 e155 a155 b155
                    refine And.intro (True.intro) ?_
                    intro v158 M158 a158 b158 q158
                    obtain ⟨q158, z158⟩ := q158
                    subst z158
                    replace q158 : v158 ≤ v155 ∧ v158 ≤ v121 := by omega
                    refine And.intro (by omega) (And.intro (show _ < (4096 : Int) from by omega) ?_)
                    intro M161 e161
                    have hS : pz_sm M M161 := by
                      rw [e161]
                      exact pz_sm_u hS (pz_mn_a (by decide)) (fun h => absurd h.1 (by decide)) (fun h => absurd h.1 (by decide)) (pz_iom_a (by decide))
                    have hI : pz_im M161 := hS.1.1.1 hI0
                    exact L162 _ _ _ _ _ hS (by omega) (by omega) (by omega) (by omega) (by omega) (by omega) (by omega)
                · skip
                  exact L162 _ _ _ _ _ hS (by omega) (by omega) (by omega) (by omega) (by omega) (by omega) (by omega)
        have L51 : ∀ (x3 : Int) (x4 : Int) (d5 : Option pz_V) (d6 : Option pz_V) (sr0 : Nat) (s1 : Int) (s2 : Int) (N51 : pz_M), (pz_kd sr0 = 22) → (pz_sm M N51) → (sr0 = 70) → (s1 = x4) → (0 ≤ x4) → (x4 ≤ 4095) → (x3 ≤ 4095) → ((4096 - x4).toNat < fo + 1) → Ok 51 [some (.inr (.inr (12, 1))), some (.inl x), some (.inl y), some (.inl x3), some (.inl x4), d5, d6] [.inl s2, .inl s1, .inr (.inr (22, sr0))] N51 := by
          intro x3 x4 d5 d6 sr0 s1 s2 N51 K_sr0 hS g51_2 g51_3 g51_4 g51_5 g51_6 g51_7
          have hI : pz_im N51 := hS.1.1.1 hI0
          refine hgo (fun p => Nat.beq p 15 || Nat.beq p 51 || Nat.beq p 55 || Nat.beq p 162 || Nat.beq p 168) 103 51 _ _ _ ?_
          refine And.intro (by omega) (And.intro (show _ < (4096 : Int) from by omega) ?_)
          intro M51 e51
          have hS : pz_sm M M51 := by
            rw [e51]
            exact pz_sm_u hS (by rw [g51_2]; exact pz_mn_a (by decide)) (by omega) (by omega) (by rw [g51_2]; exact pz_iom_a (by decide))
          have hI : pz_im M51 := hS.1.1.1 hI0
          exact L55 _ _ _ _ _ _ (Nat.lt_succ_self _) hS (by omega) (by omega) (by omega) (by omega) (by omega)
        refine hgo (fun p => Nat.beq p 15 || Nat.beq p 51 || Nat.beq p 55 || Nat.beq p 162 || Nat.beq p 168) 103 15 _ _ _ ?_
        refine And.intro (fun h18 => ?_) (fun h18 => ?_)
        · skip
          refine And.intro rfl ?_
          exact ⟨trivial, hS⟩
        · skip
          intro v24 e24 a24 b24
          refine And.intro (fun h26 => ?_) (fun h26 => ?_)
          · skip
            refine pz_nrc (c := 70) rfl ?_
            refine And.intro (fun h41 => ?_) (fun h41 => ?_)
            · skip
              exact L51 _ _ _ _ _ _ _ _ (by first | assumption | rfl) hS (by omega) (by omega) (by omega) (by omega) (by omega) (by omega)
            · skip
              exact L51 _ _ _ _ _ _ _ _ (by first | assumption | rfl) hS (by omega) (by omega) (by omega) (by omega) (by omega) (by omega)
          · skip
            exact L168 _ _ _ _ _ hS (by omega) (by omega) (by omega) (by omega)
    refine hgo (fun p => Nat.beq p 15 || Nat.beq p 51 || Nat.beq p 55 || Nat.beq p 162 || Nat.beq p 168) 103 0 _ [] M ?_
    refine pz_nrc (c := 60) rfl ?_
    refine And.intro (by omega) (And.intro (show _ < (1725 : Int) from by omega) ?_)
    intro v7 e7 a7 b7
    replace e7 : v7 = M 60 88 := e7
    have I7 : 0 ≤ v7 ∧ v7 ≤ 12 := by
      rw [e7]
      exact hI.1.1
    clear a7 b7
    intro v8 e8 a8 b8
    have S8 := pz_shl1 (c := v7) (by omega) (by omega)
    rw [← e8] at S8
    intro v10 e10 a10 b10
    rw [pz_wi (by omega) (by omega)] at e10
    clear a10 b10
    exact L15 _ _ _ _ _ _ (Nat.lt_succ_self _) hS (by omega) (by omega)
theorem v_X12_laysSigns {fr lo i : Nat} {own : String} (h1 : 1 + 1 ≤ fr) (h2 : 8 + (7 + 11) + 21 ≤ lo) (h3 : .methodLink own i yX12_laysSigns ∈ lw_tbl) : pz_cV fr lo own i k_X12_laysSigns :=
  pz_cVk (maxL := 7) (fr' := 1) (lo' := 21) 2 12 h_X12_laysSigns rfl ⟨by decide +kernel, by decide +kernel, by decide +kernel⟩ ⟨(pz_mt 1719 (by decide +kernel)), (pz_mt 1718 (by decide +kernel)), (pz_ms 83 (by decide +kernel)), (pz_mt 13 (by decide +kernel))⟩ (Or.inl ⟨TX12, 28, rfl⟩) (fun a M _ h => by
    have h : (match (generalizing := false) a with | [.inr (.inr (12, th)), .inl x, .inl y] => pz_im M | _ => False) := h
    split at h
    · exact ⟨_, _, rfl⟩
    · exact h.elim) h1 h2 h3
def k_X12_mostSigned : pz_C := (1, 1, fun a M => (match a with | [.inr (.inr (12, th))] => pz_im M | _ => False), fun a M r M' => (match a, r with | [.inr (.inr (12, th))], some (.inl v) => (True) ∧ M = M' | _, _ => False))
abbrev ct_X12_mostSigned : List (Bool × Nat × pz_C) := [(false, 398, k_X12_count), (false, 51, k_X12_greater)]
set_option maxRecDepth 100000 in
set_option maxHeartbeats 4000000 in
theorem h_X12_mostSigned : pz_H yX12_mostSigned cX12_mostSigned 3 (some .int) k_X12_mostSigned 1 22 := by
  refine pz_mk (own := RX12) (tb := t_X12_mostSigned) (fl := pz_flf fl_RX12) (ci := pz_cif ci_RX12) (ct := pz_ctf ct_X12_mostSigned) (rz := false) (by decide +kernel) rfl t_X12_mostSigned_ok (pz_flk fl_RX12_ok) (pz_cik ci_RX12_ok) ?_ ?_ (Or.inl ⟨rfl, rfl⟩) ?_ ?_
  · exact fun i k' h => pz_ctk (l := ct_X12_mostSigned) (P := fun b i k => b = true → pz_cV 1 22 RX12 i k) (List.forall_mem_cons.mpr ⟨((fun z => by cases z)), List.forall_mem_cons.mpr ⟨((fun z => by cases z)), fun _ h => absurd h List.not_mem_nil⟩⟩) true i k' h rfl
  · exact fun i k' h => pz_ctk (l := ct_X12_mostSigned) (P := fun b i k => b = false → (pz_cS 1 22 RX12 i k ∨ (k = pz_kac ∧ 1 ≤ 1 ∧ 60 ≤ 22 ∧ Cond.methodLink RX12 i arraycopyName ∈ pz_tbl))) (List.forall_mem_cons.mpr ⟨(fun _ => Or.inl (s_X12_count (by decide) (by decide) (Or.inl (pz_mt 1606 (by decide +kernel))))), List.forall_mem_cons.mpr ⟨(fun _ => Or.inl (s_X12_greater (by decide) (by decide) (Or.inl (pz_mt 1447 (by decide +kernel))))), fun _ h => absurd h List.not_mem_nil⟩⟩) false i k' h rfl
  · intro a M hlen hpre
    obtain ⟨th, rfl, hpre⟩ : ∃ th, a = [.inr (.inr (12, th))] ∧ (pz_im M) := by
      have hpre : (match (generalizing := false) a with | [.inr (.inr (12, th))] => pz_im M | _ => False) := hpre
      split at hpre
      · exact ⟨_, rfl, hpre⟩
      · exact hpre.elim
    exact Nat.le_of_ble_eq_true rfl
  · intro a M hlen hcan hM hpre Ok hgo
    obtain ⟨th, rfl, hpre⟩ : ∃ th, a = [.inr (.inr (12, th))] ∧ (pz_im M) := by
      have hpre : (match (generalizing := false) a with | [.inr (.inr (12, th))] => pz_im M | _ => False) := hpre
      split at hpre
      · exact ⟨_, rfl, hpre⟩
      · exact hpre.elim
    obtain ⟨k_th, hc_th⟩ := pz_tlm hcan
    have k_th : pz_kd th = 12 ∧ th < 231 := k_th
    have R_th := pz_kd12 k_th.1
    subst R_th
    clear k_th
    have hI : pz_im M := hpre
    have L4 : ∀ (fu : Nat) (x1 : Int) (x2 : Int), (4096 - x2).toNat < fu → (0 ≤ x2) → Ok 4 [some (.inr (.inr (12, 1))), some (.inl x1), some (.inl x2)] [] M := by
      intro fu
      induction fu with
      | zero => exact fun _ _ hn => absurd hn (Nat.not_lt_zero _)
      | succ fu ih4 =>
        intro x1 x2 hn4 g4_0
        have L41 : ∀ (x1 : Int) (x2 : Int) (s0 : Int), (0 ≤ x2) → (x2 < 4096) → ((4096 - x2).toNat < fu + 1) → Ok 41 [some (.inr (.inr (12, 1))), some (.inl x1), some (.inl x2)] [.inl s0] M := by
          intro x1 x2 s0 g41_0 g41_1 g41_2
          refine hgo (fun p => Nat.beq p 4 || Nat.beq p 41) 31 41 _ _ _ ?_
          intro v42 e42 a42 b42
          rw [pz_wi (by omega) (by omega)] at e42
          clear a42 b42
          exact ih4 _ _ (by omega) (by omega)
        refine hgo (fun p => Nat.beq p 4 || Nat.beq p 41) 31 4 _ _ _ ?_
        refine pz_nrc (c := 60) rfl ?_
        refine And.intro (by omega) (And.intro (show _ < (1725 : Int) from by omega) ?_)
        intro v12 e12 a12 b12
        replace e12 : v12 = M 60 88 := e12
        have I12 : 0 ≤ v12 ∧ v12 ≤ 12 := by
          rw [e12]
          exact hI.1.1
        clear a12 b12
        intro v13 e13 a13 b13
        have S13 := pz_shl1 (c := v12) (by omega) (by omega)
        rw [← e13] at S13
        refine And.intro (fun h14 => ?_) (fun h14 => ?_)
        · skip
          refine And.intro rfl ?_
          exact ⟨trivial, rfl⟩
        · skip
          refine pz_nrc (c := 70) rfl ?_
          refine And.intro (by omega) (And.intro (show _ < (4096 : Int) from by omega) ?_)
          intro v22 e22 a22 b22
          refine And.intro (fun h26 => ?_) (fun h26 => ?_)
          · skip
            exact L41 _ _ _ (by omega) (by omega) (by omega)
          · skip
            refine And.intro (True.intro) ?_
            intro v31 M31 a31 b31 q31
            obtain ⟨q31, z31⟩ := q31
            subst z31
            refine And.intro (True.intro) ?_
            intro v34 M34 a34 b34 q34
            obtain ⟨q34, z34⟩ := q34
            subst z34
            replace q34 : x1 ≤ v34 ∧ v31 ≤ v34 := by omega
            exact L41 _ _ _ (by omega) (by omega) (by omega)
    refine hgo (fun p => Nat.beq p 4 || Nat.beq p 41) 31 0 _ [] M ?_
    exact L4 _ _ _ (Nat.lt_succ_self _) (by omega)
theorem v_X12_mostSigned {fr lo i : Nat} {own : String} (h1 : 1 + 1 ≤ fr) (h2 : 8 + (3 + 11) + 22 ≤ lo) (h3 : .methodLink own i yX12_mostSigned ∈ lw_tbl) : pz_cV fr lo own i k_X12_mostSigned :=
  pz_cVk (maxL := 3) (fr' := 1) (lo' := 22) 0 12 h_X12_mostSigned rfl ⟨by decide +kernel, by decide +kernel, by decide +kernel⟩ ⟨(pz_mt 1724 (by decide +kernel)), (pz_mt 1723 (by decide +kernel)), (pz_ms 84 (by decide +kernel)), (pz_mt 13 (by decide +kernel))⟩ (Or.inl ⟨TX12, 28, rfl⟩) (fun a M _ h => by
    have h : (match (generalizing := false) a with | [.inr (.inr (12, th))] => pz_im M | _ => False) := h
    split at h
    · exact ⟨_, _, rfl⟩
    · exact h.elim) h1 h2 h3
def k_X12_signsNext : pz_C := (4, 1, fun a M => (match a with | [.inr (.inr (12, th)), .inl x, .inl y, .inl z] => pz_im M | _ => False), fun a M r M' => (match a, r with | [.inr (.inr (12, th)), .inl x, .inl y, .inl z], some (.inl v) => (-1 ≤ v ∧ v < 12) ∧ pz_sm M M' | _, _ => False))
abbrev ct_X12_signsNext : List (Bool × Nat × pz_C) := [(false, 51, k_X12_greater), (true, 449, k_X12_laysSigns)]
set_option maxRecDepth 100000 in
set_option maxHeartbeats 4000000 in
theorem h_X12_signsNext : pz_H yX12_signsNext cX12_signsNext 7 (some .int) k_X12_signsNext 2 47 := by
  refine pz_mk (own := RX12) (tb := t_X12_signsNext) (fl := pz_flf fl_RX12) (ci := pz_cif ci_RX12) (ct := pz_ctf ct_X12_signsNext) (rz := false) (by decide +kernel) rfl t_X12_signsNext_ok (pz_flk fl_RX12_ok) (pz_cik ci_RX12_ok) ?_ ?_ (Or.inl ⟨rfl, rfl⟩) ?_ ?_
  · exact fun i k' h => pz_ctk (l := ct_X12_signsNext) (P := fun b i k => b = true → pz_cV 2 47 RX12 i k) (List.forall_mem_cons.mpr ⟨((fun z => by cases z)), List.forall_mem_cons.mpr ⟨(fun _ => v_X12_laysSigns (by decide) (by decide) (pz_mt 1716 (by decide +kernel))), fun _ h => absurd h List.not_mem_nil⟩⟩) true i k' h rfl
  · exact fun i k' h => pz_ctk (l := ct_X12_signsNext) (P := fun b i k => b = false → (pz_cS 2 47 RX12 i k ∨ (k = pz_kac ∧ 1 ≤ 2 ∧ 60 ≤ 47 ∧ Cond.methodLink RX12 i arraycopyName ∈ pz_tbl))) (List.forall_mem_cons.mpr ⟨(fun _ => Or.inl (s_X12_greater (by decide) (by decide) (Or.inl (pz_mt 1447 (by decide +kernel))))), List.forall_mem_cons.mpr ⟨((fun z => by cases z)), fun _ h => absurd h List.not_mem_nil⟩⟩) false i k' h rfl
  · intro a M hlen hpre
    obtain ⟨th, x, y, z, rfl, hpre⟩ : ∃ th x y z, a = [.inr (.inr (12, th)), .inl x, .inl y, .inl z] ∧ (pz_im M) := by
      have hpre : (match (generalizing := false) a with | [.inr (.inr (12, th)), .inl x, .inl y, .inl z] => pz_im M | _ => False) := hpre
      split at hpre
      · exact ⟨_, _, _, _, rfl, hpre⟩
      · exact hpre.elim
    exact Nat.le_of_ble_eq_true rfl
  · intro a M hlen hcan hM hpre Ok hgo
    obtain ⟨th, x, y, z, rfl, hpre⟩ : ∃ th x y z, a = [.inr (.inr (12, th)), .inl x, .inl y, .inl z] ∧ (pz_im M) := by
      have hpre : (match (generalizing := false) a with | [.inr (.inr (12, th)), .inl x, .inl y, .inl z] => pz_im M | _ => False) := hpre
      split at hpre
      · exact ⟨_, _, _, _, rfl, hpre⟩
      · exact hpre.elim
    obtain ⟨k_th, hc_th⟩ := pz_tlm hcan
    have k_th : pz_kd th = 12 ∧ th < 231 := k_th
    have R_th := pz_kd12 k_th.1
    subst R_th
    clear k_th
    obtain ⟨k_x, hc_x⟩ := pz_tlm hc_th
    have l_x : -2147483648 ≤ x := k_x.1
    have u_x : x ≤ 2147483647 := k_x.2
    obtain ⟨k_y, hc_y⟩ := pz_tlm hc_x
    have l_y : -2147483648 ≤ y := k_y.1
    have u_y : y ≤ 2147483647 := k_y.2
    obtain ⟨k_z, hc_z⟩ := pz_tlm hc_y
    have l_z : -2147483648 ≤ z := k_z.1
    have u_z : z ≤ 2147483647 := k_z.2
    have hI : pz_im M := hpre
    have hI0 := hI
    have hS : pz_sm M M := pz_sm.rf
    have L16 : ∀ (fu : Nat) (x4 : Int) (x5 : Int) (d6 : Option pz_V) (N16 : pz_M), (12 - x5).toNat < fu → (pz_sm M N16) → (0 ≤ x5) → (0 ≤ x4) → (x4 ≤ 4095) → Ok 16 [some (.inr (.inr (12, 1))), some (.inl x), some (.inl y), some (.inl z), some (.inl x4), some (.inl x5), d6] [] N16 := by
      intro fu
      induction fu with
      | zero => exact fun _ _ _ _ hn => absurd hn (Nat.not_lt_zero _)
      | succ fu ih16 =>
        intro x4 x5 d6 N16 hn16 hS g16_1 g16_2 g16_3
        have hI : pz_im N16 := hS.1.1.1 hI0
        have L107 : ∀ (x4 : Int) (x5 : Int) (x6 : Int) (N107 : pz_M), (pz_sm M N107) → (0 ≤ x5) → (x5 < 12) → ((12 - x5).toNat < fu + 1) → (0 ≤ x4) → (x4 ≤ 4095) → Ok 107 [some (.inr (.inr (12, 1))), some (.inl x), some (.inl y), some (.inl z), some (.inl x4), some (.inl x5), some (.inl x6)] [] N107 := by
          intro x4 x5 x6 N107 hS g107_1 g107_2 g107_3 g107_4 g107_5
          have hI : pz_im N107 := hS.1.1.1 hI0
          refine hgo (fun p => Nat.beq p 16 || Nat.beq p 107) 72 107 _ _ _ ?_
          intro v107 e107 a107 b107
          rw [pz_wi (by omega) (by omega)] at e107
          clear a107 b107
          exact ih16 _ _ _ _ (by omega) hS (by omega) (by omega) (by omega)
        refine hgo (fun p => Nat.beq p 16 || Nat.beq p 107) 72 16 _ _ _ ?_
        refine pz_nrc (c := 60) rfl ?_
        refine And.intro (by omega) (And.intro (show _ < (1725 : Int) from by omega) ?_)
        intro v24 e24 a24 b24
        replace e24 : v24 = N16 60 88 := e24
        have I24 : 0 ≤ v24 ∧ v24 ≤ 12 := by
          rw [e24]
          exact hI.1.1
        clear a24 b24
        refine And.intro (fun h25 => ?_) (fun h25 => ?_)
        · skip
          refine And.intro rfl ?_
          exact ⟨by omega, hS⟩
        · skip
          refine pz_nrc (c := 60) rfl ?_
          intro v38 e38 a38 b38
          rw [pz_wi (by omega) (by omega)] at e38
          clear a38 b38
          intro v39 e39 a39 b39
          rw [pz_wi (by omega) (by omega)] at e39
          clear a39 b39
          refine And.intro (by omega) (And.intro (show _ < (1725 : Int) from by omega) ?_)
          intro v40 e40 a40 b40
          refine And.intro (True.intro) ?_
          intro v41 M41 a41 b41 q41
          obtain ⟨q41, z41⟩ := q41
          subst z41
          replace q41 : x ≤ v41 ∧ v40 ≤ v41 := by omega
          intro v46 e46 a46 b46
          intro v52 e52 a52 b52
          intro v54 e54 a54 b54
          refine And.intro (fun h56 => ?_) (fun h56 => ?_)
          · skip
            exact L107 _ _ _ _ hS (by omega) (by omega) (by omega) (by omega) (by omega)
          · skip
            refine pz_nrc (c := 60) rfl ?_
            intro v70 e70 a70 b70
            rw [pz_wi (by omega) (by omega)] at e70
            clear a70 b70
            intro v71 e71 a71 b71
            rw [pz_wi (by omega) (by omega)] at e71
            clear a71 b71
            intro v73 e73 a73 b73
            rw [pz_wi (by omega) (by omega)] at e73
            clear a73 b73
            refine And.intro (by omega) (And.intro (show _ < (1725 : Int) from by omega) ?_)
            intro v74 e74 a74 b74
            refine And.intro (fun h75 => ?_) (fun h75 => ?_)
            · skip
              intro v88 e88 a88 b88
              intro v89 e89 a89 b89
              refine And.intro (hI) ?_
              intro M90 q90
              obtain ⟨q90, z90⟩ := q90
              have hS : pz_sm M M90 := hS.tr z90
              have hI : pz_im M90 := hS.1.1.1 hI0
              refine pz_nrc (c := 70) rfl ?_
              refine And.intro (by omega) (And.intro (show _ < (4096 : Int) from by omega) ?_)
              intro v99 e99 a99 b99
              refine And.intro (fun h101 => ?_) (fun h101 => ?_)
              · skip
                exact L107 _ _ _ _ hS (by omega) (by omega) (by omega) (by omega) (by omega)
              · skip
                refine And.intro rfl ?_
                exact ⟨by omega, hS⟩
            · skip
              exact L107 _ _ _ _ hS (by omega) (by omega) (by omega) (by omega) (by omega)
    refine hgo (fun p => Nat.beq p 16 || Nat.beq p 107) 72 0 _ [] M ?_
    refine pz_nrc (c := 60) rfl ?_
    refine And.intro (by omega) (And.intro (show _ < (1725 : Int) from by omega) ?_)
    intro v7 e7 a7 b7
    replace e7 : v7 = M 60 88 := e7
    have I7 : 0 ≤ v7 ∧ v7 ≤ 12 := by
      rw [e7]
      exact hI.1.1
    clear a7 b7
    intro v8 e8 a8 b8
    have S8 := pz_shl1 (c := v7) (by omega) (by omega)
    rw [← e8] at S8
    intro v10 e10 a10 b10
    rw [pz_wi (by omega) (by omega)] at e10
    clear a10 b10
    exact L16 _ _ _ _ _ (Nat.lt_succ_self _) hS (by omega) (by omega) (by omega)
theorem v_X12_signsNext {fr lo i : Nat} {own : String} (h1 : 2 + 1 ≤ fr) (h2 : 8 + (7 + 11) + 47 ≤ lo) (h3 : .methodLink own i yX12_signsNext ∈ lw_tbl) : pz_cV fr lo own i k_X12_signsNext :=
  pz_cVk (maxL := 7) (fr' := 2) (lo' := 47) 3 12 h_X12_signsNext rfl ⟨by decide +kernel, by decide +kernel, by decide +kernel⟩ ⟨(pz_mt 1728 (by decide +kernel)), (pz_mt 1727 (by decide +kernel)), (pz_ms 85 (by decide +kernel)), (pz_mt 13 (by decide +kernel))⟩ (Or.inl ⟨TX12, 28, rfl⟩) (fun a M _ h => by
    have h : (match (generalizing := false) a with | [.inr (.inr (12, th)), .inl x, .inl y, .inl z] => pz_im M | _ => False) := h
    split at h
    · exact ⟨_, _, rfl⟩
    · exact h.elim) h1 h2 h3
def k_X12_signs : pz_C := (2, 1, fun a M => (match a with | [.inr (.inr (12, th)), .inl w] => pz_im M | _ => False), fun a M r M' => (match a, r with | [.inr (.inr (12, th)), .inl w], some (.inl v) => (True) ∧ pz_sm M M' | _, _ => False))
abbrev ct_X12_signs : List (Bool × Nat × pz_C) := [(true, 449, k_X12_laysSigns), (true, 452, k_X12_mostSigned), (false, 54, k_X12_isIn), (true, 455, k_X12_signsNext), (false, 51, k_X12_greater)]
set_option maxRecDepth 100000 in
set_option maxHeartbeats 4000000 in
theorem h_X12_signs : pz_H yX12_signs cX12_signs 8 (some .int) k_X12_signs 3 73 := by
  refine pz_mk (own := RX12) (tb := t_X12_signs) (fl := pz_flf fl_RX12) (ci := pz_cif ci_RX12) (ct := pz_ctf ct_X12_signs) (rz := false) (by decide +kernel) rfl t_X12_signs_ok (pz_flk fl_RX12_ok) (pz_cik ci_RX12_ok) ?_ ?_ (Or.inl ⟨rfl, rfl⟩) ?_ ?_
  · exact fun i k' h => pz_ctk (l := ct_X12_signs) (P := fun b i k => b = true → pz_cV 3 73 RX12 i k) (List.forall_mem_cons.mpr ⟨(fun _ => v_X12_laysSigns (by decide) (by decide) (pz_mt 1716 (by decide +kernel))), List.forall_mem_cons.mpr ⟨(fun _ => v_X12_mostSigned (by decide) (by decide) (pz_mt 1721 (by decide +kernel))), List.forall_mem_cons.mpr ⟨((fun z => by cases z)), List.forall_mem_cons.mpr ⟨(fun _ => v_X12_signsNext (by decide) (by decide) (pz_mt 1725 (by decide +kernel))), List.forall_mem_cons.mpr ⟨((fun z => by cases z)), fun _ h => absurd h List.not_mem_nil⟩⟩⟩⟩⟩) true i k' h rfl
  · exact fun i k' h => pz_ctk (l := ct_X12_signs) (P := fun b i k => b = false → (pz_cS 3 73 RX12 i k ∨ (k = pz_kac ∧ 1 ≤ 3 ∧ 60 ≤ 73 ∧ Cond.methodLink RX12 i arraycopyName ∈ pz_tbl))) (List.forall_mem_cons.mpr ⟨((fun z => by cases z)), List.forall_mem_cons.mpr ⟨((fun z => by cases z)), List.forall_mem_cons.mpr ⟨(fun _ => Or.inl (s_X12_isIn (by decide) (by decide) (Or.inl (pz_mt 1217 (by decide +kernel))))), List.forall_mem_cons.mpr ⟨((fun z => by cases z)), List.forall_mem_cons.mpr ⟨(fun _ => Or.inl (s_X12_greater (by decide) (by decide) (Or.inl (pz_mt 1447 (by decide +kernel))))), fun _ h => absurd h List.not_mem_nil⟩⟩⟩⟩⟩) false i k' h rfl
  · intro a M hlen hpre
    obtain ⟨th, w, rfl, hpre⟩ : ∃ th w, a = [.inr (.inr (12, th)), .inl w] ∧ (pz_im M) := by
      have hpre : (match (generalizing := false) a with | [.inr (.inr (12, th)), .inl w] => pz_im M | _ => False) := hpre
      split at hpre
      · exact ⟨_, _, rfl, hpre⟩
      · exact hpre.elim
    exact Nat.le_of_ble_eq_true rfl
  · intro a M hlen hcan hM hpre Ok hgo
    obtain ⟨th, w, rfl, hpre⟩ : ∃ th w, a = [.inr (.inr (12, th)), .inl w] ∧ (pz_im M) := by
      have hpre : (match (generalizing := false) a with | [.inr (.inr (12, th)), .inl w] => pz_im M | _ => False) := hpre
      split at hpre
      · exact ⟨_, _, rfl, hpre⟩
      · exact hpre.elim
    obtain ⟨k_th, hc_th⟩ := pz_tlm hcan
    have k_th : pz_kd th = 12 ∧ th < 231 := k_th
    have R_th := pz_kd12 k_th.1
    subst R_th
    clear k_th
    obtain ⟨k_w, hc_w⟩ := pz_tlm hc_th
    have l_w : -2147483648 ≤ w := k_w.1
    have u_w : w ≤ 2147483647 := k_w.2
    have hI : pz_im M := hpre
    have hI0 := hI
    have hS : pz_sm M M := pz_sm.rf
    have L80 : ∀ (fu : Nat) (x2 : Int) (x3 : Int) (x4 : Int) (x5 : Int) (x6 : Int) (x7 : Int) (N80 : pz_M), (101 - x7).toNat < fu → (pz_sm M N80) → (0 ≤ x7) → (-1 ≤ x6 ∨ x7 = 10) → (w ≤ 100) → Ok 80 [some (.inr (.inr (12, 1))), some (.inl w), some (.inl x2), some (.inl x3), some (.inl x4), some (.inl x5), some (.inl x6), some (.inl x7)] [] N80 := by
      intro fu
      induction fu with
      | zero => exact fun _ _ _ _ _ _ _ hn => absurd hn (Nat.not_lt_zero _)
      | succ fu ih80 =>
        intro x2 x3 x4 x5 x6 x7 N80 hn80 hS g80_1 g80_2 g80_3
        have hI : pz_im N80 := hS.1.1.1 hI0
        refine hgo (fun p => Nat.beq p 80) 83 80 _ _ _ ?_
        refine And.intro (fun h83 => ?_) (fun h83 => ?_)
        · skip
          refine And.intro rfl ?_
          exact ⟨trivial, hS⟩
        · skip
          refine And.intro (hI) ?_
          intro v92 M92 a92 b92 q92
          obtain ⟨q92, z92⟩ := q92
          have hS : pz_sm M M92 := hS.tr z92
          have hI : pz_im M92 := hS.1.1.1 hI0
          clear a92 b92
          refine pz_nrc (c := 60) rfl ?_
          intro v108 e108 a108 b108
          rw [pz_wi (by omega) (by omega)] at e108
          clear a108 b108
          intro v109 e109 a109 b109
          rw [pz_wi (by omega) (by omega)] at e109
          clear a109 b109
          refine And.intro (by omega) (And.intro (show _ < (1725 : Int) from by omega) ?_)
          intro v110 e110 a110 b110
          refine And.intro (True.intro) ?_
          intro v111 M111 a111 b111 q111
          obtain ⟨q111, z111⟩ := q111
          subst z111
          replace q111 : x4 ≤ v111 ∧ v110 ≤ v111 := by omega
          intro v116 e116 a116 b116
          intro v124 e124 a124 b124
          intro v125 e125 a125 b125
          intro v128 e128 a128 b128
          rw [pz_wi (by omega) (by omega)] at e128
          clear a128 b128
          exact ih80 _ _ _ _ _ _ _ (by omega) hS (by omega) (by omega) (by omega)
    refine hgo (fun p => Nat.beq p 80) 83 0 _ [] M ?_
    refine pz_nrc (c := 60) rfl ?_
    refine And.intro (by omega) (And.intro (show _ < (1725 : Int) from by omega) ?_)
    intro v7 e7 a7 b7
    replace e7 : v7 = M 60 88 := e7
    have I7 : 0 ≤ v7 ∧ v7 ≤ 12 := by
      rw [e7]
      exact hI.1.1
    clear a7 b7
    intro v8 e8 a8 b8
    have S8 := pz_shl1 (c := v7) (by omega) (by omega)
    rw [← e8] at S8
    intro v10 e10 a10 b10
    rw [pz_wi (by omega) (by omega)] at e10
    clear a10 b10
    refine And.intro (hI) ?_
    intro M15 q15
    obtain ⟨q15, z15⟩ := q15
    have hS : pz_sm M M15 := hS.tr z15
    have hI : pz_im M15 := hS.1.1.1 hI0
    refine And.intro (fun h20 => ?_) (fun h20 => ?_)
    · skip
      refine pz_nrc (c := 70) rfl ?_
      refine And.intro (by omega) (And.intro (show _ < (4096 : Int) from by omega) ?_)
      intro v33 e33 a33 b33
      refine And.intro (fun h39 => ?_) (fun h39 => ?_)
      · skip
        refine And.intro rfl ?_
        exact ⟨trivial, hS⟩
      · skip
        refine And.intro (fun h43 => ?_) (fun h43 => ?_)
        · skip
          exact L80 _ _ _ _ _ _ _ _ (Nat.lt_succ_self _) hS (by omega) (by omega) (by omega)
        · skip
          refine pz_nrc (c := 60) rfl ?_
          refine And.intro (by omega) (And.intro (show _ < (1725 : Int) from by omega) ?_)
          intro v57 e57 a57 b57
          replace e57 : v57 = M15 60 88 := e57
          have I57 : 0 ≤ v57 ∧ v57 ≤ 12 := by
            rw [e57]
            exact hI.1.1
          clear a57 b57
          intro v58 e58 a58 b58
          rw [pz_wi (by omega) (by omega)] at e58
          clear a58 b58
          refine And.intro (True.intro) ?_
          intro v59 M59 a59 b59 q59
          obtain ⟨q59, z59⟩ := q59
          subst z59
          clear a59 b59
          refine And.intro (fun h62 => ?_) (fun h62 => ?_)
          · skip
            replace q59 := q59.resolve_right (fun z => h62 z.1)
            clear h62
            exact L80 _ _ _ _ _ _ _ _ (Nat.lt_succ_self _) hS (by omega) (by omega) (by omega)
          · skip
            replace q59 := q59.resolve_left (fun z => absurd (z.1.symm.trans h62) (by decide))
            clear h62
            refine And.intro rfl ?_
            exact ⟨trivial, hS⟩
    · skip
      refine And.intro (hI) ?_
      intro v24 M24 a24 b24 q24
      obtain ⟨q24, z24⟩ := q24
      subst z24
      refine And.intro rfl ?_
      exact ⟨trivial, hS⟩
theorem v_X12_signs {fr lo i : Nat} {own : String} (h1 : 3 + 1 ≤ fr) (h2 : 8 + (8 + 11) + 73 ≤ lo) (h3 : .methodLink own i yX12_signs ∈ lw_tbl) : pz_cV fr lo own i k_X12_signs :=
  pz_cVk (maxL := 8) (fr' := 3) (lo' := 73) 1 12 h_X12_signs rfl ⟨by decide +kernel, by decide +kernel, by decide +kernel⟩ ⟨(pz_mt 1715 (by decide +kernel)), (pz_mt 1713 (by decide +kernel)), (pz_mt 1714 (by decide +kernel)), (pz_mt 13 (by decide +kernel))⟩ (Or.inl ⟨TX12, 28, rfl⟩) (fun a M _ h => by
    have h : (match (generalizing := false) a with | [.inr (.inr (12, th)), .inl w] => pz_im M | _ => False) := h
    split at h
    · exact ⟨_, _, rfl⟩
    · exact h.elim) h1 h2 h3
def k_X12_money : pz_C := (3, 1, fun a M => (match a with | [.inr (.inr (12, th)), .inl t, .inl m] => pz_im M | _ => False), fun a M r M' => (match a, r with | [.inr (.inr (12, th)), .inl t, .inl m], some (.inl v) => (v = (if 0 ≤ t ∧ t ≤ 600 ∧ 0 ≤ m ∧ m ≤ 600 then pz_mo (fun k => M 60 (93 + k)) m (M 60 88).toNat 0 t (-1) else -1)) ∧ M = M' | _, _ => False))
abbrev ct_X12_money : List (Bool × Nat × pz_C) := [(false, 54, k_X12_isIn)]
set_option maxRecDepth 100000 in
set_option maxHeartbeats 4000000 in
theorem h_X12_money : pz_H yX12_money cX12_money 6 (some .int) k_X12_money 1 22 := by
  refine pz_mk (own := RX12) (tb := t_X12_money) (fl := pz_flf fl_RX12) (ci := pz_cif ci_RX12) (ct := pz_ctf ct_X12_money) (rz := false) (by decide +kernel) rfl t_X12_money_ok (pz_flk fl_RX12_ok) (pz_cik ci_RX12_ok) ?_ ?_ (Or.inl ⟨rfl, rfl⟩) ?_ ?_
  · exact fun i k' h => pz_ctk (l := ct_X12_money) (P := fun b i k => b = true → pz_cV 1 22 RX12 i k) (List.forall_mem_cons.mpr ⟨((fun z => by cases z)), fun _ h => absurd h List.not_mem_nil⟩) true i k' h rfl
  · exact fun i k' h => pz_ctk (l := ct_X12_money) (P := fun b i k => b = false → (pz_cS 1 22 RX12 i k ∨ (k = pz_kac ∧ 1 ≤ 1 ∧ 60 ≤ 22 ∧ Cond.methodLink RX12 i arraycopyName ∈ pz_tbl))) (List.forall_mem_cons.mpr ⟨(fun _ => Or.inl (s_X12_isIn (by decide) (by decide) (Or.inl (pz_mt 1217 (by decide +kernel))))), fun _ h => absurd h List.not_mem_nil⟩) false i k' h rfl
  · intro a M hlen hpre
    obtain ⟨th, t, m, rfl, hpre⟩ : ∃ th t m, a = [.inr (.inr (12, th)), .inl t, .inl m] ∧ (pz_im M) := by
      have hpre : (match (generalizing := false) a with | [.inr (.inr (12, th)), .inl t, .inl m] => pz_im M | _ => False) := hpre
      split at hpre
      · exact ⟨_, _, _, rfl, hpre⟩
      · exact hpre.elim
    exact Nat.le_of_ble_eq_true rfl
  · intro a M hlen hcan hM hpre Ok hgo
    obtain ⟨th, t, m, rfl, hpre⟩ : ∃ th t m, a = [.inr (.inr (12, th)), .inl t, .inl m] ∧ (pz_im M) := by
      have hpre : (match (generalizing := false) a with | [.inr (.inr (12, th)), .inl t, .inl m] => pz_im M | _ => False) := hpre
      split at hpre
      · exact ⟨_, _, _, rfl, hpre⟩
      · exact hpre.elim
    obtain ⟨k_th, hc_th⟩ := pz_tlm hcan
    have k_th : pz_kd th = 12 ∧ th < 231 := k_th
    have R_th := pz_kd12 k_th.1
    subst R_th
    clear k_th
    obtain ⟨k_t, hc_t⟩ := pz_tlm hc_th
    have l_t : -2147483648 ≤ t := k_t.1
    have u_t : t ≤ 2147483647 := k_t.2
    obtain ⟨k_m, hc_m⟩ := pz_tlm hc_t
    have l_m : -2147483648 ≤ m := k_m.1
    have u_m : m ≤ 2147483647 := k_m.2
    have hI : pz_im M := hpre
    have I88 := hI.1.1
    have L32 : ∀ (fu : Nat) (x3 : Int) (x4 : Int) (x5 : Int), (12 - x5).toNat < fu → (0 ≤ x5) → (x5 ≤ M 60 88) → (M 60 88 ≤ 12) → (0 ≤ t ∧ t ≤ 600 ∧ 0 ≤ m ∧ m ≤ 600) → (pz_mo (fun k => M 60 (93 + k)) m (M 60 88 - x5).toNat x5.toNat x4 x3 = pz_mo (fun k => M 60 (93 + k)) m (M 60 88).toNat 0 t (-1)) → Ok 32 [some (.inr (.inr (12, 1))), some (.inl t), some (.inl m), some (.inl x3), some (.inl x4), some (.inl x5)] [] M := by
      intro fu
      induction fu with
      | zero => exact fun _ _ _ hn => absurd hn (Nat.not_lt_zero _)
      | succ fu ih32 =>
        intro x3 x4 x5 hn32 g32_0 g32_1 g32_2 g32_3 g32_4
        have L74 : ∀ (x3 : Int) (x4 : Int) (x5 : Int) (s0 : Int), (0 ≤ x5) → (x5 < 12) → ((12 - x5).toNat < fu + 1) → (x5 < M 60 88) → (M 60 88 ≤ 12) → (0 ≤ t ∧ t ≤ 600 ∧ 0 ≤ m ∧ m ≤ 600) → (pz_mo (fun k => M 60 (93 + k)) m (M 60 88 - x5 - 1).toNat (x5.toNat + 1) x4 s0 = pz_mo (fun k => M 60 (93 + k)) m (M 60 88).toNat 0 t (-1)) → Ok 74 [some (.inr (.inr (12, 1))), some (.inl t), some (.inl m), some (.inl x3), some (.inl x4), some (.inl x5)] [.inl s0] M := by
          intro x3 x4 x5 s0 g74_0 g74_1 g74_2 g74_3 g74_4 g74_5 g74_6
          refine hgo (fun p => Nat.beq p 32 || Nat.beq p 74) 48 74 _ _ _ ?_
          intro v75 e75 a75 b75
          rw [pz_wi (by omega) (by omega)] at e75
          have G75 : pz_mo (fun k => M 60 (93 + k)) m (M 60 88 - v75).toNat v75.toNat x4 s0 = pz_mo (fun k => M 60 (93 + k)) m (M 60 88).toNat 0 t (-1) := by
            rw [show (M 60 88 - v75).toNat = (M 60 88 - x5 - 1).toNat by omega, show v75.toNat = x5.toNat + 1 by omega]
            exact g74_6
          exact ih32 _ _ _ (by omega) (by first | omega | (rw [show (M 60 88 - 0).toNat = (M 60 88).toNat by omega]; rfl) | exact G75) (by first | omega | (rw [show (M 60 88 - 0).toNat = (M 60 88).toNat by omega]; rfl) | exact G75) (by first | omega | (rw [show (M 60 88 - 0).toNat = (M 60 88).toNat by omega]; rfl) | exact G75) (by first | omega | (rw [show (M 60 88 - 0).toNat = (M 60 88).toNat by omega]; rfl) | exact G75) (by first | omega | (rw [show (M 60 88 - 0).toNat = (M 60 88).toNat by omega]; rfl) | exact G75)
        refine hgo (fun p => Nat.beq p 32 || Nat.beq p 74) 48 32 _ _ _ ?_
        refine pz_nrc (c := 60) rfl ?_
        refine And.intro (by omega) (And.intro (show _ < (1725 : Int) from by omega) ?_)
        intro v40 e40 a40 b40
        replace e40 : v40 = M 60 88 := e40
        have I40 : 0 ≤ v40 ∧ v40 ≤ 12 := by
          rw [e40]
          exact hI.1.1
        clear a40 b40
        refine And.intro (fun h41 => ?_) (fun h41 => ?_)
        · skip
          refine And.intro rfl ?_
          refine ⟨?_, rfl⟩
          rw [if_pos g32_3, ← g32_4, pz_mo0 (by omega)]
        · skip
          refine pz_nrc (c := 60) rfl ?_
          intro v56 e56 a56 b56
          rw [pz_wi (by omega) (by omega)] at e56
          clear a56 b56
          refine And.intro (by omega) (And.intro (show _ < (1725 : Int) from by omega) ?_)
          intro v57 e57 a57 b57
          rw [show v56.toNat = 93 + x5.toNat by omega] at e57
          intro v58 e58 a58 b58
          intro v59 e59 a59 b59
          have E59 : v59 = pz_w (x4 + pz_w (10 + M 60 (93 + x5.toNat))) := by
            rw [← e57, ← e58]
            exact e59
          refine And.intro (fun h65 => ?_) (fun h65 => ?_)
          · skip
            have G65 : pz_mo (fun k => M 60 (93 + k)) m (M 60 88 - x5 - 1).toNat (x5.toNat + 1) v59 x3 = pz_mo (fun k => M 60 (93 + k)) m (M 60 88).toNat 0 t (-1) := Eq.trans (by exact pz_moS (n := (M 60 88 - x5).toNat) (by omega) rfl E59 (by omega)) g32_4
            exact L74 _ _ _ _ (by first | omega | exact G65) (by first | omega | exact G65) (by first | omega | exact G65) (by first | omega | exact G65) (by first | omega | exact G65) (by first | omega | exact G65) (by first | omega | exact G65)
          · skip
            have G65 : pz_mo (fun k => M 60 (93 + k)) m (M 60 88 - x5 - 1).toNat (x5.toNat + 1) v59 x5 = pz_mo (fun k => M 60 (93 + k)) m (M 60 88).toNat 0 t (-1) := Eq.trans (by exact pz_moS (n := (M 60 88 - x5).toNat) (by omega) rfl E59 (by omega)) g32_4
            exact L74 _ _ _ _ (by first | omega | exact G65) (by first | omega | exact G65) (by first | omega | exact G65) (by first | omega | exact G65) (by first | omega | exact G65) (by first | omega | exact G65) (by first | omega | exact G65)
    refine hgo (fun p => Nat.beq p 32 || Nat.beq p 74) 48 0 _ [] M ?_
    refine And.intro (True.intro) ?_
    intro v5 M5 a5 b5 q5
    obtain ⟨q5, z5⟩ := q5
    subst z5
    clear a5 b5
    refine And.intro (fun h8 => ?_) (fun h8 => ?_)
    · skip
      replace q5 := q5.resolve_left (fun z => absurd (z.1.symm.trans h8) (by decide))
      clear h8
      refine And.intro rfl ?_
      refine ⟨?_, rfl⟩
      rw [if_neg]
      intro z
      omega
    · skip
      replace q5 := q5.resolve_right (fun z => h8 z.1)
      clear h8
      refine And.intro (True.intro) ?_
      intro v16 M16 a16 b16 q16
      obtain ⟨q16, z16⟩ := q16
      subst z16
      clear a16 b16
      refine And.intro (fun h19 => ?_) (fun h19 => ?_)
      · skip
        replace q16 := q16.resolve_right (fun z => h19 z.1)
        clear h19
        exact L32 _ _ _ _ (Nat.lt_succ_self _) (by first | omega | (rw [show (M 60 88 - 0).toNat = (M 60 88).toNat by omega]; rfl) | exact G75) (by first | omega | (rw [show (M 60 88 - 0).toNat = (M 60 88).toNat by omega]; rfl) | exact G75) (by first | omega | (rw [show (M 60 88 - 0).toNat = (M 60 88).toNat by omega]; rfl) | exact G75) (by first | omega | (rw [show (M 60 88 - 0).toNat = (M 60 88).toNat by omega]; rfl) | exact G75) (by first | omega | (rw [show (M 60 88 - 0).toNat = (M 60 88).toNat by omega]; rfl) | exact G75)
      · skip
        replace q16 := q16.resolve_left (fun z => absurd (z.1.symm.trans h19) (by decide))
        clear h19
        refine And.intro rfl ?_
        refine ⟨?_, rfl⟩
        rw [if_neg]
        intro z
        omega
theorem v_X12_money {fr lo i : Nat} {own : String} (h1 : 1 + 1 ≤ fr) (h2 : 8 + (6 + 11) + 22 ≤ lo) (h3 : .methodLink own i yX12_money ∈ lw_tbl) : pz_cV fr lo own i k_X12_money :=
  pz_cVk (maxL := 6) (fr' := 1) (lo' := 22) 2 12 h_X12_money rfl ⟨by decide +kernel, by decide +kernel, by decide +kernel⟩ ⟨(pz_mt 1732 (by decide +kernel)), (pz_mt 1730 (by decide +kernel)), (pz_mt 1731 (by decide +kernel)), (pz_mt 13 (by decide +kernel))⟩ (Or.inl ⟨TX12, 28, rfl⟩) (fun a M _ h => by
    have h : (match (generalizing := false) a with | [.inr (.inr (12, th)), .inl t, .inl m] => pz_im M | _ => False) := h
    split at h
    · exact ⟨_, _, rfl⟩
    · exact h.elim) h1 h2 h3
def k_X12_ill : pz_C := (3, 1, fun a M => (match a with | [.inr (.inr (12, th)), .inl a1, .inl k] => pz_im M | _ => False), fun a M r M' => (match a, r with | [.inr (.inr (12, th)), .inl a1, .inl k], some (.inl v) => (pz_il2 M a1 k v) ∧ M = M' | _, _ => False))
abbrev ct_X12_ill : List (Bool × Nat × pz_C) := [(false, 54, k_X12_isIn), (true, 392, k_X12_recordsOf)]
set_option maxRecDepth 100000 in
set_option maxHeartbeats 4000000 in
theorem h_X12_ill : pz_H yX12_ill cX12_ill 5 (some .int) k_X12_ill 2 47 := by
  refine pz_mk (own := RX12) (tb := t_X12_ill) (fl := pz_flf fl_RX12) (ci := pz_cif ci_RX12) (ct := pz_ctf ct_X12_ill) (rz := false) (by decide +kernel) rfl t_X12_ill_ok (pz_flk fl_RX12_ok) (pz_cik ci_RX12_ok) ?_ ?_ (Or.inl ⟨rfl, rfl⟩) ?_ ?_
  · exact fun i k' h => pz_ctk (l := ct_X12_ill) (P := fun b i k => b = true → pz_cV 2 47 RX12 i k) (List.forall_mem_cons.mpr ⟨((fun z => by cases z)), List.forall_mem_cons.mpr ⟨(fun _ => v_X12_recordsOf (by decide) (by decide) (pz_mt 1590 (by decide +kernel))), fun _ h => absurd h List.not_mem_nil⟩⟩) true i k' h rfl
  · exact fun i k' h => pz_ctk (l := ct_X12_ill) (P := fun b i k => b = false → (pz_cS 2 47 RX12 i k ∨ (k = pz_kac ∧ 1 ≤ 2 ∧ 60 ≤ 47 ∧ Cond.methodLink RX12 i arraycopyName ∈ pz_tbl))) (List.forall_mem_cons.mpr ⟨(fun _ => Or.inl (s_X12_isIn (by decide) (by decide) (Or.inl (pz_mt 1217 (by decide +kernel))))), List.forall_mem_cons.mpr ⟨((fun z => by cases z)), fun _ h => absurd h List.not_mem_nil⟩⟩) false i k' h rfl
  · intro a M hlen hpre
    obtain ⟨th, a1, k, rfl, hpre⟩ : ∃ th a1 k, a = [.inr (.inr (12, th)), .inl a1, .inl k] ∧ (pz_im M) := by
      have hpre : (match (generalizing := false) a with | [.inr (.inr (12, th)), .inl a1, .inl k] => pz_im M | _ => False) := hpre
      split at hpre
      · exact ⟨_, _, _, rfl, hpre⟩
      · exact hpre.elim
    exact Nat.le_of_ble_eq_true rfl
  · intro a M hlen hcan hM hpre Ok hgo
    obtain ⟨th, a1, k, rfl, hpre⟩ : ∃ th a1 k, a = [.inr (.inr (12, th)), .inl a1, .inl k] ∧ (pz_im M) := by
      have hpre : (match (generalizing := false) a with | [.inr (.inr (12, th)), .inl a1, .inl k] => pz_im M | _ => False) := hpre
      split at hpre
      · exact ⟨_, _, _, rfl, hpre⟩
      · exact hpre.elim
    obtain ⟨k_th, hc_th⟩ := pz_tlm hcan
    have k_th : pz_kd th = 12 ∧ th < 231 := k_th
    have R_th := pz_kd12 k_th.1
    subst R_th
    clear k_th
    obtain ⟨k_a1, hc_a1⟩ := pz_tlm hc_th
    have l_a1 : -2147483648 ≤ a1 := k_a1.1
    have u_a1 : a1 ≤ 2147483647 := k_a1.2
    obtain ⟨k_k, hc_k⟩ := pz_tlm hc_a1
    have l_k : -2147483648 ≤ k := k_k.1
    have u_k : k ≤ 2147483647 := k_k.2
    have hI : pz_im M := hpre
    have I88 := hI.1.1
    have L28 : ∀ (fu : Nat) (x3 : Int) (x4 : Int), (12 - x4).toNat < fu → (0 ≤ x4) → (x4 ≤ 12) → (x4 ≤ M 60 88) → (0 ≤ a1) → (a1 ≤ 999) → (1 ≤ k) → (k ≤ 30) → (pz_zs x3 (fun j => decide (j < x4.toNat) && pz_ilf M a1 (a1 + k - 1) j)) → Ok 28 [some (.inr (.inr (12, 1))), some (.inl a1), some (.inl k), some (.inl x3), some (.inl x4)] [] M := by
      intro fu
      induction fu with
      | zero => exact fun _ _ hn => absurd hn (Nat.not_lt_zero _)
      | succ fu ih28 =>
        intro x3 x4 hn28 g28_0 g28_1 g28_2 g28_3 g28_4 g28_5 g28_6 g28_7
        have L64 : ∀ (x3 : Int) (x4 : Int) (s0 : Int) (s1 : Int), (0 ≤ x4) → (x4 < 12) → ((12 - x4).toNat < fu + 1) → (x4 < M 60 88) → (0 ≤ a1) → (a1 ≤ 999) → (1 ≤ k) → (k ≤ 30) → (pz_zs s0 (fun j => decide (j < x4.toNat) && pz_ilf M a1 (a1 + k - 1) j)) → (pz_zs s1 (fun j => decide (x4.toNat = j) && pz_ilf M a1 (a1 + k - 1) j)) → Ok 64 [some (.inr (.inr (12, 1))), some (.inl a1), some (.inl k), some (.inl x3), some (.inl x4)] [.inl s1, .inl s0] M := by
          intro x3 x4 s0 s1 g64_0 g64_1 g64_2 g64_3 g64_4 g64_5 g64_6 g64_7 g64_8 g64_9
          refine hgo (fun p => Nat.beq p 28 || Nat.beq p 64) 46 64 _ _ _ ?_
          intro v64 e64 a64 b64
          intro v66 e66 a66 b66
          rw [pz_wi (by omega) (by omega)] at e66
          have G66 : pz_zs v64 (fun j => decide (j < v66.toNat) && pz_ilf M a1 (a1 + k - 1) j) := pz_il_s (x := x4) ⟨by omega, by omega⟩ (by omega) g64_8 g64_9 e64
          exact ih28 _ _ (by omega) (by first | omega | assumption | exact pz_il_0) (by first | omega | assumption | exact pz_il_0) (by first | omega | assumption | exact pz_il_0) (by first | omega | assumption | exact pz_il_0) (by first | omega | assumption | exact pz_il_0) (by first | omega | assumption | exact pz_il_0) (by first | omega | assumption | exact pz_il_0) (by first | omega | assumption | exact pz_il_0)
        refine hgo (fun p => Nat.beq p 28 || Nat.beq p 64) 46 28 _ _ _ ?_
        refine pz_nrc (c := 60) rfl ?_
        refine And.intro (by omega) (And.intro (show _ < (1725 : Int) from by omega) ?_)
        intro v36 e36 a36 b36
        replace e36 : v36 = M 60 88 := e36
        have I36 : 0 ≤ v36 ∧ v36 ≤ 12 := by
          rw [e36]
          exact hI.1.1
        clear a36 b36
        refine And.intro (fun h37 => ?_) (fun h37 => ?_)
        · skip
          refine And.intro rfl ?_
          exact ⟨⟨fun y => by omega, fun _ => by rw [show (M 60 88).toNat = x4.toNat by omega]; exact g28_7⟩, rfl⟩
        · skip
          intro v47 e47 a47 b47
          rw [pz_wi (by omega) (by omega)] at e47
          clear a47 b47
          intro v49 e49 a49 b49
          rw [pz_wi (by omega) (by omega)] at e49
          clear a49 b49
          refine And.intro (hI) ?_
          intro v50 M50 a50 b50 q50
          obtain ⟨q50, z50⟩ := q50
          subst z50
          rw [show v49 = a1 + k - 1 by omega] at q50
          refine And.intro (fun h53 => ?_) (fun h53 => ?_)
          · skip
            exact L64 _ _ _ _ (by first | omega | assumption | exact pz_il_y ⟨by omega, by omega⟩ q50 (by omega) e59 | exact pz_il_n (by omega) q50 (by omega)) (by first | omega | assumption | exact pz_il_y ⟨by omega, by omega⟩ q50 (by omega) e59 | exact pz_il_n (by omega) q50 (by omega)) (by first | omega | assumption | exact pz_il_y ⟨by omega, by omega⟩ q50 (by omega) e59 | exact pz_il_n (by omega) q50 (by omega)) (by first | omega | assumption | exact pz_il_y ⟨by omega, by omega⟩ q50 (by omega) e59 | exact pz_il_n (by omega) q50 (by omega)) (by first | omega | assumption | exact pz_il_y ⟨by omega, by omega⟩ q50 (by omega) e59 | exact pz_il_n (by omega) q50 (by omega)) (by first | omega | assumption | exact pz_il_y ⟨by omega, by omega⟩ q50 (by omega) e59 | exact pz_il_n (by omega) q50 (by omega)) (by first | omega | assumption | exact pz_il_y ⟨by omega, by omega⟩ q50 (by omega) e59 | exact pz_il_n (by omega) q50 (by omega)) (by first | omega | assumption | exact pz_il_y ⟨by omega, by omega⟩ q50 (by omega) e59 | exact pz_il_n (by omega) q50 (by omega)) (by first | omega | assumption | exact pz_il_y ⟨by omega, by omega⟩ q50 (by omega) e59 | exact pz_il_n (by omega) q50 (by omega)) (by first | omega | assumption | exact pz_il_y ⟨by omega, by omega⟩ q50 (by omega) e59 | exact pz_il_n (by omega) q50 (by omega))
          · skip
            intro v59 e59 a59 b59
            exact L64 _ _ _ _ (by first | omega | assumption | exact pz_il_y ⟨by omega, by omega⟩ q50 (by omega) e59 | exact pz_il_n (by omega) q50 (by omega)) (by first | omega | assumption | exact pz_il_y ⟨by omega, by omega⟩ q50 (by omega) e59 | exact pz_il_n (by omega) q50 (by omega)) (by first | omega | assumption | exact pz_il_y ⟨by omega, by omega⟩ q50 (by omega) e59 | exact pz_il_n (by omega) q50 (by omega)) (by first | omega | assumption | exact pz_il_y ⟨by omega, by omega⟩ q50 (by omega) e59 | exact pz_il_n (by omega) q50 (by omega)) (by first | omega | assumption | exact pz_il_y ⟨by omega, by omega⟩ q50 (by omega) e59 | exact pz_il_n (by omega) q50 (by omega)) (by first | omega | assumption | exact pz_il_y ⟨by omega, by omega⟩ q50 (by omega) e59 | exact pz_il_n (by omega) q50 (by omega)) (by first | omega | assumption | exact pz_il_y ⟨by omega, by omega⟩ q50 (by omega) e59 | exact pz_il_n (by omega) q50 (by omega)) (by first | omega | assumption | exact pz_il_y ⟨by omega, by omega⟩ q50 (by omega) e59 | exact pz_il_n (by omega) q50 (by omega)) (by first | omega | assumption | exact pz_il_y ⟨by omega, by omega⟩ q50 (by omega) e59 | exact pz_il_n (by omega) q50 (by omega)) (by first | omega | assumption | exact pz_il_y ⟨by omega, by omega⟩ q50 (by omega) e59 | exact pz_il_n (by omega) q50 (by omega))
    refine hgo (fun p => Nat.beq p 28 || Nat.beq p 64) 46 0 _ [] M ?_
    refine And.intro (True.intro) ?_
    intro v5 M5 a5 b5 q5
    obtain ⟨q5, z5⟩ := q5
    subst z5
    clear a5 b5
    refine And.intro (fun h8 => ?_) (fun h8 => ?_)
    · skip
      replace q5 := q5.resolve_left (fun z => absurd (z.1.symm.trans h8) (by decide))
      clear h8
      refine And.intro rfl ?_
      exact ⟨⟨fun _ => rfl, fun y => by omega⟩, rfl⟩
    · skip
      replace q5 := q5.resolve_right (fun z => h8 z.1)
      clear h8
      refine And.intro (True.intro) ?_
      intro v15 M15 a15 b15 q15
      obtain ⟨q15, z15⟩ := q15
      subst z15
      clear a15 b15
      refine And.intro (fun h18 => ?_) (fun h18 => ?_)
      · skip
        replace q15 := q15.resolve_right (fun z => h18 z.1)
        clear h18
        exact L28 _ _ _ (Nat.lt_succ_self _) (by first | omega | assumption | exact pz_il_0) (by first | omega | assumption | exact pz_il_0) (by first | omega | assumption | exact pz_il_0) (by first | omega | assumption | exact pz_il_0) (by first | omega | assumption | exact pz_il_0) (by first | omega | assumption | exact pz_il_0) (by first | omega | assumption | exact pz_il_0) (by first | omega | assumption | exact pz_il_0)
      · skip
        replace q15 := q15.resolve_left (fun z => absurd (z.1.symm.trans h18) (by decide))
        clear h18
        refine And.intro rfl ?_
        exact ⟨⟨fun _ => rfl, fun y => by omega⟩, rfl⟩
theorem v_X12_ill {fr lo i : Nat} {own : String} (h1 : 2 + 1 ≤ fr) (h2 : 8 + (5 + 11) + 47 ≤ lo) (h3 : .methodLink own i yX12_ill ∈ lw_tbl) : pz_cV fr lo own i k_X12_ill :=
  pz_cVk (maxL := 5) (fr' := 2) (lo' := 47) 2 12 h_X12_ill rfl ⟨by decide +kernel, by decide +kernel, by decide +kernel⟩ ⟨(pz_mt 1736 (by decide +kernel)), (pz_mt 1734 (by decide +kernel)), (pz_mt 1735 (by decide +kernel)), (pz_mt 13 (by decide +kernel))⟩ (Or.inl ⟨TX12, 28, rfl⟩) (fun a M _ h => by
    have h : (match (generalizing := false) a with | [.inr (.inr (12, th)), .inl a1, .inl k] => pz_im M | _ => False) := h
    split at h
    · exact ⟨_, _, rfl⟩
    · exact h.elim) h1 h2 h3
def k_X12_greaterBy : pz_C := (2, 1, fun a M => (match a with | [.inr (.inr (12, th)), .inl x] => pz_im M | _ => False), fun a M r M' => (match a, r with | [.inr (.inr (12, th)), .inl x], some (.inl v) => (v = pz_ev (pz_gmr M) (M 60 92).toNat (M 60 88).toNat x ∧ 0 ≤ v ∧ v ≤ 12) ∧ M = M' | _, _ => False))
abbrev ct_X12_greaterBy : List (Bool × Nat × pz_C) := [(true, 392, k_X12_recordsOf), (false, 51, k_X12_greater)]
set_option maxRecDepth 100000 in
set_option maxHeartbeats 4000000 in
theorem h_X12_greaterBy : pz_H yX12_greaterBy cX12_greaterBy 4 (some .int) k_X12_greaterBy 2 47 := by
  refine pz_mk (own := RX12) (tb := t_X12_greaterBy) (fl := pz_flf fl_RX12) (ci := pz_cif ci_RX12) (ct := pz_ctf ct_X12_greaterBy) (rz := false) (by decide +kernel) rfl t_X12_greaterBy_ok (pz_flk fl_RX12_ok) (pz_cik ci_RX12_ok) ?_ ?_ (Or.inl ⟨rfl, rfl⟩) ?_ ?_
  · exact fun i k' h => pz_ctk (l := ct_X12_greaterBy) (P := fun b i k => b = true → pz_cV 2 47 RX12 i k) (List.forall_mem_cons.mpr ⟨(fun _ => v_X12_recordsOf (by decide) (by decide) (pz_mt 1590 (by decide +kernel))), List.forall_mem_cons.mpr ⟨((fun z => by cases z)), fun _ h => absurd h List.not_mem_nil⟩⟩) true i k' h rfl
  · exact fun i k' h => pz_ctk (l := ct_X12_greaterBy) (P := fun b i k => b = false → (pz_cS 2 47 RX12 i k ∨ (k = pz_kac ∧ 1 ≤ 2 ∧ 60 ≤ 47 ∧ Cond.methodLink RX12 i arraycopyName ∈ pz_tbl))) (List.forall_mem_cons.mpr ⟨((fun z => by cases z)), List.forall_mem_cons.mpr ⟨(fun _ => Or.inl (s_X12_greater (by decide) (by decide) (Or.inl (pz_mt 1447 (by decide +kernel))))), fun _ h => absurd h List.not_mem_nil⟩⟩) false i k' h rfl
  · intro a M hlen hpre
    obtain ⟨th, x, rfl, hpre⟩ : ∃ th x, a = [.inr (.inr (12, th)), .inl x] ∧ (pz_im M) := by
      have hpre : (match (generalizing := false) a with | [.inr (.inr (12, th)), .inl x] => pz_im M | _ => False) := hpre
      split at hpre
      · exact ⟨_, _, rfl, hpre⟩
      · exact hpre.elim
    exact Nat.le_of_ble_eq_true rfl
  · intro a M hlen hcan hM hpre Ok hgo
    obtain ⟨th, x, rfl, hpre⟩ : ∃ th x, a = [.inr (.inr (12, th)), .inl x] ∧ (pz_im M) := by
      have hpre : (match (generalizing := false) a with | [.inr (.inr (12, th)), .inl x] => pz_im M | _ => False) := hpre
      split at hpre
      · exact ⟨_, _, rfl, hpre⟩
      · exact hpre.elim
    obtain ⟨k_th, hc_th⟩ := pz_tlm hcan
    have k_th : pz_kd th = 12 ∧ th < 231 := k_th
    have R_th := pz_kd12 k_th.1
    subst R_th
    clear k_th
    obtain ⟨k_x, hc_x⟩ := pz_tlm hc_th
    have l_x : -2147483648 ≤ x := k_x.1
    have u_x : x ≤ 2147483647 := k_x.2
    have hI : pz_im M := hpre
    have I88 := hI.1.1
    have L4 : ∀ (fu : Nat) (x2 : Int) (x3 : Int), (12 - x3).toNat < fu → (0 ≤ x3) → (x3 ≤ 12) → (x3 ≤ M 60 88) → (0 ≤ x2) → (x2 ≤ x3) → (x2 ≤ 12) → (x2 = pz_cnt (fun k => decide (pz_rcd (pz_gmr M) (k : Int) 0 x (M 60 92).toNat ≠ 0)) x3.toNat) → Ok 4 [some (.inr (.inr (12, 1))), some (.inl x), some (.inl x2), some (.inl x3)] [] M := by
      intro fu
      induction fu with
      | zero => exact fun _ _ hn => absurd hn (Nat.not_lt_zero _)
      | succ fu ih4 =>
        intro x2 x3 hn4 g4_0 g4_1 g4_2 g4_3 g4_4 g4_5 g4_6
        have L31 : ∀ (x2 : Int) (x3 : Int) (s0 : Int) (s1 : Int), (0 ≤ x3) → (x3 < 12) → ((12 - x3).toNat < fu + 1) → (x3 < M 60 88) → (0 ≤ s0) → (s0 ≤ x3) → (s0 ≤ 12) → (0 ≤ s1) → (s1 ≤ 1) → (s0 = pz_cnt (fun k => decide (pz_rcd (pz_gmr M) (k : Int) 0 x (M 60 92).toNat ≠ 0)) x3.toNat) → (s1 = if (fun k => decide (pz_rcd (pz_gmr M) (k : Int) 0 x (M 60 92).toNat ≠ 0)) x3.toNat = true then 1 else 0) → Ok 31 [some (.inr (.inr (12, 1))), some (.inl x), some (.inl x2), some (.inl x3)] [.inl s1, .inl s0] M := by
          intro x2 x3 s0 s1 g31_0 g31_1 g31_2 g31_3 g31_4 g31_5 g31_6 g31_7 g31_8 g31_9 g31_10
          refine hgo (fun p => Nat.beq p 4 || Nat.beq p 31) 35 31 _ _ _ ?_
          intro v31 e31 a31 b31
          rw [pz_wi (by omega) (by omega)] at e31
          clear a31 b31
          intro v33 e33 a33 b33
          rw [pz_wi (by omega) (by omega)] at e33
          have G33 : v31 = pz_cnt (fun k => decide (pz_rcd (pz_gmr M) (k : Int) 0 x (M 60 92).toNat ≠ 0)) v33.toNat := pz_cnt_s (x := x3) g31_0 (by omega) g31_9 g31_10 (by omega)
          exact ih4 _ _ (by omega) (by first | omega | assumption | rfl) (by first | omega | assumption | rfl) (by first | omega | assumption | rfl) (by first | omega | assumption | rfl) (by first | omega | assumption | rfl) (by first | omega | assumption | rfl) (by first | omega | assumption | rfl)
        refine hgo (fun p => Nat.beq p 4 || Nat.beq p 31) 35 4 _ _ _ ?_
        refine pz_nrc (c := 60) rfl ?_
        refine And.intro (by omega) (And.intro (show _ < (1725 : Int) from by omega) ?_)
        intro v11 e11 a11 b11
        replace e11 : v11 = M 60 88 := e11
        have I11 : 0 ≤ v11 ∧ v11 ≤ 12 := by
          rw [e11]
          exact hI.1.1
        clear a11 b11
        refine And.intro (fun h12 => ?_) (fun h12 => ?_)
        · skip
          refine pz_nrc (c := 60) rfl ?_
          refine And.intro (by omega) (And.intro (show _ < (1725 : Int) from by omega) ?_)
          intro v46 e46 a46 b46
          replace e46 : v46 = M 60 88 := e46
          have I46 : 0 ≤ v46 ∧ v46 ≤ 12 := by
            rw [e46]
            exact hI.1.1
          clear a46 b46
          intro v48 e48 a48 b48
          rw [pz_wi (by omega) (by omega)] at e48
          clear a48 b48
          refine And.intro (True.intro) ?_
          intro v49 M49 a49 b49 q49
          obtain ⟨q49, z49⟩ := q49
          subst z49
          refine And.intro rfl ?_
          exact ⟨⟨pz_ev_of (c := x2) (by rw [show (M 60 88).toNat = x3.toNat by omega]; exact g4_6) (by omega), by omega, by omega⟩, rfl⟩
        · skip
          refine And.intro (hI) ?_
          intro v20 M20 a20 b20 q20
          obtain ⟨q20, z20⟩ := q20
          subst z20
          have B20 := pz_rcd_b (g := pz_gmr M) (l := x3) (lo := 0) (hi := x) (M 60 92).toNat
          have Q20 : v20 = pz_rcd (pz_gmr M) ((x3.toNat : Nat) : Int) 0 x (M 60 92).toNat := by
            rw [show ((x3.toNat : Nat) : Int) = x3 by omega]
            exact q20
          rw [← q20] at B20
          refine And.intro (fun h23 => ?_) (fun h23 => ?_)
          · skip
            have G23 : (0 : Int) = if (fun k => decide (pz_rcd (pz_gmr M) (k : Int) 0 x (M 60 92).toNat ≠ 0)) x3.toNat = true then 1 else 0 := by
              show _ = if decide (pz_rcd (pz_gmr M) ((x3.toNat : Nat) : Int) 0 x (M 60 92).toNat ≠ 0) = true then 1 else 0
              rw [← Q20, decide_eq_false (by omega)]
              rfl
            exact L31 _ _ _ _ (by first | omega | assumption | exact G23) (by first | omega | assumption | exact G23) (by first | omega | assumption | exact G23) (by first | omega | assumption | exact G23) (by first | omega | assumption | exact G23) (by first | omega | assumption | exact G23) (by first | omega | assumption | exact G23) (by first | omega | assumption | exact G23) (by first | omega | assumption | exact G23) (by first | omega | assumption | exact G23) (by first | omega | assumption | exact G23)
          · skip
            have G23 : (1 : Int) = if (fun k => decide (pz_rcd (pz_gmr M) (k : Int) 0 x (M 60 92).toNat ≠ 0)) x3.toNat = true then 1 else 0 := by
              show _ = if decide (pz_rcd (pz_gmr M) ((x3.toNat : Nat) : Int) 0 x (M 60 92).toNat ≠ 0) = true then 1 else 0
              rw [← Q20, decide_eq_true (by omega)]
              rfl
            exact L31 _ _ _ _ (by first | omega | assumption | exact G23) (by first | omega | assumption | exact G23) (by first | omega | assumption | exact G23) (by first | omega | assumption | exact G23) (by first | omega | assumption | exact G23) (by first | omega | assumption | exact G23) (by first | omega | assumption | exact G23) (by first | omega | assumption | exact G23) (by first | omega | assumption | exact G23) (by first | omega | assumption | exact G23) (by first | omega | assumption | exact G23)
    refine hgo (fun p => Nat.beq p 4 || Nat.beq p 31) 35 0 _ [] M ?_
    exact L4 _ _ _ (Nat.lt_succ_self _) (by first | omega | assumption | rfl) (by first | omega | assumption | rfl) (by first | omega | assumption | rfl) (by first | omega | assumption | rfl) (by first | omega | assumption | rfl) (by first | omega | assumption | rfl) (by first | omega | assumption | rfl)
theorem v_X12_greaterBy {fr lo i : Nat} {own : String} (h1 : 2 + 1 ≤ fr) (h2 : 8 + (4 + 11) + 47 ≤ lo) (h3 : .methodLink own i yX12_greaterBy ∈ lw_tbl) : pz_cV fr lo own i k_X12_greaterBy :=
  pz_cVk (maxL := 4) (fr' := 2) (lo' := 47) 1 12 h_X12_greaterBy rfl ⟨by decide +kernel, by decide +kernel, by decide +kernel⟩ ⟨(pz_mt 1744 (by decide +kernel)), (pz_mt 1743 (by decide +kernel)), (pz_ms 86 (by decide +kernel)), (pz_mt 13 (by decide +kernel))⟩ (Or.inl ⟨TX12, 28, rfl⟩) (fun a M _ h => by
    have h : (match (generalizing := false) a with | [.inr (.inr (12, th)), .inl x] => pz_im M | _ => False) := h
    split at h
    · exact ⟨_, _, rfl⟩
    · exact h.elim) h1 h2 h3
def k_X12_wrote : pz_C := (1, 1, fun a M => (match a with | [.inr (.inr (12, th))] => pz_im M | _ => False), fun a M r M' => (match a, r with | [.inr (.inr (12, th))], some (.inl v) => (pz_wr2 M v) ∧ M = M' | _, _ => False))
abbrev ct_X12_wrote : List (Bool × Nat × pz_C) := [(true, 458, k_X12_greaterBy)]
set_option maxRecDepth 100000 in
set_option maxHeartbeats 4000000 in
theorem h_X12_wrote : pz_H yX12_wrote cX12_wrote 3 (some .int) k_X12_wrote 3 70 := by
  refine pz_mk (own := RX12) (tb := t_X12_wrote) (fl := pz_flf fl_RX12) (ci := pz_cif ci_RX12) (ct := pz_ctf ct_X12_wrote) (rz := false) (by decide +kernel) rfl t_X12_wrote_ok (pz_flk fl_RX12_ok) (pz_cik ci_RX12_ok) ?_ ?_ (Or.inl ⟨rfl, rfl⟩) ?_ ?_
  · exact fun i k' h => pz_ctk (l := ct_X12_wrote) (P := fun b i k => b = true → pz_cV 3 70 RX12 i k) (List.forall_mem_cons.mpr ⟨(fun _ => v_X12_greaterBy (by decide) (by decide) (pz_mt 1741 (by decide +kernel))), fun _ h => absurd h List.not_mem_nil⟩) true i k' h rfl
  · exact fun i k' h => pz_ctk (l := ct_X12_wrote) (P := fun b i k => b = false → (pz_cS 3 70 RX12 i k ∨ (k = pz_kac ∧ 1 ≤ 3 ∧ 60 ≤ 70 ∧ Cond.methodLink RX12 i arraycopyName ∈ pz_tbl))) (List.forall_mem_cons.mpr ⟨((fun z => by cases z)), fun _ h => absurd h List.not_mem_nil⟩) false i k' h rfl
  · intro a M hlen hpre
    obtain ⟨th, rfl, hpre⟩ : ∃ th, a = [.inr (.inr (12, th))] ∧ (pz_im M) := by
      have hpre : (match (generalizing := false) a with | [.inr (.inr (12, th))] => pz_im M | _ => False) := hpre
      split at hpre
      · exact ⟨_, rfl, hpre⟩
      · exact hpre.elim
    exact Nat.le_of_ble_eq_true rfl
  · intro a M hlen hcan hM hpre Ok hgo
    obtain ⟨th, rfl, hpre⟩ : ∃ th, a = [.inr (.inr (12, th))] ∧ (pz_im M) := by
      have hpre : (match (generalizing := false) a with | [.inr (.inr (12, th))] => pz_im M | _ => False) := hpre
      split at hpre
      · exact ⟨_, rfl, hpre⟩
      · exact hpre.elim
    obtain ⟨k_th, hc_th⟩ := pz_tlm hcan
    have k_th : pz_kd th = 12 ∧ th < 231 := k_th
    have R_th := pz_kd12 k_th.1
    subst R_th
    clear k_th
    have hI : pz_im M := hpre
    have I88 := hI.1.1
    have L17 : ∀ (fu : Nat) (x1 : Int) (x2 : Int), (100 - x2).toNat < fu → (1 ≤ x2) → (x2 ≤ 100) → (0 ≤ x1) → (2 ≤ M 60 88) → (x1 = ((pz_am (fun d => pz_ev (pz_gmr M) (M 60 92).toNat (M 60 88).toNat (d : Int)) (x2 - 1).toNat : Nat) : Int)) → Ok 17 [some (.inr (.inr (12, 1))), some (.inl x1), some (.inl x2)] [] M := by
      intro fu
      induction fu with
      | zero => exact fun _ _ hn => absurd hn (Nat.not_lt_zero _)
      | succ fu ih17 =>
        intro x1 x2 hn17 g17_0 g17_1 g17_2 g17_3 g17_4
        refine hgo (fun p => Nat.beq p 17) 30 17 _ _ _ ?_
        refine And.intro (fun h20 => ?_) (fun h20 => ?_)
        · skip
          refine And.intro rfl ?_
          exact ⟨⟨fun y => absurd y (by omega), fun _ => by rw [g17_4, show (x2 - 1).toNat = 99 by omega]⟩, rfl⟩
        · skip
          refine And.intro (hI) ?_
          intro v25 M25 a25 b25 q25
          obtain ⟨q25, z25⟩ := q25
          subst z25
          clear a25 b25
          refine And.intro (hI) ?_
          intro v30 M30 a30 b30 q30
          obtain ⟨q30, z30⟩ := q30
          subst z30
          clear a30 b30
          refine And.intro (fun h33 => ?_) (fun h33 => ?_)
          · skip
            intro v38 e38 a38 b38
            rw [pz_wi (by omega) (by omega)] at e38
            have X25 : v25 = (fun d => pz_ev (pz_gmr M) (M 60 92).toNat (M 60 88).toNat (d : Int)) x2.toNat := by
              show v25 = pz_ev (pz_gmr M) (M 60 92).toNat (M 60 88).toNat ((x2.toNat : Nat) : Int)
              rw [show ((x2.toNat : Nat) : Int) = x2 by omega]
              exact q25.1
            have X30 : v30 = (fun d => pz_ev (pz_gmr M) (M 60 92).toNat (M 60 88).toNat (d : Int)) x1.toNat := by
              show v30 = pz_ev (pz_gmr M) (M 60 92).toNat (M 60 88).toNat ((x1.toNat : Nat) : Int)
              rw [show ((x1.toNat : Nat) : Int) = x1 by omega]
              exact q30.1
            first
              | (have G38 : x2 = ((pz_am (fun d => pz_ev (pz_gmr M) (M 60 92).toNat (M 60 88).toNat (d : Int)) (v38 - 1).toNat : Nat) : Int) := pz_am_s g17_0 (by omega) g17_4 X25 X30 (Or.inl ⟨by omega, rfl⟩))
              | (have G38 : x1 = ((pz_am (fun d => pz_ev (pz_gmr M) (M 60 92).toNat (M 60 88).toNat (d : Int)) (v38 - 1).toNat : Nat) : Int) := pz_am_s g17_0 (by omega) g17_4 X25 X30 (Or.inr ⟨by omega, rfl⟩))
            exact ih17 _ _ (by omega) (by first | omega | assumption | rfl) (by first | omega | assumption | rfl) (by first | omega | assumption | rfl) (by first | omega | assumption | rfl) (by first | omega | assumption | rfl)
          · skip
            intro v38 e38 a38 b38
            rw [pz_wi (by omega) (by omega)] at e38
            have X25 : v25 = (fun d => pz_ev (pz_gmr M) (M 60 92).toNat (M 60 88).toNat (d : Int)) x2.toNat := by
              show v25 = pz_ev (pz_gmr M) (M 60 92).toNat (M 60 88).toNat ((x2.toNat : Nat) : Int)
              rw [show ((x2.toNat : Nat) : Int) = x2 by omega]
              exact q25.1
            have X30 : v30 = (fun d => pz_ev (pz_gmr M) (M 60 92).toNat (M 60 88).toNat (d : Int)) x1.toNat := by
              show v30 = pz_ev (pz_gmr M) (M 60 92).toNat (M 60 88).toNat ((x1.toNat : Nat) : Int)
              rw [show ((x1.toNat : Nat) : Int) = x1 by omega]
              exact q30.1
            first
              | (have G38 : x2 = ((pz_am (fun d => pz_ev (pz_gmr M) (M 60 92).toNat (M 60 88).toNat (d : Int)) (v38 - 1).toNat : Nat) : Int) := pz_am_s g17_0 (by omega) g17_4 X25 X30 (Or.inl ⟨by omega, rfl⟩))
              | (have G38 : x1 = ((pz_am (fun d => pz_ev (pz_gmr M) (M 60 92).toNat (M 60 88).toNat (d : Int)) (v38 - 1).toNat : Nat) : Int) := pz_am_s g17_0 (by omega) g17_4 X25 X30 (Or.inr ⟨by omega, rfl⟩))
            exact ih17 _ _ (by omega) (by first | omega | assumption | rfl) (by first | omega | assumption | rfl) (by first | omega | assumption | rfl) (by first | omega | assumption | rfl) (by first | omega | assumption | rfl)
    refine hgo (fun p => Nat.beq p 17) 30 0 _ [] M ?_
    refine pz_nrc (c := 60) rfl ?_
    refine And.intro (by omega) (And.intro (show _ < (1725 : Int) from by omega) ?_)
    intro v6 e6 a6 b6
    replace e6 : v6 = M 60 88 := e6
    have I6 : 0 ≤ v6 ∧ v6 ≤ 12 := by
      rw [e6]
      exact hI.1.1
    clear a6 b6
    refine And.intro (fun h8 => ?_) (fun h8 => ?_)
    · skip
      exact L17 _ _ _ (Nat.lt_succ_self _) (by first | omega | assumption | rfl) (by first | omega | assumption | rfl) (by first | omega | assumption | rfl) (by first | omega | assumption | rfl) (by first | omega | assumption | rfl)
    · skip
      refine And.intro rfl ?_
      exact ⟨⟨fun _ => rfl, fun y => absurd y (by omega)⟩, rfl⟩
theorem v_X12_wrote {fr lo i : Nat} {own : String} (h1 : 3 + 1 ≤ fr) (h2 : 8 + (3 + 11) + 70 ≤ lo) (h3 : .methodLink own i yX12_wrote ∈ lw_tbl) : pz_cV fr lo own i k_X12_wrote :=
  pz_cVk (maxL := 3) (fr' := 3) (lo' := 70) 0 12 h_X12_wrote rfl ⟨by decide +kernel, by decide +kernel, by decide +kernel⟩ ⟨(pz_mt 1740 (by decide +kernel)), (pz_mt 1738 (by decide +kernel)), (pz_mt 1739 (by decide +kernel)), (pz_mt 13 (by decide +kernel))⟩ (Or.inl ⟨TX12, 28, rfl⟩) (fun a M _ h => by
    have h : (match (generalizing := false) a with | [.inr (.inr (12, th))] => pz_im M | _ => False) := h
    split at h
    · exact ⟨_, _, rfl⟩
    · exact h.elim) h1 h2 h3
def k_X12_slowest : pz_C := (1, 1, fun a M => (match a with | [.inr (.inr (12, th))] => pz_im M | _ => False), fun a M r M' => (match a, r with | [.inr (.inr (12, th))], some (.inl v) => (True) ∧ pz_sm M M' | _, _ => False))
abbrev ct_X12_slowest : List (Bool × Nat × pz_C) := [(true, 65, k_X12_hasMoved), (true, 370, k_X12_readyOf)]
set_option maxRecDepth 100000 in
set_option maxHeartbeats 4000000 in
theorem h_X12_slowest : pz_H yX12_slowest cX12_slowest 3 (some .int) k_X12_slowest 5 116 := by
  refine pz_mk (own := RX12) (tb := t_X12_slowest) (fl := pz_flf fl_RX12) (ci := pz_cif ci_RX12) (ct := pz_ctf ct_X12_slowest) (rz := false) (by decide +kernel) rfl t_X12_slowest_ok (pz_flk fl_RX12_ok) (pz_cik ci_RX12_ok) ?_ ?_ (Or.inl ⟨rfl, rfl⟩) ?_ ?_
  · exact fun i k' h => pz_ctk (l := ct_X12_slowest) (P := fun b i k => b = true → pz_cV 5 116 RX12 i k) (List.forall_mem_cons.mpr ⟨(fun _ => v_X12_hasMoved (by decide) (by decide) (pz_mt 1423 (by decide +kernel))), List.forall_mem_cons.mpr ⟨(fun _ => v_X12_readyOf (by decide) (by decide) (pz_mt 1539 (by decide +kernel))), fun _ h => absurd h List.not_mem_nil⟩⟩) true i k' h rfl
  · exact fun i k' h => pz_ctk (l := ct_X12_slowest) (P := fun b i k => b = false → (pz_cS 5 116 RX12 i k ∨ (k = pz_kac ∧ 1 ≤ 5 ∧ 60 ≤ 116 ∧ Cond.methodLink RX12 i arraycopyName ∈ pz_tbl))) (List.forall_mem_cons.mpr ⟨((fun z => by cases z)), List.forall_mem_cons.mpr ⟨((fun z => by cases z)), fun _ h => absurd h List.not_mem_nil⟩⟩) false i k' h rfl
  · intro a M hlen hpre
    obtain ⟨th, rfl, hpre⟩ : ∃ th, a = [.inr (.inr (12, th))] ∧ (pz_im M) := by
      have hpre : (match (generalizing := false) a with | [.inr (.inr (12, th))] => pz_im M | _ => False) := hpre
      split at hpre
      · exact ⟨_, rfl, hpre⟩
      · exact hpre.elim
    exact Nat.le_of_ble_eq_true rfl
  · intro a M hlen hcan hM hpre Ok hgo
    obtain ⟨th, rfl, hpre⟩ : ∃ th, a = [.inr (.inr (12, th))] ∧ (pz_im M) := by
      have hpre : (match (generalizing := false) a with | [.inr (.inr (12, th))] => pz_im M | _ => False) := hpre
      split at hpre
      · exact ⟨_, rfl, hpre⟩
      · exact hpre.elim
    obtain ⟨k_th, hc_th⟩ := pz_tlm hcan
    have k_th : pz_kd th = 12 ∧ th < 231 := k_th
    have R_th := pz_kd12 k_th.1
    subst R_th
    clear k_th
    have hI : pz_im M := hpre
    have hI0 := hI
    have hS : pz_sm M M := pz_sm.rf
    have L4 : ∀ (fu : Nat) (x1 : Int) (x2 : Int) (N4 : pz_M), (12 - x2).toNat < fu → (pz_sm M N4) → (0 ≤ x2) → (-1 ≤ x1) → (x1 < 12) → Ok 4 [some (.inr (.inr (12, 1))), some (.inl x1), some (.inl x2)] [] N4 := by
      intro fu
      induction fu with
      | zero => exact fun _ _ _ hn => absurd hn (Nat.not_lt_zero _)
      | succ fu ih4 =>
        intro x1 x2 N4 hn4 hS g4_1 g4_2 g4_3
        have hI : pz_im N4 := hS.1.1.1 hI0
        have L43 : ∀ (x1 : Int) (x2 : Int) (N43 : pz_M), (pz_sm M N43) → (0 ≤ x2) → (x2 < 12) → ((12 - x2).toNat < fu + 1) → (-1 ≤ x1) → (x1 < 12) → Ok 43 [some (.inr (.inr (12, 1))), some (.inl x1), some (.inl x2)] [] N43 := by
          intro x1 x2 N43 hS g43_1 g43_2 g43_3 g43_4 g43_5
          have hI : pz_im N43 := hS.1.1.1 hI0
          refine hgo (fun p => Nat.beq p 4 || Nat.beq p 43) 32 43 _ _ _ ?_
          intro v43 e43 a43 b43
          rw [pz_wi (by omega) (by omega)] at e43
          clear a43 b43
          exact ih4 _ _ _ (by omega) hS (by omega) (by omega) (by omega)
        refine hgo (fun p => Nat.beq p 4 || Nat.beq p 43) 32 4 _ _ _ ?_
        refine pz_nrc (c := 60) rfl ?_
        refine And.intro (by omega) (And.intro (show _ < (1725 : Int) from by omega) ?_)
        intro v11 e11 a11 b11
        replace e11 : v11 = N4 60 88 := e11
        have I11 : 0 ≤ v11 ∧ v11 ≤ 12 := by
          rw [e11]
          exact hI.1.1
        clear a11 b11
        refine And.intro (fun h12 => ?_) (fun h12 => ?_)
        · skip
          refine And.intro rfl ?_
          exact ⟨trivial, hS⟩
        · skip
          refine And.intro (And.intro hI (And.intro (by omega) (by omega))) ?_
          intro v17 M17 a17 b17 q17
          obtain ⟨q17, z17⟩ := q17
          subst z17
          clear a17 b17
          refine And.intro (fun h20 => ?_) (fun h20 => ?_)
          · skip
            clear h20 q17
            exact L43 _ _ _ hS (by omega) (by omega) (by omega) (by omega) (by omega)
          · skip
            clear h20 q17
            refine And.intro (fun h25 => ?_) (fun h25 => ?_)
            · skip
              exact L43 _ _ _ hS (by omega) (by omega) (by omega) (by omega) (by omega)
            · skip
              replace h25 : 0 ≤ x1 := by omega
              refine And.intro (And.intro hI (And.intro (by omega) (by omega))) ?_
              intro v30 M30 a30 b30 q30
              obtain ⟨q30, z30⟩ := q30
              have hS : pz_sm M M30 := hS.tr z30
              have hI : pz_im M30 := hS.1.1.1 hI0
              refine And.intro (And.intro hI (And.intro (by omega) (by omega))) ?_
              intro v35 M35 a35 b35 q35
              obtain ⟨q35, z35⟩ := q35
              have hS : pz_sm M M35 := hS.tr z35
              have hI : pz_im M35 := hS.1.1.1 hI0
              refine And.intro (fun h38 => ?_) (fun h38 => ?_)
              · skip
                exact L43 _ _ _ hS (by omega) (by omega) (by omega) (by omega) (by omega)
              · skip
                exact L43 _ _ _ hS (by omega) (by omega) (by omega) (by omega) (by omega)
    refine hgo (fun p => Nat.beq p 4 || Nat.beq p 43) 32 0 _ [] M ?_
    exact L4 _ _ _ _ (Nat.lt_succ_self _) hS (by omega) (by omega) (by omega)
theorem v_X12_slowest {fr lo i : Nat} {own : String} (h1 : 5 + 1 ≤ fr) (h2 : 8 + (3 + 11) + 116 ≤ lo) (h3 : .methodLink own i yX12_slowest ∈ lw_tbl) : pz_cV fr lo own i k_X12_slowest :=
  pz_cVk (maxL := 3) (fr' := 5) (lo' := 116) 0 12 h_X12_slowest rfl ⟨by decide +kernel, by decide +kernel, by decide +kernel⟩ ⟨(pz_mt 1748 (by decide +kernel)), (pz_mt 1746 (by decide +kernel)), (pz_mt 1747 (by decide +kernel)), (pz_mt 13 (by decide +kernel))⟩ (Or.inl ⟨TX12, 28, rfl⟩) (fun a M _ h => by
    have h : (match (generalizing := false) a with | [.inr (.inr (12, th))] => pz_im M | _ => False) := h
    split at h
    · exact ⟨_, _, rfl⟩
    · exact h.elim) h1 h2 h3
def k_X12_heapOf : pz_C := (2, 1, fun a M => (match a with | [.inr (.inr (12, th)), .inl i] => pz_im M ∧ 0 ≤ i ∧ i < 12 | _ => False), fun a M r M' => (match a, r with | [.inr (.inr (12, th)), .inl i], some (.inl v) => (True) ∧ M = M' | _, _ => False))
abbrev ct_X12_heapOf : List (Bool × Nat × pz_C) := [(true, 65, k_X12_hasMoved)]
set_option maxRecDepth 100000 in
set_option maxHeartbeats 4000000 in
theorem h_X12_heapOf : pz_H yX12_heapOf cX12_heapOf 2 (some .int) k_X12_heapOf 1 21 := by
  refine pz_mk (own := RX12) (tb := t_X12_heapOf) (fl := pz_flf fl_RX12) (ci := pz_cif ci_RX12) (ct := pz_ctf ct_X12_heapOf) (rz := false) (by decide +kernel) rfl t_X12_heapOf_ok (pz_flk fl_RX12_ok) (pz_cik ci_RX12_ok) ?_ ?_ (Or.inl ⟨rfl, rfl⟩) ?_ ?_
  · exact fun i k' h => pz_ctk (l := ct_X12_heapOf) (P := fun b i k => b = true → pz_cV 1 21 RX12 i k) (List.forall_mem_cons.mpr ⟨(fun _ => v_X12_hasMoved (by decide) (by decide) (pz_mt 1423 (by decide +kernel))), fun _ h => absurd h List.not_mem_nil⟩) true i k' h rfl
  · exact fun i k' h => pz_ctk (l := ct_X12_heapOf) (P := fun b i k => b = false → (pz_cS 1 21 RX12 i k ∨ (k = pz_kac ∧ 1 ≤ 1 ∧ 60 ≤ 21 ∧ Cond.methodLink RX12 i arraycopyName ∈ pz_tbl))) (List.forall_mem_cons.mpr ⟨((fun z => by cases z)), fun _ h => absurd h List.not_mem_nil⟩) false i k' h rfl
  · intro a M hlen hpre
    obtain ⟨th, i, rfl, hpre⟩ : ∃ th i, a = [.inr (.inr (12, th)), .inl i] ∧ (pz_im M ∧ 0 ≤ i ∧ i < 12) := by
      have hpre : (match (generalizing := false) a with | [.inr (.inr (12, th)), .inl i] => pz_im M ∧ 0 ≤ i ∧ i < 12 | _ => False) := hpre
      split at hpre
      · exact ⟨_, _, rfl, hpre⟩
      · exact hpre.elim
    exact Nat.le_of_ble_eq_true rfl
  · intro a M hlen hcan hM hpre Ok hgo
    obtain ⟨th, i, rfl, hpre⟩ : ∃ th i, a = [.inr (.inr (12, th)), .inl i] ∧ (pz_im M ∧ 0 ≤ i ∧ i < 12) := by
      have hpre : (match (generalizing := false) a with | [.inr (.inr (12, th)), .inl i] => pz_im M ∧ 0 ≤ i ∧ i < 12 | _ => False) := hpre
      split at hpre
      · exact ⟨_, _, rfl, hpre⟩
      · exact hpre.elim
    obtain ⟨k_th, hc_th⟩ := pz_tlm hcan
    have k_th : pz_kd th = 12 ∧ th < 231 := k_th
    have R_th := pz_kd12 k_th.1
    subst R_th
    clear k_th
    obtain ⟨k_i, hc_i⟩ := pz_tlm hc_th
    have l_i : -2147483648 ≤ i := k_i.1
    have u_i : i ≤ 2147483647 := k_i.2
    have hI : pz_im M := hpre.1
    refine hgo (fun _ => false) 15 0 _ [] M ?_
    refine And.intro (And.intro hI (And.intro (by omega) (by omega))) ?_
    intro v2 M2 a2 b2 q2
    obtain ⟨q2, z2⟩ := q2
    subst z2
    clear a2 b2
    refine And.intro (fun h5 => ?_) (fun h5 => ?_)
    · skip
      clear h5 q2
      refine pz_nrc (c := 60) rfl ?_
      intro v19 e19 a19 b19
      rw [pz_wi (by omega) (by omega)] at e19
      clear a19 b19
      refine And.intro (by omega) (And.intro (show _ < (1725 : Int) from by omega) ?_)
      intro v20 e20 a20 b20
      refine And.intro rfl ?_
      exact ⟨trivial, rfl⟩
    · skip
      clear h5 q2
      refine And.intro rfl ?_
      exact ⟨trivial, rfl⟩
theorem v_X12_heapOf {fr lo i : Nat} {own : String} (h1 : 1 + 1 ≤ fr) (h2 : 8 + (2 + 11) + 21 ≤ lo) (h3 : .methodLink own i yX12_heapOf ∈ lw_tbl) : pz_cV fr lo own i k_X12_heapOf :=
  pz_cVk (maxL := 2) (fr' := 1) (lo' := 21) 1 12 h_X12_heapOf rfl ⟨by decide +kernel, by decide +kernel, by decide +kernel⟩ ⟨(pz_mt 1756 (by decide +kernel)), (pz_mt 1755 (by decide +kernel)), (pz_ms 87 (by decide +kernel)), (pz_mt 13 (by decide +kernel))⟩ (Or.inl ⟨TX12, 28, rfl⟩) (fun a M _ h => by
    have h : (match (generalizing := false) a with | [.inr (.inr (12, th)), .inl i] => pz_im M ∧ 0 ≤ i ∧ i < 12 | _ => False) := h
    split at h
    · exact ⟨_, _, rfl⟩
    · exact h.elim) h1 h2 h3
def k_X12_game : pz_C := (2, 1, fun a M => (match a with | [.inr (.inr (12, th)), .inl w] => pz_im M | _ => False), fun a M r M' => (match a, r with | [.inr (.inr (12, th)), .inl w], some (.inl v) => (True) ∧ M = M' | _, _ => False))
abbrev ct_X12_game : List (Bool × Nat × pz_C) := [(false, 54, k_X12_isIn), (true, 461, k_X12_heapOf), (false, 47, k_X12_lesser)]
set_option maxRecDepth 100000 in
set_option maxHeartbeats 4000000 in
theorem h_X12_game : pz_H yX12_game cX12_game 5 (some .int) k_X12_game 2 42 := by
  refine pz_mk (own := RX12) (tb := t_X12_game) (fl := pz_flf fl_RX12) (ci := pz_cif ci_RX12) (ct := pz_ctf ct_X12_game) (rz := false) (by decide +kernel) rfl t_X12_game_ok (pz_flk fl_RX12_ok) (pz_cik ci_RX12_ok) ?_ ?_ (Or.inl ⟨rfl, rfl⟩) ?_ ?_
  · exact fun i k' h => pz_ctk (l := ct_X12_game) (P := fun b i k => b = true → pz_cV 2 42 RX12 i k) (List.forall_mem_cons.mpr ⟨((fun z => by cases z)), List.forall_mem_cons.mpr ⟨(fun _ => v_X12_heapOf (by decide) (by decide) (pz_mt 1753 (by decide +kernel))), List.forall_mem_cons.mpr ⟨((fun z => by cases z)), fun _ h => absurd h List.not_mem_nil⟩⟩⟩) true i k' h rfl
  · exact fun i k' h => pz_ctk (l := ct_X12_game) (P := fun b i k => b = false → (pz_cS 2 42 RX12 i k ∨ (k = pz_kac ∧ 1 ≤ 2 ∧ 60 ≤ 42 ∧ Cond.methodLink RX12 i arraycopyName ∈ pz_tbl))) (List.forall_mem_cons.mpr ⟨(fun _ => Or.inl (s_X12_isIn (by decide) (by decide) (Or.inl (pz_mt 1217 (by decide +kernel))))), List.forall_mem_cons.mpr ⟨((fun z => by cases z)), List.forall_mem_cons.mpr ⟨(fun _ => Or.inl (s_X12_lesser (by decide) (by decide) (Or.inl (pz_mt 1462 (by decide +kernel))))), fun _ h => absurd h List.not_mem_nil⟩⟩⟩) false i k' h rfl
  · intro a M hlen hpre
    obtain ⟨th, w, rfl, hpre⟩ : ∃ th w, a = [.inr (.inr (12, th)), .inl w] ∧ (pz_im M) := by
      have hpre : (match (generalizing := false) a with | [.inr (.inr (12, th)), .inl w] => pz_im M | _ => False) := hpre
      split at hpre
      · exact ⟨_, _, rfl, hpre⟩
      · exact hpre.elim
    exact Nat.le_of_ble_eq_true rfl
  · intro a M hlen hcan hM hpre Ok hgo
    obtain ⟨th, w, rfl, hpre⟩ : ∃ th w, a = [.inr (.inr (12, th)), .inl w] ∧ (pz_im M) := by
      have hpre : (match (generalizing := false) a with | [.inr (.inr (12, th)), .inl w] => pz_im M | _ => False) := hpre
      split at hpre
      · exact ⟨_, _, rfl, hpre⟩
      · exact hpre.elim
    obtain ⟨k_th, hc_th⟩ := pz_tlm hcan
    have k_th : pz_kd th = 12 ∧ th < 231 := k_th
    have R_th := pz_kd12 k_th.1
    subst R_th
    clear k_th
    obtain ⟨k_w, hc_w⟩ := pz_tlm hc_th
    have l_w : -2147483648 ≤ w := k_w.1
    have u_w : w ≤ 2147483647 := k_w.2
    have hI : pz_im M := hpre
    have L44 : ∀ (fo : Nat) (x2 : Int) (x3 : Int) (d4 : Option pz_V), (12 - x3).toNat < fo → (0 ≤ x3) → Ok 44 [some (.inr (.inr (12, 1))), some (.inl w), some (.inl x2), some (.inl x3), d4] [] M := by
      intro fo
      induction fo with
      | zero => exact fun _ _ _ hn => absurd hn (Nat.not_lt_zero _)
      | succ fo ih44 =>
        intro x2 x3 d4 hn44 g44_0
        have L58 : ∀ (fu : Nat) (x2 : Int) (x3 : Int) (x4 : Int), (4 - x4).toNat < fu → (0 ≤ x4) → (0 ≤ x3) → (x3 < 12) → ((12 - x3).toNat < fo + 1) → Ok 58 [some (.inr (.inr (12, 1))), some (.inl w), some (.inl x2), some (.inl x3), some (.inl x4)] [] M := by
          intro fu
          induction fu with
          | zero => exact fun _ _ _ hn => absurd hn (Nat.not_lt_zero _)
          | succ fu ih58 =>
            intro x2 x3 x4 hn58 g58_0 g58_1 g58_2 g58_3
            refine hgo (fun p => Nat.beq p 15 || Nat.beq p 44 || Nat.beq p 58) 73 58 _ _ _ ?_
            refine And.intro (And.intro hI (And.intro (by omega) (by omega))) ?_
            intro v63 M63 a63 b63 q63
            obtain ⟨q63, z63⟩ := q63
            subst z63
            refine And.intro (True.intro) ?_
            intro v66 M66 a66 b66 q66
            obtain ⟨q66, z66⟩ := q66
            subst z66
            replace q66 : v66 ≤ (3) ∧ v66 ≤ v63 := by omega
            refine And.intro (fun h69 => ?_) (fun h69 => ?_)
            · skip
              intro v111 e111 a111 b111
              rw [pz_wi (by omega) (by omega)] at e111
              clear a111 b111
              exact ih44 _ _ _ (by omega) (by omega)
            · skip
              refine And.intro (And.intro hI (And.intro (by omega) (by omega))) ?_
              intro v75 M75 a75 b75 q75
              obtain ⟨q75, z75⟩ := q75
              subst z75
              refine And.intro (by omega) ?_
              intro v79 e79 a79 b79
              intro v80 e80 a80 b80
              refine And.intro (And.intro hI (And.intro (by omega) (by omega))) ?_
              intro v83 M83 a83 b83 q83
              obtain ⟨q83, z83⟩ := q83
              subst z83
              intro v88 e88 a88 b88
              refine And.intro (by omega) ?_
              intro v90 e90 a90 b90
              refine And.intro (fun h91 => ?_) (fun h91 => ?_)
              · skip
                intro v105 e105 a105 b105
                rw [pz_wi (by omega) (by omega)] at e105
                clear a105 b105
                exact ih58 _ _ _ (by omega) (by omega) (by omega) (by omega) (by omega)
              · skip
                refine And.intro (fun h95 => ?_) (fun h95 => ?_)
                · skip
                  refine And.intro rfl ?_
                  exact ⟨trivial, rfl⟩
                · skip
                  refine And.intro rfl ?_
                  exact ⟨trivial, rfl⟩
        refine hgo (fun p => Nat.beq p 15 || Nat.beq p 44 || Nat.beq p 58) 73 44 _ _ _ ?_
        refine pz_nrc (c := 60) rfl ?_
        refine And.intro (by omega) (And.intro (show _ < (1725 : Int) from by omega) ?_)
        intro v51 e51 a51 b51
        replace e51 : v51 = M 60 88 := e51
        have I51 : 0 ≤ v51 ∧ v51 ≤ 12 := by
          rw [e51]
          exact hI.1.1
        clear a51 b51
        refine And.intro (fun h52 => ?_) (fun h52 => ?_)
        · skip
          refine And.intro rfl ?_
          exact ⟨trivial, rfl⟩
        · skip
          exact L58 _ _ _ _ (Nat.lt_succ_self _) (by omega) (by omega) (by omega) (by omega)
    have L15 : ∀ (fu : Nat) (x2 : Int) (x3 : Int) (d4 : Option pz_V), (12 - x3).toNat < fu → (0 ≤ x3) → Ok 15 [some (.inr (.inr (12, 1))), some (.inl w), some (.inl x2), some (.inl x3), d4] [] M := by
      intro fu
      induction fu with
      | zero => exact fun _ _ _ hn => absurd hn (Nat.not_lt_zero _)
      | succ fu ih15 =>
        intro x2 x3 d4 hn15 g15_0
        refine hgo (fun p => Nat.beq p 15 || Nat.beq p 44 || Nat.beq p 58) 73 15 _ _ _ ?_
        refine pz_nrc (c := 60) rfl ?_
        refine And.intro (by omega) (And.intro (show _ < (1725 : Int) from by omega) ?_)
        intro v22 e22 a22 b22
        replace e22 : v22 = M 60 88 := e22
        have I22 : 0 ≤ v22 ∧ v22 ≤ 12 := by
          rw [e22]
          exact hI.1.1
        clear a22 b22
        refine And.intro (fun h23 => ?_) (fun h23 => ?_)
        · skip
          exact L44 _ _ _ _ (Nat.lt_succ_self _) (by omega)
        · skip
          refine And.intro (And.intro hI (And.intro (by omega) (by omega))) ?_
          intro v29 M29 a29 b29 q29
          obtain ⟨q29, z29⟩ := q29
          subst z29
          refine And.intro (by omega) ?_
          intro v33 e33 a33 b33
          intro v34 e34 a34 b34
          intro v36 e36 a36 b36
          rw [pz_wi (by omega) (by omega)] at e36
          clear a36 b36
          exact ih15 _ _ _ (by omega) (by omega)
    refine hgo (fun p => Nat.beq p 15 || Nat.beq p 44 || Nat.beq p 58) 73 0 _ [] M ?_
    refine And.intro (True.intro) ?_
    intro v3 M3 a3 b3 q3
    obtain ⟨q3, z3⟩ := q3
    subst z3
    clear a3 b3
    refine And.intro (fun h6 => ?_) (fun h6 => ?_)
    · skip
      replace q3 := q3.resolve_right (fun z => h6 z.1)
      clear h6
      exact L15 _ _ _ _ (Nat.lt_succ_self _) (by omega)
    · skip
      replace q3 := q3.resolve_left (fun z => absurd (z.1.symm.trans h6) (by decide))
      clear h6
      refine And.intro rfl ?_
      exact ⟨trivial, rfl⟩
theorem v_X12_game {fr lo i : Nat} {own : String} (h1 : 2 + 1 ≤ fr) (h2 : 8 + (5 + 11) + 42 ≤ lo) (h3 : .methodLink own i yX12_game ∈ lw_tbl) : pz_cV fr lo own i k_X12_game :=
  pz_cVk (maxL := 5) (fr' := 2) (lo' := 42) 1 12 h_X12_game rfl ⟨by decide +kernel, by decide +kernel, by decide +kernel⟩ ⟨(pz_mt 1752 (by decide +kernel)), (pz_mt 1750 (by decide +kernel)), (pz_mt 1751 (by decide +kernel)), (pz_mt 13 (by decide +kernel))⟩ (Or.inl ⟨TX12, 28, rfl⟩) (fun a M _ h => by
    have h : (match (generalizing := false) a with | [.inr (.inr (12, th)), .inl w] => pz_im M | _ => False) := h
    split at h
    · exact ⟨_, _, rfl⟩
    · exact h.elim) h1 h2 h3
def k_X12_look : pz_C := (2, 1, fun a M => (match a with | [.inr (.inr (12, th)), .inl x] => pz_im M | _ => False), fun a M r M' => (match a, r with | [.inr (.inr (12, th)), .inl x], some (.inl v) => (True) ∧ M = M' | _, _ => False))
abbrev ct_X12_look : List (Bool × Nat × pz_C) := [(true, 395, k_X12_movedOnes), (true, 291, k_X12_bridgedOnes), (false, 398, k_X12_count)]
set_option maxRecDepth 100000 in
set_option maxHeartbeats 4000000 in
theorem h_X12_look : pz_H yX12_look cX12_look 2 (some .int) k_X12_look 2 43 := by
  refine pz_mk (own := RX12) (tb := t_X12_look) (fl := pz_flf fl_RX12) (ci := pz_cif ci_RX12) (ct := pz_ctf ct_X12_look) (rz := false) (by decide +kernel) rfl t_X12_look_ok (pz_flk fl_RX12_ok) (pz_cik ci_RX12_ok) ?_ ?_ (Or.inl ⟨rfl, rfl⟩) ?_ ?_
  · exact fun i k' h => pz_ctk (l := ct_X12_look) (P := fun b i k => b = true → pz_cV 2 43 RX12 i k) (List.forall_mem_cons.mpr ⟨(fun _ => v_X12_movedOnes (by decide) (by decide) (pz_mt 1602 (by decide +kernel))), List.forall_mem_cons.mpr ⟨(fun _ => v_X12_bridgedOnes (by decide) (by decide) (pz_mt 1454 (by decide +kernel))), List.forall_mem_cons.mpr ⟨((fun z => by cases z)), fun _ h => absurd h List.not_mem_nil⟩⟩⟩) true i k' h rfl
  · exact fun i k' h => pz_ctk (l := ct_X12_look) (P := fun b i k => b = false → (pz_cS 2 43 RX12 i k ∨ (k = pz_kac ∧ 1 ≤ 2 ∧ 60 ≤ 43 ∧ Cond.methodLink RX12 i arraycopyName ∈ pz_tbl))) (List.forall_mem_cons.mpr ⟨((fun z => by cases z)), List.forall_mem_cons.mpr ⟨((fun z => by cases z)), List.forall_mem_cons.mpr ⟨(fun _ => Or.inl (s_X12_count (by decide) (by decide) (Or.inl (pz_mt 1606 (by decide +kernel))))), fun _ h => absurd h List.not_mem_nil⟩⟩⟩) false i k' h rfl
  · intro a M hlen hpre
    obtain ⟨th, x, rfl, hpre⟩ : ∃ th x, a = [.inr (.inr (12, th)), .inl x] ∧ (pz_im M) := by
      have hpre : (match (generalizing := false) a with | [.inr (.inr (12, th)), .inl x] => pz_im M | _ => False) := hpre
      split at hpre
      · exact ⟨_, _, rfl, hpre⟩
      · exact hpre.elim
    exact Nat.le_of_ble_eq_true rfl
  · intro a M hlen hcan hM hpre Ok hgo
    obtain ⟨th, x, rfl, hpre⟩ : ∃ th x, a = [.inr (.inr (12, th)), .inl x] ∧ (pz_im M) := by
      have hpre : (match (generalizing := false) a with | [.inr (.inr (12, th)), .inl x] => pz_im M | _ => False) := hpre
      split at hpre
      · exact ⟨_, _, rfl, hpre⟩
      · exact hpre.elim
    obtain ⟨k_th, hc_th⟩ := pz_tlm hcan
    have k_th : pz_kd th = 12 ∧ th < 231 := k_th
    have R_th := pz_kd12 k_th.1
    subst R_th
    clear k_th
    obtain ⟨k_x, hc_x⟩ := pz_tlm hc_th
    have l_x : -2147483648 ≤ x := k_x.1
    have u_x : x ≤ 2147483647 := k_x.2
    have hI : pz_im M := hpre
    refine hgo (fun _ => false) 73 0 _ [] M ?_
    refine And.intro ?_ ?_
    · skip
      refine And.intro (fun h1 => ?_) ?_
      · skip
        refine pz_nrc (c := 60) rfl ?_
        refine And.intro (by omega) (And.intro (show _ < (1725 : Int) from by omega) ?_)
        intro v74 e74 a74 b74
        replace e74 : v74 = M 60 88 := e74
        have I74 : 0 ≤ v74 ∧ v74 ≤ 12 := by
          rw [e74]
          exact hI.1.1
        clear a74 b74
        refine And.intro rfl ?_
        exact ⟨trivial, rfl⟩
      refine And.intro (fun h1 => ?_) ?_
      · skip
        refine pz_nrc (c := 60) rfl ?_
        refine And.intro (by omega) (And.intro (show _ < (1725 : Int) from by omega) ?_)
        intro v81 e81 a81 b81
        replace e81 : v81 = M 60 0 := e81
        refine And.intro rfl ?_
        exact ⟨trivial, rfl⟩
      refine And.intro (fun h1 => ?_) ?_
      · skip
        refine pz_nrc (c := 60) rfl ?_
        refine And.intro (by omega) (And.intro (show _ < (1725 : Int) from by omega) ?_)
        intro v88 e88 a88 b88
        replace e88 : v88 = M 60 1 := e88
        refine And.intro rfl ?_
        exact ⟨trivial, rfl⟩
      refine And.intro (fun h1 => ?_) ?_
      · skip
        refine And.intro (hI) ?_
        intro v91 M91 a91 b91 q91
        obtain ⟨q91, z91⟩ := q91
        subst z91
        refine And.intro rfl ?_
        exact ⟨trivial, rfl⟩
      refine And.intro (fun h1 => ?_) ?_
      · skip
        refine And.intro (hI) ?_
        intro v96 M96 a96 b96 q96
        obtain ⟨q96, z96⟩ := q96
        subst z96
        refine And.intro rfl ?_
        exact ⟨trivial, rfl⟩
      refine And.intro (fun h1 => ?_) ?_
      · skip
        refine pz_nrc (c := 60) rfl ?_
        refine And.intro (by omega) (And.intro (show _ < (1725 : Int) from by omega) ?_)
        intro v106 e106 a106 b106
        replace e106 : v106 = M 60 88 := e106
        have I106 : 0 ≤ v106 ∧ v106 ≤ 12 := by
          rw [e106]
          exact hI.1.1
        clear a106 b106
        refine And.intro (fun h107 => ?_) (fun h107 => ?_)
        · skip
          replace h107 : 1 ≤ v106 := by omega
          refine And.intro (hI) ?_
          intro v116 M116 a116 b116 q116
          obtain ⟨q116, z116⟩ := q116
          subst z116
          refine And.intro (True.intro) ?_
          intro v119 M119 a119 b119 q119
          obtain ⟨q119, z119⟩ := q119
          subst z119
          intro v122 e122 a122 b122
          refine And.intro rfl ?_
          exact ⟨trivial, rfl⟩
        · skip
          refine And.intro rfl ?_
          exact ⟨trivial, rfl⟩
      refine And.intro (fun h1 => ?_) ?_
      · skip
        refine pz_nrc (c := 60) rfl ?_
        refine And.intro (by omega) (And.intro (show _ < (1725 : Int) from by omega) ?_)
        intro v129 e129 a129 b129
        replace e129 : v129 = M 60 3 := e129
        have I129 : 0 ≤ v129 ∧ v129 ≤ 150 := by
          rw [e129]
          exact hI.1.2.2.2.2
        clear a129 b129
        refine And.intro rfl ?_
        exact ⟨trivial, rfl⟩
      refine And.intro (fun h1 => ?_) ?_
      · skip
        refine pz_nrc (c := 60) rfl ?_
        refine And.intro (by omega) (And.intro (show _ < (1725 : Int) from by omega) ?_)
        intro v136 e136 a136 b136
        replace e136 : v136 = M 60 2 := e136
        refine And.intro rfl ?_
        exact ⟨trivial, rfl⟩
      refine And.intro (fun h1 => ?_) ?_
      · skip
        refine pz_nrc (c := 60) rfl ?_
        refine And.intro (by omega) (And.intro (show _ < (1725 : Int) from by omega) ?_)
        intro v144 e144 a144 b144
        replace e144 : v144 = M 60 89 := e144
        have I144 : 0 ≤ v144 ∧ v144 ≤ 16 := by
          rw [e144]
          exact hI.1.2.1
        clear a144 b144
        refine And.intro rfl ?_
        exact ⟨trivial, rfl⟩
      refine And.intro (fun h1 => ?_) ?_
      · skip
        refine pz_nrc (c := 60) rfl ?_
        refine And.intro (by omega) (And.intro (show _ < (1725 : Int) from by omega) ?_)
        intro v152 e152 a152 b152
        replace e152 : v152 = M 60 90 := e152
        have I152 : 0 ≤ v152 ∧ v152 ≤ 16 := by
          rw [e152]
          exact hI.1.2.2.1
        clear a152 b152
        refine And.intro rfl ?_
        exact ⟨trivial, rfl⟩
      refine And.intro (fun h1 => ?_) ?_
      · skip
        refine pz_nrc (c := 60) rfl ?_
        refine And.intro (by omega) (And.intro (show _ < (1725 : Int) from by omega) ?_)
        intro v160 e160 a160 b160
        replace e160 : v160 = M 60 91 := e160
        refine And.intro rfl ?_
        exact ⟨trivial, rfl⟩
      refine And.intro (fun h1 => ?_) ?_
      · skip
        refine pz_nrc (c := 60) rfl ?_
        refine And.intro (by omega) (And.intro (show _ < (1725 : Int) from by omega) ?_)
        intro v168 e168 a168 b168
        replace e168 : v168 = M 60 92 := e168
        have I168 : 0 ≤ v168 ∧ v168 ≤ 16 := by
          rw [e168]
          exact hI.1.2.2.2.1
        clear a168 b168
        refine And.intro rfl ?_
        exact ⟨trivial, rfl⟩
      refine And.intro (fun h1 => ?_) ?_
      · skip
        intro v171 e171 a171 b171
        have I171 : 0 ≤ v171 ∧ v171 ≤ 6 := by
          rw [e171]
          exact hI.2.1.1
        clear a171 b171
        have N171 := hI.2.1.1
        refine And.intro rfl ?_
        exact ⟨trivial, rfl⟩
      exact True.intro
    · intro h1
      refine And.intro rfl ?_
      exact ⟨trivial, rfl⟩
theorem v_X12_look {fr lo i : Nat} {own : String} (h1 : 2 + 1 ≤ fr) (h2 : 8 + (2 + 11) + 43 ≤ lo) (h3 : .methodLink own i yX12_look ∈ lw_tbl) : pz_cV fr lo own i k_X12_look :=
  pz_cVk (maxL := 2) (fr' := 2) (lo' := 43) 1 12 h_X12_look rfl ⟨by decide +kernel, by decide +kernel, by decide +kernel⟩ ⟨(pz_mt 1764 (by decide +kernel)), (pz_mt 1762 (by decide +kernel)), (pz_mt 1763 (by decide +kernel)), (pz_mt 13 (by decide +kernel))⟩ (Or.inl ⟨TX12, 28, rfl⟩) (fun a M _ h => by
    have h : (match (generalizing := false) a with | [.inr (.inr (12, th)), .inl x] => pz_im M | _ => False) := h
    split at h
    · exact ⟨_, _, rfl⟩
    · exact h.elim) h1 h2 h3
def k_X12_fault : pz_C := (2, 1, fun a M => (match a with | [.inr (.inr (12, th)), .inl i] => pz_im M | _ => False), fun a M r M' => (match a, r with | [.inr (.inr (12, th)), .inl i], some (.inl v) => ((i = 0 → v = M 1 23) ∧ (i = 1 → v = M 1 25) ∧ (¬ (i = 0 ∨ i = 1) → v = -1)) ∧ M = M' | _, _ => False))
abbrev ct_X12_fault : List (Bool × Nat × pz_C) := []
set_option maxRecDepth 100000 in
set_option maxHeartbeats 4000000 in
theorem h_X12_fault : pz_H yX12_fault cX12_fault 2 (some .int) k_X12_fault 0 0 := by
  refine pz_mk (own := RX12) (tb := t_X12_fault) (fl := pz_flf fl_RX12) (ci := pz_cif ci_RX12) (ct := pz_ctf ct_X12_fault) (rz := false) (by decide +kernel) rfl t_X12_fault_ok (pz_flk fl_RX12_ok) (pz_cik ci_RX12_ok) ?_ ?_ (Or.inl ⟨rfl, rfl⟩) ?_ ?_
  · exact fun i k' h => pz_ctk (l := ct_X12_fault) (P := fun b i k => b = true → pz_cV 0 0 RX12 i k) (fun _ h => absurd h List.not_mem_nil) true i k' h rfl
  · exact fun i k' h => pz_ctk (l := ct_X12_fault) (P := fun b i k => b = false → (pz_cS 0 0 RX12 i k ∨ (k = pz_kac ∧ 1 ≤ 0 ∧ 60 ≤ 0 ∧ Cond.methodLink RX12 i arraycopyName ∈ pz_tbl))) (fun _ h => absurd h List.not_mem_nil) false i k' h rfl
  · intro a M hlen hpre
    obtain ⟨th, i, rfl, hpre⟩ : ∃ th i, a = [.inr (.inr (12, th)), .inl i] ∧ (pz_im M) := by
      have hpre : (match (generalizing := false) a with | [.inr (.inr (12, th)), .inl i] => pz_im M | _ => False) := hpre
      split at hpre
      · exact ⟨_, _, rfl, hpre⟩
      · exact hpre.elim
    exact Nat.le_of_ble_eq_true rfl
  · intro a M hlen hcan hM hpre Ok hgo
    obtain ⟨th, i, rfl, hpre⟩ : ∃ th i, a = [.inr (.inr (12, th)), .inl i] ∧ (pz_im M) := by
      have hpre : (match (generalizing := false) a with | [.inr (.inr (12, th)), .inl i] => pz_im M | _ => False) := hpre
      split at hpre
      · exact ⟨_, _, rfl, hpre⟩
      · exact hpre.elim
    obtain ⟨k_th, hc_th⟩ := pz_tlm hcan
    have k_th : pz_kd th = 12 ∧ th < 231 := k_th
    have R_th := pz_kd12 k_th.1
    subst R_th
    clear k_th
    obtain ⟨k_i, hc_i⟩ := pz_tlm hc_th
    have l_i : -2147483648 ≤ i := k_i.1
    have u_i : i ≤ 2147483647 := k_i.2
    have hI : pz_im M := hpre
    refine hgo (fun _ => false) 15 0 _ [] M ?_
    refine And.intro (fun h1 => ?_) (fun h1 => ?_)
    · skip
      refine And.intro (fun h13 => ?_) (fun h13 => ?_)
      · skip
        refine And.intro rfl ?_
        exact ⟨by omega, rfl⟩
      · skip
        intro v17 e17 a17 b17
        refine And.intro rfl ?_
        exact ⟨by omega, rfl⟩
    · skip
      intro v5 e5 a5 b5
      refine And.intro rfl ?_
      exact ⟨by omega, rfl⟩
theorem v_X12_fault {fr lo i : Nat} {own : String} (h1 : 0 + 1 ≤ fr) (h2 : 8 + (2 + 11) + 0 ≤ lo) (h3 : .methodLink own i yX12_fault ∈ lw_tbl) : pz_cV fr lo own i k_X12_fault :=
  pz_cVk (maxL := 2) (fr' := 0) (lo' := 0) 1 12 h_X12_fault rfl ⟨by decide +kernel, by decide +kernel, by decide +kernel⟩ ⟨(pz_mt 1402 (by decide +kernel)), (pz_mt 1400 (by decide +kernel)), (pz_mt 1401 (by decide +kernel)), (pz_mt 13 (by decide +kernel))⟩ (Or.inl ⟨TX12, 28, rfl⟩) (fun a M _ h => by
    have h : (match (generalizing := false) a with | [.inr (.inr (12, th)), .inl i] => pz_im M | _ => False) := h
    split at h
    · exact ⟨_, _, rfl⟩
    · exact h.elim) h1 h2 h3
