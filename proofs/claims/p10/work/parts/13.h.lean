section
theorem pz_m3 {x y : Int} (hx0 : 0 ≤ x) (hx : x ≤ 1000) (hy0 : 0 ≤ y) (hy : y ≤ 1000) : 0 ≤ x * y ∧ x * y ≤ 1000000 :=
  ⟨Int.mul_nonneg hx0 hy0, by have := Int.mul_le_mul hx hy hy0 (by omega); omega⟩
theorem pz_blf {p q w : Int} (h : 0 ≤ p ∧ p ≤ 1000 ∧ 0 ≤ q ∧ q ≤ 1000 ∧ 0 ≤ w ∧ w ≤ 1000 ∧ 0 < p * q + (1000 - p) * w) : Int.tdiv (p * q * 1000000) (p * q + (1000 - p) * w) = p * q * 1000000 / (p * q + (1000 - p) * w) ∧ 0 ≤ p * q * 1000000 / (p * q + (1000 - p) * w) ∧ p * q * 1000000 / (p * q + (1000 - p) * w) ≤ 1000000 := by
  obtain ⟨h1, h2, h3, h4, h5, h6, h7⟩ := h
  have B1 := pz_m3 h1 h2 h3 h4
  have B2 := pz_m3 (x := 1000 - p) (by omega) (by omega) h5 h6
  refine ⟨Int.tdiv_eq_ediv_of_nonneg (by omega), Int.ediv_nonneg (by omega) (by omega), ?_⟩
  exact Int.ediv_le_of_le_mul h7 (by omega)

noncomputable def k_X11_link : pz_C := (5, 1, fun a M => (match a with | [.inr (.inr (11, th)), .inl p, .inl q, .inl w, .inl s] => pz_ic M | _ => False), fun a M r M' => (match a, r with | [.inr (.inr (11, th)), .inl p, .inl q, .inl w, .inl s], some (.inl v) => (((M 71 3 < 12 ∧ (1 ≤ p ∧ p ≤ 999) ∧ (-9999 ≤ q ∧ q ≤ 9999) ∧ (-999 ≤ w ∧ w ≤ 999) ∧ 0 ≤ s ∧ s ≤ 9) ∧ v = M 71 3 ∧ M' = pz_lkf p q w s M) ∨ (¬ (M 71 3 < 12 ∧ (1 ≤ p ∧ p ≤ 999) ∧ (-9999 ≤ q ∧ q ≤ 9999) ∧ (-999 ≤ w ∧ w ≤ 999) ∧ 0 ≤ s ∧ s ≤ 9) ∧ v = -1 ∧ M' = M)) ∧ pz_rt M M' | _, _ => False))
noncomputable abbrev ct_X11_link : List (Bool × Nat × pz_C) := [(false, 103, k_X11_canHave), (true, 107, k_X0_at), (true, 111, k_X5_makeNew), (true, 97, k_X2_forgetAll), (true, 117, k_X8_forgetAll)]
set_option maxRecDepth 100000 in
set_option maxHeartbeats 4000000 in
theorem h_X11_link : pz_H yX11_link cX11_link 6 (some .int) k_X11_link 2 43 := by
  refine pz_mk (own := RX11) (tb := t_X11_link) (fl := pz_flf fl_RX11) (ci := pz_cif ci_RX11) (ct := pz_ctf ct_X11_link) (rz := false) (pz_pfc_RX11 yX11_link rfl) rfl t_X11_link_ok (pz_flk fl_RX11_ok) (pz_cik ci_RX11_ok) ?_ ?_ (Or.inl ⟨rfl, rfl⟩) ?_ ?_
  · exact fun i k' h => pz_ctk (l := ct_X11_link) (P := fun b i k => b = true → pz_cV 2 43 RX11 i k) (List.forall_mem_cons.mpr ⟨((fun z => by cases z)), List.forall_mem_cons.mpr ⟨(fun _ => v_X0_at (by decide) (by decide) pz_wq428), List.forall_mem_cons.mpr ⟨(fun _ => v_X5_makeNew (by decide) (by decide) pz_wq432), List.forall_mem_cons.mpr ⟨(fun _ => v_X2_forgetAll (by decide) (by decide) pz_wq414), List.forall_mem_cons.mpr ⟨(fun _ => v_X8_forgetAll (by decide) (by decide) pz_wq436), fun _ h => absurd h List.not_mem_nil⟩⟩⟩⟩⟩) true i k' h rfl
  · exact fun i k' h => pz_ctk (l := ct_X11_link) (P := fun b i k => b = false → (pz_cS 2 43 RX11 i k ∨ (k = pz_kac ∧ 1 ≤ 2 ∧ 60 ≤ 43 ∧ Cond.methodLink RX11 i arraycopyName ∈ pz_tbl))) (List.forall_mem_cons.mpr ⟨(fun _ => Or.inl (s_X11_canHave (by decide) (by decide) (Or.inl pz_wq422))), List.forall_mem_cons.mpr ⟨((fun z => by cases z)), List.forall_mem_cons.mpr ⟨((fun z => by cases z)), List.forall_mem_cons.mpr ⟨((fun z => by cases z)), List.forall_mem_cons.mpr ⟨((fun z => by cases z)), fun _ h => absurd h List.not_mem_nil⟩⟩⟩⟩⟩) false i k' h rfl
  · intro a M hlen hpre
    obtain ⟨th, p, q, w, s, rfl, hpre⟩ : ∃ th p q w s, a = [.inr (.inr (11, th)), .inl p, .inl q, .inl w, .inl s] ∧ (pz_ic M) := by
      have hpre : (match (generalizing := false) a with | [.inr (.inr (11, th)), .inl p, .inl q, .inl w, .inl s] => pz_ic M | _ => False) := hpre
      split at hpre
      · exact ⟨_, _, _, _, _, rfl, hpre⟩
      · exact hpre.elim
    exact Nat.le_of_ble_eq_true rfl
  · intro a M hlen hcan hM hpre Ok hgo
    obtain ⟨th, p, q, w, s, rfl, hpre⟩ : ∃ th p q w s, a = [.inr (.inr (11, th)), .inl p, .inl q, .inl w, .inl s] ∧ (pz_ic M) := by
      have hpre : (match (generalizing := false) a with | [.inr (.inr (11, th)), .inl p, .inl q, .inl w, .inl s] => pz_ic M | _ => False) := hpre
      split at hpre
      · exact ⟨_, _, _, _, _, rfl, hpre⟩
      · exact hpre.elim
    obtain ⟨k_th, hc_th⟩ := pz_tlm hcan
    have k_th : pz_kd th = 11 ∧ th < 231 := k_th
    have R_th := pz_kd11 k_th.1
    subst R_th
    obtain ⟨k_p, hc_p⟩ := pz_tlm hc_th
    have l_p : -2147483648 ≤ p := k_p.1
    have u_p : p ≤ 2147483647 := k_p.2
    obtain ⟨k_q, hc_q⟩ := pz_tlm hc_p
    have l_q : -2147483648 ≤ q := k_q.1
    have u_q : q ≤ 2147483647 := k_q.2
    obtain ⟨k_w, hc_w⟩ := pz_tlm hc_q
    have l_w : -2147483648 ≤ w := k_w.1
    have u_w : w ≤ 2147483647 := k_w.2
    obtain ⟨k_s, hc_s⟩ := pz_tlm hc_w
    have l_s : -2147483648 ≤ s := k_s.1
    have u_s : s ≤ 2147483647 := k_s.2
    have hI : pz_ic M := hpre
    have hI0 := hI
    have hS : pz_rt M M := pz_rt.rf
    refine hgo (fun _ => false) 57 0 _ [] M ?_
    refine pz_nrc (c := 71) rfl ?_
    intro v4 e4 a4 b4
    have I4 := hI.1 71 (by omega) (by omega)
    refine And.intro (fun h9 => ?_) (fun h9 => ?_)
    · skip
      refine And.intro rfl ?_
      exact ⟨Or.inr ⟨by omega, rfl, rfl⟩, hS⟩
    · skip
      refine And.intro (True.intro) ?_
      intro v14 M14 a14 b14 q14
      obtain ⟨q14, z14⟩ := q14
      subst z14
      refine And.intro (fun h17 => ?_) (fun h17 => ?_)
      · skip
        refine And.intro rfl ?_
        exact ⟨Or.inr ⟨by omega, rfl, rfl⟩, hS⟩
      · skip
        refine And.intro (True.intro) ?_
        intro v22 M22 a22 b22 q22
        obtain ⟨q22, z22⟩ := q22
        subst z22
        refine And.intro (fun h25 => ?_) (fun h25 => ?_)
        · skip
          refine And.intro rfl ?_
          exact ⟨Or.inr ⟨by omega, rfl, rfl⟩, hS⟩
        · skip
          refine And.intro (True.intro) ?_
          intro v30 M30 a30 b30 q30
          obtain ⟨q30, z30⟩ := q30
          subst z30
          refine And.intro (fun h33 => ?_) (fun h33 => ?_)
          · skip
            refine And.intro rfl ?_
            exact ⟨Or.inr ⟨by omega, rfl, rfl⟩, hS⟩
          · skip
            refine And.intro (True.intro) ?_
            intro v39 M39 a39 b39 q39
            obtain ⟨q39, z39⟩ := q39
            subst z39
            refine And.intro (fun h42 => ?_) (fun h42 => ?_)
            · skip
              refine pz_nrc (c := 71) rfl ?_
              refine pz_nrc (c := 71) rfl ?_
              intro v55 e55 a55 b55
              have I55 := hI.1 71 (by omega) (by omega)
              refine And.intro (True.intro) ?_
              intro r58 M58 k58 q58
              have R58 := pz_kd5 k58
              obtain ⟨q58, z58⟩ := q58
              subst z58
              have Z58 : r58 = 89 + (M 71 3).toNat := by
                rw [if_pos (by omega)] at q58
                rw [q58, pz_rf_l (by omega) (by omega), e55]
                rfl
              refine And.intro (hI) ?_
              intro M70 q70
              obtain ⟨q70, z70⟩ := q70
              have hS : pz_rt M M70 := hS.tr z70
              have hI : pz_ic M70 := hS hI0
              refine pz_nrc (c := 71) rfl ?_
              intro v78 e78 a78 b78
              have I78 := hI.1 71 (by omega) (by omega)
              have Z78 : v78 = M 71 3 := by
                rw [e78, q70]
                exact pz_mkl_o (by omega)
              intro v82 e82 a82 b82
              try rw [pz_wi (by omega) (by omega)] at e82
              intro M83 e83
              have hS : pz_rt M M83 := by
                rw [e83]
                exact pz_rt_u hS (by unfold pz_iok; omega)
              have hI : pz_ic M83 := hS hI0
              refine pz_nrc (c := 3) rfl ?_
              refine And.intro (hI) ?_
              intro M90 q90
              obtain ⟨q90, z90⟩ := q90
              have hS : pz_rt M M90 := hS.tr z90.rt
              have hI : pz_ic M90 := hS hI0
              refine pz_nrc (c := 7) rfl ?_
              refine And.intro (hI) ?_
              intro M97 q97
              obtain ⟨q97, z97⟩ := q97
              have hS : pz_rt M M97 := hS.tr z97.rt
              have hI : pz_ic M97 := hS hI0
              refine pz_nrc (c := 71) rfl ?_
              intro v104 e104 a104 b104
              have I104 := hI.1 71 (by omega) (by omega)
              intro v108 e108 a108 b108
              try rw [pz_wi (by omega) (by omega)] at e108
              refine And.intro rfl ?_
              have Z90 : v104 = v82 := by
                rw [e104, q97, pz_una (by decide), q90, pz_una (by decide), e83]
                exact pz_uu
              have F9 : M97 = pz_lkf p q w s M := by
                rw [q97, q90, e83, q70, e82, Z78, Z58]
                rfl
              exact ⟨Or.inl ⟨by omega, by omega, F9⟩, hS⟩
            · skip
              refine And.intro rfl ?_
              exact ⟨Or.inr ⟨by omega, rfl, rfl⟩, hS⟩
theorem v_X11_link {fr lo i : Nat} {own : String} (h1 : 2 + 1 ≤ fr) (h2 : 8 + (6 + 11) + 43 ≤ lo) (h3 : .methodLink own i yX11_link ∈ lw_tbl) : pz_cV fr lo own i k_X11_link :=
  pz_cVk (maxL := 6) (fr' := 2) (lo' := 43) 4 11 h_X11_link rfl ⟨(pz_nhc_RX11 yX11_link rfl).1, (pz_nhc_RX11 yX11_link rfl).2, pz_ds18⟩ ⟨pz_wq421, pz_wq419, pz_wq420, pz_wq1⟩ (Or.inl ⟨TX11, 14, rfl⟩) (fun a M _ h => by
    have h : (match (generalizing := false) a with | [.inr (.inr (11, th)), .inl p, .inl q, .inl w, .inl s] => pz_ic M | _ => False) := h
    split at h
    · exact ⟨_, _, rfl⟩
    · exact h.elim) h1 h2 h3
noncomputable def k_X11_set : pz_C := (4, 1, fun a M => (match a with | [.inr (.inr (11, th)), .inl w, .inl i, .inl n] => pz_ic M | _ => False), fun a M r M' => (match a, r with | [.inr (.inr (11, th)), .inl w, .inl i, .inl n], some (.inl v) => ((((0 ≤ i ∧ i < M 71 3) ∧ ((w = 0 ∧ 1 ≤ n ∧ n ≤ 999) ∨ (w = 1 ∧ -9999 ≤ n ∧ n ≤ 9999) ∨ (w = 2 ∧ -999 ≤ n ∧ n ≤ 999) ∨ (w = 3 ∧ 0 ≤ n ∧ n ≤ 9) ∨ (w = 4 ∧ 0 ≤ n ∧ n ≤ 1))) ∧ v = 1 ∧ M' = pz_u (pz_u M (89 + i.toNat) w.toNat n) 3 2 0) ∨ (¬ ((0 ≤ i ∧ i < M 71 3) ∧ ((w = 0 ∧ 1 ≤ n ∧ n ≤ 999) ∨ (w = 1 ∧ -9999 ≤ n ∧ n ≤ 9999) ∨ (w = 2 ∧ -999 ≤ n ∧ n ≤ 999) ∨ (w = 3 ∧ 0 ≤ n ∧ n ≤ 9) ∨ (w = 4 ∧ 0 ≤ n ∧ n ≤ 1))) ∧ v = 0 ∧ M' = M)) ∧ pz_rt M M' | _, _ => False))
noncomputable abbrev ct_X11_set : List (Bool × Nat × pz_C) := [(true, 118, k_X0_has), (false, 103, k_X11_canHave), (true, 107, k_X0_at), (true, 97, k_X2_forgetAll)]
set_option maxRecDepth 100000 in
set_option maxHeartbeats 4000000 in
theorem h_X11_set : pz_H yX11_set cX11_set 5 (some .boolean) k_X11_set 2 43 := by
  refine pz_mk (own := RX11) (tb := t_X11_set) (fl := pz_flf fl_RX11) (ci := pz_cif ci_RX11) (ct := pz_ctf ct_X11_set) (rz := true) (pz_pfc_RX11 yX11_set rfl) rfl t_X11_set_ok (pz_flk fl_RX11_ok) (pz_cik ci_RX11_ok) ?_ ?_ (Or.inr ⟨rfl, rfl⟩) ?_ ?_
  · exact fun i k' h => pz_ctk (l := ct_X11_set) (P := fun b i k => b = true → pz_cV 2 43 RX11 i k) (List.forall_mem_cons.mpr ⟨(fun _ => v_X0_has (by decide) (by decide) pz_wq444), List.forall_mem_cons.mpr ⟨((fun z => by cases z)), List.forall_mem_cons.mpr ⟨(fun _ => v_X0_at (by decide) (by decide) pz_wq428), List.forall_mem_cons.mpr ⟨(fun _ => v_X2_forgetAll (by decide) (by decide) pz_wq414), fun _ h => absurd h List.not_mem_nil⟩⟩⟩⟩) true i k' h rfl
  · exact fun i k' h => pz_ctk (l := ct_X11_set) (P := fun b i k => b = false → (pz_cS 2 43 RX11 i k ∨ (k = pz_kac ∧ 1 ≤ 2 ∧ 60 ≤ 43 ∧ Cond.methodLink RX11 i arraycopyName ∈ pz_tbl))) (List.forall_mem_cons.mpr ⟨((fun z => by cases z)), List.forall_mem_cons.mpr ⟨(fun _ => Or.inl (s_X11_canHave (by decide) (by decide) (Or.inl pz_wq422))), List.forall_mem_cons.mpr ⟨((fun z => by cases z)), List.forall_mem_cons.mpr ⟨((fun z => by cases z)), fun _ h => absurd h List.not_mem_nil⟩⟩⟩⟩) false i k' h rfl
  · intro a M hlen hpre
    obtain ⟨th, w, i, n, rfl, hpre⟩ : ∃ th w i n, a = [.inr (.inr (11, th)), .inl w, .inl i, .inl n] ∧ (pz_ic M) := by
      have hpre : (match (generalizing := false) a with | [.inr (.inr (11, th)), .inl w, .inl i, .inl n] => pz_ic M | _ => False) := hpre
      split at hpre
      · exact ⟨_, _, _, _, rfl, hpre⟩
      · exact hpre.elim
    exact Nat.le_of_ble_eq_true rfl
  · intro a M hlen hcan hM hpre Ok hgo
    obtain ⟨th, w, i, n, rfl, hpre⟩ : ∃ th w i n, a = [.inr (.inr (11, th)), .inl w, .inl i, .inl n] ∧ (pz_ic M) := by
      have hpre : (match (generalizing := false) a with | [.inr (.inr (11, th)), .inl w, .inl i, .inl n] => pz_ic M | _ => False) := hpre
      split at hpre
      · exact ⟨_, _, _, _, rfl, hpre⟩
      · exact hpre.elim
    obtain ⟨k_th, hc_th⟩ := pz_tlm hcan
    have k_th : pz_kd th = 11 ∧ th < 231 := k_th
    have R_th := pz_kd11 k_th.1
    subst R_th
    obtain ⟨k_w, hc_w⟩ := pz_tlm hc_th
    have l_w : -2147483648 ≤ w := k_w.1
    have u_w : w ≤ 2147483647 := k_w.2
    obtain ⟨k_i, hc_i⟩ := pz_tlm hc_w
    have l_i : -2147483648 ≤ i := k_i.1
    have u_i : i ≤ 2147483647 := k_i.2
    obtain ⟨k_n, hc_n⟩ := pz_tlm hc_i
    have l_n : -2147483648 ≤ n := k_n.1
    have u_n : n ≤ 2147483647 := k_n.2
    have hI : pz_ic M := hpre
    have hI0 := hI
    have hS : pz_rt M M := pz_rt.rf
    refine hgo (fun _ => false) 44 0 _ [] M ?_
    refine pz_nrc (c := 71) rfl ?_
    refine And.intro (True.intro) ?_
    intro v5 M5 a5 b5 q5
    obtain ⟨q5, z5⟩ := q5
    subst z5
    refine And.intro (fun h8 => ?_) (fun h8 => ?_)
    · skip
      refine And.intro (by omega) ?_
      refine And.intro rfl ?_
      exact ⟨Or.inr ⟨by first | omega | (split at q5 <;> omega), rfl, rfl⟩, hS⟩
    · skip
      refine And.intro (True.intro) ?_
      intro v13 M13 a13 b13 q13
      obtain ⟨q13, z13⟩ := q13
      subst z13
      refine And.intro (fun h16 => ?_) (fun h16 => ?_)
      · skip
        refine pz_nrc (c := 71) rfl ?_
        refine And.intro (True.intro) ?_
        intro r26 M26 k26 q26
        have R26 := pz_kd5 k26
        obtain ⟨q26, z26⟩ := q26
        subst z26
        have Z26 : r26 = 89 + i.toNat := by
          have := hI.1 71 (by omega) (by omega)
          split at q5
          · rw [if_pos (by omega)] at q26
            rw [q26, pz_rf_l (by omega) (by omega)]
            rfl
          · omega
        refine And.intro ?_ ?_
        · skip
          refine And.intro (fun h32 => ?_) ?_
          · skip
            intro M67 e67
            have hS : pz_rt M M67 := by
              rw [e67]
              exact pz_rt_u hS (by unfold pz_iok; omega)
            have hI : pz_ic M67 := hS hI0
            refine pz_nrc (c := 3) rfl ?_
            refine And.intro (hI) ?_
            intro M110 q110
            obtain ⟨q110, z110⟩ := q110
            have hS : pz_rt M M110 := hS.tr z110.rt
            have hI : pz_ic M110 := hS hI0
            refine And.intro (by omega) ?_
            refine And.intro rfl ?_
            first
              | (have Z9 : w.toNat = 0 := by omega
                 have Z8 : M110 = pz_u (pz_u M (89 + i.toNat) w.toNat n) 3 2 0 := by rw [q110, e67, Z26, Z9]
                 exact ⟨Or.inl ⟨by split at q5 <;> omega, rfl, Z8⟩, hS⟩)
              | (have Z9 : w.toNat = 1 := by omega
                 have Z8 : M110 = pz_u (pz_u M (89 + i.toNat) w.toNat n) 3 2 0 := by rw [q110, e76, Z26, Z9]
                 exact ⟨Or.inl ⟨by split at q5 <;> omega, rfl, Z8⟩, hS⟩)
              | (have Z9 : w.toNat = 2 := by omega
                 have Z8 : M110 = pz_u (pz_u M (89 + i.toNat) w.toNat n) 3 2 0 := by rw [q110, e85, Z26, Z9]
                 exact ⟨Or.inl ⟨by split at q5 <;> omega, rfl, Z8⟩, hS⟩)
              | (have Z9 : w.toNat = 3 := by omega
                 have Z8 : M110 = pz_u (pz_u M (89 + i.toNat) w.toNat n) 3 2 0 := by rw [q110, e94, Z26, Z9]
                 exact ⟨Or.inl ⟨by split at q5 <;> omega, rfl, Z8⟩, hS⟩)
              | (have Z9 : w.toNat = 4 := by omega
                 have Z8 : M110 = pz_u (pz_u M (89 + i.toNat) w.toNat n) 3 2 0 := by rw [q110, e103, Z26, Z9]
                 exact ⟨Or.inl ⟨by split at q5 <;> omega, rfl, Z8⟩, hS⟩)
          refine And.intro (fun h32 => ?_) ?_
          · skip
            intro M76 e76
            have hS : pz_rt M M76 := by
              rw [e76]
              exact pz_rt_u hS (by unfold pz_iok; omega)
            have hI : pz_ic M76 := hS hI0
            refine pz_nrc (c := 3) rfl ?_
            refine And.intro (hI) ?_
            intro M110 q110
            obtain ⟨q110, z110⟩ := q110
            have hS : pz_rt M M110 := hS.tr z110.rt
            have hI : pz_ic M110 := hS hI0
            refine And.intro (by omega) ?_
            refine And.intro rfl ?_
            first
              | (have Z9 : w.toNat = 0 := by omega
                 have Z8 : M110 = pz_u (pz_u M (89 + i.toNat) w.toNat n) 3 2 0 := by rw [q110, e67, Z26, Z9]
                 exact ⟨Or.inl ⟨by split at q5 <;> omega, rfl, Z8⟩, hS⟩)
              | (have Z9 : w.toNat = 1 := by omega
                 have Z8 : M110 = pz_u (pz_u M (89 + i.toNat) w.toNat n) 3 2 0 := by rw [q110, e76, Z26, Z9]
                 exact ⟨Or.inl ⟨by split at q5 <;> omega, rfl, Z8⟩, hS⟩)
              | (have Z9 : w.toNat = 2 := by omega
                 have Z8 : M110 = pz_u (pz_u M (89 + i.toNat) w.toNat n) 3 2 0 := by rw [q110, e85, Z26, Z9]
                 exact ⟨Or.inl ⟨by split at q5 <;> omega, rfl, Z8⟩, hS⟩)
              | (have Z9 : w.toNat = 3 := by omega
                 have Z8 : M110 = pz_u (pz_u M (89 + i.toNat) w.toNat n) 3 2 0 := by rw [q110, e94, Z26, Z9]
                 exact ⟨Or.inl ⟨by split at q5 <;> omega, rfl, Z8⟩, hS⟩)
              | (have Z9 : w.toNat = 4 := by omega
                 have Z8 : M110 = pz_u (pz_u M (89 + i.toNat) w.toNat n) 3 2 0 := by rw [q110, e103, Z26, Z9]
                 exact ⟨Or.inl ⟨by split at q5 <;> omega, rfl, Z8⟩, hS⟩)
          refine And.intro (fun h32 => ?_) ?_
          · skip
            intro M85 e85
            have hS : pz_rt M M85 := by
              rw [e85]
              exact pz_rt_u hS (by unfold pz_iok; omega)
            have hI : pz_ic M85 := hS hI0
            refine pz_nrc (c := 3) rfl ?_
            refine And.intro (hI) ?_
            intro M110 q110
            obtain ⟨q110, z110⟩ := q110
            have hS : pz_rt M M110 := hS.tr z110.rt
            have hI : pz_ic M110 := hS hI0
            refine And.intro (by omega) ?_
            refine And.intro rfl ?_
            first
              | (have Z9 : w.toNat = 0 := by omega
                 have Z8 : M110 = pz_u (pz_u M (89 + i.toNat) w.toNat n) 3 2 0 := by rw [q110, e67, Z26, Z9]
                 exact ⟨Or.inl ⟨by split at q5 <;> omega, rfl, Z8⟩, hS⟩)
              | (have Z9 : w.toNat = 1 := by omega
                 have Z8 : M110 = pz_u (pz_u M (89 + i.toNat) w.toNat n) 3 2 0 := by rw [q110, e76, Z26, Z9]
                 exact ⟨Or.inl ⟨by split at q5 <;> omega, rfl, Z8⟩, hS⟩)
              | (have Z9 : w.toNat = 2 := by omega
                 have Z8 : M110 = pz_u (pz_u M (89 + i.toNat) w.toNat n) 3 2 0 := by rw [q110, e85, Z26, Z9]
                 exact ⟨Or.inl ⟨by split at q5 <;> omega, rfl, Z8⟩, hS⟩)
              | (have Z9 : w.toNat = 3 := by omega
                 have Z8 : M110 = pz_u (pz_u M (89 + i.toNat) w.toNat n) 3 2 0 := by rw [q110, e94, Z26, Z9]
                 exact ⟨Or.inl ⟨by split at q5 <;> omega, rfl, Z8⟩, hS⟩)
              | (have Z9 : w.toNat = 4 := by omega
                 have Z8 : M110 = pz_u (pz_u M (89 + i.toNat) w.toNat n) 3 2 0 := by rw [q110, e103, Z26, Z9]
                 exact ⟨Or.inl ⟨by split at q5 <;> omega, rfl, Z8⟩, hS⟩)
          refine And.intro (fun h32 => ?_) ?_
          · skip
            intro M94 e94
            have hS : pz_rt M M94 := by
              rw [e94]
              exact pz_rt_u hS (by unfold pz_iok; omega)
            have hI : pz_ic M94 := hS hI0
            refine pz_nrc (c := 3) rfl ?_
            refine And.intro (hI) ?_
            intro M110 q110
            obtain ⟨q110, z110⟩ := q110
            have hS : pz_rt M M110 := hS.tr z110.rt
            have hI : pz_ic M110 := hS hI0
            refine And.intro (by omega) ?_
            refine And.intro rfl ?_
            first
              | (have Z9 : w.toNat = 0 := by omega
                 have Z8 : M110 = pz_u (pz_u M (89 + i.toNat) w.toNat n) 3 2 0 := by rw [q110, e67, Z26, Z9]
                 exact ⟨Or.inl ⟨by split at q5 <;> omega, rfl, Z8⟩, hS⟩)
              | (have Z9 : w.toNat = 1 := by omega
                 have Z8 : M110 = pz_u (pz_u M (89 + i.toNat) w.toNat n) 3 2 0 := by rw [q110, e76, Z26, Z9]
                 exact ⟨Or.inl ⟨by split at q5 <;> omega, rfl, Z8⟩, hS⟩)
              | (have Z9 : w.toNat = 2 := by omega
                 have Z8 : M110 = pz_u (pz_u M (89 + i.toNat) w.toNat n) 3 2 0 := by rw [q110, e85, Z26, Z9]
                 exact ⟨Or.inl ⟨by split at q5 <;> omega, rfl, Z8⟩, hS⟩)
              | (have Z9 : w.toNat = 3 := by omega
                 have Z8 : M110 = pz_u (pz_u M (89 + i.toNat) w.toNat n) 3 2 0 := by rw [q110, e94, Z26, Z9]
                 exact ⟨Or.inl ⟨by split at q5 <;> omega, rfl, Z8⟩, hS⟩)
              | (have Z9 : w.toNat = 4 := by omega
                 have Z8 : M110 = pz_u (pz_u M (89 + i.toNat) w.toNat n) 3 2 0 := by rw [q110, e103, Z26, Z9]
                 exact ⟨Or.inl ⟨by split at q5 <;> omega, rfl, Z8⟩, hS⟩)
          exact True.intro
        · intro h32
          intro M103 e103
          have hS : pz_rt M M103 := by
            rw [e103]
            exact pz_rt_u hS (by unfold pz_iok; omega)
          have hI : pz_ic M103 := hS hI0
          refine pz_nrc (c := 3) rfl ?_
          refine And.intro (hI) ?_
          intro M110 q110
          obtain ⟨q110, z110⟩ := q110
          have hS : pz_rt M M110 := hS.tr z110.rt
          have hI : pz_ic M110 := hS hI0
          refine And.intro (by omega) ?_
          refine And.intro rfl ?_
          first
            | (have Z9 : w.toNat = 0 := by omega
               have Z8 : M110 = pz_u (pz_u M (89 + i.toNat) w.toNat n) 3 2 0 := by rw [q110, e67, Z26, Z9]
               exact ⟨Or.inl ⟨by split at q5 <;> omega, rfl, Z8⟩, hS⟩)
            | (have Z9 : w.toNat = 1 := by omega
               have Z8 : M110 = pz_u (pz_u M (89 + i.toNat) w.toNat n) 3 2 0 := by rw [q110, e76, Z26, Z9]
               exact ⟨Or.inl ⟨by split at q5 <;> omega, rfl, Z8⟩, hS⟩)
            | (have Z9 : w.toNat = 2 := by omega
               have Z8 : M110 = pz_u (pz_u M (89 + i.toNat) w.toNat n) 3 2 0 := by rw [q110, e85, Z26, Z9]
               exact ⟨Or.inl ⟨by split at q5 <;> omega, rfl, Z8⟩, hS⟩)
            | (have Z9 : w.toNat = 3 := by omega
               have Z8 : M110 = pz_u (pz_u M (89 + i.toNat) w.toNat n) 3 2 0 := by rw [q110, e94, Z26, Z9]
               exact ⟨Or.inl ⟨by split at q5 <;> omega, rfl, Z8⟩, hS⟩)
            | (have Z9 : w.toNat = 4 := by omega
               have Z8 : M110 = pz_u (pz_u M (89 + i.toNat) w.toNat n) 3 2 0 := by rw [q110, e103, Z26, Z9]
               exact ⟨Or.inl ⟨by split at q5 <;> omega, rfl, Z8⟩, hS⟩)
      · skip
        refine And.intro (by omega) ?_
        refine And.intro rfl ?_
        exact ⟨Or.inr ⟨by first | omega | (split at q5 <;> omega), rfl, rfl⟩, hS⟩
theorem v_X11_set {fr lo i : Nat} {own : String} (h1 : 2 + 1 ≤ fr) (h2 : 8 + (5 + 11) + 43 ≤ lo) (h3 : .methodLink own i yX11_set ∈ lw_tbl) : pz_cV fr lo own i k_X11_set :=
  pz_cVk (maxL := 5) (fr' := 2) (lo' := 43) 3 11 h_X11_set rfl ⟨(pz_nhc_RX11 yX11_set rfl).1, (pz_nhc_RX11 yX11_set rfl).2, pz_ds17⟩ ⟨pz_wq443, pz_wq441, pz_wq442, pz_wq1⟩ (Or.inl ⟨TX11, 14, rfl⟩) (fun a M _ h => by
    have h : (match (generalizing := false) a with | [.inr (.inr (11, th)), .inl w, .inl i, .inl n] => pz_ic M | _ => False) := h
    split at h
    · exact ⟨_, _, rfl⟩
    · exact h.elim) h1 h2 h3






end
