section
theorem pz_m3 {x y : Int} (hx0 : 0 ≤ x) (hx : x ≤ 1000) (hy0 : 0 ≤ y) (hy : y ≤ 1000) : 0 ≤ x * y ∧ x * y ≤ 1000000 :=
  ⟨Int.mul_nonneg hx0 hy0, by have := Int.mul_le_mul hx hy hy0 (by first | decide | omega); omega⟩
theorem pz_blf {p q w : Int} (h : 0 ≤ p ∧ p ≤ 1000 ∧ 0 ≤ q ∧ q ≤ 1000 ∧ 0 ≤ w ∧ w ≤ 1000 ∧ 0 < p * q + (1000 - p) * w) : Int.tdiv (p * q * 1000000) (p * q + (1000 - p) * w) = p * q * 1000000 / (p * q + (1000 - p) * w) ∧ 0 ≤ p * q * 1000000 / (p * q + (1000 - p) * w) ∧ p * q * 1000000 / (p * q + (1000 - p) * w) ≤ 1000000 := by
  obtain ⟨h1, h2, h3, h4, h5, h6, h7⟩ := h
  have B1 := pz_m3 h1 h2 h3 h4
  have B2 := pz_m3 (x := 1000 - p) (by first | decide | omega) (by first | decide | omega) h5 h6
  refine ⟨Int.tdiv_eq_ediv_of_nonneg (by first | decide | omega), Int.ediv_nonneg (by first | decide | omega) (by first | decide | omega), ?_⟩
  exact Int.ediv_le_of_le_mul h7 (by first | decide | omega)

noncomputable def k_X11_link : pz_C := (5, 1, fun a M => (match a with | [.inr (.inr (11, th)), .inl p, .inl q, .inl w, .inl s] => pz_ic M | _ => False), fun a M r M' => (match a, r with | [.inr (.inr (11, th)), .inl p, .inl q, .inl w, .inl s], some (.inl v) => (((M 71 3 < 12 ∧ (1 ≤ p ∧ p ≤ 999) ∧ (-9999 ≤ q ∧ q ≤ 9999) ∧ (-999 ≤ w ∧ w ≤ 999) ∧ 0 ≤ s ∧ s ≤ 9) ∧ v = M 71 3 ∧ M' = pz_lkf p q w s M) ∨ (¬ (M 71 3 < 12 ∧ (1 ≤ p ∧ p ≤ 999) ∧ (-9999 ≤ q ∧ q ≤ 9999) ∧ (-999 ≤ w ∧ w ≤ 999) ∧ 0 ≤ s ∧ s ≤ 9) ∧ v = -1 ∧ M' = M)) ∧ pz_rt M M' | _, _ => False))
noncomputable abbrev ct_X11_link : List (Bool × Nat × pz_C) := [(false, 103, k_X11_canHave), (true, 107, k_X0_at), (true, 111, k_X5_makeNew), (true, 97, k_X2_forgetAll), (true, 117, k_X8_forgetAll)]
set_option maxRecDepth 100000 in
set_option maxHeartbeats 4000000 in
theorem h_X11_link : pz_H yX11_link cX11_link 6 (some .int) k_X11_link 2 43 := by
  refine pz_mk (own := RX11) (tb := t_X11_link) (fl := pz_flf fl_RX11) (ci := pz_cif ci_RX11) (ct := pz_ctf ct_X11_link) (rz := false) (pz_pfc_RX11 yX11_link rfl) rfl t_X11_link_ok (pz_flk fl_RX11_ok) (pz_cik ci_RX11_ok) ?_ ?_ (Or.inl ⟨rfl, rfl⟩) ?_ ?_
  · exact fun i k' h => pz_ctk (l := ct_X11_link) (P := fun b i k => b = true → pz_cV 2 43 RX11 i k) (List.forall_mem_cons.mpr ⟨((fun z => by cases z)), List.forall_mem_cons.mpr ⟨(fun _ => v_X0_at (by decide) (by decide) pz_wq428), List.forall_mem_cons.mpr ⟨(fun _ => v_X5_makeNew (by decide) (by decide) pz_wq432), List.forall_mem_cons.mpr ⟨(fun _ => v_X2_forgetAll (by decide) (by decide) pz_wq414), List.forall_mem_cons.mpr ⟨(fun _ => v_X8_forgetAll (by decide) (by decide) pz_wq436), fun _ h => absurd h List.not_mem_nil⟩⟩⟩⟩⟩) true i k' h rfl
  · exact fun i k' h => pz_ctk (l := ct_X11_link) (P := fun b i k => b = false → (pz_cS 2 43 RX11 i k ∨ (k = pz_kac ∧ 1 ≤ 2 ∧ 60 ≤ 43 ∧ Cond.methodLink RX11 i arraycopyName ∈ pz_tbl))) (List.forall_mem_cons.mpr ⟨(fun _ => Or.inl (s_X11_canHave (by decide) (by decide) (Or.inl pz_wq422))), List.forall_mem_cons.mpr ⟨((fun z => by cases z)), List.forall_mem_cons.mpr ⟨((fun z => by cases z)), List.forall_mem_cons.mpr ⟨((fun z => by cases z)), List.forall_mem_cons.mpr ⟨((fun z => by cases z)), fun _ h => absurd h List.not_mem_nil⟩⟩⟩⟩⟩) false i k' h rfl
  · intro a M hlen hpre
    obtain ⟨th, p, q, w, s, rfl, hpre⟩ : ∃ th p q w s, a = [.inr (.inr (11, th)), .inl p, .inl q, .inl w, .inl s] ∧ (pz_ic M) := by
      have hpre : (match (generalizing := false) a with | [.inr (.inr (11, th)), .inl p, .inl q, .inl w, .inl s] => pz_ic M | _ => False) := hpre
      split at hpre
      · exact ⟨_, _, _, _, _, rfl, hpre⟩
      · exact hpre.elim
    exact Nat.le_of_ble_eq_true rfl
  · intro a M hlen hcan hM hpre Ok hgo
    obtain ⟨th, p, q, w, s, rfl, hpre⟩ : ∃ th p q w s, a = [.inr (.inr (11, th)), .inl p, .inl q, .inl w, .inl s] ∧ (pz_ic M) := by
      have hpre : (match (generalizing := false) a with | [.inr (.inr (11, th)), .inl p, .inl q, .inl w, .inl s] => pz_ic M | _ => False) := hpre
      split at hpre
      · exact ⟨_, _, _, _, _, rfl, hpre⟩
      · exact hpre.elim
    obtain ⟨k_th, hc_th⟩ := pz_tlm hcan
    have k_th : pz_kd th = 11 ∧ th < 231 := k_th
    have R_th := pz_kd11 k_th.1
    subst R_th
    obtain ⟨k_p, hc_p⟩ := pz_tlm hc_th
    have l_p : -2147483648 ≤ p := k_p.1
    have u_p : p ≤ 2147483647 := k_p.2
    obtain ⟨k_q, hc_q⟩ := pz_tlm hc_p
    have l_q : -2147483648 ≤ q := k_q.1
    have u_q : q ≤ 2147483647 := k_q.2
    obtain ⟨k_w, hc_w⟩ := pz_tlm hc_q
    have l_w : -2147483648 ≤ w := k_w.1
    have u_w : w ≤ 2147483647 := k_w.2
    obtain ⟨k_s, hc_s⟩ := pz_tlm hc_w
    have l_s : -2147483648 ≤ s := k_s.1
    have u_s : s ≤ 2147483647 := k_s.2
    have hI : pz_ic M := hpre
    have hI0 := hI
    have hS : pz_rt M M := pz_rt.rf
    refine hgo (fun _ => false) 57 0 _ [] M ?_
    refine pz_nrc (c := 71) rfl ?_
    intro v4 e4 a4 b4
    have I4 := hI.1 71 (by first | decide | omega) (by first | decide | omega)
    refine And.intro (fun h9 => ?_) (fun h9 => ?_)
    · skip
      refine And.intro rfl ?_
      exact ⟨Or.inr ⟨by omega, rfl, rfl⟩, hS⟩
    · skip
      refine And.intro (True.intro) ?_
      intro v14 M14 a14 b14 q14
      obtain ⟨q14, z14⟩ := q14
      subst z14
      refine And.intro (fun h17 => ?_) (fun h17 => ?_)
      · skip
        refine And.intro rfl ?_
        exact ⟨Or.inr ⟨by omega, rfl, rfl⟩, hS⟩
      · skip
        refine And.intro (True.intro) ?_
        intro v22 M22 a22 b22 q22
        obtain ⟨q22, z22⟩ := q22
        subst z22
        refine And.intro (fun h25 => ?_) (fun h25 => ?_)
        · skip
          refine And.intro rfl ?_
          exact ⟨Or.inr ⟨by omega, rfl, rfl⟩, hS⟩
        · skip
          refine And.intro (True.intro) ?_
          intro v30 M30 a30 b30 q30
          obtain ⟨q30, z30⟩ := q30
          subst z30
          refine And.intro (fun h33 => ?_) (fun h33 => ?_)
          · skip
            refine And.intro rfl ?_
            exact ⟨Or.inr ⟨by omega, rfl, rfl⟩, hS⟩
          · skip
            refine And.intro (True.intro) ?_
            intro v39 M39 a39 b39 q39
            obtain ⟨q39, z39⟩ := q39
            subst z39
            refine And.intro (fun h42 => ?_) (fun h42 => ?_)
            · skip
              refine pz_nrc (c := 71) rfl ?_
              refine pz_nrc (c := 71) rfl ?_
              intro v55 e55 a55 b55
              have I55 := hI.1 71 (by first | decide | omega) (by first | decide | omega)
              refine And.intro (True.intro) ?_
              intro r58 M58 k58 q58
              have R58 := pz_kd5 k58
              obtain ⟨q58, z58⟩ := q58
              subst z58
              have Z58 : r58 = 89 + (M 71 3).toNat := by
                rw [if_pos (by first | decide | omega)] at q58
                rw [q58, pz_rf_l (by first | decide | omega) (by first | decide | omega), e55]
                rfl
              refine And.intro (hI) ?_
              intro M70 q70
              obtain ⟨q70, z70⟩ := q70
              have hS : pz_rt M M70 := hS.tr z70
              have hI : pz_ic M70 := hS hI0
              refine pz_nrc (c := 71) rfl ?_
              intro v78 e78 a78 b78
              have I78 := hI.1 71 (by first | decide | omega) (by first | decide | omega)
              have Z78 : v78 = M 71 3 := by
                rw [e78, q70]
                exact pz_mkl_o (by first | decide | omega)
              intro v82 e82 a82 b82
              try rw [pz_wi (by first | decide | omega) (by first | decide | omega)] at e82
              intro M83 e83
              have hS : pz_rt M M83 := by
                rw [e83]
                exact pz_rt_u hS (by unfold pz_iok; first | decide | omega)
              have hI : pz_ic M83 := hS hI0
              refine pz_nrc (c := 3) rfl ?_
              refine And.intro (hI) ?_
              intro M90 q90
              obtain ⟨q90, z90⟩ := q90
              have hS : pz_rt M M90 := hS.tr z90.rt
              have hI : pz_ic M90 := hS hI0
              refine pz_nrc (c := 7) rfl ?_
              refine And.intro (hI) ?_
              intro M97 q97
              obtain ⟨q97, z97⟩ := q97
              have hS : pz_rt M M97 := hS.tr z97.rt
              have hI : pz_ic M97 := hS hI0
              refine pz_nrc (c := 71) rfl ?_
              intro v104 e104 a104 b104
              have I104 := hI.1 71 (by first | decide | omega) (by first | decide | omega)
              intro v108 e108 a108 b108
              try rw [pz_wi (by first | decide | omega) (by first | decide | omega)] at e108
              refine And.intro rfl ?_
              have Z90 : v104 = v82 := by
                rw [e104, q97, pz_una (by decide), q90, pz_una (by decide), e83]
                exact pz_uu
              have F9 : M97 = pz_lkf p q w s M := by
                rw [q97, q90, e83, q70, e82, Z78, Z58]
                rfl
              exact ⟨Or.inl ⟨by omega, by omega, F9⟩, hS⟩
            · skip
              refine And.intro rfl ?_
              exact ⟨Or.inr ⟨by omega, rfl, rfl⟩, hS⟩
theorem v_X11_link {fr lo i : Nat} {own : String} (h1 : 2 + 1 ≤ fr) (h2 : 8 + (6 + 11) + 43 ≤ lo) (h3 : .methodLink own i yX11_link ∈ lw_tbl) : pz_cV fr lo own i k_X11_link :=
  pz_cVk (maxL := 6) (fr' := 2) (lo' := 43) 4 11 h_X11_link rfl ⟨(pz_nhc_RX11 yX11_link rfl).1, (pz_nhc_RX11 yX11_link rfl).2, pz_ds18⟩ ⟨pz_wq421, pz_wq419, pz_wq420, pz_wq1⟩ (Or.inl ⟨TX11, 14, rfl⟩) (fun a M _ h => by
    have h : (match (generalizing := false) a with | [.inr (.inr (11, th)), .inl p, .inl q, .inl w, .inl s] => pz_ic M | _ => False) := h
    split at h
    · exact ⟨_, _, rfl⟩
    · exact h.elim) h1 h2 h3
noncomputable def k_X11_set : pz_C := (4, 1, fun a M => (match a with | [.inr (.inr (11, th)), .inl w, .inl i, .inl n] => pz_ic M | _ => False), fun a M r M' => (match a, r with | [.inr (.inr (11, th)), .inl w, .inl i, .inl n], some (.inl v) => ((((0 ≤ i ∧ i < M 71 3) ∧ ((w = 0 ∧ 1 ≤ n ∧ n ≤ 999) ∨ (w = 1 ∧ -9999 ≤ n ∧ n ≤ 9999) ∨ (w = 2 ∧ -999 ≤ n ∧ n ≤ 999) ∨ (w = 3 ∧ 0 ≤ n ∧ n ≤ 9) ∨ (w = 4 ∧ 0 ≤ n ∧ n ≤ 1))) ∧ v = 1 ∧ M' = pz_u (pz_u M (89 + i.toNat) w.toNat n) 3 2 0) ∨ (¬ ((0 ≤ i ∧ i < M 71 3) ∧ ((w = 0 ∧ 1 ≤ n ∧ n ≤ 999) ∨ (w = 1 ∧ -9999 ≤ n ∧ n ≤ 9999) ∨ (w = 2 ∧ -999 ≤ n ∧ n ≤ 999) ∨ (w = 3 ∧ 0 ≤ n ∧ n ≤ 9) ∨ (w = 4 ∧ 0 ≤ n ∧ n ≤ 1))) ∧ v = 0 ∧ M' = M)) ∧ pz_rt M M' | _, _ => False))
noncomputable abbrev ct_X11_set : List (Bool × Nat × pz_C) := [(true, 118, k_X0_has), (false, 103, k_X11_canHave), (true, 107, k_X0_at), (true, 97, k_X2_forgetAll)]
set_option maxRecDepth 100000 in
set_option maxHeartbeats 4000000 in
theorem h_X11_set : pz_H yX11_set cX11_set 5 (some .boolean) k_X11_set 2 43 := by
  refine pz_mk (own := RX11) (tb := t_X11_set) (fl := pz_flf fl_RX11) (ci := pz_cif ci_RX11) (ct := pz_ctf ct_X11_set) (rz := true) (pz_pfc_RX11 yX11_set rfl) rfl t_X11_set_ok (pz_flk fl_RX11_ok) (pz_cik ci_RX11_ok) ?_ ?_ (Or.inr ⟨rfl, rfl⟩) ?_ ?_
  · exact fun i k' h => pz_ctk (l := ct_X11_set) (P := fun b i k => b = true → pz_cV 2 43 RX11 i k) (List.forall_mem_cons.mpr ⟨(fun _ => v_X0_has (by decide) (by decide) pz_wq444), List.forall_mem_cons.mpr ⟨((fun z => by cases z)), List.forall_mem_cons.mpr ⟨(fun _ => v_X0_at (by decide) (by decide) pz_wq428), List.forall_mem_cons.mpr ⟨(fun _ => v_X2_forgetAll (by decide) (by decide) pz_wq414), fun _ h => absurd h List.not_mem_nil⟩⟩⟩⟩) true i k' h rfl
  · exact fun i k' h => pz_ctk (l := ct_X11_set) (P := fun b i k => b = false → (pz_cS 2 43 RX11 i k ∨ (k = pz_kac ∧ 1 ≤ 2 ∧ 60 ≤ 43 ∧ Cond.methodLink RX11 i arraycopyName ∈ pz_tbl))) (List.forall_mem_cons.mpr ⟨((fun z => by cases z)), List.forall_mem_cons.mpr ⟨(fun _ => Or.inl (s_X11_canHave (by decide) (by decide) (Or.inl pz_wq422))), List.forall_mem_cons.mpr ⟨((fun z => by cases z)), List.forall_mem_cons.mpr ⟨((fun z => by cases z)), fun _ h => absurd h List.not_mem_nil⟩⟩⟩⟩) false i k' h rfl
  · intro a M hlen hpre
    obtain ⟨th, w, i, n, rfl, hpre⟩ : ∃ th w i n, a = [.inr (.inr (11, th)), .inl w, .inl i, .inl n] ∧ (pz_ic M) := by
      have hpre : (match (generalizing := false) a with | [.inr (.inr (11, th)), .inl w, .inl i, .inl n] => pz_ic M | _ => False) := hpre
      split at hpre
      · exact ⟨_, _, _, _, rfl, hpre⟩
      · exact hpre.elim
    exact Nat.le_of_ble_eq_true rfl
  · intro a M hlen hcan hM hpre Ok hgo
    obtain ⟨th, w, i, n, rfl, hpre⟩ : ∃ th w i n, a = [.inr (.inr (11, th)), .inl w, .inl i, .inl n] ∧ (pz_ic M) := by
      have hpre : (match (generalizing := false) a with | [.inr (.inr (11, th)), .inl w, .inl i, .inl n] => pz_ic M | _ => False) := hpre
      split at hpre
      · exact ⟨_, _, _, _, rfl, hpre⟩
      · exact hpre.elim
    obtain ⟨k_th, hc_th⟩ := pz_tlm hcan
    have k_th : pz_kd th = 11 ∧ th < 231 := k_th
    have R_th := pz_kd11 k_th.1
    subst R_th
    obtain ⟨k_w, hc_w⟩ := pz_tlm hc_th
    have l_w : -2147483648 ≤ w := k_w.1
    have u_w : w ≤ 2147483647 := k_w.2
    obtain ⟨k_i, hc_i⟩ := pz_tlm hc_w
    have l_i : -2147483648 ≤ i := k_i.1
    have u_i : i ≤ 2147483647 := k_i.2
    obtain ⟨k_n, hc_n⟩ := pz_tlm hc_i
    have l_n : -2147483648 ≤ n := k_n.1
    have u_n : n ≤ 2147483647 := k_n.2
    have hI : pz_ic M := hpre
    have hI0 := hI
    have hS : pz_rt M M := pz_rt.rf
    refine hgo (fun _ => false) 44 0 _ [] M ?_
    refine pz_nrc (c := 71) rfl ?_
    refine And.intro (True.intro) ?_
    intro v5 M5 a5 b5 q5
    obtain ⟨q5, z5⟩ := q5
    subst z5
    refine And.intro (fun h8 => ?_) (fun h8 => ?_)
    · skip
      refine And.intro (by first | decide | omega) ?_
      refine And.intro rfl ?_
      exact ⟨Or.inr ⟨by first | omega | (split at q5 <;> omega), rfl, rfl⟩, hS⟩
    · skip
      refine And.intro (True.intro) ?_
      intro v13 M13 a13 b13 q13
      obtain ⟨q13, z13⟩ := q13
      subst z13
      refine And.intro (fun h16 => ?_) (fun h16 => ?_)
      · skip
        refine pz_nrc (c := 71) rfl ?_
        refine And.intro (True.intro) ?_
        intro r26 M26 k26 q26
        have R26 := pz_kd5 k26
        obtain ⟨q26, z26⟩ := q26
        subst z26
        have Z26 : r26 = 89 + i.toNat := by
          have := hI.1 71 (by first | decide | omega) (by first | decide | omega)
          split at q5
          · rw [if_pos (by first | decide | omega)] at q26
            rw [q26, pz_rf_l (by first | decide | omega) (by first | decide | omega)]
            rfl
          · omega
        refine And.intro ?_ ?_
        · skip
          refine And.intro (fun h32 => ?_) ?_
          · skip
            intro M67 e67
            have hS : pz_rt M M67 := by
              rw [e67]
              exact pz_rt_u hS (by unfold pz_iok; first | decide | omega)
            have hI : pz_ic M67 := hS hI0
            refine pz_nrc (c := 3) rfl ?_
            refine And.intro (hI) ?_
            intro M110 q110
            obtain ⟨q110, z110⟩ := q110
            have hS : pz_rt M M110 := hS.tr z110.rt
            have hI : pz_ic M110 := hS hI0
            refine And.intro (by first | decide | omega) ?_
            refine And.intro rfl ?_
            first
              | (have Z9 : w.toNat = 0 := by omega
                 have Z8 : M110 = pz_u (pz_u M (89 + i.toNat) w.toNat n) 3 2 0 := by rw [q110, e67, Z26, Z9]
                 exact ⟨Or.inl ⟨by split at q5 <;> omega, rfl, Z8⟩, hS⟩)
              | (have Z9 : w.toNat = 1 := by omega
                 have Z8 : M110 = pz_u (pz_u M (89 + i.toNat) w.toNat n) 3 2 0 := by rw [q110, e76, Z26, Z9]
                 exact ⟨Or.inl ⟨by split at q5 <;> omega, rfl, Z8⟩, hS⟩)
              | (have Z9 : w.toNat = 2 := by omega
                 have Z8 : M110 = pz_u (pz_u M (89 + i.toNat) w.toNat n) 3 2 0 := by rw [q110, e85, Z26, Z9]
                 exact ⟨Or.inl ⟨by split at q5 <;> omega, rfl, Z8⟩, hS⟩)
              | (have Z9 : w.toNat = 3 := by omega
                 have Z8 : M110 = pz_u (pz_u M (89 + i.toNat) w.toNat n) 3 2 0 := by rw [q110, e94, Z26, Z9]
                 exact ⟨Or.inl ⟨by split at q5 <;> omega, rfl, Z8⟩, hS⟩)
              | (have Z9 : w.toNat = 4 := by omega
                 have Z8 : M110 = pz_u (pz_u M (89 + i.toNat) w.toNat n) 3 2 0 := by rw [q110, e103, Z26, Z9]
                 exact ⟨Or.inl ⟨by split at q5 <;> omega, rfl, Z8⟩, hS⟩)
          refine And.intro (fun h32 => ?_) ?_
          · skip
            intro M76 e76
            have hS : pz_rt M M76 := by
              rw [e76]
              exact pz_rt_u hS (by unfold pz_iok; first | decide | omega)
            have hI : pz_ic M76 := hS hI0
            refine pz_nrc (c := 3) rfl ?_
            refine And.intro (hI) ?_
            intro M110 q110
            obtain ⟨q110, z110⟩ := q110
            have hS : pz_rt M M110 := hS.tr z110.rt
            have hI : pz_ic M110 := hS hI0
            refine And.intro (by first | decide | omega) ?_
            refine And.intro rfl ?_
            first
              | (have Z9 : w.toNat = 0 := by omega
                 have Z8 : M110 = pz_u (pz_u M (89 + i.toNat) w.toNat n) 3 2 0 := by rw [q110, e67, Z26, Z9]
                 exact ⟨Or.inl ⟨by split at q5 <;> omega, rfl, Z8⟩, hS⟩)
              | (have Z9 : w.toNat = 1 := by omega
                 have Z8 : M110 = pz_u (pz_u M (89 + i.toNat) w.toNat n) 3 2 0 := by rw [q110, e76, Z26, Z9]
                 exact ⟨Or.inl ⟨by split at q5 <;> omega, rfl, Z8⟩, hS⟩)
              | (have Z9 : w.toNat = 2 := by omega
                 have Z8 : M110 = pz_u (pz_u M (89 + i.toNat) w.toNat n) 3 2 0 := by rw [q110, e85, Z26, Z9]
                 exact ⟨Or.inl ⟨by split at q5 <;> omega, rfl, Z8⟩, hS⟩)
              | (have Z9 : w.toNat = 3 := by omega
                 have Z8 : M110 = pz_u (pz_u M (89 + i.toNat) w.toNat n) 3 2 0 := by rw [q110, e94, Z26, Z9]
                 exact ⟨Or.inl ⟨by split at q5 <;> omega, rfl, Z8⟩, hS⟩)
              | (have Z9 : w.toNat = 4 := by omega
                 have Z8 : M110 = pz_u (pz_u M (89 + i.toNat) w.toNat n) 3 2 0 := by rw [q110, e103, Z26, Z9]
                 exact ⟨Or.inl ⟨by split at q5 <;> omega, rfl, Z8⟩, hS⟩)
          refine And.intro (fun h32 => ?_) ?_
          · skip
            intro M85 e85
            have hS : pz_rt M M85 := by
              rw [e85]
              exact pz_rt_u hS (by unfold pz_iok; first | decide | omega)
            have hI : pz_ic M85 := hS hI0
            refine pz_nrc (c := 3) rfl ?_
            refine And.intro (hI) ?_
            intro M110 q110
            obtain ⟨q110, z110⟩ := q110
            have hS : pz_rt M M110 := hS.tr z110.rt
            have hI : pz_ic M110 := hS hI0
            refine And.intro (by first | decide | omega) ?_
            refine And.intro rfl ?_
            first
              | (have Z9 : w.toNat = 0 := by omega
                 have Z8 : M110 = pz_u (pz_u M (89 + i.toNat) w.toNat n) 3 2 0 := by rw [q110, e67, Z26, Z9]
                 exact ⟨Or.inl ⟨by split at q5 <;> omega, rfl, Z8⟩, hS⟩)
              | (have Z9 : w.toNat = 1 := by omega
                 have Z8 : M110 = pz_u (pz_u M (89 + i.toNat) w.toNat n) 3 2 0 := by rw [q110, e76, Z26, Z9]
                 exact ⟨Or.inl ⟨by split at q5 <;> omega, rfl, Z8⟩, hS⟩)
              | (have Z9 : w.toNat = 2 := by omega
                 have Z8 : M110 = pz_u (pz_u M (89 + i.toNat) w.toNat n) 3 2 0 := by rw [q110, e85, Z26, Z9]
                 exact ⟨Or.inl ⟨by split at q5 <;> omega, rfl, Z8⟩, hS⟩)
              | (have Z9 : w.toNat = 3 := by omega
                 have Z8 : M110 = pz_u (pz_u M (89 + i.toNat) w.toNat n) 3 2 0 := by rw [q110, e94, Z26, Z9]
                 exact ⟨Or.inl ⟨by split at q5 <;> omega, rfl, Z8⟩, hS⟩)
              | (have Z9 : w.toNat = 4 := by omega
                 have Z8 : M110 = pz_u (pz_u M (89 + i.toNat) w.toNat n) 3 2 0 := by rw [q110, e103, Z26, Z9]
                 exact ⟨Or.inl ⟨by split at q5 <;> omega, rfl, Z8⟩, hS⟩)
          refine And.intro (fun h32 => ?_) ?_
          · skip
            intro M94 e94
            have hS : pz_rt M M94 := by
              rw [e94]
              exact pz_rt_u hS (by unfold pz_iok; first | decide | omega)
            have hI : pz_ic M94 := hS hI0
            refine pz_nrc (c := 3) rfl ?_
            refine And.intro (hI) ?_
            intro M110 q110
            obtain ⟨q110, z110⟩ := q110
            have hS : pz_rt M M110 := hS.tr z110.rt
            have hI : pz_ic M110 := hS hI0
            refine And.intro (by first | decide | omega) ?_
            refine And.intro rfl ?_
            first
              | (have Z9 : w.toNat = 0 := by omega
                 have Z8 : M110 = pz_u (pz_u M (89 + i.toNat) w.toNat n) 3 2 0 := by rw [q110, e67, Z26, Z9]
                 exact ⟨Or.inl ⟨by split at q5 <;> omega, rfl, Z8⟩, hS⟩)
              | (have Z9 : w.toNat = 1 := by omega
                 have Z8 : M110 = pz_u (pz_u M (89 + i.toNat) w.toNat n) 3 2 0 := by rw [q110, e76, Z26, Z9]
                 exact ⟨Or.inl ⟨by split at q5 <;> omega, rfl, Z8⟩, hS⟩)
              | (have Z9 : w.toNat = 2 := by omega
                 have Z8 : M110 = pz_u (pz_u M (89 + i.toNat) w.toNat n) 3 2 0 := by rw [q110, e85, Z26, Z9]
                 exact ⟨Or.inl ⟨by split at q5 <;> omega, rfl, Z8⟩, hS⟩)
              | (have Z9 : w.toNat = 3 := by omega
                 have Z8 : M110 = pz_u (pz_u M (89 + i.toNat) w.toNat n) 3 2 0 := by rw [q110, e94, Z26, Z9]
                 exact ⟨Or.inl ⟨by split at q5 <;> omega, rfl, Z8⟩, hS⟩)
              | (have Z9 : w.toNat = 4 := by omega
                 have Z8 : M110 = pz_u (pz_u M (89 + i.toNat) w.toNat n) 3 2 0 := by rw [q110, e103, Z26, Z9]
                 exact ⟨Or.inl ⟨by split at q5 <;> omega, rfl, Z8⟩, hS⟩)
          exact True.intro
        · intro h32
          intro M103 e103
          have hS : pz_rt M M103 := by
            rw [e103]
            exact pz_rt_u hS (by unfold pz_iok; first | decide | omega)
          have hI : pz_ic M103 := hS hI0
          refine pz_nrc (c := 3) rfl ?_
          refine And.intro (hI) ?_
          intro M110 q110
          obtain ⟨q110, z110⟩ := q110
          have hS : pz_rt M M110 := hS.tr z110.rt
          have hI : pz_ic M110 := hS hI0
          refine And.intro (by first | decide | omega) ?_
          refine And.intro rfl ?_
          first
            | (have Z9 : w.toNat = 0 := by omega
               have Z8 : M110 = pz_u (pz_u M (89 + i.toNat) w.toNat n) 3 2 0 := by rw [q110, e67, Z26, Z9]
               exact ⟨Or.inl ⟨by split at q5 <;> omega, rfl, Z8⟩, hS⟩)
            | (have Z9 : w.toNat = 1 := by omega
               have Z8 : M110 = pz_u (pz_u M (89 + i.toNat) w.toNat n) 3 2 0 := by rw [q110, e76, Z26, Z9]
               exact ⟨Or.inl ⟨by split at q5 <;> omega, rfl, Z8⟩, hS⟩)
            | (have Z9 : w.toNat = 2 := by omega
               have Z8 : M110 = pz_u (pz_u M (89 + i.toNat) w.toNat n) 3 2 0 := by rw [q110, e85, Z26, Z9]
               exact ⟨Or.inl ⟨by split at q5 <;> omega, rfl, Z8⟩, hS⟩)
            | (have Z9 : w.toNat = 3 := by omega
               have Z8 : M110 = pz_u (pz_u M (89 + i.toNat) w.toNat n) 3 2 0 := by rw [q110, e94, Z26, Z9]
               exact ⟨Or.inl ⟨by split at q5 <;> omega, rfl, Z8⟩, hS⟩)
            | (have Z9 : w.toNat = 4 := by omega
               have Z8 : M110 = pz_u (pz_u M (89 + i.toNat) w.toNat n) 3 2 0 := by rw [q110, e103, Z26, Z9]
               exact ⟨Or.inl ⟨by split at q5 <;> omega, rfl, Z8⟩, hS⟩)
      · skip
        refine And.intro (by first | decide | omega) ?_
        refine And.intro rfl ?_
        exact ⟨Or.inr ⟨by first | omega | (split at q5 <;> omega), rfl, rfl⟩, hS⟩
theorem v_X11_set {fr lo i : Nat} {own : String} (h1 : 2 + 1 ≤ fr) (h2 : 8 + (5 + 11) + 43 ≤ lo) (h3 : .methodLink own i yX11_set ∈ lw_tbl) : pz_cV fr lo own i k_X11_set :=
  pz_cVk (maxL := 5) (fr' := 2) (lo' := 43) 3 11 h_X11_set rfl ⟨(pz_nhc_RX11 yX11_set rfl).1, (pz_nhc_RX11 yX11_set rfl).2, pz_ds17⟩ ⟨pz_wq443, pz_wq441, pz_wq442, pz_wq1⟩ (Or.inl ⟨TX11, 14, rfl⟩) (fun a M _ h => by
    have h : (match (generalizing := false) a with | [.inr (.inr (11, th)), .inl w, .inl i, .inl n] => pz_ic M | _ => False) := h
    split at h
    · exact ⟨_, _, rfl⟩
    · exact h.elim) h1 h2 h3






noncomputable def k_X11_fault : pz_C := (2, 1, fun a M => (match a with | [.inr (.inr (11, th)), .inl i] => pz_ic M | _ => False), fun a M r M' => (match a, r with | [.inr (.inr (11, th)), .inl i], some (.inl v) => ((i = 0 → v = M 5 3) ∧ (i = 1 → v = M 5 4) ∧ (¬ (i = 0 ∨ i = 1) → v = -1)) ∧ M = M' | _, _ => False))
noncomputable abbrev ct_X11_fault : List (Bool × Nat × pz_C) := []
set_option maxRecDepth 100000 in
set_option maxHeartbeats 4000000 in
theorem h_X11_fault : pz_H yX11_fault cX11_fault 2 (some .int) k_X11_fault 0 0 := by
  refine pz_mk (own := RX11) (tb := t_X11_fault) (fl := pz_flf fl_RX11) (ci := pz_cif ci_RX11) (ct := pz_ctf ct_X11_fault) (rz := false) (pz_pfc_RX11 yX11_fault rfl) rfl t_X11_fault_ok (pz_flk fl_RX11_ok) (pz_cik ci_RX11_ok) ?_ ?_ (Or.inl ⟨rfl, rfl⟩) ?_ ?_
  · exact fun i k' h => pz_ctk (l := ct_X11_fault) (P := fun b i k => b = true → pz_cV 0 0 RX11 i k) (fun _ h => absurd h List.not_mem_nil) true i k' h rfl
  · exact fun i k' h => pz_ctk (l := ct_X11_fault) (P := fun b i k => b = false → (pz_cS 0 0 RX11 i k ∨ (k = pz_kac ∧ 1 ≤ 0 ∧ 60 ≤ 0 ∧ Cond.methodLink RX11 i arraycopyName ∈ pz_tbl))) (fun _ h => absurd h List.not_mem_nil) false i k' h rfl
  · intro a M hlen hpre
    obtain ⟨th, i, rfl, hpre⟩ : ∃ th i, a = [.inr (.inr (11, th)), .inl i] ∧ (pz_ic M) := by
      have hpre : (match (generalizing := false) a with | [.inr (.inr (11, th)), .inl i] => pz_ic M | _ => False) := hpre
      split at hpre
      · exact ⟨_, _, rfl, hpre⟩
      · exact hpre.elim
    exact Nat.le_of_ble_eq_true rfl
  · intro a M hlen hcan hM hpre Ok hgo
    obtain ⟨th, i, rfl, hpre⟩ : ∃ th i, a = [.inr (.inr (11, th)), .inl i] ∧ (pz_ic M) := by
      have hpre : (match (generalizing := false) a with | [.inr (.inr (11, th)), .inl i] => pz_ic M | _ => False) := hpre
      split at hpre
      · exact ⟨_, _, rfl, hpre⟩
      · exact hpre.elim
    obtain ⟨k_th, hc_th⟩ := pz_tlm hcan
    have k_th : pz_kd th = 11 ∧ th < 231 := k_th
    have R_th := pz_kd11 k_th.1
    subst R_th
    obtain ⟨k_i, hc_i⟩ := pz_tlm hc_th
    have l_i : -2147483648 ≤ i := k_i.1
    have u_i : i ≤ 2147483647 := k_i.2
    have hI : pz_ic M := hpre
    refine hgo (fun _ => false) 14 0 _ [] M ?_
    refine And.intro ?_ ?_
    · skip
      refine And.intro (fun h1 => ?_) ?_
      · skip
        refine pz_nrc (c := 5) rfl ?_
        intro v32 e32 a32 b32
        refine And.intro rfl ?_
        exact ⟨by omega, rfl⟩
      refine And.intro (fun h1 => ?_) ?_
      · skip
        refine pz_nrc (c := 5) rfl ?_
        intro v40 e40 a40 b40
        refine And.intro rfl ?_
        exact ⟨by omega, rfl⟩
      exact True.intro
    · intro h1_0 h1_1
      refine And.intro rfl ?_
      exact ⟨by omega, rfl⟩
theorem v_X11_fault {fr lo i : Nat} {own : String} (h1 : 0 + 1 ≤ fr) (h2 : 8 + (2 + 11) + 0 ≤ lo) (h3 : .methodLink own i yX11_fault ∈ lw_tbl) : pz_cV fr lo own i k_X11_fault :=
  pz_cVk (maxL := 2) (fr' := 0) (lo' := 0) 1 11 h_X11_fault rfl ⟨(pz_nhc_RX11 yX11_fault rfl).1, (pz_nhc_RX11 yX11_fault rfl).2, pz_ds5⟩ ⟨pz_wq832, pz_wq830, pz_wq831, pz_wq1⟩ (Or.inl ⟨TX11, 14, rfl⟩) (fun a M _ h => by
    have h : (match (generalizing := false) a with | [.inr (.inr (11, th)), .inl i] => pz_ic M | _ => False) := h
    split at h
    · exact ⟨_, _, rfl⟩
    · exact h.elim) h1 h2 h3

noncomputable def k_X11_phone : pz_C := (3, 1, fun a M => (match a with | [.inr (.inr (11, th)), .inl i, .inl w] => pz_ic M | _ => False), fun a M r M' => (match a, r with | [.inr (.inr (11, th)), .inl i, .inl w], some (.inl v) => (pz_pn1 M i w v) ∧ M = M' | _, _ => False))
noncomputable abbrev ct_X11_phone : List (Bool × Nat × pz_C) := [(true, 118, k_X0_has), (true, 225, k_X10_phoneFrom), (true, 228, k_X10_phoneTo), (true, 231, k_X10_recordsOf)]
set_option maxRecDepth 100000 in
set_option maxHeartbeats 4000000 in
theorem h_X11_phone : pz_H yX11_phone cX11_phone 3 (some .int) k_X11_phone 3 66 := by
  refine pz_mk (own := RX11) (tb := t_X11_phone) (fl := pz_flf fl_RX11) (ci := pz_cif ci_RX11) (ct := pz_ctf ct_X11_phone) (rz := false) (pz_pfc_RX11 yX11_phone rfl) rfl t_X11_phone_ok (pz_flk fl_RX11_ok) (pz_cik ci_RX11_ok) ?_ ?_ (Or.inl ⟨rfl, rfl⟩) ?_ ?_
  · exact fun i k' h => pz_ctk (l := ct_X11_phone) (P := fun b i k => b = true → pz_cV 3 66 RX11 i k) (List.forall_mem_cons.mpr ⟨(fun _ => v_X0_has (by decide) (by decide) pz_wq444), List.forall_mem_cons.mpr ⟨(fun _ => v_X10_phoneFrom (by decide) (by decide) pz_wq845), List.forall_mem_cons.mpr ⟨(fun _ => v_X10_phoneTo (by decide) (by decide) pz_wq854), List.forall_mem_cons.mpr ⟨(fun _ => v_X10_recordsOf (by decide) (by decide) pz_wq858), fun _ h => absurd h List.not_mem_nil⟩⟩⟩⟩) true i k' h rfl
  · exact fun i k' h => pz_ctk (l := ct_X11_phone) (P := fun b i k => b = false → (pz_cS 3 66 RX11 i k ∨ (k = pz_kac ∧ 1 ≤ 3 ∧ 60 ≤ 66 ∧ Cond.methodLink RX11 i arraycopyName ∈ pz_tbl))) (List.forall_mem_cons.mpr ⟨((fun z => by cases z)), List.forall_mem_cons.mpr ⟨((fun z => by cases z)), List.forall_mem_cons.mpr ⟨((fun z => by cases z)), List.forall_mem_cons.mpr ⟨((fun z => by cases z)), fun _ h => absurd h List.not_mem_nil⟩⟩⟩⟩) false i k' h rfl
  · intro a M hlen hpre
    obtain ⟨th, i, w, rfl, hpre⟩ : ∃ th i w, a = [.inr (.inr (11, th)), .inl i, .inl w] ∧ (pz_ic M) := by
      have hpre : (match (generalizing := false) a with | [.inr (.inr (11, th)), .inl i, .inl w] => pz_ic M | _ => False) := hpre
      split at hpre
      · exact ⟨_, _, _, rfl, hpre⟩
      · exact hpre.elim
    exact Nat.le_of_ble_eq_true rfl
  · intro a M hlen hcan hM hpre Ok hgo
    obtain ⟨th, i, w, rfl, hpre⟩ : ∃ th i w, a = [.inr (.inr (11, th)), .inl i, .inl w] ∧ (pz_ic M) := by
      have hpre : (match (generalizing := false) a with | [.inr (.inr (11, th)), .inl i, .inl w] => pz_ic M | _ => False) := hpre
      split at hpre
      · exact ⟨_, _, _, rfl, hpre⟩
      · exact hpre.elim
    obtain ⟨k_th, hc_th⟩ := pz_tlm hcan
    have k_th : pz_kd th = 11 ∧ th < 231 := k_th
    have R_th := pz_kd11 k_th.1
    subst R_th
    obtain ⟨k_i, hc_i⟩ := pz_tlm hc_th
    have l_i : -2147483648 ≤ i := k_i.1
    have u_i : i ≤ 2147483647 := k_i.2
    obtain ⟨k_w, hc_w⟩ := pz_tlm hc_i
    have l_w : -2147483648 ≤ w := k_w.1
    have u_w : w ≤ 2147483647 := k_w.2
    have hI : pz_ic M := hpre
    refine hgo (fun _ => false) 28 0 _ [] M ?_
    refine pz_nrc (c := 71) rfl ?_
    refine And.intro (True.intro) ?_
    intro v5 M5 a5 b5 q5
    obtain ⟨q5, z5⟩ := q5
    subst z5
    refine And.intro (fun h8 => ?_) (fun h8 => ?_)
    · skip
      have q8 : 0 ≤ i ∧ i < M 71 3 := by
        split at q5
        · assumption
        · omega
      refine And.intro ?_ ?_
      · skip
        refine And.intro (fun h14 => ?_) ?_
        · skip
          refine pz_nrc (c := 8) rfl ?_
          refine And.intro (hI) ?_
          intro v45 M45 a45 b45 q45
          obtain ⟨q45, z45⟩ := q45
          subst z45
          refine And.intro rfl ?_
          exact ⟨⟨fun y => absurd ⟨by omega, by omega⟩ y, fun _ => ⟨fun _ => q45, fun y => absurd y (by first | decide | omega), fun y => absurd y (by first | decide | omega), fun y => absurd ⟨by omega, by omega⟩ y⟩⟩, rfl⟩
        refine And.intro (fun h14 => ?_) ?_
        · skip
          refine pz_nrc (c := 8) rfl ?_
          refine And.intro (hI) ?_
          intro v54 M54 a54 b54 q54
          obtain ⟨q54, z54⟩ := q54
          subst z54
          refine And.intro rfl ?_
          exact ⟨⟨fun y => absurd ⟨by omega, by omega⟩ y, fun _ => ⟨fun y => absurd y (by first | decide | omega), fun _ => q54, fun y => absurd y (by first | decide | omega), fun y => absurd ⟨by omega, by omega⟩ y⟩⟩, rfl⟩
        refine And.intro (fun h14 => ?_) ?_
        · skip
          refine pz_nrc (c := 8) rfl ?_
          refine And.intro (hI) ?_
          intro v63 M63 a63 b63 q63
          obtain ⟨q63, z63⟩ := q63
          subst z63
          refine And.intro rfl ?_
          exact ⟨⟨fun y => absurd ⟨by omega, by omega⟩ y, fun _ => ⟨fun y => absurd y (by first | decide | omega), fun y => absurd y (by first | decide | omega), fun _ => q63, fun y => absurd ⟨by omega, by omega⟩ y⟩⟩, rfl⟩
        exact True.intro
      · intro h14
        refine And.intro rfl ?_
        exact ⟨⟨fun y => absurd ⟨by omega, by omega⟩ y, fun _ => ⟨fun y => absurd y (by first | decide | omega), fun y => absurd y (by first | decide | omega), fun y => absurd y (by first | decide | omega), fun _ => rfl⟩⟩, rfl⟩
    · skip
      have q8 : ¬ (0 ≤ i ∧ i < M 71 3) := by
        split at q5
        · omega
        · assumption
      refine And.intro rfl ?_
      exact ⟨⟨fun _ => rfl, fun y => absurd y (by first | decide | omega)⟩, rfl⟩
theorem v_X11_phone {fr lo i : Nat} {own : String} (h1 : 3 + 1 ≤ fr) (h2 : 8 + (3 + 11) + 66 ≤ lo) (h3 : .methodLink own i yX11_phone ∈ lw_tbl) : pz_cV fr lo own i k_X11_phone :=
  pz_cVk (maxL := 3) (fr' := 3) (lo' := 66) 2 11 h_X11_phone rfl ⟨(pz_nhc_RX11 yX11_phone rfl).1, (pz_nhc_RX11 yX11_phone rfl).2, pz_ds10⟩ ⟨pz_wq844, pz_wq842, pz_wq843, pz_wq1⟩ (Or.inl ⟨TX11, 14, rfl⟩) (fun a M _ h => by
    have h : (match (generalizing := false) a with | [.inr (.inr (11, th)), .inl i, .inl w] => pz_ic M | _ => False) := h
    split at h
    · exact ⟨_, _, rfl⟩
    · exact h.elim) h1 h2 h3




noncomputable def k_X11_many : pz_C := (3, 1, fun a M => (match a with | [.inr (.inr (11, th)), .inl p, .inl d] => pz_ic M | _ => False), fun a M r M' => (match a, r with | [.inr (.inr (11, th)), .inl p, .inl d], some (.inl v) => (v = (if 0 ≤ p ∧ p ≤ 1000 ∧ 1 ≤ d ∧ d ≤ 60 then pz_mc (1000000 - pz_lf p d.toNat) 60 1000000 0 else -1)) ∧ M = M' | _, _ => False))
noncomputable abbrev ct_X11_many : List (Bool × Nat × pz_C) := [(false, 137, k_X11_within), (false, 267, k_X4_chance), (false, 272, k_X4_times)]
set_option maxRecDepth 100000 in
set_option maxHeartbeats 4000000 in
theorem h_X11_many : pz_H yX11_many cX11_many 6 (some .int) k_X11_many 3 65 := by
  refine pz_mk (own := RX11) (tb := t_X11_many) (fl := pz_flf fl_RX11) (ci := pz_cif ci_RX11) (ct := pz_ctf ct_X11_many) (rz := false) (pz_pfc_RX11 yX11_many rfl) rfl t_X11_many_ok (pz_flk fl_RX11_ok) (pz_cik ci_RX11_ok) ?_ ?_ (Or.inl ⟨rfl, rfl⟩) ?_ ?_
  · exact fun i k' h => pz_ctk (l := ct_X11_many) (P := fun b i k => b = true → pz_cV 3 65 RX11 i k) (List.forall_mem_cons.mpr ⟨((fun z => by cases z)), List.forall_mem_cons.mpr ⟨((fun z => by cases z)), List.forall_mem_cons.mpr ⟨((fun z => by cases z)), fun _ h => absurd h List.not_mem_nil⟩⟩⟩) true i k' h rfl
  · exact fun i k' h => pz_ctk (l := ct_X11_many) (P := fun b i k => b = false → (pz_cS 3 65 RX11 i k ∨ (k = pz_kac ∧ 1 ≤ 3 ∧ 60 ≤ 65 ∧ Cond.methodLink RX11 i arraycopyName ∈ pz_tbl))) (List.forall_mem_cons.mpr ⟨(fun _ => Or.inl (s_X11_within (by decide) (by decide) (Or.inl pz_wq425))), List.forall_mem_cons.mpr ⟨(fun _ => Or.inl (s_X4_chance (by decide) (by decide) (Or.inl pz_wq926))), List.forall_mem_cons.mpr ⟨(fun _ => Or.inl (s_X4_times (by decide) (by decide) (Or.inl pz_wq930))), fun _ h => absurd h List.not_mem_nil⟩⟩⟩) false i k' h rfl
  · intro a M hlen hpre
    obtain ⟨th, p, d, rfl, hpre⟩ : ∃ th p d, a = [.inr (.inr (11, th)), .inl p, .inl d] ∧ (pz_ic M) := by
      have hpre : (match (generalizing := false) a with | [.inr (.inr (11, th)), .inl p, .inl d] => pz_ic M | _ => False) := hpre
      split at hpre
      · exact ⟨_, _, _, rfl, hpre⟩
      · exact hpre.elim
    exact Nat.le_of_ble_eq_true rfl
  · intro a M hlen hcan hM hpre Ok hgo
    obtain ⟨th, p, d, rfl, hpre⟩ : ∃ th p d, a = [.inr (.inr (11, th)), .inl p, .inl d] ∧ (pz_ic M) := by
      have hpre : (match (generalizing := false) a with | [.inr (.inr (11, th)), .inl p, .inl d] => pz_ic M | _ => False) := hpre
      split at hpre
      · exact ⟨_, _, _, rfl, hpre⟩
      · exact hpre.elim
    obtain ⟨k_th, hc_th⟩ := pz_tlm hcan
    have k_th : pz_kd th = 11 ∧ th < 231 := k_th
    have R_th := pz_kd11 k_th.1
    subst R_th
    obtain ⟨k_p, hc_p⟩ := pz_tlm hc_th
    have l_p : -2147483648 ≤ p := k_p.1
    have u_p : p ≤ 2147483647 := k_p.2
    obtain ⟨k_d, hc_d⟩ := pz_tlm hc_p
    have l_d : -2147483648 ≤ d := k_d.1
    have u_d : d ≤ 2147483647 := k_d.2
    have hI : pz_ic M := hpre
    have L37 : ∀ (fu : Nat) (x3 : Int) (x4 : Int) (x5 : Int), (60 - x5).toNat < fu → (0 ≤ x5) → (x5 ≤ 60) → (0 ≤ p ∧ p ≤ 1000 ∧ 1 ≤ d ∧ d ≤ 60) → (x3 = 1000000 - pz_lf p d.toNat) → (0 ≤ x4 ∧ x4 ≤ 1000000) → (pz_mc x3 (60 - x5).toNat x4 x5 = pz_mc x3 60 1000000 0) → Ok 37 [some (.inr (.inr (11, 0))), some (.inl p), some (.inl d), some (.inl x3), some (.inl x4), some (.inl x5)] [] M := by
      intro fu
      induction fu with
      | zero => exact fun _ _ _ hn => absurd hn (Nat.not_lt_zero _)
      | succ fu ih37 =>
        intro x3 x4 x5 hn37 g37_0 g37_1 g37_2 g37_3 g37_4 g37_5
        have B37 := pz_lf_b g37_2.1 g37_2.2.1 d.toNat
        refine hgo (fun p => Nat.beq p 37) 38 37 _ _ _ ?_
        refine And.intro (fun h41 => ?_) (fun h41 => ?_)
        · skip
          refine And.intro rfl ?_
          refine ⟨?_, rfl⟩
          rw [if_pos g37_2, ← g37_3, ← g37_5, pz_mc0 (e := x3) (a := x4) (i := x5) (n := (60 - x5).toNat) (by first | decide | omega)]
          omega
        · skip
          refine And.intro (True.intro) ?_
          intro v47 M47 a47 b47 q47
          obtain ⟨q47, z47⟩ := q47
          subst z47
          have q47 := q47 (by first | decide | omega) (by first | decide | omega) (by first | decide | omega) (by first | decide | omega)
          have B47 := pz_m9 (x := x4) (y := x3) (a := 1000000) (b := 1000000) (by first | decide | omega) (by first | decide | omega) (by first | decide | omega) (by first | decide | omega)
          refine And.intro (fun h57 => ?_) (fun h57 => ?_)
          · skip
            intro v63 e63 a63 b63
            try rw [pz_wi (by first | decide | omega) (by first | decide | omega)] at e63
            have G63 : pz_mc x3 (60 - v63).toNat v47 v63 = pz_mc x3 60 1000000 0 := by
              rw [← g37_5, pz_mcS (n := (60 - x5).toNat) (m := (60 - v63).toNat) (by first | decide | omega) q47 (by first | decide | omega), e63]
            exact ih37 _ _ _ (by first | decide | omega) (by first | omega | assumption | rfl) (by first | omega | assumption | rfl) (by first | omega | assumption | rfl) (by first | omega | assumption | rfl) (by first | omega | assumption | rfl) (by first | omega | assumption | rfl)
          · skip
            refine And.intro rfl ?_
            refine ⟨?_, rfl⟩
            rw [if_pos g37_2, ← g37_3, ← g37_5, pz_mcR (n := (60 - x5).toNat) (m := (59 - x5).toNat) (by first | decide | omega) q47 (by first | decide | omega)]
    refine hgo (fun p => Nat.beq p 37) 38 0 _ [] M ?_
    refine And.intro (True.intro) ?_
    intro v5 M5 a5 b5 q5
    obtain ⟨q5, z5⟩ := q5
    subst z5
    refine And.intro (fun h8 => ?_) (fun h8 => ?_)
    · skip
      skip
      refine And.intro rfl ?_
      refine ⟨?_, rfl⟩
      rw [if_neg]
      intro z
      first
        | (split at q5 <;> split at q15 <;> omega)
        | (split at q5 <;> omega)
    · skip
      skip
      refine And.intro (True.intro) ?_
      intro v15 M15 a15 b15 q15
      obtain ⟨q15, z15⟩ := q15
      subst z15
      refine And.intro (fun h18 => ?_) (fun h18 => ?_)
      · skip
        refine And.intro (True.intro) ?_
        intro v25 M25 a25 b25 q25
        obtain ⟨q25, z25⟩ := q25
        subst z25
        have P25 : 0 ≤ p ∧ p ≤ 1000 ∧ 1 ≤ d ∧ d ≤ 60 := by
          clear hgo
          split at q5 <;> split at q15 <;> omega
        have q25 := q25 P25.1 P25.2.1 (by first | decide | omega)
        have B25 := pz_lf_b P25.1 P25.2.1 d.toNat
        exact L37 _ _ _ _ (Nat.lt_succ_self _) (by first | omega | assumption | rfl) (by first | omega | assumption | rfl) (by first | omega | assumption | rfl) (by first | omega | assumption | rfl) (by first | omega | assumption | rfl) (by first | omega | assumption | rfl)
      · skip
        refine And.intro rfl ?_
        refine ⟨?_, rfl⟩
        rw [if_neg]
        intro z
        first
          | (split at q5 <;> split at q15 <;> omega)
          | (split at q5 <;> omega)
theorem v_X11_many {fr lo i : Nat} {own : String} (h1 : 3 + 1 ≤ fr) (h2 : 8 + (6 + 11) + 65 ≤ lo) (h3 : .methodLink own i yX11_many ∈ lw_tbl) : pz_cV fr lo own i k_X11_many :=
  pz_cVk (maxL := 6) (fr' := 3) (lo' := 65) 2 11 h_X11_many rfl ⟨(pz_nhc_RX11 yX11_many rfl).1, (pz_nhc_RX11 yX11_many rfl).2, pz_ds10⟩ ⟨pz_wq925, pz_wq923, pz_wq924, pz_wq1⟩ (Or.inl ⟨TX11, 14, rfl⟩) (fun a M _ h => by
    have h : (match (generalizing := false) a with | [.inr (.inr (11, th)), .inl p, .inl d] => pz_ic M | _ => False) := h
    split at h
    · exact ⟨_, _, rfl⟩
    · exact h.elim) h1 h2 h3

noncomputable def k_X11_highestLevel : pz_C := (2, 1, fun a M => (match a with | [.inr (.inr (11, th)), .inl n] => pz_ic M | _ => False), fun a M r M' => (match a, r with | [.inr (.inr (11, th)), .inl n], some (.inl v) => (True) ∧ M = M' | _, _ => False))
noncomputable abbrev ct_X11_highestLevel : List (Bool × Nat × pz_C) := [(true, 283, k_X0_givenTo)]
set_option maxRecDepth 100000 in
set_option maxHeartbeats 4000000 in
theorem h_X11_highestLevel : pz_H yX11_highestLevel cX11_highestLevel 6 (some .int) k_X11_highestLevel 3 65 := by
  refine pz_mk (own := RX11) (tb := t_X11_highestLevel) (fl := pz_flf fl_RX11) (ci := pz_cif ci_RX11) (ct := pz_ctf ct_X11_highestLevel) (rz := false) (pz_pfc_RX11 yX11_highestLevel rfl) rfl t_X11_highestLevel_ok (pz_flk fl_RX11_ok) (pz_cik ci_RX11_ok) ?_ ?_ (Or.inl ⟨rfl, rfl⟩) ?_ ?_
  · exact fun i k' h => pz_ctk (l := ct_X11_highestLevel) (P := fun b i k => b = true → pz_cV 3 65 RX11 i k) (List.forall_mem_cons.mpr ⟨(fun _ => v_X0_givenTo (by decide) (by decide) pz_wq965), fun _ h => absurd h List.not_mem_nil⟩) true i k' h rfl
  · exact fun i k' h => pz_ctk (l := ct_X11_highestLevel) (P := fun b i k => b = false → (pz_cS 3 65 RX11 i k ∨ (k = pz_kac ∧ 1 ≤ 3 ∧ 60 ≤ 65 ∧ Cond.methodLink RX11 i arraycopyName ∈ pz_tbl))) (List.forall_mem_cons.mpr ⟨((fun z => by cases z)), fun _ h => absurd h List.not_mem_nil⟩) false i k' h rfl
  · intro a M hlen hpre
    obtain ⟨th, n, rfl, hpre⟩ : ∃ th n, a = [.inr (.inr (11, th)), .inl n] ∧ (pz_ic M) := by
      have hpre : (match (generalizing := false) a with | [.inr (.inr (11, th)), .inl n] => pz_ic M | _ => False) := hpre
      split at hpre
      · exact ⟨_, _, rfl, hpre⟩
      · exact hpre.elim
    exact Nat.le_of_ble_eq_true rfl
  · intro a M hlen hcan hM hpre Ok hgo
    obtain ⟨th, n, rfl, hpre⟩ : ∃ th n, a = [.inr (.inr (11, th)), .inl n] ∧ (pz_ic M) := by
      have hpre : (match (generalizing := false) a with | [.inr (.inr (11, th)), .inl n] => pz_ic M | _ => False) := hpre
      split at hpre
      · exact ⟨_, _, rfl, hpre⟩
      · exact hpre.elim
    obtain ⟨k_th, hc_th⟩ := pz_tlm hcan
    have k_th : pz_kd th = 11 ∧ th < 231 := k_th
    have R_th := pz_kd11 k_th.1
    subst R_th
    obtain ⟨k_n, hc_n⟩ := pz_tlm hc_th
    have l_n : -2147483648 ≤ n := k_n.1
    have u_n : n ≤ 2147483647 := k_n.2
    have hI : pz_ic M := hpre
    have L9 : ∀ (fu : Nat) (x2 : Int) (x3 : Int) (x4 : Int) (d5 : Option pz_V), (999 - x4).toNat < fu → (0 ≤ x4) → (0 ≤ x2) → (x2 ≤ 999) → (0 ≤ x3) → (x3 ≤ 999) → Ok 9 [some (.inr (.inr (11, 0))), some (.inl n), some (.inl x2), some (.inl x3), some (.inl x4), d5] [] M := by
      intro fu
      induction fu with
      | zero => exact fun _ _ _ _ hn => absurd hn (Nat.not_lt_zero _)
      | succ fu ih9 =>
        intro x2 x3 x4 d5 hn9 g9_0 g9_1 g9_2 g9_3 g9_4
        refine hgo (fun p => Nat.beq p 9) 39 9 _ _ _ ?_
        refine And.intro (fun h14 => ?_) (fun h14 => ?_)
        · skip
          refine And.intro rfl ?_
          exact ⟨trivial, rfl⟩
        · skip
          refine And.intro (fun h19 => ?_) (fun h19 => ?_)
          · skip
            refine And.intro rfl ?_
            exact ⟨trivial, rfl⟩
          · skip
            intro v24 e24 a24 b24
            try rw [pz_wi (by first | decide | omega) (by first | decide | omega)] at e24
            intro v26 e26 a26 b26
            try rw [pz_wi (by first | decide | omega) (by first | decide | omega)] at e26
            refine And.intro (by first | decide | omega) ?_
            intro v28 e28 a28 b28
            rw [Int.tdiv_eq_ediv_of_nonneg (by first | decide | omega)] at e28
            rw [pz_wi (by first | decide | omega) (by first | decide | omega)] at e28
            intro r32 e32 k32
            have R32 := pz_kd0 k32
            refine And.intro (hI) ?_
            intro v37 M37 a37 b37 q37
            obtain ⟨q37, z37⟩ := q37
            subst z37
            refine And.intro (fun h41 => ?_) (fun h41 => ?_)
            · skip
              intro v53 e53 a53 b53
              try rw [pz_wi (by first | decide | omega) (by first | decide | omega)] at e53
              intro v55 e55 a55 b55
              try rw [pz_wi (by first | decide | omega) (by first | decide | omega)] at e55
              exact ih9 _ _ _ _ (by first | decide | omega) (by first | decide | omega) (by first | decide | omega) (by first | decide | omega) (by first | decide | omega) (by first | decide | omega)
            · skip
              intro v55 e55 a55 b55
              try rw [pz_wi (by first | decide | omega) (by first | decide | omega)] at e55
              exact ih9 _ _ _ _ (by first | decide | omega) (by first | decide | omega) (by first | decide | omega) (by first | decide | omega) (by first | decide | omega) (by first | decide | omega)
    refine hgo (fun p => Nat.beq p 9) 39 0 _ [] M ?_
    exact L9 _ _ _ _ _ (Nat.lt_succ_self _) (by first | decide | omega) (by first | decide | omega) (by first | decide | omega) (by first | decide | omega) (by first | decide | omega)
theorem v_X11_highestLevel {fr lo i : Nat} {own : String} (h1 : 3 + 1 ≤ fr) (h2 : 8 + (6 + 11) + 65 ≤ lo) (h3 : .methodLink own i yX11_highestLevel ∈ lw_tbl) : pz_cV fr lo own i k_X11_highestLevel :=
  pz_cVk (maxL := 6) (fr' := 3) (lo' := 65) 1 11 h_X11_highestLevel rfl ⟨(pz_nhc_RX11 yX11_highestLevel rfl).1, (pz_nhc_RX11 yX11_highestLevel rfl).2, pz_ds5⟩ ⟨pz_wq977, pz_wq976, pz_ws2, pz_wq1⟩ (Or.inl ⟨TX11, 14, rfl⟩) (fun a M _ h => by
    have h : (match (generalizing := false) a with | [.inr (.inr (11, th)), .inl n] => pz_ic M | _ => False) := h
    split at h
    · exact ⟨_, _, rfl⟩
    · exact h.elim) h1 h2 h3
noncomputable def k_X11_share : pz_C := (3, 1, fun a M => (match a with | [.inr (.inr (11, th)), .inl n, .inl i] => pz_ic M | _ => False), fun a M r M' => (match a, r with | [.inr (.inr (11, th)), .inl n, .inl i], some (.inl v) => (True) ∧ M = M' | _, _ => False))
noncomputable abbrev ct_X11_share : List (Bool × Nat × pz_C) := [(false, 137, k_X11_within), (true, 118, k_X0_has), (true, 283, k_X0_givenTo), (true, 286, k_X11_highestLevel), (true, 289, k_X0_canGive), (false, 292, k_J9_min_7cf53)]
set_option maxRecDepth 100000 in
set_option maxHeartbeats 4000000 in
theorem h_X11_share : pz_H yX11_share cX11_share 6 (some .int) k_X11_share 4 90 := by
  refine pz_mk (own := RX11) (tb := t_X11_share) (fl := pz_flf fl_RX11) (ci := pz_cif ci_RX11) (ct := pz_ctf ct_X11_share) (rz := false) (pz_pfc_RX11 yX11_share rfl) rfl t_X11_share_ok (pz_flk fl_RX11_ok) (pz_cik ci_RX11_ok) ?_ ?_ (Or.inl ⟨rfl, rfl⟩) ?_ ?_
  · exact fun i k' h => pz_ctk (l := ct_X11_share) (P := fun b i k => b = true → pz_cV 4 90 RX11 i k) (List.forall_mem_cons.mpr ⟨((fun z => by cases z)), List.forall_mem_cons.mpr ⟨(fun _ => v_X0_has (by decide) (by decide) pz_wq444), List.forall_mem_cons.mpr ⟨(fun _ => v_X0_givenTo (by decide) (by decide) pz_wq965), List.forall_mem_cons.mpr ⟨(fun _ => v_X11_highestLevel (by decide) (by decide) pz_wq974), List.forall_mem_cons.mpr ⟨(fun _ => v_X0_canGive (by decide) (by decide) pz_wq978), List.forall_mem_cons.mpr ⟨((fun z => by cases z)), fun _ h => absurd h List.not_mem_nil⟩⟩⟩⟩⟩⟩) true i k' h rfl
  · exact fun i k' h => pz_ctk (l := ct_X11_share) (P := fun b i k => b = false → (pz_cS 4 90 RX11 i k ∨ (k = pz_kac ∧ 1 ≤ 4 ∧ 60 ≤ 90 ∧ Cond.methodLink RX11 i arraycopyName ∈ pz_tbl))) (List.forall_mem_cons.mpr ⟨(fun _ => Or.inl (s_X11_within (by decide) (by decide) (Or.inl pz_wq425))), List.forall_mem_cons.mpr ⟨((fun z => by cases z)), List.forall_mem_cons.mpr ⟨((fun z => by cases z)), List.forall_mem_cons.mpr ⟨((fun z => by cases z)), List.forall_mem_cons.mpr ⟨((fun z => by cases z)), List.forall_mem_cons.mpr ⟨(fun _ => Or.inl (s_J9_min_7cf53 (by decide) (by decide) (Or.inl pz_wq979))), fun _ h => absurd h List.not_mem_nil⟩⟩⟩⟩⟩⟩) false i k' h rfl
  · intro a M hlen hpre
    obtain ⟨th, n, i, rfl, hpre⟩ : ∃ th n i, a = [.inr (.inr (11, th)), .inl n, .inl i] ∧ (pz_ic M) := by
      have hpre : (match (generalizing := false) a with | [.inr (.inr (11, th)), .inl n, .inl i] => pz_ic M | _ => False) := hpre
      split at hpre
      · exact ⟨_, _, _, rfl, hpre⟩
      · exact hpre.elim
    exact Nat.le_of_ble_eq_true rfl
  · intro a M hlen hcan hM hpre Ok hgo
    obtain ⟨th, n, i, rfl, hpre⟩ : ∃ th n i, a = [.inr (.inr (11, th)), .inl n, .inl i] ∧ (pz_ic M) := by
      have hpre : (match (generalizing := false) a with | [.inr (.inr (11, th)), .inl n, .inl i] => pz_ic M | _ => False) := hpre
      split at hpre
      · exact ⟨_, _, _, rfl, hpre⟩
      · exact hpre.elim
    obtain ⟨k_th, hc_th⟩ := pz_tlm hcan
    have k_th : pz_kd th = 11 ∧ th < 231 := k_th
    have R_th := pz_kd11 k_th.1
    subst R_th
    obtain ⟨k_n, hc_n⟩ := pz_tlm hc_th
    have l_n : -2147483648 ≤ n := k_n.1
    have u_n : n ≤ 2147483647 := k_n.2
    obtain ⟨k_i, hc_i⟩ := pz_tlm hc_n
    have l_i : -2147483648 ≤ i := k_i.1
    have u_i : i ≤ 2147483647 := k_i.2
    have hI : pz_ic M := hpre
    have L59 : ∀ (fu : Nat) (x3 : Int) (x4 : Int) (x5 : Int), (i - x5).toNat < fu → (0 ≤ x5) → Ok 59 [some (.inr (.inr (11, 0))), some (.inl n), some (.inl i), some (.inl x3), some (.inl x4), some (.inl x5)] [] M := by
      intro fu
      induction fu with
      | zero => exact fun _ _ _ hn => absurd hn (Nat.not_lt_zero _)
      | succ fu ih59 =>
        intro x3 x4 x5 hn59 g59_0
        have L81 : ∀ (x3 : Int) (x4 : Int) (x5 : Int), (0 ≤ x5) → (x5 < i) → ((i - x5).toNat < fu + 1) → Ok 81 [some (.inr (.inr (11, 0))), some (.inl n), some (.inl i), some (.inl x3), some (.inl x4), some (.inl x5)] [] M := by
          intro x3 x4 x5 g81_0 g81_1 g81_2
          refine hgo (fun p => Nat.beq p 59 || Nat.beq p 81) 63 81 _ _ _ ?_
          intro v81 e81 a81 b81
          try rw [pz_wi (by first | decide | omega) (by first | decide | omega)] at e81
          exact ih59 _ _ _ (by first | decide | omega) (by first | decide | omega)
        refine hgo (fun p => Nat.beq p 59 || Nat.beq p 81) 63 59 _ _ _ ?_
        refine And.intro (fun h62 => ?_) (fun h62 => ?_)
        · skip
          intro r88 e88 k88
          have R88 := pz_kd0 k88
          refine And.intro (True.intro) ?_
          intro v92 M92 a92 b92 q92
          obtain ⟨q92, z92⟩ := q92
          subst z92
          refine And.intro (fun h100 => ?_) (fun h100 => ?_)
          · skip
            refine And.intro (True.intro) ?_
            intro v117 M117 a117 b117 q117
            obtain ⟨q117, z117⟩ := q117
            subst z117
            refine And.intro rfl ?_
            exact ⟨trivial, rfl⟩
          · skip
            refine And.intro (fun h105 => ?_) (fun h105 => ?_)
            · skip
              refine And.intro (True.intro) ?_
              intro v117 M117 a117 b117 q117
              obtain ⟨q117, z117⟩ := q117
              subst z117
              refine And.intro rfl ?_
              exact ⟨trivial, rfl⟩
            · skip
              intro v110 e110 a110 b110
              try rw [pz_wi (by first | decide | omega) (by first | decide | omega)] at e110
              refine And.intro rfl ?_
              exact ⟨trivial, rfl⟩
        · skip
          intro r66 e66 k66
          have R66 := pz_kd0 k66
          refine And.intro (True.intro) ?_
          intro v71 M71 a71 b71 q71
          obtain ⟨q71, z71⟩ := q71
          subst z71
          refine And.intro (fun h75 => ?_) (fun h75 => ?_)
          · skip
            exact L81 _ _ _ (by first | decide | omega) (by first | decide | omega) (by first | decide | omega)
          · skip
            intro v78 e78 a78 b78
            try rw [pz_wi (by first | decide | omega) (by first | decide | omega)] at e78
            exact L81 _ _ _ (by first | decide | omega) (by first | decide | omega) (by first | decide | omega)
    refine hgo (fun p => Nat.beq p 59 || Nat.beq p 81) 63 0 _ [] M ?_
    refine And.intro (True.intro) ?_
    intro v5 M5 a5 b5 q5
    obtain ⟨q5, z5⟩ := q5
    subst z5
    refine And.intro (fun h8 => ?_) (fun h8 => ?_)
    · skip
      refine And.intro rfl ?_
      exact ⟨trivial, rfl⟩
    · skip
      intro r12 e12 k12
      have R12 := pz_kd0 k12
      refine And.intro (True.intro) ?_
      intro v16 M16 a16 b16 q16
      obtain ⟨q16, z16⟩ := q16
      subst z16
      refine And.intro (fun h19 => ?_) (fun h19 => ?_)
      · skip
        refine And.intro rfl ?_
        exact ⟨trivial, rfl⟩
      · skip
        intro r23 e23 k23
        have R23 := pz_kd0 k23
        refine And.intro (hI) ?_
        intro v29 M29 a29 b29 q29
        obtain ⟨q29, z29⟩ := q29
        subst z29
        refine And.intro (fun h33 => ?_) (fun h33 => ?_)
        · skip
          refine And.intro (hI) ?_
          intro v40 M40 a40 b40 q40
          obtain ⟨q40, z40⟩ := q40
          subst z40
          intro r46 e46 k46
          have R46 := pz_kd0 k46
          refine And.intro (hI) ?_
          intro v50 M50 a50 b50 q50
          obtain ⟨q50, z50⟩ := q50
          subst z50
          intro v53 e53 a53 b53
          try rw [pz_wi (by first | decide | omega) (by first | decide | omega)] at e53
          exact L59 _ _ _ _ (Nat.lt_succ_self _) (by first | decide | omega)
        · skip
          refine And.intro rfl ?_
          exact ⟨trivial, rfl⟩
theorem v_X11_share {fr lo i : Nat} {own : String} (h1 : 4 + 1 ≤ fr) (h2 : 8 + (6 + 11) + 90 ≤ lo) (h3 : .methodLink own i yX11_share ∈ lw_tbl) : pz_cV fr lo own i k_X11_share :=
  pz_cVk (maxL := 6) (fr' := 4) (lo' := 90) 2 11 h_X11_share rfl ⟨(pz_nhc_RX11 yX11_share rfl).1, (pz_nhc_RX11 yX11_share rfl).2, pz_ds10⟩ ⟨pz_wq964, pz_wq962, pz_wq963, pz_wq1⟩ (Or.inl ⟨TX11, 14, rfl⟩) (fun a M _ h => by
    have h : (match (generalizing := false) a with | [.inr (.inr (11, th)), .inl n, .inl i] => pz_ic M | _ => False) := h
    split at h
    · exact ⟨_, _, rfl⟩
    · exact h.elim) h1 h2 h3


noncomputable def k_X11_bluff : pz_C := (4, 1, fun a M => (match a with | [.inr (.inr (11, th)), .inl p, .inl q, .inl w] => pz_ic M | _ => False), fun a M r M' => (match a, r with | [.inr (.inr (11, th)), .inl p, .inl q, .inl w], some (.inl v) => (v = (if 0 ≤ p ∧ p ≤ 1000 ∧ 0 ≤ q ∧ q ≤ 1000 ∧ 0 ≤ w ∧ w ≤ 1000 ∧ 0 < p * q + (1000 - p) * w then p * q * 1000000 / (p * q + (1000 - p) * w) else -1)) ∧ M = M' | _, _ => False))
noncomputable abbrev ct_X11_bluff : List (Bool × Nat × pz_C) := [(false, 137, k_X11_within)]
set_option maxRecDepth 100000 in
set_option maxHeartbeats 4000000 in
theorem h_X11_bluff : pz_H yX11_bluff cX11_bluff 6 (some .int) k_X11_bluff 1 22 := by
  refine pz_mk (own := RX11) (tb := t_X11_bluff) (fl := pz_flf fl_RX11) (ci := pz_cif ci_RX11) (ct := pz_ctf ct_X11_bluff) (rz := false) (pz_pfc_RX11 yX11_bluff rfl) rfl t_X11_bluff_ok (pz_flk fl_RX11_ok) (pz_cik ci_RX11_ok) ?_ ?_ (Or.inl ⟨rfl, rfl⟩) ?_ ?_
  · exact fun i k' h => pz_ctk (l := ct_X11_bluff) (P := fun b i k => b = true → pz_cV 1 22 RX11 i k) (List.forall_mem_cons.mpr ⟨((fun z => by cases z)), fun _ h => absurd h List.not_mem_nil⟩) true i k' h rfl
  · exact fun i k' h => pz_ctk (l := ct_X11_bluff) (P := fun b i k => b = false → (pz_cS 1 22 RX11 i k ∨ (k = pz_kac ∧ 1 ≤ 1 ∧ 60 ≤ 22 ∧ Cond.methodLink RX11 i arraycopyName ∈ pz_tbl))) (List.forall_mem_cons.mpr ⟨(fun _ => Or.inl (s_X11_within (by decide) (by decide) (Or.inl pz_wq425))), fun _ h => absurd h List.not_mem_nil⟩) false i k' h rfl
  · intro a M hlen hpre
    obtain ⟨th, p, q, w, rfl, hpre⟩ : ∃ th p q w, a = [.inr (.inr (11, th)), .inl p, .inl q, .inl w] ∧ (pz_ic M) := by
      have hpre : (match (generalizing := false) a with | [.inr (.inr (11, th)), .inl p, .inl q, .inl w] => pz_ic M | _ => False) := hpre
      split at hpre
      · exact ⟨_, _, _, _, rfl, hpre⟩
      · exact hpre.elim
    exact Nat.le_of_ble_eq_true rfl
  · intro a M hlen hcan hM hpre Ok hgo
    obtain ⟨th, p, q, w, rfl, hpre⟩ : ∃ th p q w, a = [.inr (.inr (11, th)), .inl p, .inl q, .inl w] ∧ (pz_ic M) := by
      have hpre : (match (generalizing := false) a with | [.inr (.inr (11, th)), .inl p, .inl q, .inl w] => pz_ic M | _ => False) := hpre
      split at hpre
      · exact ⟨_, _, _, _, rfl, hpre⟩
      · exact hpre.elim
    obtain ⟨k_th, hc_th⟩ := pz_tlm hcan
    have k_th : pz_kd th = 11 ∧ th < 231 := k_th
    have R_th := pz_kd11 k_th.1
    subst R_th
    obtain ⟨k_p, hc_p⟩ := pz_tlm hc_th
    have l_p : -2147483648 ≤ p := k_p.1
    have u_p : p ≤ 2147483647 := k_p.2
    obtain ⟨k_q, hc_q⟩ := pz_tlm hc_p
    have l_q : -2147483648 ≤ q := k_q.1
    have u_q : q ≤ 2147483647 := k_q.2
    obtain ⟨k_w, hc_w⟩ := pz_tlm hc_q
    have l_w : -2147483648 ≤ w := k_w.1
    have u_w : w ≤ 2147483647 := k_w.2
    have hI : pz_ic M := hpre
    refine hgo (fun _ => false) 44 0 _ [] M ?_
    refine And.intro (True.intro) ?_
    intro v5 M5 a5 b5 q5
    obtain ⟨q5, z5⟩ := q5
    subst z5
    refine And.intro (fun h8 => ?_) (fun h8 => ?_)
    · skip
      refine And.intro rfl ?_
      refine ⟨?_, rfl⟩
      by_cases h9 : 0 ≤ p ∧ p ≤ 1000 ∧ 0 ≤ q ∧ q ≤ 1000 ∧ 0 ≤ w ∧ w ≤ 1000 ∧ 0 < p * q + (1000 - p) * w
      · rw [if_pos h9]
        first
          | (exfalso; omega)
          | (have F9 := pz_blf h9
             have E72 : v63 = p * q * 1000000 := by omega
             have E53 : v49 = p * q + (1000 - p) * w := by omega
             rw [E72, E53, F9.1, pz_wli (by first | decide | omega) (by first | decide | omega)] at e67
             rw [pz_wi (by first | decide | omega) (by first | decide | omega)] at e68
             exact e68.trans e67)
      · first
          | (rw [if_neg h9]; done)
          | (exfalso; omega)
    · skip
      refine And.intro (True.intro) ?_
      intro v16 M16 a16 b16 q16
      obtain ⟨q16, z16⟩ := q16
      subst z16
      refine And.intro (fun h19 => ?_) (fun h19 => ?_)
      · skip
        refine And.intro rfl ?_
        refine ⟨?_, rfl⟩
        by_cases h9 : 0 ≤ p ∧ p ≤ 1000 ∧ 0 ≤ q ∧ q ≤ 1000 ∧ 0 ≤ w ∧ w ≤ 1000 ∧ 0 < p * q + (1000 - p) * w
        · rw [if_pos h9]
          first
            | (exfalso; omega)
            | (have F9 := pz_blf h9
               have E72 : v63 = p * q * 1000000 := by omega
               have E53 : v49 = p * q + (1000 - p) * w := by omega
               rw [E72, E53, F9.1, pz_wli (by first | decide | omega) (by first | decide | omega)] at e67
               rw [pz_wi (by first | decide | omega) (by first | decide | omega)] at e68
               exact e68.trans e67)
        · first
            | (rw [if_neg h9]; done)
            | (exfalso; omega)
      · skip
        refine And.intro (True.intro) ?_
        intro v27 M27 a27 b27 q27
        obtain ⟨q27, z27⟩ := q27
        subst z27
        refine And.intro (fun h30 => ?_) (fun h30 => ?_)
        · skip
          intro v37 e37 a37 b37
          have B37 := pz_m3 (x := p) (y := q) (by first | decide | omega) (by first | decide | omega) (by first | decide | omega) (by first | decide | omega)
          rw [pz_wi (by first | decide | omega) (by first | decide | omega)] at e37
          intro v46 e46 a46 b46
          try rw [pz_wi (by first | decide | omega) (by first | decide | omega)] at e46
          intro v48 e48 a48 b48
          have B48 := pz_m3 (x := v46) (y := w) (by first | decide | omega) (by first | decide | omega) (by first | decide | omega) (by first | decide | omega)
          rw [pz_wi (by first | decide | omega) (by first | decide | omega)] at e48
          rw [e46] at e48 B48
          intro v49 e49 a49 b49
          try rw [pz_wi (by first | decide | omega) (by first | decide | omega)] at e49
          refine And.intro (fun h54 => ?_) (fun h54 => ?_)
          · skip
            refine And.intro rfl ?_
            refine ⟨?_, rfl⟩
            by_cases h9 : 0 ≤ p ∧ p ≤ 1000 ∧ 0 ≤ q ∧ q ≤ 1000 ∧ 0 ≤ w ∧ w ≤ 1000 ∧ 0 < p * q + (1000 - p) * w
            · rw [if_pos h9]
              first
                | (exfalso; omega)
                | (have F9 := pz_blf h9
                   have E72 : v63 = p * q * 1000000 := by omega
                   have E53 : v49 = p * q + (1000 - p) * w := by omega
                   rw [E72, E53, F9.1, pz_wli (by first | decide | omega) (by first | decide | omega)] at e67
                   rw [pz_wi (by first | decide | omega) (by first | decide | omega)] at e68
                   exact e68.trans e67)
            · first
                | (rw [if_neg h9]; done)
                | (exfalso; omega)
          · skip
            intro v63 e63 a63 b63
            try rw [pz_wli (by first | decide | omega) (by first | decide | omega)] at e63
            refine And.intro (by first | decide | omega) ?_
            intro v67 e67 a67 b67
            intro v68 e68 a68 b68
            try rw [pz_wi (by first | decide | omega) (by first | decide | omega)] at e68
            refine And.intro rfl ?_
            refine ⟨?_, rfl⟩
            by_cases h9 : 0 ≤ p ∧ p ≤ 1000 ∧ 0 ≤ q ∧ q ≤ 1000 ∧ 0 ≤ w ∧ w ≤ 1000 ∧ 0 < p * q + (1000 - p) * w
            · rw [if_pos h9]
              first
                | (exfalso; omega)
                | (have F9 := pz_blf h9
                   have E72 : v63 = p * q * 1000000 := by omega
                   have E53 : v49 = p * q + (1000 - p) * w := by omega
                   rw [E72, E53, F9.1, pz_wli (by first | decide | omega) (by first | decide | omega)] at e67
                   rw [pz_wi (by first | decide | omega) (by first | decide | omega)] at e68
                   exact e68.trans e67)
            · first
                | (rw [if_neg h9]; done)
                | (exfalso; omega)
        · skip
          refine And.intro rfl ?_
          refine ⟨?_, rfl⟩
          by_cases h9 : 0 ≤ p ∧ p ≤ 1000 ∧ 0 ≤ q ∧ q ≤ 1000 ∧ 0 ≤ w ∧ w ≤ 1000 ∧ 0 < p * q + (1000 - p) * w
          · rw [if_pos h9]
            first
              | (exfalso; omega)
              | (have F9 := pz_blf h9
                 have E72 : v63 = p * q * 1000000 := by omega
                 have E53 : v49 = p * q + (1000 - p) * w := by omega
                 rw [E72, E53, F9.1, pz_wli (by first | decide | omega) (by first | decide | omega)] at e67
                 rw [pz_wi (by first | decide | omega) (by first | decide | omega)] at e68
                 exact e68.trans e67)
          · first
              | (rw [if_neg h9]; done)
              | (exfalso; omega)
theorem v_X11_bluff {fr lo i : Nat} {own : String} (h1 : 1 + 1 ≤ fr) (h2 : 8 + (6 + 11) + 22 ≤ lo) (h3 : .methodLink own i yX11_bluff ∈ lw_tbl) : pz_cV fr lo own i k_X11_bluff :=
  pz_cVk (maxL := 6) (fr' := 1) (lo' := 22) 3 11 h_X11_bluff rfl ⟨(pz_nhc_RX11 yX11_bluff rfl).1, (pz_nhc_RX11 yX11_bluff rfl).2, pz_ds14⟩ ⟨pz_wq994, pz_wq992, pz_wq993, pz_wq1⟩ (Or.inl ⟨TX11, 14, rfl⟩) (fun a M _ h => by
    have h : (match (generalizing := false) a with | [.inr (.inr (11, th)), .inl p, .inl q, .inl w] => pz_ic M | _ => False) := h
    split at h
    · exact ⟨_, _, rfl⟩
    · exact h.elim) h1 h2 h3

noncomputable def k_X11_money : pz_C := (3, 1, fun a M => (match a with | [.inr (.inr (11, th)), .inl t, .inl m] => pz_ic M | _ => False), fun a M r M' => (match a, r with | [.inr (.inr (11, th)), .inl t, .inl m], some (.inl v) => (v = (if 0 ≤ t ∧ t ≤ 600 ∧ 0 ≤ m ∧ m ≤ 600 then pz_mo (fun k => M (89 + k) 3) m (M 71 3).toNat 0 t (-1) else -1)) ∧ M = M' | _, _ => False))
noncomputable abbrev ct_X11_money : List (Bool × Nat × pz_C) := [(false, 137, k_X11_within), (true, 107, k_X0_at)]
set_option maxRecDepth 100000 in
set_option maxHeartbeats 4000000 in
theorem h_X11_money : pz_H yX11_money cX11_money 6 (some .int) k_X11_money 1 22 := by
  refine pz_mk (own := RX11) (tb := t_X11_money) (fl := pz_flf fl_RX11) (ci := pz_cif ci_RX11) (ct := pz_ctf ct_X11_money) (rz := false) (pz_pfc_RX11 yX11_money rfl) rfl t_X11_money_ok (pz_flk fl_RX11_ok) (pz_cik ci_RX11_ok) ?_ ?_ (Or.inl ⟨rfl, rfl⟩) ?_ ?_
  · exact fun i k' h => pz_ctk (l := ct_X11_money) (P := fun b i k => b = true → pz_cV 1 22 RX11 i k) (List.forall_mem_cons.mpr ⟨((fun z => by cases z)), List.forall_mem_cons.mpr ⟨(fun _ => v_X0_at (by decide) (by decide) pz_wq428), fun _ h => absurd h List.not_mem_nil⟩⟩) true i k' h rfl
  · exact fun i k' h => pz_ctk (l := ct_X11_money) (P := fun b i k => b = false → (pz_cS 1 22 RX11 i k ∨ (k = pz_kac ∧ 1 ≤ 1 ∧ 60 ≤ 22 ∧ Cond.methodLink RX11 i arraycopyName ∈ pz_tbl))) (List.forall_mem_cons.mpr ⟨(fun _ => Or.inl (s_X11_within (by decide) (by decide) (Or.inl pz_wq425))), List.forall_mem_cons.mpr ⟨((fun z => by cases z)), fun _ h => absurd h List.not_mem_nil⟩⟩) false i k' h rfl
  · intro a M hlen hpre
    obtain ⟨th, t, m, rfl, hpre⟩ : ∃ th t m, a = [.inr (.inr (11, th)), .inl t, .inl m] ∧ (pz_ic M) := by
      have hpre : (match (generalizing := false) a with | [.inr (.inr (11, th)), .inl t, .inl m] => pz_ic M | _ => False) := hpre
      split at hpre
      · exact ⟨_, _, _, rfl, hpre⟩
      · exact hpre.elim
    exact Nat.le_of_ble_eq_true rfl
  · intro a M hlen hcan hM hpre Ok hgo
    obtain ⟨th, t, m, rfl, hpre⟩ : ∃ th t m, a = [.inr (.inr (11, th)), .inl t, .inl m] ∧ (pz_ic M) := by
      have hpre : (match (generalizing := false) a with | [.inr (.inr (11, th)), .inl t, .inl m] => pz_ic M | _ => False) := hpre
      split at hpre
      · exact ⟨_, _, _, rfl, hpre⟩
      · exact hpre.elim
    obtain ⟨k_th, hc_th⟩ := pz_tlm hcan
    have k_th : pz_kd th = 11 ∧ th < 231 := k_th
    have R_th := pz_kd11 k_th.1
    subst R_th
    obtain ⟨k_t, hc_t⟩ := pz_tlm hc_th
    have l_t : -2147483648 ≤ t := k_t.1
    have u_t : t ≤ 2147483647 := k_t.2
    obtain ⟨k_m, hc_m⟩ := pz_tlm hc_t
    have l_m : -2147483648 ≤ m := k_m.1
    have u_m : m ≤ 2147483647 := k_m.2
    have hI : pz_ic M := hpre
    have L32 : ∀ (fu : Nat) (x3 : Int) (x4 : Int) (x5 : Int), (12 - x5).toNat < fu → (0 ≤ x5) → (x5 ≤ M 71 3) → (M 71 3 ≤ 12) → (0 ≤ t ∧ t ≤ 600 ∧ 0 ≤ m ∧ m ≤ 600) → (pz_mo (fun k => M (89 + k) 3) m (M 71 3 - x5).toNat x5.toNat x4 x3 = pz_mo (fun k => M (89 + k) 3) m (M 71 3).toNat 0 t (-1)) → Ok 32 [some (.inr (.inr (11, 0))), some (.inl t), some (.inl m), some (.inl x3), some (.inl x4), some (.inl x5)] [] M := by
      intro fu
      induction fu with
      | zero => exact fun _ _ _ hn => absurd hn (Nat.not_lt_zero _)
      | succ fu ih32 =>
        intro x3 x4 x5 hn32 g32_0 g32_1 g32_2 g32_3 g32_4
        have L73 : ∀ (x3 : Int) (x4 : Int) (x5 : Int), (0 ≤ x5) → (x5 < M 71 3) → (M 71 3 ≤ 12) → ((12 - x5).toNat < fu + 1) → (0 ≤ t ∧ t ≤ 600 ∧ 0 ≤ m ∧ m ≤ 600) → (pz_mo (fun k => M (89 + k) 3) m (M 71 3 - x5 - 1).toNat (x5.toNat + 1) x4 x3 = pz_mo (fun k => M (89 + k) 3) m (M 71 3).toNat 0 t (-1)) → Ok 73 [some (.inr (.inr (11, 0))), some (.inl t), some (.inl m), some (.inl x3), some (.inl x4), some (.inl x5)] [] M := by
          intro x3 x4 x5 g73_0 g73_1 g73_2 g73_3 g73_4 g73_5
          refine hgo (fun p => Nat.beq p 32 || Nat.beq p 73) 44 73 _ _ _ ?_
          intro v73 e73 a73 b73
          try rw [pz_wi (by first | decide | omega) (by first | decide | omega)] at e73
          have G73 : pz_mo (fun k => M (89 + k) 3) m (M 71 3 - v73).toNat v73.toNat x4 x3 = pz_mo (fun k => M (89 + k) 3) m (M 71 3).toNat 0 t (-1) := by
            rw [show (M 71 3 - v73).toNat = (M 71 3 - x5 - 1).toNat by omega, show v73.toNat = x5.toNat + 1 by omega]
            exact g73_5
          exact ih32 _ _ _ (by first | decide | omega) (by first | omega | (rw [show (M 71 3 - 0).toNat = (M 71 3).toNat by omega]; rfl) | exact G73) (by first | omega | (rw [show (M 71 3 - 0).toNat = (M 71 3).toNat by omega]; rfl) | exact G73) (by first | omega | (rw [show (M 71 3 - 0).toNat = (M 71 3).toNat by omega]; rfl) | exact G73) (by first | omega | (rw [show (M 71 3 - 0).toNat = (M 71 3).toNat by omega]; rfl) | exact G73) (by first | omega | (rw [show (M 71 3 - 0).toNat = (M 71 3).toNat by omega]; rfl) | exact G73)
        refine hgo (fun p => Nat.beq p 32 || Nat.beq p 73) 44 32 _ _ _ ?_
        refine pz_nrc (c := 71) rfl ?_
        intro v38 e38 a38 b38
        have I38 := hI.1 71 (by first | decide | omega) (by first | decide | omega)
        refine And.intro (fun h41 => ?_) (fun h41 => ?_)
        · skip
          refine And.intro rfl ?_
          refine ⟨?_, rfl⟩
          rw [if_pos g32_3, ← g32_4, pz_mo0 (by first | decide | omega)]
        · skip
          refine pz_nrc (c := 71) rfl ?_
          refine And.intro (True.intro) ?_
          intro r54 M54 k54 q54
          have R54 := pz_kd5 k54
          obtain ⟨q54, z54⟩ := q54
          subst z54
          have Z54 : r54 = 89 + x5.toNat := by
            rw [if_pos (by first | decide | omega)] at q54
            rw [q54, pz_rf_l (by first | decide | omega) (by first | decide | omega)]
            rfl
          intro v57 e57 a57 b57
          rw [Z54] at e57
          intro v60 e60 a60 b60
          intro v61 e61 a61 b61
          have E61 : v61 = pz_w (x4 + pz_w (10 + M (89 + x5.toNat) 3)) := by
            rw [← e57, ← e60]
            exact e61
          refine And.intro (fun h67 => ?_) (fun h67 => ?_)
          · skip
            have G67 : pz_mo (fun k => M (89 + k) 3) m (M 71 3 - x5 - 1).toNat (x5.toNat + 1) v61 x3 = pz_mo (fun k => M (89 + k) 3) m (M 71 3).toNat 0 t (-1) := Eq.trans (by exact pz_moS (n := (M 71 3 - x5).toNat) (by first | decide | omega) rfl E61 (by first | decide | omega)) g32_4
            exact L73 _ _ _ (by first | omega | exact G67) (by first | omega | exact G67) (by first | omega | exact G67) (by first | omega | exact G67) (by first | omega | exact G67) (by first | omega | exact G67)
          · skip
            have G67 : pz_mo (fun k => M (89 + k) 3) m (M 71 3 - x5 - 1).toNat (x5.toNat + 1) v61 x5 = pz_mo (fun k => M (89 + k) 3) m (M 71 3).toNat 0 t (-1) := Eq.trans (by exact pz_moS (n := (M 71 3 - x5).toNat) (by first | decide | omega) rfl E61 (by first | decide | omega)) g32_4
            exact L73 _ _ _ (by first | omega | exact G67) (by first | omega | exact G67) (by first | omega | exact G67) (by first | omega | exact G67) (by first | omega | exact G67) (by first | omega | exact G67)
    refine hgo (fun p => Nat.beq p 32 || Nat.beq p 73) 44 0 _ [] M ?_
    refine And.intro (True.intro) ?_
    intro v5 M5 a5 b5 q5
    obtain ⟨q5, z5⟩ := q5
    subst z5
    refine And.intro (fun h8 => ?_) (fun h8 => ?_)
    · skip
      refine And.intro rfl ?_
      refine ⟨?_, rfl⟩
      rw [if_neg]
      intro z
      first
        | (split at q5 <;> split at q16 <;> omega)
        | (split at q5 <;> omega)
    · skip
      refine And.intro (True.intro) ?_
      intro v16 M16 a16 b16 q16
      obtain ⟨q16, z16⟩ := q16
      subst z16
      refine And.intro (fun h19 => ?_) (fun h19 => ?_)
      · skip
        have P19 : 0 ≤ t ∧ t ≤ 600 ∧ 0 ≤ m ∧ m ≤ 600 := by
          split at q5 <;> split at q16 <;> omega
        have I19 := hI.1 71 (by first | decide | omega) (by first | decide | omega)
        exact L32 _ _ _ _ (Nat.lt_succ_self _) (by first | omega | (rw [show (M 71 3 - 0).toNat = (M 71 3).toNat by omega]; rfl) | exact G73) (by first | omega | (rw [show (M 71 3 - 0).toNat = (M 71 3).toNat by omega]; rfl) | exact G73) (by first | omega | (rw [show (M 71 3 - 0).toNat = (M 71 3).toNat by omega]; rfl) | exact G73) (by first | omega | (rw [show (M 71 3 - 0).toNat = (M 71 3).toNat by omega]; rfl) | exact G73) (by first | omega | (rw [show (M 71 3 - 0).toNat = (M 71 3).toNat by omega]; rfl) | exact G73)
      · skip
        skip
        refine And.intro rfl ?_
        refine ⟨?_, rfl⟩
        rw [if_neg]
        intro z
        first
          | (split at q5 <;> split at q16 <;> omega)
          | (split at q5 <;> omega)
theorem v_X11_money {fr lo i : Nat} {own : String} (h1 : 1 + 1 ≤ fr) (h2 : 8 + (6 + 11) + 22 ≤ lo) (h3 : .methodLink own i yX11_money ∈ lw_tbl) : pz_cV fr lo own i k_X11_money :=
  pz_cVk (maxL := 6) (fr' := 1) (lo' := 22) 2 11 h_X11_money rfl ⟨(pz_nhc_RX11 yX11_money rfl).1, (pz_nhc_RX11 yX11_money rfl).2, pz_ds10⟩ ⟨pz_wq1028, pz_wq1026, pz_wq1027, pz_wq1⟩ (Or.inl ⟨TX11, 14, rfl⟩) (fun a M _ h => by
    have h : (match (generalizing := false) a with | [.inr (.inr (11, th)), .inl t, .inl m] => pz_ic M | _ => False) := h
    split at h
    · exact ⟨_, _, rfl⟩
    · exact h.elim) h1 h2 h3
noncomputable def k_X11_ill : pz_C := (3, 1, fun a M => (match a with | [.inr (.inr (11, th)), .inl a1, .inl k] => pz_ic M | _ => False), fun a M r M' => (match a, r with | [.inr (.inr (11, th)), .inl a1, .inl k], some (.inl v) => (pz_il1 M a1 k v) ∧ M = M' | _, _ => False))
noncomputable abbrev ct_X11_ill : List (Bool × Nat × pz_C) := [(false, 137, k_X11_within), (true, 322, k_X0_all), (true, 325, k_X10_writers)]
set_option maxRecDepth 100000 in
set_option maxHeartbeats 4000000 in
theorem h_X11_ill : pz_H yX11_ill cX11_ill 3 (some .int) k_X11_ill 2 47 := by
  refine pz_mk (own := RX11) (tb := t_X11_ill) (fl := pz_flf fl_RX11) (ci := pz_cif ci_RX11) (ct := pz_ctf ct_X11_ill) (rz := false) (pz_pfc_RX11 yX11_ill rfl) rfl t_X11_ill_ok (pz_flk fl_RX11_ok) (pz_cik ci_RX11_ok) ?_ ?_ (Or.inl ⟨rfl, rfl⟩) ?_ ?_
  · exact fun i k' h => pz_ctk (l := ct_X11_ill) (P := fun b i k => b = true → pz_cV 2 47 RX11 i k) (List.forall_mem_cons.mpr ⟨((fun z => by cases z)), List.forall_mem_cons.mpr ⟨(fun _ => v_X0_all (by decide) (by decide) pz_wq1033), List.forall_mem_cons.mpr ⟨(fun _ => v_X10_writers (by decide) (by decide) pz_wq1037), fun _ h => absurd h List.not_mem_nil⟩⟩⟩) true i k' h rfl
  · exact fun i k' h => pz_ctk (l := ct_X11_ill) (P := fun b i k => b = false → (pz_cS 2 47 RX11 i k ∨ (k = pz_kac ∧ 1 ≤ 2 ∧ 60 ≤ 47 ∧ Cond.methodLink RX11 i arraycopyName ∈ pz_tbl))) (List.forall_mem_cons.mpr ⟨(fun _ => Or.inl (s_X11_within (by decide) (by decide) (Or.inl pz_wq425))), List.forall_mem_cons.mpr ⟨((fun z => by cases z)), List.forall_mem_cons.mpr ⟨((fun z => by cases z)), fun _ h => absurd h List.not_mem_nil⟩⟩⟩) false i k' h rfl
  · intro a M hlen hpre
    obtain ⟨th, a1, k, rfl, hpre⟩ : ∃ th a1 k, a = [.inr (.inr (11, th)), .inl a1, .inl k] ∧ (pz_ic M) := by
      have hpre : (match (generalizing := false) a with | [.inr (.inr (11, th)), .inl a1, .inl k] => pz_ic M | _ => False) := hpre
      split at hpre
      · exact ⟨_, _, _, rfl, hpre⟩
      · exact hpre.elim
    exact Nat.le_of_ble_eq_true rfl
  · intro a M hlen hcan hM hpre Ok hgo
    obtain ⟨th, a1, k, rfl, hpre⟩ : ∃ th a1 k, a = [.inr (.inr (11, th)), .inl a1, .inl k] ∧ (pz_ic M) := by
      have hpre : (match (generalizing := false) a with | [.inr (.inr (11, th)), .inl a1, .inl k] => pz_ic M | _ => False) := hpre
      split at hpre
      · exact ⟨_, _, _, rfl, hpre⟩
      · exact hpre.elim
    obtain ⟨k_th, hc_th⟩ := pz_tlm hcan
    have k_th : pz_kd th = 11 ∧ th < 231 := k_th
    have R_th := pz_kd11 k_th.1
    subst R_th
    obtain ⟨k_a1, hc_a1⟩ := pz_tlm hc_th
    have l_a1 : -2147483648 ≤ a1 := k_a1.1
    have u_a1 : a1 ≤ 2147483647 := k_a1.2
    obtain ⟨k_k, hc_k⟩ := pz_tlm hc_a1
    have l_k : -2147483648 ≤ k := k_k.1
    have u_k : k ≤ 2147483647 := k_k.2
    have hI : pz_ic M := hpre
    refine hgo (fun _ => false) 30 0 _ [] M ?_
    refine And.intro (True.intro) ?_
    intro v5 M5 a5 b5 q5
    obtain ⟨q5, z5⟩ := q5
    subst z5
    refine And.intro (fun h8 => ?_) (fun h8 => ?_)
    · skip
      refine And.intro rfl ?_
      exact ⟨⟨fun _ => rfl, fun y => absurd y (by first | (split at q5 <;> omega) | (split at q5 <;> split at q15 <;> omega))⟩, rfl⟩
    · skip
      refine And.intro (True.intro) ?_
      intro v15 M15 a15 b15 q15
      obtain ⟨q15, z15⟩ := q15
      subst z15
      refine And.intro (fun h18 => ?_) (fun h18 => ?_)
      · skip
        refine pz_nrc (c := 71) rfl ?_
        refine And.intro (hI) ?_
        intro v27 M27 a27 b27 q27
        obtain ⟨q27, z27⟩ := q27
        subst z27
        refine pz_nrc (c := 8) rfl ?_
        intro v37 e37 a37 b37
        intro v39 e39 a39 b39
        refine And.intro (hI) ?_
        intro v40 M40 a40 b40 q40
        obtain ⟨q40, z40⟩ := q40
        subst z40
        have C5 : (0 ≤ a1 ∧ a1 ≤ 999) ∧ 1 ≤ k ∧ k ≤ 30 := by
          split at q5 <;> split at q15 <;> omega
        rw [pz_wi (by first | decide | omega) (by first | decide | omega)] at e37
        rw [pz_wi (by first | decide | omega) (by first | decide | omega)] at e39
        rw [show v39 = a1 + k - 1 by omega] at q40
        intro v44 e44 a44 b44
        intro v45 e45 a45 b45
        refine And.intro rfl ?_
        have C5 : (0 ≤ a1 ∧ a1 ≤ 999) ∧ 1 ≤ k ∧ k ≤ 30 := by
          split at q5 <;> split at q15 <;> omega
        try rw [pz_wi (by first | decide | omega) (by first | decide | omega)] at e37
        try rw [pz_wi (by first | decide | omega) (by first | decide | omega)] at e39
        exact ⟨⟨fun y => absurd C5 y, fun _ rows => pz_sb_an q27 (q40 rows) e44 e45⟩, rfl⟩
      · skip
        refine And.intro rfl ?_
        exact ⟨⟨fun _ => rfl, fun y => absurd y (by first | (split at q5 <;> omega) | (split at q5 <;> split at q15 <;> omega))⟩, rfl⟩
theorem v_X11_ill {fr lo i : Nat} {own : String} (h1 : 2 + 1 ≤ fr) (h2 : 8 + (3 + 11) + 47 ≤ lo) (h3 : .methodLink own i yX11_ill ∈ lw_tbl) : pz_cV fr lo own i k_X11_ill :=
  pz_cVk (maxL := 3) (fr' := 2) (lo' := 47) 2 11 h_X11_ill rfl ⟨(pz_nhc_RX11 yX11_ill rfl).1, (pz_nhc_RX11 yX11_ill rfl).2, pz_ds10⟩ ⟨pz_wq1032, pz_wq1030, pz_wq1031, pz_wq1⟩ (Or.inl ⟨TX11, 14, rfl⟩) (fun a M _ h => by
    have h : (match (generalizing := false) a with | [.inr (.inr (11, th)), .inl a1, .inl k] => pz_ic M | _ => False) := h
    split at h
    · exact ⟨_, _, rfl⟩
    · exact h.elim) h1 h2 h3
noncomputable def k_X11_wrote : pz_C := (1, 1, fun a M => (match a with | [.inr (.inr (11, th))] => pz_ic M | _ => False), fun a M r M' => (match a, r with | [.inr (.inr (11, th))], some (.inl v) => (pz_wr1 M v) ∧ M = M' | _, _ => False))
noncomputable abbrev ct_X11_wrote : List (Bool × Nat × pz_C) := [(true, 325, k_X10_writers), (true, 322, k_X0_all), (false, 244, k_J6_bitCount_0f7a4), (false, 301, k_J9_max_7cf53)]
set_option maxRecDepth 100000 in
set_option maxHeartbeats 4000000 in
theorem h_X11_wrote : pz_H yX11_wrote cX11_wrote 7 (some .int) k_X11_wrote 2 47 := by
  refine pz_mk (own := RX11) (tb := t_X11_wrote) (fl := pz_flf fl_RX11) (ci := pz_cif ci_RX11) (ct := pz_ctf ct_X11_wrote) (rz := false) (pz_pfc_RX11 yX11_wrote rfl) rfl t_X11_wrote_ok (pz_flk fl_RX11_ok) (pz_cik ci_RX11_ok) ?_ ?_ (Or.inl ⟨rfl, rfl⟩) ?_ ?_
  · exact fun i k' h => pz_ctk (l := ct_X11_wrote) (P := fun b i k => b = true → pz_cV 2 47 RX11 i k) (List.forall_mem_cons.mpr ⟨(fun _ => v_X10_writers (by decide) (by decide) pz_wq1037), List.forall_mem_cons.mpr ⟨(fun _ => v_X0_all (by decide) (by decide) pz_wq1033), List.forall_mem_cons.mpr ⟨((fun z => by cases z)), List.forall_mem_cons.mpr ⟨((fun z => by cases z)), fun _ h => absurd h List.not_mem_nil⟩⟩⟩⟩) true i k' h rfl
  · exact fun i k' h => pz_ctk (l := ct_X11_wrote) (P := fun b i k => b = false → (pz_cS 2 47 RX11 i k ∨ (k = pz_kac ∧ 1 ≤ 2 ∧ 60 ≤ 47 ∧ Cond.methodLink RX11 i arraycopyName ∈ pz_tbl))) (List.forall_mem_cons.mpr ⟨((fun z => by cases z)), List.forall_mem_cons.mpr ⟨((fun z => by cases z)), List.forall_mem_cons.mpr ⟨(fun _ => Or.inl (s_J6_bitCount_0f7a4 (by decide) (by decide) (Or.inl pz_wq875))), List.forall_mem_cons.mpr ⟨(fun _ => Or.inl (s_J9_max_7cf53 (by decide) (by decide) (Or.inl pz_wq989))), fun _ h => absurd h List.not_mem_nil⟩⟩⟩⟩) false i k' h rfl
  · intro a M hlen hpre
    obtain ⟨th, rfl, hpre⟩ : ∃ th, a = [.inr (.inr (11, th))] ∧ (pz_ic M) := by
      have hpre : (match (generalizing := false) a with | [.inr (.inr (11, th))] => pz_ic M | _ => False) := hpre
      split at hpre
      · exact ⟨_, rfl, hpre⟩
      · exact hpre.elim
    exact Nat.le_of_ble_eq_true rfl
  · intro a M hlen hcan hM hpre Ok hgo
    obtain ⟨th, rfl, hpre⟩ : ∃ th, a = [.inr (.inr (11, th))] ∧ (pz_ic M) := by
      have hpre : (match (generalizing := false) a with | [.inr (.inr (11, th))] => pz_ic M | _ => False) := hpre
      split at hpre
      · exact ⟨_, rfl, hpre⟩
      · exact hpre.elim
    obtain ⟨k_th, hc_th⟩ := pz_tlm hcan
    have k_th : pz_kd th = 11 ∧ th < 231 := k_th
    have R_th := pz_kd11 k_th.1
    subst R_th
    have hI : pz_ic M := hpre
    have I71 := hI.1 71 (by first | decide | omega) (by first | decide | omega)
    have L23 : ∀ (fu : Nat) (x1 : Int) (x2 : Int) (x3 : Int) (x4 : Int) (d5 : Option pz_V) (d6 : Option pz_V), (100 - x4).toNat < fu → (0 ≤ x4) → (x4 ≤ 100) → (2 ≤ M 71 3) → (pz_wlp (pz_grd M 8) (pz_nrd M 8) (M 71 3).toNat x1 x2 x3 x4) → Ok 23 [some (.inr (.inr (11, 0))), some (.inl x1), some (.inl x2), some (.inl x3), some (.inl x4), d5, d6] [] M := by
      intro fu
      induction fu with
      | zero => exact fun _ _ _ _ _ _ hn => absurd hn (Nat.not_lt_zero _)
      | succ fu ih23 =>
        intro x1 x2 x3 x4 d5 d6 hn23 g23_0 g23_1 g23_2 g23_3
        refine hgo (fun p => Nat.beq p 23) 54 23 _ _ _ ?_
        refine And.intro (fun h27 => ?_) (fun h27 => ?_)
        · skip
          refine And.intro rfl ?_
          refine ⟨⟨fun y => absurd y (by first | decide | omega), fun _ rows => ?_⟩, rfl⟩
          have f := (g23_3 rows).2
          rcases f with f | f
          · omega
          · rw [f.2.1, show (x4 - 1).toNat = 99 by omega]
        · skip
          refine pz_nrc (c := 8) rfl ?_
          refine And.intro (hI) ?_
          intro v39 M39 a39 b39 q39
          obtain ⟨q39, z39⟩ := q39
          subst z39
          intro v42 e42 a42 b42
          refine pz_nrc (c := 71) rfl ?_
          refine And.intro (hI) ?_
          intro v49 M49 a49 b49 q49
          obtain ⟨q49, z49⟩ := q49
          subst z49
          intro v52 e52 a52 b52
          refine And.intro (True.intro) ?_
          intro v53 M53 a53 b53 q53
          obtain ⟨q53, z53⟩ := q53
          subst z53
          refine pz_nrc (c := 71) rfl ?_
          intro v64 e64 a64 b64
          have I64 := hI.1 71 (by first | decide | omega) (by first | decide | omega)
          intro v69 e69 a69 b69
          refine And.intro (True.intro) ?_
          intro v70 M70 a70 b70 q70
          obtain ⟨q70, z70⟩ := q70
          subst z70
          refine And.intro (fun h78 => ?_) (fun h78 => ?_)
          · skip
            intro v87 e87 a87 b87
            try rw [pz_wi (by first | decide | omega) (by first | decide | omega)] at e87
            have E69 : v69 = pz_w (((M 71 3).toNat : Int) - v53) := by
              rw [show ((M 71 3).toNat : Int) = v64 by omega]
              exact e69
            first
              | (have G87 : pz_wlp (pz_grd M 8) (pz_nrd M 8) (M 71 3).toNat x4 v70 v42 v87 := pz_wlp_s (by first | decide | omega) g23_0 (by first | decide | omega) g23_3 q39 e42 q49 e52 q53 E69 q70 (Or.inl ⟨by omega, rfl, rfl⟩))
              | (have G87 : pz_wlp (pz_grd M 8) (pz_nrd M 8) (M 71 3).toNat x1 x2 v42 v87 := pz_wlp_s (by first | decide | omega) g23_0 (by first | decide | omega) g23_3 q39 e42 q49 e52 q53 E69 q70 (Or.inr ⟨by omega, rfl, rfl⟩))
            exact ih23 _ _ _ _ _ _ (by first | decide | omega) (by first | omega | assumption | exact pz_wlp_0) (by first | omega | assumption | exact pz_wlp_0) (by first | omega | assumption | exact pz_wlp_0) (by first | omega | assumption | exact pz_wlp_0)
          · skip
            intro v87 e87 a87 b87
            try rw [pz_wi (by first | decide | omega) (by first | decide | omega)] at e87
            have E69 : v69 = pz_w (((M 71 3).toNat : Int) - v53) := by
              rw [show ((M 71 3).toNat : Int) = v64 by omega]
              exact e69
            first
              | (have G87 : pz_wlp (pz_grd M 8) (pz_nrd M 8) (M 71 3).toNat x4 v70 v42 v87 := pz_wlp_s (by first | decide | omega) g23_0 (by first | decide | omega) g23_3 q39 e42 q49 e52 q53 E69 q70 (Or.inl ⟨by omega, rfl, rfl⟩))
              | (have G87 : pz_wlp (pz_grd M 8) (pz_nrd M 8) (M 71 3).toNat x1 x2 v42 v87 := pz_wlp_s (by first | decide | omega) g23_0 (by first | decide | omega) g23_3 q39 e42 q49 e52 q53 E69 q70 (Or.inr ⟨by omega, rfl, rfl⟩))
            exact ih23 _ _ _ _ _ _ (by first | decide | omega) (by first | omega | assumption | exact pz_wlp_0) (by first | omega | assumption | exact pz_wlp_0) (by first | omega | assumption | exact pz_wlp_0) (by first | omega | assumption | exact pz_wlp_0)
    refine hgo (fun p => Nat.beq p 23) 54 0 _ [] M ?_
    refine pz_nrc (c := 71) rfl ?_
    intro v4 e4 a4 b4
    have I4 := hI.1 71 (by first | decide | omega) (by first | decide | omega)
    refine And.intro (fun h8 => ?_) (fun h8 => ?_)
    · skip
      exact L23 _ _ _ _ _ _ _ (Nat.lt_succ_self _) (by first | omega | assumption | exact pz_wlp_0) (by first | omega | assumption | exact pz_wlp_0) (by first | omega | assumption | exact pz_wlp_0) (by first | omega | assumption | exact pz_wlp_0)
    · skip
      refine And.intro rfl ?_
      exact ⟨⟨fun _ => rfl, fun y => absurd y (by first | decide | omega)⟩, rfl⟩
theorem v_X11_wrote {fr lo i : Nat} {own : String} (h1 : 2 + 1 ≤ fr) (h2 : 8 + (7 + 11) + 47 ≤ lo) (h3 : .methodLink own i yX11_wrote ∈ lw_tbl) : pz_cV fr lo own i k_X11_wrote :=
  pz_cVk (maxL := 7) (fr' := 2) (lo' := 47) 0 11 h_X11_wrote rfl ⟨(pz_nhc_RX11 yX11_wrote rfl).1, (pz_nhc_RX11 yX11_wrote rfl).2, pz_ds1⟩ ⟨pz_wq1044, pz_wq1042, pz_wq1043, pz_wq1⟩ (Or.inl ⟨TX11, 14, rfl⟩) (fun a M _ h => by
    have h : (match (generalizing := false) a with | [.inr (.inr (11, th))] => pz_ic M | _ => False) := h
    split at h
    · exact ⟨_, _, rfl⟩
    · exact h.elim) h1 h2 h3

noncomputable def k_X11_heap : pz_C := (2, 1, fun a M => (match a with | [.inr (.inr (11, th)), .inl i] => pz_ic M | _ => False), fun a M r M' => (match a, r with | [.inr (.inr (11, th)), .inl i], some (.inl v) => (True) ∧ M = M' | _, _ => False))
noncomputable abbrev ct_X11_heap : List (Bool × Nat × pz_C) := [(true, 107, k_X0_at)]
set_option maxRecDepth 100000 in
set_option maxHeartbeats 4000000 in
theorem h_X11_heap : pz_H yX11_heap cX11_heap 3 (some .int) k_X11_heap 1 21 := by
  refine pz_mk (own := RX11) (tb := t_X11_heap) (fl := pz_flf fl_RX11) (ci := pz_cif ci_RX11) (ct := pz_ctf ct_X11_heap) (rz := false) (pz_pfc_RX11 yX11_heap rfl) rfl t_X11_heap_ok (pz_flk fl_RX11_ok) (pz_cik ci_RX11_ok) ?_ ?_ (Or.inl ⟨rfl, rfl⟩) ?_ ?_
  · exact fun i k' h => pz_ctk (l := ct_X11_heap) (P := fun b i k => b = true → pz_cV 1 21 RX11 i k) (List.forall_mem_cons.mpr ⟨(fun _ => v_X0_at (by decide) (by decide) pz_wq428), fun _ h => absurd h List.not_mem_nil⟩) true i k' h rfl
  · exact fun i k' h => pz_ctk (l := ct_X11_heap) (P := fun b i k => b = false → (pz_cS 1 21 RX11 i k ∨ (k = pz_kac ∧ 1 ≤ 1 ∧ 60 ≤ 21 ∧ Cond.methodLink RX11 i arraycopyName ∈ pz_tbl))) (List.forall_mem_cons.mpr ⟨((fun z => by cases z)), fun _ h => absurd h List.not_mem_nil⟩) false i k' h rfl
  · intro a M hlen hpre
    obtain ⟨th, i, rfl, hpre⟩ : ∃ th i, a = [.inr (.inr (11, th)), .inl i] ∧ (pz_ic M) := by
      have hpre : (match (generalizing := false) a with | [.inr (.inr (11, th)), .inl i] => pz_ic M | _ => False) := hpre
      split at hpre
      · exact ⟨_, _, rfl, hpre⟩
      · exact hpre.elim
    exact Nat.le_of_ble_eq_true rfl
  · intro a M hlen hcan hM hpre Ok hgo
    obtain ⟨th, i, rfl, hpre⟩ : ∃ th i, a = [.inr (.inr (11, th)), .inl i] ∧ (pz_ic M) := by
      have hpre : (match (generalizing := false) a with | [.inr (.inr (11, th)), .inl i] => pz_ic M | _ => False) := hpre
      split at hpre
      · exact ⟨_, _, rfl, hpre⟩
      · exact hpre.elim
    obtain ⟨k_th, hc_th⟩ := pz_tlm hcan
    have k_th : pz_kd th = 11 ∧ th < 231 := k_th
    have R_th := pz_kd11 k_th.1
    subst R_th
    obtain ⟨k_i, hc_i⟩ := pz_tlm hc_th
    have l_i : -2147483648 ≤ i := k_i.1
    have u_i : i ≤ 2147483647 := k_i.2
    have hI : pz_ic M := hpre
    refine hgo (fun _ => false) 16 0 _ [] M ?_
    intro r1 e1 k1
    have R1 := pz_kd0 k1
    refine And.intro (True.intro) ?_
    intro r5 M5 k5 q5
    have R5 := pz_kd5 k5
    obtain ⟨q5, z5⟩ := q5
    subst z5
    intro v10 e10 a10 b10
    refine And.intro (fun h14 => ?_) (fun h14 => ?_)
    · skip
      refine And.intro rfl ?_
      exact ⟨trivial, rfl⟩
    · skip
      intro v18 e18 a18 b18
      refine And.intro rfl ?_
      exact ⟨trivial, rfl⟩
theorem v_X11_heap {fr lo i : Nat} {own : String} (h1 : 1 + 1 ≤ fr) (h2 : 8 + (3 + 11) + 21 ≤ lo) (h3 : .methodLink own i yX11_heap ∈ lw_tbl) : pz_cV fr lo own i k_X11_heap :=
  pz_cVk (maxL := 3) (fr' := 1) (lo' := 21) 1 11 h_X11_heap rfl ⟨(pz_nhc_RX11 yX11_heap rfl).1, (pz_nhc_RX11 yX11_heap rfl).2, pz_ds5⟩ ⟨pz_wq1056, pz_wq1055, pz_ws3, pz_wq1⟩ (Or.inl ⟨TX11, 14, rfl⟩) (fun a M _ h => by
    have h : (match (generalizing := false) a with | [.inr (.inr (11, th)), .inl i] => pz_ic M | _ => False) := h
    split at h
    · exact ⟨_, _, rfl⟩
    · exact h.elim) h1 h2 h3
noncomputable def k_X11_game : pz_C := (2, 1, fun a M => (match a with | [.inr (.inr (11, th)), .inl w] => pz_ic M | _ => False), fun a M r M' => (match a, r with | [.inr (.inr (11, th)), .inl w], some (.inl v) => (True) ∧ M = M' | _, _ => False))
noncomputable abbrev ct_X11_game : List (Bool × Nat × pz_C) := [(false, 137, k_X11_within), (true, 328, k_X11_heap), (false, 292, k_J9_min_7cf53)]
set_option maxRecDepth 100000 in
set_option maxHeartbeats 4000000 in
theorem h_X11_game : pz_H yX11_game cX11_game 5 (some .int) k_X11_game 2 43 := by
  refine pz_mk (own := RX11) (tb := t_X11_game) (fl := pz_flf fl_RX11) (ci := pz_cif ci_RX11) (ct := pz_ctf ct_X11_game) (rz := false) (pz_pfc_RX11 yX11_game rfl) rfl t_X11_game_ok (pz_flk fl_RX11_ok) (pz_cik ci_RX11_ok) ?_ ?_ (Or.inl ⟨rfl, rfl⟩) ?_ ?_
  · exact fun i k' h => pz_ctk (l := ct_X11_game) (P := fun b i k => b = true → pz_cV 2 43 RX11 i k) (List.forall_mem_cons.mpr ⟨((fun z => by cases z)), List.forall_mem_cons.mpr ⟨(fun _ => v_X11_heap (by decide) (by decide) pz_wq1053), List.forall_mem_cons.mpr ⟨((fun z => by cases z)), fun _ h => absurd h List.not_mem_nil⟩⟩⟩) true i k' h rfl
  · exact fun i k' h => pz_ctk (l := ct_X11_game) (P := fun b i k => b = false → (pz_cS 2 43 RX11 i k ∨ (k = pz_kac ∧ 1 ≤ 2 ∧ 60 ≤ 43 ∧ Cond.methodLink RX11 i arraycopyName ∈ pz_tbl))) (List.forall_mem_cons.mpr ⟨(fun _ => Or.inl (s_X11_within (by decide) (by decide) (Or.inl pz_wq425))), List.forall_mem_cons.mpr ⟨((fun z => by cases z)), List.forall_mem_cons.mpr ⟨(fun _ => Or.inl (s_J9_min_7cf53 (by decide) (by decide) (Or.inl pz_wq979))), fun _ h => absurd h List.not_mem_nil⟩⟩⟩) false i k' h rfl
  · intro a M hlen hpre
    obtain ⟨th, w, rfl, hpre⟩ : ∃ th w, a = [.inr (.inr (11, th)), .inl w] ∧ (pz_ic M) := by
      have hpre : (match (generalizing := false) a with | [.inr (.inr (11, th)), .inl w] => pz_ic M | _ => False) := hpre
      split at hpre
      · exact ⟨_, _, rfl, hpre⟩
      · exact hpre.elim
    exact Nat.le_of_ble_eq_true rfl
  · intro a M hlen hcan hM hpre Ok hgo
    obtain ⟨th, w, rfl, hpre⟩ : ∃ th w, a = [.inr (.inr (11, th)), .inl w] ∧ (pz_ic M) := by
      have hpre : (match (generalizing := false) a with | [.inr (.inr (11, th)), .inl w] => pz_ic M | _ => False) := hpre
      split at hpre
      · exact ⟨_, _, rfl, hpre⟩
      · exact hpre.elim
    obtain ⟨k_th, hc_th⟩ := pz_tlm hcan
    have k_th : pz_kd th = 11 ∧ th < 231 := k_th
    have R_th := pz_kd11 k_th.1
    subst R_th
    obtain ⟨k_w, hc_w⟩ := pz_tlm hc_th
    have l_w : -2147483648 ≤ w := k_w.1
    have u_w : w ≤ 2147483647 := k_w.2
    have hI : pz_ic M := hpre
    have L44 : ∀ (fo : Nat) (x2 : Int) (x3 : Int) (d4 : Option pz_V), (12 - x3).toNat < fo → (0 ≤ x3) → Ok 44 [some (.inr (.inr (11, 0))), some (.inl w), some (.inl x2), some (.inl x3), d4] [] M := by
      intro fo
      induction fo with
      | zero => exact fun _ _ _ hn => absurd hn (Nat.not_lt_zero _)
      | succ fo ih44 =>
        intro x2 x3 d4 hn44 g44_0
        have L58 : ∀ (fu : Nat) (x2 : Int) (x3 : Int) (x4 : Int), (4 - x4).toNat < fu → (0 ≤ x4) → (0 ≤ x3) → (x3 < 12) → ((12 - x3).toNat < fo + 1) → Ok 58 [some (.inr (.inr (11, 0))), some (.inl w), some (.inl x2), some (.inl x3), some (.inl x4)] [] M := by
          intro fu
          induction fu with
          | zero => exact fun _ _ _ hn => absurd hn (Nat.not_lt_zero _)
          | succ fu ih58 =>
            intro x2 x3 x4 hn58 g58_0 g58_1 g58_2 g58_3
            refine hgo (fun p => Nat.beq p 15 || Nat.beq p 44 || Nat.beq p 58) 72 58 _ _ _ ?_
            refine And.intro (hI) ?_
            intro v63 M63 a63 b63 q63
            obtain ⟨q63, z63⟩ := q63
            subst z63
            refine And.intro (True.intro) ?_
            intro v66 M66 a66 b66 q66
            obtain ⟨q66, z66⟩ := q66
            subst z66
            refine And.intro (fun h69 => ?_) (fun h69 => ?_)
            · skip
              intro v112 e112 a112 b112
              try rw [pz_wi (by first | decide | omega) (by first | decide | omega)] at e112
              exact ih44 _ _ _ (by first | decide | omega) (by first | decide | omega)
            · skip
              refine And.intro (hI) ?_
              intro v75 M75 a75 b75 q75
              obtain ⟨q75, z75⟩ := q75
              subst z75
              intro v79 e79 a79 b79
              intro v80 e80 a80 b80
              refine And.intro (hI) ?_
              intro v83 M83 a83 b83 q83
              obtain ⟨q83, z83⟩ := q83
              subst z83
              intro v88 e88 a88 b88
              try rw [pz_wi (by first | decide | omega) (by first | decide | omega)] at e88
              intro v90 e90 a90 b90
              intro v91 e91 a91 b91
              refine And.intro (fun h92 => ?_) (fun h92 => ?_)
              · skip
                intro v106 e106 a106 b106
                try rw [pz_wi (by first | decide | omega) (by first | decide | omega)] at e106
                exact ih58 _ _ _ (by first | decide | omega) (by first | decide | omega) (by first | decide | omega) (by first | decide | omega) (by first | decide | omega)
              · skip
                refine And.intro (fun h96 => ?_) (fun h96 => ?_)
                · skip
                  refine And.intro rfl ?_
                  exact ⟨trivial, rfl⟩
                · skip
                  refine And.intro rfl ?_
                  exact ⟨trivial, rfl⟩
        refine hgo (fun p => Nat.beq p 15 || Nat.beq p 44 || Nat.beq p 58) 72 44 _ _ _ ?_
        intro r46 e46 k46
        have R46 := pz_kd0 k46
        intro v49 e49 a49 b49
        have I49 := hI.1 r46 (by first | decide | omega) (by first | decide | omega)
        refine And.intro (fun h52 => ?_) (fun h52 => ?_)
        · skip
          refine And.intro rfl ?_
          exact ⟨trivial, rfl⟩
        · skip
          exact L58 _ _ _ _ (Nat.lt_succ_self _) (by first | decide | omega) (by first | decide | omega) (by first | decide | omega) (by first | decide | omega)
    have L15 : ∀ (fu : Nat) (x2 : Int) (x3 : Int) (d4 : Option pz_V), (12 - x3).toNat < fu → (0 ≤ x3) → Ok 15 [some (.inr (.inr (11, 0))), some (.inl w), some (.inl x2), some (.inl x3), d4] [] M := by
      intro fu
      induction fu with
      | zero => exact fun _ _ _ hn => absurd hn (Nat.not_lt_zero _)
      | succ fu ih15 =>
        intro x2 x3 d4 hn15 g15_0
        refine hgo (fun p => Nat.beq p 15 || Nat.beq p 44 || Nat.beq p 58) 72 15 _ _ _ ?_
        intro r17 e17 k17
        have R17 := pz_kd0 k17
        intro v20 e20 a20 b20
        have I20 := hI.1 r17 (by first | decide | omega) (by first | decide | omega)
        refine And.intro (fun h23 => ?_) (fun h23 => ?_)
        · skip
          exact L44 _ _ _ _ (Nat.lt_succ_self _) (by first | decide | omega)
        · skip
          refine And.intro (hI) ?_
          intro v29 M29 a29 b29 q29
          obtain ⟨q29, z29⟩ := q29
          subst z29
          intro v33 e33 a33 b33
          intro v34 e34 a34 b34
          intro v36 e36 a36 b36
          try rw [pz_wi (by first | decide | omega) (by first | decide | omega)] at e36
          exact ih15 _ _ _ (by first | decide | omega) (by first | decide | omega)
    refine hgo (fun p => Nat.beq p 15 || Nat.beq p 44 || Nat.beq p 58) 72 0 _ [] M ?_
    refine And.intro (True.intro) ?_
    intro v3 M3 a3 b3 q3
    obtain ⟨q3, z3⟩ := q3
    subst z3
    refine And.intro (fun h6 => ?_) (fun h6 => ?_)
    · skip
      exact L15 _ _ _ _ (Nat.lt_succ_self _) (by first | decide | omega)
    · skip
      refine And.intro rfl ?_
      exact ⟨trivial, rfl⟩
theorem v_X11_game {fr lo i : Nat} {own : String} (h1 : 2 + 1 ≤ fr) (h2 : 8 + (5 + 11) + 43 ≤ lo) (h3 : .methodLink own i yX11_game ∈ lw_tbl) : pz_cV fr lo own i k_X11_game :=
  pz_cVk (maxL := 5) (fr' := 2) (lo' := 43) 1 11 h_X11_game rfl ⟨(pz_nhc_RX11 yX11_game rfl).1, (pz_nhc_RX11 yX11_game rfl).2, pz_ds5⟩ ⟨pz_wq1052, pz_wq1050, pz_wq1051, pz_wq1⟩ (Or.inl ⟨TX11, 14, rfl⟩) (fun a M _ h => by
    have h : (match (generalizing := false) a with | [.inr (.inr (11, th)), .inl w] => pz_ic M | _ => False) := h
    split at h
    · exact ⟨_, _, rfl⟩
    · exact h.elim) h1 h2 h3





noncomputable def k_X11_undo : pz_C := (1, 1, fun a M => (match a with | [.inr (.inr (11, th))] => pz_ic M | _ => False), fun a M r M' => (match a, r with | [.inr (.inr (11, th))], some (.inl v) => ((M 3 2 = 0 ∧ v = 0 ∧ M' = M) ∨ (M 3 2 ≠ 0 ∧ v = 1 ∧ M' = pz_bf M)) ∧ pz_sW M M' | _, _ => False))
noncomputable abbrev ct_X11_undo : List (Bool × Nat × pz_C) := [(true, 349, k_X2_goBack)]
set_option maxRecDepth 100000 in
set_option maxHeartbeats 4000000 in
theorem h_X11_undo : pz_H yX11_undo cX11_undo 1 (some .boolean) k_X11_undo 3 64 := by
  refine pz_mk (own := RX11) (tb := t_X11_undo) (fl := pz_flf fl_RX11) (ci := pz_cif ci_RX11) (ct := pz_ctf ct_X11_undo) (rz := true) (pz_pfc_RX11 yX11_undo rfl) rfl t_X11_undo_ok (pz_flk fl_RX11_ok) (pz_cik ci_RX11_ok) ?_ ?_ (Or.inr ⟨rfl, rfl⟩) ?_ ?_
  · exact fun i k' h => pz_ctk (l := ct_X11_undo) (P := fun b i k => b = true → pz_cV 3 64 RX11 i k) (List.forall_mem_cons.mpr ⟨(fun _ => v_X2_goBack (by decide) (by decide) pz_wq1094), fun _ h => absurd h List.not_mem_nil⟩) true i k' h rfl
  · exact fun i k' h => pz_ctk (l := ct_X11_undo) (P := fun b i k => b = false → (pz_cS 3 64 RX11 i k ∨ (k = pz_kac ∧ 1 ≤ 3 ∧ 60 ≤ 64 ∧ Cond.methodLink RX11 i arraycopyName ∈ pz_tbl))) (List.forall_mem_cons.mpr ⟨((fun z => by cases z)), fun _ h => absurd h List.not_mem_nil⟩) false i k' h rfl
  · intro a M hlen hpre
    obtain ⟨th, rfl, hpre⟩ : ∃ th, a = [.inr (.inr (11, th))] ∧ (pz_ic M) := by
      have hpre : (match (generalizing := false) a with | [.inr (.inr (11, th))] => pz_ic M | _ => False) := hpre
      split at hpre
      · exact ⟨_, rfl, hpre⟩
      · exact hpre.elim
    exact Nat.le_of_ble_eq_true rfl
  · intro a M hlen hcan hM hpre Ok hgo
    obtain ⟨th, rfl, hpre⟩ : ∃ th, a = [.inr (.inr (11, th))] ∧ (pz_ic M) := by
      have hpre : (match (generalizing := false) a with | [.inr (.inr (11, th))] => pz_ic M | _ => False) := hpre
      split at hpre
      · exact ⟨_, rfl, hpre⟩
      · exact hpre.elim
    obtain ⟨k_th, hc_th⟩ := pz_tlm hcan
    have k_th : pz_kd th = 11 ∧ th < 231 := k_th
    have R_th := pz_kd11 k_th.1
    subst R_th
    have hI : pz_ic M := hpre
    have hI0 := hI
    have hS : pz_sW M M := pz_sW.rf
    refine hgo (fun _ => false) 8 0 _ [] M ?_
    refine pz_nrc (c := 3) rfl ?_
    refine pz_nrc (c := 71) rfl ?_
    refine And.intro (And.intro hI (by first | decide | omega)) ?_
    intro v8 M8 a8 b8 q8
    obtain ⟨q8, z8⟩ := q8
    have hS : pz_sW M M8 := hS.tr z8
    have hI : pz_ic M8 := hS.1.1 hI0
    refine And.intro (by first | decide | omega) ?_
    refine And.intro rfl ?_
    exact ⟨q8, hS⟩
theorem v_X11_undo {fr lo i : Nat} {own : String} (h1 : 3 + 1 ≤ fr) (h2 : 8 + (1 + 11) + 64 ≤ lo) (h3 : .methodLink own i yX11_undo ∈ lw_tbl) : pz_cV fr lo own i k_X11_undo :=
  pz_cVk (maxL := 1) (fr' := 3) (lo' := 64) 0 11 h_X11_undo rfl ⟨(pz_nhc_RX11 yX11_undo rfl).1, (pz_nhc_RX11 yX11_undo rfl).2, pz_ds3⟩ ⟨pz_wq1093, pz_wq1091, pz_wq1092, pz_wq1⟩ (Or.inl ⟨TX11, 14, rfl⟩) (fun a M _ h => by
    have h : (match (generalizing := false) a with | [.inr (.inr (11, th))] => pz_ic M | _ => False) := h
    split at h
    · exact ⟨_, _, rfl⟩
    · exact h.elim) h1 h2 h3
end
section
noncomputable def k_X11_feed : pz_C := (6, 1, fun a M => (match a with | [.inr (.inr (11, th)), .inl p, .inl q, .inl w, .inl s, .inl u] => pz_ic M | _ => False), fun a M r M' => (match a, r with | [.inr (.inr (11, th)), .inl p, .inl q, .inl w, .inl s, .inl u], some (.inl v) => ((M 4 1 + 20 ≤ 400 ∧ v = M 4 1 + 20 ∧ M' 4 1 = M 4 1 + 20 ∧ pz_fb M M' p q w s u) ∨ (¬ M 4 1 + 20 ≤ 400 ∧ v = -1 ∧ M' = M)) ∧ pq_pr pq_Pf M M' | _, _ => False))
noncomputable abbrev ct_X11_feed : List (Bool × Nat × pz_C) := [(true, 191, k_X7_put)]
set_option maxRecDepth 100000 in
set_option maxHeartbeats 4000000 in
theorem h_X11_feed : pz_H yX11_feed cX11_feed 6 (some .int) k_X11_feed 1 22 := by
  refine pz_mk (own := RX11) (tb := t_X11_feed) (fl := pz_flf fl_RX11) (ci := pz_cif ci_RX11) (ct := pz_ctf ct_X11_feed) (rz := false) (pz_pfc_RX11 yX11_feed rfl) rfl t_X11_feed_ok (pz_flk fl_RX11_ok) (pz_cik ci_RX11_ok) ?_ ?_ (Or.inl ⟨rfl, rfl⟩) ?_ ?_
  · exact fun i k' h => pz_ctk (l := ct_X11_feed) (P := fun b i k => b = true → pz_cV 1 22 RX11 i k) (List.forall_mem_cons.mpr ⟨(fun _ => v_X7_put (by decide) (by decide) pz_wq647), fun _ h => absurd h List.not_mem_nil⟩) true i k' h rfl
  · exact fun i k' h => pz_ctk (l := ct_X11_feed) (P := fun b i k => b = false → (pz_cS 1 22 RX11 i k ∨ (k = pz_kac ∧ 1 ≤ 1 ∧ 60 ≤ 22 ∧ Cond.methodLink RX11 i arraycopyName ∈ pz_tbl))) (List.forall_mem_cons.mpr ⟨((fun z => by cases z)), fun _ h => absurd h List.not_mem_nil⟩) false i k' h rfl
  · intro a M hlen hpre
    obtain ⟨th, p, q, w, s, u, rfl, hpre⟩ : ∃ th p q w s u, a = [.inr (.inr (11, th)), .inl p, .inl q, .inl w, .inl s, .inl u] ∧ (pz_ic M) := by
      have hpre : (match (generalizing := false) a with | [.inr (.inr (11, th)), .inl p, .inl q, .inl w, .inl s, .inl u] => pz_ic M | _ => False) := hpre
      split at hpre
      · exact ⟨_, _, _, _, _, _, rfl, hpre⟩
      · exact hpre.elim
    exact Nat.le_of_ble_eq_true rfl
  · intro a M hlen hcan hM hpre Ok hgo
    obtain ⟨th, p, q, w, s, u, rfl, hpre⟩ : ∃ th p q w s u, a = [.inr (.inr (11, th)), .inl p, .inl q, .inl w, .inl s, .inl u] ∧ (pz_ic M) := by
      have hpre : (match (generalizing := false) a with | [.inr (.inr (11, th)), .inl p, .inl q, .inl w, .inl s, .inl u] => pz_ic M | _ => False) := hpre
      split at hpre
      · exact ⟨_, _, _, _, _, _, rfl, hpre⟩
      · exact hpre.elim
    obtain ⟨k_th, hc_th⟩ := pz_tlm hcan
    have k_th : pz_kd th = 11 ∧ th < 231 := k_th
    have R_th := pz_kd11 k_th.1
    subst R_th
    obtain ⟨k_p, hc_p⟩ := pz_tlm hc_th
    have l_p : -2147483648 ≤ p := k_p.1
    have u_p : p ≤ 2147483647 := k_p.2
    obtain ⟨k_q, hc_q⟩ := pz_tlm hc_p
    have l_q : -2147483648 ≤ q := k_q.1
    have u_q : q ≤ 2147483647 := k_q.2
    obtain ⟨k_w, hc_w⟩ := pz_tlm hc_q
    have l_w : -2147483648 ≤ w := k_w.1
    have u_w : w ≤ 2147483647 := k_w.2
    obtain ⟨k_s, hc_s⟩ := pz_tlm hc_w
    have l_s : -2147483648 ≤ s := k_s.1
    have u_s : s ≤ 2147483647 := k_s.2
    obtain ⟨k_u, hc_u⟩ := pz_tlm hc_s
    have l_u : -2147483648 ≤ u := k_u.1
    have u_u : u ≤ 2147483647 := k_u.2
    have hI : pz_ic M := hpre
    have hI0 := hI
    have hS : pq_pr pq_Pf M M := pq_pr.rf
    have I0 := hI.2.2.2.2.1
    refine hgo (fun _ => false) 35 0 _ [] M ?_
    refine pz_nrc (c := 4) rfl ?_
    intro v4 e4 a4 b4
    have I4 := hI.2.2.2.2.1
    intro v9 e9 a9 b9
    try rw [pz_wi (by first | decide | omega) (by first | decide | omega)] at e9
    refine And.intro (fun h13 => ?_) (fun h13 => ?_)
    · skip
      refine pz_nrc (c := 4) rfl ?_
      refine And.intro (hI) ?_
      intro M23 q23
      obtain ⟨q23, z23⟩ := q23
      have hS : pq_pr pq_Pf M M23 := hS.tr z23
      have hI : pz_ic M23 := hS.1 hI0
      refine pz_nrc (c := 4) rfl ?_
      refine And.intro (hI) ?_
      intro M31 q31
      obtain ⟨q31, z31⟩ := q31
      have hS : pq_pr pq_Pf M M31 := hS.tr z31
      have hI : pz_ic M31 := hS.1 hI0
      refine pz_nrc (c := 4) rfl ?_
      refine And.intro (hI) ?_
      intro M39 q39
      obtain ⟨q39, z39⟩ := q39
      have hS : pq_pr pq_Pf M M39 := hS.tr z39
      have hI : pz_ic M39 := hS.1 hI0
      refine pz_nrc (c := 4) rfl ?_
      refine And.intro (hI) ?_
      intro M48 q48
      obtain ⟨q48, z48⟩ := q48
      have hS : pq_pr pq_Pf M M48 := hS.tr z48
      have hI : pz_ic M48 := hS.1 hI0
      refine pz_nrc (c := 4) rfl ?_
      refine And.intro (hI) ?_
      intro M57 q57
      obtain ⟨q57, z57⟩ := q57
      have hS : pq_pr pq_Pf M M57 := hS.tr z57
      have hI : pz_ic M57 := hS.1 hI0
      refine pz_nrc (c := 4) rfl ?_
      intro v64 e64 a64 b64
      have I64 := hI.2.2.2.2.1
      refine And.intro rfl ?_
      have F9 := pz_fb_of (by first | decide | omega) I0.1 q23.1 q31.1 q39.1 q48.1 q57.1
      exact ⟨Or.inl ⟨by omega, by omega, F9.1, F9.2⟩, hS⟩
    · skip
      refine And.intro rfl ?_
      exact ⟨Or.inr ⟨by omega, rfl, rfl⟩, hS⟩
theorem v_X11_feed {fr lo i : Nat} {own : String} (h1 : 1 + 1 ≤ fr) (h2 : 8 + (6 + 11) + 22 ≤ lo) (h3 : .methodLink own i yX11_feed ∈ lw_tbl) : pz_cV fr lo own i k_X11_feed :=
  pz_cVk (maxL := 6) (fr' := 1) (lo' := 22) 5 11 h_X11_feed rfl ⟨(pz_nhc_RX11 yX11_feed rfl).1, (pz_nhc_RX11 yX11_feed rfl).2, pz_ds21⟩ ⟨pz_wq646, pz_wq644, pz_wq645, pz_wq1⟩ (Or.inl ⟨TX11, 14, rfl⟩) (fun a M _ h => by
    have h : (match (generalizing := false) a with | [.inr (.inr (11, th)), .inl p, .inl q, .inl w, .inl s, .inl u] => pz_ic M | _ => False) := h
    split at h
    · exact ⟨_, _, rfl⟩
    · exact h.elim) h1 h2 h3
end
section
theorem pz_iom_w {k : Nat} {v : Int} (h1 : k ≤ 840) (h2 : k ≠ 88) (h3 : k ≠ 89) (h4 : k ≠ 90) (h5 : k ≠ 92) (h6 : k ≠ 3) : pz_iom 60 k v := by unfold pz_iom; omega
theorem pz_iom_w1 {k : Nat} {v : Int} (h1 : 4 ≤ k) (h2 : k ≤ 87) : pz_iom 60 k v := pz_iom_w (by first | decide | omega) (by first | decide | omega) (by first | decide | omega) (by first | decide | omega) (by first | decide | omega) (by first | decide | omega)
theorem pz_iom_w2 {k : Nat} {v : Int} (h1 : 93 ≤ k) (h2 : k ≤ 840) : pz_iom 60 k v := pz_iom_w (by first | decide | omega) (by first | decide | omega) (by first | decide | omega) (by first | decide | omega) (by first | decide | omega) (by first | decide | omega)
theorem pz_iom_88 {v : Int} (h : 0 ≤ v ∧ v ≤ 12) : pz_iom 60 88 v := by unfold pz_iom; omega
theorem pz_iom_90 {v : Int} (h : 0 ≤ v ∧ v ≤ 16) : pz_iom 60 90 v := by unfold pz_iom; omega
theorem pz_iom_92 {v : Int} (h : 0 ≤ v ∧ v ≤ 16) : pz_iom 60 92 v := by unfold pz_iom; omega
theorem pz_iom_3 {v : Int} (h : 0 ≤ v ∧ v ≤ 150) : pz_iom 60 3 v := by unfold pz_iom; omega
theorem pz_iom_u {k : Nat} {v : Int} (h1 : k ≤ 87) (h : k = 3 → 0 ≤ v ∧ v ≤ 150) : pz_iom 60 k v := by
  by_cases q : k = 3
  · rw [q]
    exact pz_iom_3 (h q)
  · exact pz_iom_w (by first | decide | omega) (by first | decide | omega) (by first | decide | omega) (by first | decide | omega) (by first | decide | omega) q
theorem pz_iom_62 {k : Nat} {v : Int} (h : k % 88 = 3 → 0 ≤ v ∧ v ≤ 150) : pz_iom 62 k v := by unfold pz_iom; omega
theorem pz_iom_63 {k : Nat} {v : Int} (h : k = 3 → 0 ≤ v ∧ v ≤ 150) : pz_iom 63 k v := by unfold pz_iom; omega
theorem pz_iom_w0 {k : Nat} {v : Int} (h : k ≤ 2) : pz_iom 60 k v := pz_iom_w (by first | decide | omega) (by first | decide | omega) (by first | decide | omega) (by first | decide | omega) (by first | decide | omega) (by first | decide | omega)
theorem pz_iom_a {a k : Nat} {v : Int} (h : 64 ≤ a ∧ a < 71) : pz_iom a k v := by unfold pz_iom; omega
theorem pz_iom_f {k : Nat} {v : Int} (h : k ≠ 4 ∧ k ≠ 13 ∧ k ≠ 14 ∧ k ≠ 15 ∧ k ≠ 16 ∧ k ≠ 17 ∧ k ≠ 19) : pz_iom 1 k v := by unfold pz_iom; omega
theorem pz_iom_4 {v : Int} (h : 0 ≤ v ∧ v ≤ 6) : pz_iom 1 4 v := by unfold pz_iom; omega
theorem pz_iom_13 {v : Int} (h : 0 ≤ v ∧ v ≤ 16) : pz_iom 1 13 v := by unfold pz_iom; omega
theorem pz_iom_14 {v : Int} (h : 0 ≤ v ∧ v ≤ 410) : pz_iom 1 14 v := by unfold pz_iom; omega
theorem pz_iom_15 {v : Int} (h : 0 ≤ v ∧ v ≤ 16) : pz_iom 1 15 v := by unfold pz_iom; omega
theorem pz_iom_16 {v : Int} (h : 0 ≤ v ∧ v ≤ 400) : pz_iom 1 16 v := by unfold pz_iom; omega
theorem pz_iom_17 {v : Int} (h : 0 ≤ v ∧ v ≤ 400) : pz_iom 1 17 v := by unfold pz_iom; omega
theorem pz_iom_19 {v : Int} (h : 0 ≤ v ∧ v ≤ 400) : pz_iom 1 19 v := by unfold pz_iom; omega
noncomputable def k_X12_isIn : pz_C := (3, 1, fun a M => (match a with | [.inl x, .inl y, .inl z] => True | _ => False), fun a M r M' => (match a, r with | [.inl x, .inl y, .inl z], some (.inl v) => ((v = 1 ∧ y ≤ x ∧ x ≤ z) ∨ (v = 0 ∧ ¬ (y ≤ x ∧ x ≤ z))) ∧ M = M' | _, _ => False))
noncomputable abbrev ct_X12_isIn : List (Bool × Nat × pz_C) := []
set_option maxRecDepth 100000 in
set_option maxHeartbeats 4000000 in
theorem h_X12_isIn : pz_H yX12_isIn cX12_isIn 3 (some .boolean) k_X12_isIn 0 0 := by
  refine pz_mk (own := RX12) (tb := t_X12_isIn) (fl := pz_flf fl_RX12) (ci := pz_cif ci_RX12) (ct := pz_ctf ct_X12_isIn) (rz := true) (pz_pfc_RX12 yX12_isIn rfl) rfl t_X12_isIn_ok (pz_flk fl_RX12_ok) (pz_cik ci_RX12_ok) ?_ ?_ (Or.inr ⟨rfl, rfl⟩) ?_ ?_
  · exact fun i k' h => pz_ctk (l := ct_X12_isIn) (P := fun b i k => b = true → pz_cV 0 0 RX12 i k) (fun _ h => absurd h List.not_mem_nil) true i k' h rfl
  · exact fun i k' h => pz_ctk (l := ct_X12_isIn) (P := fun b i k => b = false → (pz_cS 0 0 RX12 i k ∨ (k = pz_kac ∧ 1 ≤ 0 ∧ 60 ≤ 0 ∧ Cond.methodLink RX12 i arraycopyName ∈ pz_tbl))) (fun _ h => absurd h List.not_mem_nil) false i k' h rfl
  · intro a M hlen hpre
    obtain ⟨x, y, z, rfl, hpre⟩ : ∃ x y z, a = [.inl x, .inl y, .inl z] ∧ (True) := by
      have hpre : (match (generalizing := false) a with | [.inl x, .inl y, .inl z] => True | _ => False) := hpre
      split at hpre
      · exact ⟨_, _, _, rfl, hpre⟩
      · exact hpre.elim
    exact Nat.le_of_ble_eq_true rfl
  · intro a M hlen hcan hM hpre Ok hgo
    obtain ⟨x, y, z, rfl, hpre⟩ : ∃ x y z, a = [.inl x, .inl y, .inl z] ∧ (True) := by
      have hpre : (match (generalizing := false) a with | [.inl x, .inl y, .inl z] => True | _ => False) := hpre
      split at hpre
      · exact ⟨_, _, _, rfl, hpre⟩
      · exact hpre.elim
    obtain ⟨k_x, hc_x⟩ := pz_tlm hcan
    have l_x : -2147483648 ≤ x := k_x.1
    have u_x : x ≤ 2147483647 := k_x.2
    obtain ⟨k_y, hc_y⟩ := pz_tlm hc_x
    have l_y : -2147483648 ≤ y := k_y.1
    have u_y : y ≤ 2147483647 := k_y.2
    obtain ⟨k_z, hc_z⟩ := pz_tlm hc_y
    have l_z : -2147483648 ≤ z := k_z.1
    have u_z : z ≤ 2147483647 := k_z.2
    refine hgo (fun _ => false) 12 0 _ [] M ?_
    refine And.intro (fun h2 => ?_) (fun h2 => ?_)
    · skip
      refine And.intro (by first | decide | omega) ?_
      refine And.intro rfl ?_
      exact ⟨by omega, rfl⟩
    · skip
      refine And.intro (fun h7 => ?_) (fun h7 => ?_)
      · skip
        refine And.intro (by first | decide | omega) ?_
        refine And.intro rfl ?_
        exact ⟨by omega, rfl⟩
      · skip
        refine And.intro (by first | decide | omega) ?_
        refine And.intro rfl ?_
        exact ⟨by omega, rfl⟩
theorem s_X12_isIn {fr lo i : Nat} {own : String} (h1 : 0 + 1 ≤ fr) (h2 : 8 + (3 + 11) + 0 ≤ lo) (h3 : .methodLink own i yX12_isIn ∈ lw_tbl ∨ (own = RX1 ∧ i = 35 ∧ yX12_isIn = yX11_within)) : pz_cS fr lo own i k_X12_isIn := pz_cSk (maxL := 3) (fr' := 0) (lo' := 0) 3 h_X12_isIn rfl ⟨(pz_nhc_RX12 yX12_isIn rfl).1, (pz_nhc_RX12 yX12_isIn rfl).2, pz_ds17⟩ ⟨pz_wq1219, pz_wq1218, pz_wq13⟩ h1 h2 h3
noncomputable def k_X12_lesser : pz_C := (2, 1, fun a M => (match a with | [.inl x, .inl y] => True | _ => False), fun a M r M' => (match a, r with | [.inl x, .inl y], some (.inl v) => (v ≤ x ∧ v ≤ y ∧ (v = x ∨ v = y)) ∧ M = M' | _, _ => False))
noncomputable abbrev ct_X12_lesser : List (Bool × Nat × pz_C) := []
set_option maxRecDepth 100000 in
set_option maxHeartbeats 4000000 in
theorem h_X12_lesser : pz_H yX12_lesser cX12_lesser 2 (some .int) k_X12_lesser 0 0 := by
  refine pz_mk (own := RX12) (tb := t_X12_lesser) (fl := pz_flf fl_RX12) (ci := pz_cif ci_RX12) (ct := pz_ctf ct_X12_lesser) (rz := false) (pz_pfc_RX12 yX12_lesser rfl) rfl t_X12_lesser_ok (pz_flk fl_RX12_ok) (pz_cik ci_RX12_ok) ?_ ?_ (Or.inl ⟨rfl, rfl⟩) ?_ ?_
  · exact fun i k' h => pz_ctk (l := ct_X12_lesser) (P := fun b i k => b = true → pz_cV 0 0 RX12 i k) (fun _ h => absurd h List.not_mem_nil) true i k' h rfl
  · exact fun i k' h => pz_ctk (l := ct_X12_lesser) (P := fun b i k => b = false → (pz_cS 0 0 RX12 i k ∨ (k = pz_kac ∧ 1 ≤ 0 ∧ 60 ≤ 0 ∧ Cond.methodLink RX12 i arraycopyName ∈ pz_tbl))) (fun _ h => absurd h List.not_mem_nil) false i k' h rfl
  · intro a M hlen hpre
    obtain ⟨x, y, rfl, hpre⟩ : ∃ x y, a = [.inl x, .inl y] ∧ (True) := by
      have hpre : (match (generalizing := false) a with | [.inl x, .inl y] => True | _ => False) := hpre
      split at hpre
      · exact ⟨_, _, rfl, hpre⟩
      · exact hpre.elim
    exact Nat.le_of_ble_eq_true rfl
  · intro a M hlen hcan hM hpre Ok hgo
    obtain ⟨x, y, rfl, hpre⟩ : ∃ x y, a = [.inl x, .inl y] ∧ (True) := by
      have hpre : (match (generalizing := false) a with | [.inl x, .inl y] => True | _ => False) := hpre
      split at hpre
      · exact ⟨_, _, rfl, hpre⟩
      · exact hpre.elim
    obtain ⟨k_x, hc_x⟩ := pz_tlm hcan
    have l_x : -2147483648 ≤ x := k_x.1
    have u_x : x ≤ 2147483647 := k_x.2
    obtain ⟨k_y, hc_y⟩ := pz_tlm hc_x
    have l_y : -2147483648 ≤ y := k_y.1
    have u_y : y ≤ 2147483647 := k_y.2
    refine hgo (fun _ => false) 9 0 _ [] M ?_
    refine And.intro (fun h2 => ?_) (fun h2 => ?_)
    · skip
      refine And.intro rfl ?_
      exact ⟨by omega, rfl⟩
    · skip
      refine And.intro rfl ?_
      exact ⟨by omega, rfl⟩
theorem s_X12_lesser {fr lo i : Nat} {own : String} (h1 : 0 + 1 ≤ fr) (h2 : 8 + (2 + 11) + 0 ≤ lo) (h3 : .methodLink own i yX12_lesser ∈ lw_tbl ∨ (own = RX1 ∧ i = 35 ∧ yX12_lesser = yX11_within)) : pz_cS fr lo own i k_X12_lesser := pz_cSk (maxL := 2) (fr' := 0) (lo' := 0) 2 h_X12_lesser rfl ⟨(pz_nhc_RX12 yX12_lesser rfl).1, (pz_nhc_RX12 yX12_lesser rfl).2, pz_ds10⟩ ⟨pz_wq1464, pz_wq1463, pz_wq13⟩ h1 h2 h3
noncomputable def k_X12_greater : pz_C := (2, 1, fun a M => (match a with | [.inl x, .inl y] => True | _ => False), fun a M r M' => (match a, r with | [.inl x, .inl y], some (.inl v) => (x ≤ v ∧ y ≤ v ∧ (v = x ∨ v = y)) ∧ M = M' | _, _ => False))
noncomputable abbrev ct_X12_greater : List (Bool × Nat × pz_C) := []
set_option maxRecDepth 100000 in
set_option maxHeartbeats 4000000 in
theorem h_X12_greater : pz_H yX12_greater cX12_greater 2 (some .int) k_X12_greater 0 0 := by
  refine pz_mk (own := RX12) (tb := t_X12_greater) (fl := pz_flf fl_RX12) (ci := pz_cif ci_RX12) (ct := pz_ctf ct_X12_greater) (rz := false) (pz_pfc_RX12 yX12_greater rfl) rfl t_X12_greater_ok (pz_flk fl_RX12_ok) (pz_cik ci_RX12_ok) ?_ ?_ (Or.inl ⟨rfl, rfl⟩) ?_ ?_
  · exact fun i k' h => pz_ctk (l := ct_X12_greater) (P := fun b i k => b = true → pz_cV 0 0 RX12 i k) (fun _ h => absurd h List.not_mem_nil) true i k' h rfl
  · exact fun i k' h => pz_ctk (l := ct_X12_greater) (P := fun b i k => b = false → (pz_cS 0 0 RX12 i k ∨ (k = pz_kac ∧ 1 ≤ 0 ∧ 60 ≤ 0 ∧ Cond.methodLink RX12 i arraycopyName ∈ pz_tbl))) (fun _ h => absurd h List.not_mem_nil) false i k' h rfl
  · intro a M hlen hpre
    obtain ⟨x, y, rfl, hpre⟩ : ∃ x y, a = [.inl x, .inl y] ∧ (True) := by
      have hpre : (match (generalizing := false) a with | [.inl x, .inl y] => True | _ => False) := hpre
      split at hpre
      · exact ⟨_, _, rfl, hpre⟩
      · exact hpre.elim
    exact Nat.le_of_ble_eq_true rfl
  · intro a M hlen hcan hM hpre Ok hgo
    obtain ⟨x, y, rfl, hpre⟩ : ∃ x y, a = [.inl x, .inl y] ∧ (True) := by
      have hpre : (match (generalizing := false) a with | [.inl x, .inl y] => True | _ => False) := hpre
      split at hpre
      · exact ⟨_, _, rfl, hpre⟩
      · exact hpre.elim
    obtain ⟨k_x, hc_x⟩ := pz_tlm hcan
    have l_x : -2147483648 ≤ x := k_x.1
    have u_x : x ≤ 2147483647 := k_x.2
    obtain ⟨k_y, hc_y⟩ := pz_tlm hc_x
    have l_y : -2147483648 ≤ y := k_y.1
    have u_y : y ≤ 2147483647 := k_y.2
    refine hgo (fun _ => false) 9 0 _ [] M ?_
    refine And.intro (fun h2 => ?_) (fun h2 => ?_)
    · skip
      refine And.intro rfl ?_
      exact ⟨by omega, rfl⟩
    · skip
      refine And.intro rfl ?_
      exact ⟨by omega, rfl⟩
theorem s_X12_greater {fr lo i : Nat} {own : String} (h1 : 0 + 1 ≤ fr) (h2 : 8 + (2 + 11) + 0 ≤ lo) (h3 : .methodLink own i yX12_greater ∈ lw_tbl ∨ (own = RX1 ∧ i = 35 ∧ yX12_greater = yX11_within)) : pz_cS fr lo own i k_X12_greater := pz_cSk (maxL := 2) (fr' := 0) (lo' := 0) 2 h_X12_greater rfl ⟨(pz_nhc_RX12 yX12_greater rfl).1, (pz_nhc_RX12 yX12_greater rfl).2, pz_ds10⟩ ⟨pz_wq1449, pz_wq1448, pz_wq13⟩ h1 h2 h3

noncomputable def k_X12_isLink : pz_C := (2, 1, fun a M => (match a with | [.inr (.inr (12, th)), .inl i] => pz_im M | _ => False), fun a M r M' => (match a, r with | [.inr (.inr (12, th)), .inl i], some (.inl v) => ((v = 1 ∧ 0 ≤ i ∧ i < M 60 88 ∧ M 60 88 ≤ 12) ∨ (v = 0 ∧ ¬ (0 ≤ i ∧ i < M 60 88))) ∧ M = M' | _, _ => False))
noncomputable abbrev ct_X12_isLink : List (Bool × Nat × pz_C) := [(false, 54, k_X12_isIn)]
set_option maxRecDepth 100000 in
set_option maxHeartbeats 4000000 in
theorem h_X12_isLink : pz_H yX12_isLink cX12_isLink 2 (some .boolean) k_X12_isLink 1 22 := by
  refine pz_mk (own := RX12) (tb := t_X12_isLink) (fl := pz_flf fl_RX12) (ci := pz_cif ci_RX12) (ct := pz_ctf ct_X12_isLink) (rz := true) (pz_pfc_RX12 yX12_isLink rfl) rfl t_X12_isLink_ok (pz_flk fl_RX12_ok) (pz_cik ci_RX12_ok) ?_ ?_ (Or.inr ⟨rfl, rfl⟩) ?_ ?_
  · exact fun i k' h => pz_ctk (l := ct_X12_isLink) (P := fun b i k => b = true → pz_cV 1 22 RX12 i k) (List.forall_mem_cons.mpr ⟨((fun z => by cases z)), fun _ h => absurd h List.not_mem_nil⟩) true i k' h rfl
  · exact fun i k' h => pz_ctk (l := ct_X12_isLink) (P := fun b i k => b = false → (pz_cS 1 22 RX12 i k ∨ (k = pz_kac ∧ 1 ≤ 1 ∧ 60 ≤ 22 ∧ Cond.methodLink RX12 i arraycopyName ∈ pz_tbl))) (List.forall_mem_cons.mpr ⟨(fun _ => Or.inl (s_X12_isIn (by decide) (by decide) (Or.inl pz_wq1217))), fun _ h => absurd h List.not_mem_nil⟩) false i k' h rfl
  · intro a M hlen hpre
    obtain ⟨th, i, rfl, hpre⟩ : ∃ th i, a = [.inr (.inr (12, th)), .inl i] ∧ (pz_im M) := by
      have hpre : (match (generalizing := false) a with | [.inr (.inr (12, th)), .inl i] => pz_im M | _ => False) := hpre
      split at hpre
      · exact ⟨_, _, rfl, hpre⟩
      · exact hpre.elim
    exact Nat.le_of_ble_eq_true rfl
  · intro a M hlen hcan hM hpre Ok hgo
    obtain ⟨th, i, rfl, hpre⟩ : ∃ th i, a = [.inr (.inr (12, th)), .inl i] ∧ (pz_im M) := by
      have hpre : (match (generalizing := false) a with | [.inr (.inr (12, th)), .inl i] => pz_im M | _ => False) := hpre
      split at hpre
      · exact ⟨_, _, rfl, hpre⟩
      · exact hpre.elim
    obtain ⟨k_th, hc_th⟩ := pz_tlm hcan
    have k_th : pz_kd th = 12 ∧ th < 231 := k_th
    have R_th := pz_kd12 k_th.1
    subst R_th
    clear k_th
    obtain ⟨k_i, hc_i⟩ := pz_tlm hc_th
    have l_i : -2147483648 ≤ i := k_i.1
    have u_i : i ≤ 2147483647 := k_i.2
    have hI : pz_im M := hpre
    refine hgo (fun _ => false) 12 0 _ [] M ?_
    refine pz_nrc (c := 60) rfl ?_
    refine And.intro (by first | decide | omega) (And.intro (show _ < (1725 : Int) from by omega) ?_)
    intro v8 e8 a8 b8
    replace e8 : v8 = M 60 88 := e8
    have I8 : 0 ≤ v8 ∧ v8 ≤ 12 := by
      rw [e8]
      exact hI.1.1
    clear a8 b8
    intro v10 e10 a10 b10
    rw [pz_wi (by first | decide | omega) (by first | decide | omega)] at e10
    clear a10 b10
    refine And.intro (True.intro) ?_
    intro v11 M11 a11 b11 q11
    obtain ⟨q11, z11⟩ := q11
    subst z11
    clear a11 b11
    refine And.intro (by first | decide | omega) ?_
    refine And.intro rfl ?_
    exact ⟨by omega, rfl⟩
theorem v_X12_isLink {fr lo i : Nat} {own : String} (h1 : 1 + 1 ≤ fr) (h2 : 8 + (2 + 11) + 22 ≤ lo) (h3 : .methodLink own i yX12_isLink ∈ lw_tbl) : pz_cV fr lo own i k_X12_isLink :=
  pz_cVk (maxL := 2) (fr' := 1) (lo' := 22) 1 12 h_X12_isLink rfl ⟨(pz_nhc_RX12 yX12_isLink rfl).1, (pz_nhc_RX12 yX12_isLink rfl).2, pz_ds9⟩ ⟨pz_wq1227, pz_wq1226, pz_ws5, pz_wq13⟩ (Or.inl ⟨TX12, 28, rfl⟩) (fun a M _ h => by
    have h : (match (generalizing := false) a with | [.inr (.inr (12, th)), .inl i] => pz_im M | _ => False) := h
    split at h
    · exact ⟨_, _, rfl⟩
    · exact h.elim) h1 h2 h3
end
section

noncomputable def k_X12_isOut : pz_C := (2, 1, fun a M => (match a with | [.inr (.inr (12, th)), .inl i] => pz_im M ∧ -52 ≤ i ∧ i ≤ 1000 | _ => False), fun a M r M' => (match a, r with | [.inr (.inr (12, th)), .inl i], some (.inl v) => (v = 0 ∨ v = 1) ∧ M = M' | _, _ => False))
noncomputable abbrev ct_X12_isOut : List (Bool × Nat × pz_C) := []
set_option maxRecDepth 100000 in
set_option maxHeartbeats 4000000 in
theorem h_X12_isOut : pz_H yX12_isOut cX12_isOut 2 (some .boolean) k_X12_isOut 0 0 := by
  refine pz_mk (own := RX12) (tb := t_X12_isOut) (fl := pz_flf fl_RX12) (ci := pz_cif ci_RX12) (ct := pz_ctf ct_X12_isOut) (rz := true) (pz_pfc_RX12 yX12_isOut rfl) rfl t_X12_isOut_ok (pz_flk fl_RX12_ok) (pz_cik ci_RX12_ok) ?_ ?_ (Or.inr ⟨rfl, rfl⟩) ?_ ?_
  · exact fun i k' h => pz_ctk (l := ct_X12_isOut) (P := fun b i k => b = true → pz_cV 0 0 RX12 i k) (fun _ h => absurd h List.not_mem_nil) true i k' h rfl
  · exact fun i k' h => pz_ctk (l := ct_X12_isOut) (P := fun b i k => b = false → (pz_cS 0 0 RX12 i k ∨ (k = pz_kac ∧ 1 ≤ 0 ∧ 60 ≤ 0 ∧ Cond.methodLink RX12 i arraycopyName ∈ pz_tbl))) (fun _ h => absurd h List.not_mem_nil) false i k' h rfl
  · intro a M hlen hpre
    obtain ⟨th, i, rfl, hpre⟩ : ∃ th i, a = [.inr (.inr (12, th)), .inl i] ∧ (pz_im M ∧ -52 ≤ i ∧ i ≤ 1000) := by
      have hpre : (match (generalizing := false) a with | [.inr (.inr (12, th)), .inl i] => pz_im M ∧ -52 ≤ i ∧ i ≤ 1000 | _ => False) := hpre
      split at hpre
      · exact ⟨_, _, rfl, hpre⟩
      · exact hpre.elim
    exact Nat.le_of_ble_eq_true rfl
  · intro a M hlen hcan hM hpre Ok hgo
    obtain ⟨th, i, rfl, hpre⟩ : ∃ th i, a = [.inr (.inr (12, th)), .inl i] ∧ (pz_im M ∧ -52 ≤ i ∧ i ≤ 1000) := by
      have hpre : (match (generalizing := false) a with | [.inr (.inr (12, th)), .inl i] => pz_im M ∧ -52 ≤ i ∧ i ≤ 1000 | _ => False) := hpre
      split at hpre
      · exact ⟨_, _, rfl, hpre⟩
      · exact hpre.elim
    obtain ⟨k_th, hc_th⟩ := pz_tlm hcan
    have k_th : pz_kd th = 12 ∧ th < 231 := k_th
    have R_th := pz_kd12 k_th.1
    subst R_th
    clear k_th
    obtain ⟨k_i, hc_i⟩ := pz_tlm hc_th
    have l_i : -2147483648 ≤ i := k_i.1
    have u_i : i ≤ 2147483647 := k_i.2
    have hI : pz_im M := hpre.1
    refine hgo (fun _ => false) 14 0 _ [] M ?_
    refine pz_nrc (c := 60) rfl ?_
    intro v7 e7 a7 b7
    rw [pz_wi (by first | decide | omega) (by first | decide | omega)] at e7
    clear a7 b7
    have lo8 : (0 : Int) ≤ v7 := by omega
    have tn8 : (((v7).toNat : Nat) : Int) = v7 := Int.toNat_of_nonneg lo8
    refine And.intro (lo8) (And.intro (show _ < (1725 : Int) from by omega) ?_)
    intro v8 e8 a8 b8
    refine And.intro (fun h10 => ?_) (fun h10 => ?_)
    · skip
      refine And.intro (by first | decide | omega) ?_
      refine And.intro rfl ?_
      exact ⟨by omega, rfl⟩
    · skip
      refine And.intro (by first | decide | omega) ?_
      refine And.intro rfl ?_
      exact ⟨by omega, rfl⟩
theorem v_X12_isOut {fr lo i : Nat} {own : String} (h1 : 0 + 1 ≤ fr) (h2 : 8 + (2 + 11) + 0 ≤ lo) (h3 : .methodLink own i yX12_isOut ∈ lw_tbl) : pz_cV fr lo own i k_X12_isOut :=
  pz_cVk (maxL := 2) (fr' := 0) (lo' := 0) 1 12 h_X12_isOut rfl ⟨(pz_nhc_RX12 yX12_isOut rfl).1, (pz_nhc_RX12 yX12_isOut rfl).2, pz_ds9⟩ ⟨pz_wq1422, pz_wq1421, pz_ws39, pz_wq13⟩ (Or.inl ⟨TX12, 28, rfl⟩) (fun a M _ h => by
    have h : (match (generalizing := false) a with | [.inr (.inr (12, th)), .inl i] => pz_im M ∧ -52 ≤ i ∧ i ≤ 1000 | _ => False) := h
    split at h
    · exact ⟨_, _, rfl⟩
    · exact h.elim) h1 h2 h3
noncomputable def k_X12_isBridged : pz_C := (2, 1, fun a M => (match a with | [.inr (.inr (12, th)), .inl i] => pz_im M ∧ -64 ≤ i ∧ i ≤ 1000 | _ => False), fun a M r M' => (match a, r with | [.inr (.inr (12, th)), .inl i], some (.inl v) => (v = 0 ∨ v = 1) ∧ M = M' | _, _ => False))
noncomputable abbrev ct_X12_isBridged : List (Bool × Nat × pz_C) := []
set_option maxRecDepth 100000 in
set_option maxHeartbeats 4000000 in
theorem h_X12_isBridged : pz_H yX12_isBridged cX12_isBridged 2 (some .boolean) k_X12_isBridged 0 0 := by
  refine pz_mk (own := RX12) (tb := t_X12_isBridged) (fl := pz_flf fl_RX12) (ci := pz_cif ci_RX12) (ct := pz_ctf ct_X12_isBridged) (rz := true) (pz_pfc_RX12 yX12_isBridged rfl) rfl t_X12_isBridged_ok (pz_flk fl_RX12_ok) (pz_cik ci_RX12_ok) ?_ ?_ (Or.inr ⟨rfl, rfl⟩) ?_ ?_
  · exact fun i k' h => pz_ctk (l := ct_X12_isBridged) (P := fun b i k => b = true → pz_cV 0 0 RX12 i k) (fun _ h => absurd h List.not_mem_nil) true i k' h rfl
  · exact fun i k' h => pz_ctk (l := ct_X12_isBridged) (P := fun b i k => b = false → (pz_cS 0 0 RX12 i k ∨ (k = pz_kac ∧ 1 ≤ 0 ∧ 60 ≤ 0 ∧ Cond.methodLink RX12 i arraycopyName ∈ pz_tbl))) (fun _ h => absurd h List.not_mem_nil) false i k' h rfl
  · intro a M hlen hpre
    obtain ⟨th, i, rfl, hpre⟩ : ∃ th i, a = [.inr (.inr (12, th)), .inl i] ∧ (pz_im M ∧ -64 ≤ i ∧ i ≤ 1000) := by
      have hpre : (match (generalizing := false) a with | [.inr (.inr (12, th)), .inl i] => pz_im M ∧ -64 ≤ i ∧ i ≤ 1000 | _ => False) := hpre
      split at hpre
      · exact ⟨_, _, rfl, hpre⟩
      · exact hpre.elim
    exact Nat.le_of_ble_eq_true rfl
  · intro a M hlen hcan hM hpre Ok hgo
    obtain ⟨th, i, rfl, hpre⟩ : ∃ th i, a = [.inr (.inr (12, th)), .inl i] ∧ (pz_im M ∧ -64 ≤ i ∧ i ≤ 1000) := by
      have hpre : (match (generalizing := false) a with | [.inr (.inr (12, th)), .inl i] => pz_im M ∧ -64 ≤ i ∧ i ≤ 1000 | _ => False) := hpre
      split at hpre
      · exact ⟨_, _, rfl, hpre⟩
      · exact hpre.elim
    obtain ⟨k_th, hc_th⟩ := pz_tlm hcan
    have k_th : pz_kd th = 12 ∧ th < 231 := k_th
    have R_th := pz_kd12 k_th.1
    subst R_th
    clear k_th
    obtain ⟨k_i, hc_i⟩ := pz_tlm hc_th
    have l_i : -2147483648 ≤ i := k_i.1
    have u_i : i ≤ 2147483647 := k_i.2
    have hI : pz_im M := hpre.1
    refine hgo (fun _ => false) 14 0 _ [] M ?_
    refine pz_nrc (c := 60) rfl ?_
    intro v7 e7 a7 b7
    rw [pz_wi (by first | decide | omega) (by first | decide | omega)] at e7
    clear a7 b7
    have lo8 : (0 : Int) ≤ v7 := by omega
    have tn8 : (((v7).toNat : Nat) : Int) = v7 := Int.toNat_of_nonneg lo8
    refine And.intro (lo8) (And.intro (show _ < (1725 : Int) from by omega) ?_)
    intro v8 e8 a8 b8
    refine And.intro (fun h10 => ?_) (fun h10 => ?_)
    · skip
      refine And.intro (by first | decide | omega) ?_
      refine And.intro rfl ?_
      exact ⟨by omega, rfl⟩
    · skip
      refine And.intro (by first | decide | omega) ?_
      refine And.intro rfl ?_
      exact ⟨by omega, rfl⟩
theorem v_X12_isBridged {fr lo i : Nat} {own : String} (h1 : 0 + 1 ≤ fr) (h2 : 8 + (2 + 11) + 0 ≤ lo) (h3 : .methodLink own i yX12_isBridged ∈ lw_tbl) : pz_cV fr lo own i k_X12_isBridged :=
  pz_cVk (maxL := 2) (fr' := 0) (lo' := 0) 1 12 h_X12_isBridged rfl ⟨(pz_nhc_RX12 yX12_isBridged rfl).1, (pz_nhc_RX12 yX12_isBridged rfl).2, pz_ds9⟩ ⟨pz_wq1453, pz_wq1452, pz_ws46, pz_wq13⟩ (Or.inl ⟨TX12, 28, rfl⟩) (fun a M _ h => by
    have h : (match (generalizing := false) a with | [.inr (.inr (12, th)), .inl i] => pz_im M ∧ -64 ≤ i ∧ i ≤ 1000 | _ => False) := h
    split at h
    · exact ⟨_, _, rfl⟩
    · exact h.elim) h1 h2 h3
noncomputable def k_X12_hasMoved : pz_C := (2, 1, fun a M => (match a with | [.inr (.inr (12, th)), .inl i] => pz_im M ∧ -76 ≤ i ∧ i ≤ 1000 | _ => False), fun a M r M' => (match a, r with | [.inr (.inr (12, th)), .inl i], some (.inl v) => (v = 0 ∨ v = 1) ∧ M = M' | _, _ => False))
noncomputable abbrev ct_X12_hasMoved : List (Bool × Nat × pz_C) := []
set_option maxRecDepth 100000 in
set_option maxHeartbeats 4000000 in
theorem h_X12_hasMoved : pz_H yX12_hasMoved cX12_hasMoved 2 (some .boolean) k_X12_hasMoved 0 0 := by
  refine pz_mk (own := RX12) (tb := t_X12_hasMoved) (fl := pz_flf fl_RX12) (ci := pz_cif ci_RX12) (ct := pz_ctf ct_X12_hasMoved) (rz := true) (pz_pfc_RX12 yX12_hasMoved rfl) rfl t_X12_hasMoved_ok (pz_flk fl_RX12_ok) (pz_cik ci_RX12_ok) ?_ ?_ (Or.inr ⟨rfl, rfl⟩) ?_ ?_
  · exact fun i k' h => pz_ctk (l := ct_X12_hasMoved) (P := fun b i k => b = true → pz_cV 0 0 RX12 i k) (fun _ h => absurd h List.not_mem_nil) true i k' h rfl
  · exact fun i k' h => pz_ctk (l := ct_X12_hasMoved) (P := fun b i k => b = false → (pz_cS 0 0 RX12 i k ∨ (k = pz_kac ∧ 1 ≤ 0 ∧ 60 ≤ 0 ∧ Cond.methodLink RX12 i arraycopyName ∈ pz_tbl))) (fun _ h => absurd h List.not_mem_nil) false i k' h rfl
  · intro a M hlen hpre
    obtain ⟨th, i, rfl, hpre⟩ : ∃ th i, a = [.inr (.inr (12, th)), .inl i] ∧ (pz_im M ∧ -76 ≤ i ∧ i ≤ 1000) := by
      have hpre : (match (generalizing := false) a with | [.inr (.inr (12, th)), .inl i] => pz_im M ∧ -76 ≤ i ∧ i ≤ 1000 | _ => False) := hpre
      split at hpre
      · exact ⟨_, _, rfl, hpre⟩
      · exact hpre.elim
    exact Nat.le_of_ble_eq_true rfl
  · intro a M hlen hcan hM hpre Ok hgo
    obtain ⟨th, i, rfl, hpre⟩ : ∃ th i, a = [.inr (.inr (12, th)), .inl i] ∧ (pz_im M ∧ -76 ≤ i ∧ i ≤ 1000) := by
      have hpre : (match (generalizing := false) a with | [.inr (.inr (12, th)), .inl i] => pz_im M ∧ -76 ≤ i ∧ i ≤ 1000 | _ => False) := hpre
      split at hpre
      · exact ⟨_, _, rfl, hpre⟩
      · exact hpre.elim
    obtain ⟨k_th, hc_th⟩ := pz_tlm hcan
    have k_th : pz_kd th = 12 ∧ th < 231 := k_th
    have R_th := pz_kd12 k_th.1
    subst R_th
    clear k_th
    obtain ⟨k_i, hc_i⟩ := pz_tlm hc_th
    have l_i : -2147483648 ≤ i := k_i.1
    have u_i : i ≤ 2147483647 := k_i.2
    have hI : pz_im M := hpre.1
    refine hgo (fun _ => false) 14 0 _ [] M ?_
    refine pz_nrc (c := 60) rfl ?_
    intro v7 e7 a7 b7
    rw [pz_wi (by first | decide | omega) (by first | decide | omega)] at e7
    clear a7 b7
    have lo8 : (0 : Int) ≤ v7 := by omega
    have tn8 : (((v7).toNat : Nat) : Int) = v7 := Int.toNat_of_nonneg lo8
    refine And.intro (lo8) (And.intro (show _ < (1725 : Int) from by omega) ?_)
    intro v8 e8 a8 b8
    refine And.intro (fun h10 => ?_) (fun h10 => ?_)
    · skip
      refine And.intro (by first | decide | omega) ?_
      refine And.intro rfl ?_
      exact ⟨by omega, rfl⟩
    · skip
      refine And.intro (by first | decide | omega) ?_
      refine And.intro rfl ?_
      exact ⟨by omega, rfl⟩
theorem v_X12_hasMoved {fr lo i : Nat} {own : String} (h1 : 0 + 1 ≤ fr) (h2 : 8 + (2 + 11) + 0 ≤ lo) (h3 : .methodLink own i yX12_hasMoved ∈ lw_tbl) : pz_cV fr lo own i k_X12_hasMoved :=
  pz_cVk (maxL := 2) (fr' := 0) (lo' := 0) 1 12 h_X12_hasMoved rfl ⟨(pz_nhc_RX12 yX12_hasMoved rfl).1, (pz_nhc_RX12 yX12_hasMoved rfl).2, pz_ds9⟩ ⟨pz_wq1426, pz_wq1425, pz_ws40, pz_wq13⟩ (Or.inl ⟨TX12, 28, rfl⟩) (fun a M _ h => by
    have h : (match (generalizing := false) a with | [.inr (.inr (12, th)), .inl i] => pz_im M ∧ -76 ≤ i ∧ i ≤ 1000 | _ => False) := h
    split at h
    · exact ⟨_, _, rfl⟩
    · exact h.elim) h1 h2 h3
noncomputable def k_X12_isThere : pz_C := (2, 1, fun a M => (match a with | [.inr (.inr (12, th)), .inl i] => pz_im M | _ => False), fun a M r M' => (match a, r with | [.inr (.inr (12, th)), .inl i], some (.inl v) => ((v = 1 ∧ 0 ≤ i ∧ i < M 60 88 ∧ M 60 88 ≤ 12) ∨ v = 0) ∧ M = M' | _, _ => False))
noncomputable abbrev ct_X12_isThere : List (Bool × Nat × pz_C) := [(true, 58, k_X12_isLink), (true, 62, k_X12_isOut), (true, 65, k_X12_hasMoved)]
set_option maxRecDepth 100000 in
set_option maxHeartbeats 4000000 in
theorem h_X12_isThere : pz_H yX12_isThere cX12_isThere 2 (some .boolean) k_X12_isThere 2 43 := by
  refine pz_mk (own := RX12) (tb := t_X12_isThere) (fl := pz_flf fl_RX12) (ci := pz_cif ci_RX12) (ct := pz_ctf ct_X12_isThere) (rz := true) (pz_pfc_RX12 yX12_isThere rfl) rfl t_X12_isThere_ok (pz_flk fl_RX12_ok) (pz_cik ci_RX12_ok) ?_ ?_ (Or.inr ⟨rfl, rfl⟩) ?_ ?_
  · exact fun i k' h => pz_ctk (l := ct_X12_isThere) (P := fun b i k => b = true → pz_cV 2 43 RX12 i k) (List.forall_mem_cons.mpr ⟨(fun _ => v_X12_isLink (by decide) (by decide) pz_wq1224), List.forall_mem_cons.mpr ⟨(fun _ => v_X12_isOut (by decide) (by decide) pz_wq1419), List.forall_mem_cons.mpr ⟨(fun _ => v_X12_hasMoved (by decide) (by decide) pz_wq1423), fun _ h => absurd h List.not_mem_nil⟩⟩⟩) true i k' h rfl
  · exact fun i k' h => pz_ctk (l := ct_X12_isThere) (P := fun b i k => b = false → (pz_cS 2 43 RX12 i k ∨ (k = pz_kac ∧ 1 ≤ 2 ∧ 60 ≤ 43 ∧ Cond.methodLink RX12 i arraycopyName ∈ pz_tbl))) (List.forall_mem_cons.mpr ⟨((fun z => by cases z)), List.forall_mem_cons.mpr ⟨((fun z => by cases z)), List.forall_mem_cons.mpr ⟨((fun z => by cases z)), fun _ h => absurd h List.not_mem_nil⟩⟩⟩) false i k' h rfl
  · intro a M hlen hpre
    obtain ⟨th, i, rfl, hpre⟩ : ∃ th i, a = [.inr (.inr (12, th)), .inl i] ∧ (pz_im M) := by
      have hpre : (match (generalizing := false) a with | [.inr (.inr (12, th)), .inl i] => pz_im M | _ => False) := hpre
      split at hpre
      · exact ⟨_, _, rfl, hpre⟩
      · exact hpre.elim
    exact Nat.le_of_ble_eq_true rfl
  · intro a M hlen hcan hM hpre Ok hgo
    obtain ⟨th, i, rfl, hpre⟩ : ∃ th i, a = [.inr (.inr (12, th)), .inl i] ∧ (pz_im M) := by
      have hpre : (match (generalizing := false) a with | [.inr (.inr (12, th)), .inl i] => pz_im M | _ => False) := hpre
      split at hpre
      · exact ⟨_, _, rfl, hpre⟩
      · exact hpre.elim
    obtain ⟨k_th, hc_th⟩ := pz_tlm hcan
    have k_th : pz_kd th = 12 ∧ th < 231 := k_th
    have R_th := pz_kd12 k_th.1
    subst R_th
    clear k_th
    obtain ⟨k_i, hc_i⟩ := pz_tlm hc_th
    have l_i : -2147483648 ≤ i := k_i.1
    have u_i : i ≤ 2147483647 := k_i.2
    have hI : pz_im M := hpre
    refine hgo (fun _ => false) 18 0 _ [] M ?_
    refine And.intro (hI) ?_
    intro v2 M2 a2 b2 q2
    obtain ⟨q2, z2⟩ := q2
    subst z2
    clear a2 b2
    refine And.intro (fun h5 => ?_) (fun h5 => ?_)
    · skip
      replace q2 := q2.resolve_left (fun z => absurd (z.1.symm.trans h5) (by decide))
      clear h5
      refine And.intro (by first | decide | omega) ?_
      refine And.intro rfl ?_
      exact ⟨by omega, rfl⟩
    · skip
      replace q2 := q2.resolve_right (fun z => h5 z.1)
      clear h5
      refine And.intro (And.intro hI (And.intro (by first | decide | omega) (by first | decide | omega))) ?_
      intro v10 M10 a10 b10 q10
      obtain ⟨q10, z10⟩ := q10
      subst z10
      clear a10 b10
      refine And.intro (fun h13 => ?_) (fun h13 => ?_)
      · skip
        clear h13 q10
        refine And.intro (by first | decide | omega) ?_
        refine And.intro rfl ?_
        exact ⟨by omega, rfl⟩
      · skip
        clear h13 q10
        refine And.intro (And.intro hI (And.intro (by first | decide | omega) (by first | decide | omega))) ?_
        intro v18 M18 a18 b18 q18
        obtain ⟨q18, z18⟩ := q18
        subst z18
        clear a18 b18
        refine And.intro (fun h21 => ?_) (fun h21 => ?_)
        · skip
          clear h21 q18
          refine And.intro (by first | decide | omega) ?_
          refine And.intro rfl ?_
          exact ⟨by omega, rfl⟩
        · skip
          clear h21 q18
          refine And.intro (by first | decide | omega) ?_
          refine And.intro rfl ?_
          exact ⟨by omega, rfl⟩
theorem v_X12_isThere {fr lo i : Nat} {own : String} (h1 : 2 + 1 ≤ fr) (h2 : 8 + (2 + 11) + 43 ≤ lo) (h3 : .methodLink own i yX12_isThere ∈ lw_tbl) : pz_cV fr lo own i k_X12_isThere :=
  pz_cVk (maxL := 2) (fr' := 2) (lo' := 43) 1 12 h_X12_isThere rfl ⟨(pz_nhc_RX12 yX12_isThere rfl).1, (pz_nhc_RX12 yX12_isThere rfl).2, pz_ds9⟩ ⟨pz_wq1418, pz_wq1417, pz_ws38, pz_wq13⟩ (Or.inl ⟨TX12, 28, rfl⟩) (fun a M _ h => by
    have h : (match (generalizing := false) a with | [.inr (.inr (12, th)), .inl i] => pz_im M | _ => False) := h
    split at h
    · exact ⟨_, _, rfl⟩
    · exact h.elim) h1 h2 h3
end
section
noncomputable def k_X12_count : pz_C := (1, 1, fun a M => (match a with | [.inl x] => True | _ => False), fun a M r M' => (match a, r with | [.inl x], some (.inl v) => (True) ∧ M = M' | _, _ => False))
noncomputable abbrev ct_X12_count : List (Bool × Nat × pz_C) := []
set_option maxRecDepth 100000 in
set_option maxHeartbeats 4000000 in
theorem h_X12_count : pz_H yX12_count cX12_count 3 (some .int) k_X12_count 0 0 := by
  refine pz_mk (own := RX12) (tb := t_X12_count) (fl := pz_flf fl_RX12) (ci := pz_cif ci_RX12) (ct := pz_ctf ct_X12_count) (rz := false) (pz_pfc_RX12 yX12_count rfl) rfl t_X12_count_ok (pz_flk fl_RX12_ok) (pz_cik ci_RX12_ok) ?_ ?_ (Or.inl ⟨rfl, rfl⟩) ?_ ?_
  · exact fun i k' h => pz_ctk (l := ct_X12_count) (P := fun b i k => b = true → pz_cV 0 0 RX12 i k) (fun _ h => absurd h List.not_mem_nil) true i k' h rfl
  · exact fun i k' h => pz_ctk (l := ct_X12_count) (P := fun b i k => b = false → (pz_cS 0 0 RX12 i k ∨ (k = pz_kac ∧ 1 ≤ 0 ∧ 60 ≤ 0 ∧ Cond.methodLink RX12 i arraycopyName ∈ pz_tbl))) (fun _ h => absurd h List.not_mem_nil) false i k' h rfl
  · intro a M hlen hpre
    obtain ⟨x, rfl, hpre⟩ : ∃ x, a = [.inl x] ∧ (True) := by
      have hpre : (match (generalizing := false) a with | [.inl x] => True | _ => False) := hpre
      split at hpre
      · exact ⟨_, rfl, hpre⟩
      · exact hpre.elim
    exact Nat.le_of_ble_eq_true rfl
  · intro a M hlen hcan hM hpre Ok hgo
    obtain ⟨x, rfl, hpre⟩ : ∃ x, a = [.inl x] ∧ (True) := by
      have hpre : (match (generalizing := false) a with | [.inl x] => True | _ => False) := hpre
      split at hpre
      · exact ⟨_, rfl, hpre⟩
      · exact hpre.elim
    obtain ⟨k_x, hc_x⟩ := pz_tlm hcan
    have l_x : -2147483648 ≤ x := k_x.1
    have u_x : x ≤ 2147483647 := k_x.2
    have L4 : ∀ (fu : Nat) (x1 : Int) (x2 : Int), (12 - x2).toNat < fu → (0 ≤ x2) → Ok 4 [some (.inl x), some (.inl x1), some (.inl x2)] [] M := by
      intro fu
      induction fu with
      | zero => exact fun _ _ hn => absurd hn (Nat.not_lt_zero _)
      | succ fu ih4 =>
        intro x1 x2 hn4 g4_0
        refine hgo (fun p => Nat.beq p 4) 21 4 _ _ _ ?_
        refine And.intro (fun h7 => ?_) (fun h7 => ?_)
        · skip
          refine And.intro rfl ?_
          exact ⟨trivial, rfl⟩
        · skip
          intro v13 e13 a13 b13
          intro v15 e15 a15 b15
          intro v16 e16 a16 b16
          intro v18 e18 a18 b18
          rw [pz_wi (by first | decide | omega) (by first | decide | omega)] at e18
          clear a18 b18
          exact ih4 _ _ (by first | decide | omega) (by first | decide | omega)
    refine hgo (fun p => Nat.beq p 4) 21 0 _ [] M ?_
    exact L4 _ _ _ (Nat.lt_succ_self _) (by first | decide | omega)
theorem s_X12_count {fr lo i : Nat} {own : String} (h1 : 0 + 1 ≤ fr) (h2 : 8 + (3 + 11) + 0 ≤ lo) (h3 : .methodLink own i yX12_count ∈ lw_tbl ∨ (own = RX1 ∧ i = 35 ∧ yX12_count = yX11_within)) : pz_cS fr lo own i k_X12_count := pz_cSk (maxL := 3) (fr' := 0) (lo' := 0) 1 h_X12_count rfl ⟨(pz_nhc_RX12 yX12_count rfl).1, (pz_nhc_RX12 yX12_count rfl).2, pz_ds5⟩ ⟨pz_wq1608, pz_wq1607, pz_wq13⟩ h1 h2 h3
noncomputable def k_X12_forgets : pz_C := (1, 0, fun a M => (match a with | [.inr (.inr (12, th))] => pz_im M | _ => False), fun a M r M' => (match a, r with | [.inr (.inr (12, th))], none => (M' = pz_u M 1 4 0) ∧ pz_sm M M' | _, _ => False))
noncomputable abbrev ct_X12_forgets : List (Bool × Nat × pz_C) := []
set_option maxRecDepth 100000 in
set_option maxHeartbeats 4000000 in
theorem h_X12_forgets : pz_H yX12_forgets cX12_forgets 1 none k_X12_forgets 0 0 := by
  refine pz_mk (own := RX12) (tb := t_X12_forgets) (fl := pz_flf fl_RX12) (ci := pz_cif ci_RX12) (ct := pz_ctf ct_X12_forgets) (rz := false) (pz_pfc_RX12 yX12_forgets rfl) rfl t_X12_forgets_ok (pz_flk fl_RX12_ok) (pz_cik ci_RX12_ok) ?_ ?_ (rfl) ?_ ?_
  · exact fun i k' h => pz_ctk (l := ct_X12_forgets) (P := fun b i k => b = true → pz_cV 0 0 RX12 i k) (fun _ h => absurd h List.not_mem_nil) true i k' h rfl
  · exact fun i k' h => pz_ctk (l := ct_X12_forgets) (P := fun b i k => b = false → (pz_cS 0 0 RX12 i k ∨ (k = pz_kac ∧ 1 ≤ 0 ∧ 60 ≤ 0 ∧ Cond.methodLink RX12 i arraycopyName ∈ pz_tbl))) (fun _ h => absurd h List.not_mem_nil) false i k' h rfl
  · intro a M hlen hpre
    obtain ⟨th, rfl, hpre⟩ : ∃ th, a = [.inr (.inr (12, th))] ∧ (pz_im M) := by
      have hpre : (match (generalizing := false) a with | [.inr (.inr (12, th))] => pz_im M | _ => False) := hpre
      split at hpre
      · exact ⟨_, rfl, hpre⟩
      · exact hpre.elim
    exact Nat.le_of_ble_eq_true rfl
  · intro a M hlen hcan hM hpre Ok hgo
    obtain ⟨th, rfl, hpre⟩ : ∃ th, a = [.inr (.inr (12, th))] ∧ (pz_im M) := by
      have hpre : (match (generalizing := false) a with | [.inr (.inr (12, th))] => pz_im M | _ => False) := hpre
      split at hpre
      · exact ⟨_, rfl, hpre⟩
      · exact hpre.elim
    obtain ⟨k_th, hc_th⟩ := pz_tlm hcan
    have k_th : pz_kd th = 12 ∧ th < 231 := k_th
    have R_th := pz_kd12 k_th.1
    subst R_th
    clear k_th
    have hI : pz_im M := hpre
    have hI0 := hI
    have hS : pz_sm M M := pz_sm.rf
    refine hgo (fun _ => false) 6 0 _ [] M ?_
    intro M2 e2
    have hS : pz_sm M M2 := by
      rw [e2]
      exact pz_sm_u hS (pz_mn_1 (by decide)) (by decide) (fun h => absurd h.1 (by decide)) (pz_iom_4 (by first | decide | omega))
    have hI : pz_im M2 := hS.1.1.1 hI0
    refine And.intro rfl ?_
    exact ⟨e2, hS⟩
theorem v_X12_forgets {fr lo i : Nat} {own : String} (h1 : 0 + 1 ≤ fr) (h2 : 8 + (1 + 11) + 0 ≤ lo) (h3 : .methodLink own i yX12_forgets ∈ lw_tbl) : pz_cV fr lo own i k_X12_forgets :=
  pz_cVk (maxL := 1) (fr' := 0) (lo' := 0) 0 12 h_X12_forgets rfl ⟨(pz_nhc_RX12 yX12_forgets rfl).1, (pz_nhc_RX12 yX12_forgets rfl).2, pz_ds2⟩ ⟨pz_wq1212, pz_wq1211, pz_ws4, pz_wq13⟩ (Or.inl ⟨TX12, 28, rfl⟩) (fun a M _ h => by
    have h : (match (generalizing := false) a with | [.inr (.inr (12, th))] => pz_im M | _ => False) := h
    split at h
    · exact ⟨_, _, rfl⟩
    · exact h.elim) h1 h2 h3
end
