theorem pz_m3 {x y : Int} (hx0 : 0 ≤ x) (hx : x ≤ 1000) (hy0 : 0 ≤ y) (hy : y ≤ 1000) : 0 ≤ x * y ∧ x * y ≤ 1000000 :=
  ⟨Int.mul_nonneg hx0 hy0, by have := Int.mul_le_mul hx hy hy0 (by omega); omega⟩
theorem pz_blf {p q w : Int} (h : 0 ≤ p ∧ p ≤ 1000 ∧ 0 ≤ q ∧ q ≤ 1000 ∧ 0 ≤ w ∧ w ≤ 1000 ∧ 0 < p * q + (1000 - p) * w) : Int.tdiv (p * q * 1000000) (p * q + (1000 - p) * w) = p * q * 1000000 / (p * q + (1000 - p) * w) ∧ 0 ≤ p * q * 1000000 / (p * q + (1000 - p) * w) ∧ p * q * 1000000 / (p * q + (1000 - p) * w) ≤ 1000000 := by
  obtain ⟨h1, h2, h3, h4, h5, h6, h7⟩ := h
  have B1 := pz_m3 h1 h2 h3 h4
  have B2 := pz_m3 (x := 1000 - p) (by omega) (by omega) h5 h6
  refine ⟨Int.tdiv_eq_ediv_of_nonneg (by omega), Int.ediv_nonneg (by omega) (by omega), ?_⟩
  exact Int.ediv_le_of_le_mul h7 (by omega)
def k_X11_state : pz_C := (2, 1, fun a M => (match a with | [.inr (.inr (11, th)), .inl n] => pz_ic M | _ => False), fun a M r M' => (match a, r with | [.inr (.inr (11, th)), .inl n], some (.inl v) => (True) ∧ pz_sW M M' | _, _ => False))
abbrev ct_X11_state : List (Bool × Nat × pz_C) := [(true, 97, k_X2_forgetAll)]
set_option maxRecDepth 100000 in
set_option maxHeartbeats 4000000 in
theorem h_X11_state : pz_H yX11_state cX11_state 3 (some .int) k_X11_state 1 20 := by
  refine pz_mk (own := RX11) (tb := t_X11_state) (fl := pz_flf fl_RX11) (ci := pz_cif ci_RX11) (ct := pz_ctf ct_X11_state) (rz := false) (by decide +kernel) rfl t_X11_state_ok (pz_flk fl_RX11_ok) (pz_cik ci_RX11_ok) ?_ ?_ (Or.inl ⟨rfl, rfl⟩) ?_ ?_
  · exact fun i k' h => pz_ctk (l := ct_X11_state) (P := fun b i k => b = true → pz_cV 1 20 RX11 i k) (List.forall_mem_cons.mpr ⟨(fun _ => v_X2_forgetAll (by decide) (by decide) (pz_mt 414 (by decide +kernel))), fun _ h => absurd h List.not_mem_nil⟩) true i k' h rfl
  · exact fun i k' h => pz_ctk (l := ct_X11_state) (P := fun b i k => b = false → (pz_cS 1 20 RX11 i k ∨ (k = pz_kac ∧ 1 ≤ 1 ∧ 60 ≤ 20 ∧ Cond.methodLink RX11 i arraycopyName ∈ pz_tbl))) (List.forall_mem_cons.mpr ⟨((fun z => by cases z)), fun _ h => absurd h List.not_mem_nil⟩) false i k' h rfl
  · intro a M hlen hpre
    obtain ⟨th, n, rfl, hpre⟩ : ∃ th n, a = [.inr (.inr (11, th)), .inl n] ∧ (pz_ic M) := by
      have hpre : (match (generalizing := false) a with | [.inr (.inr (11, th)), .inl n] => pz_ic M | _ => False) := hpre
      split at hpre
      · exact ⟨_, _, rfl, hpre⟩
      · exact hpre.elim
    exact Nat.le_of_ble_eq_true rfl
  · intro a M hlen hcan hM hpre Ok hgo
    obtain ⟨th, n, rfl, hpre⟩ : ∃ th n, a = [.inr (.inr (11, th)), .inl n] ∧ (pz_ic M) := by
      have hpre : (match (generalizing := false) a with | [.inr (.inr (11, th)), .inl n] => pz_ic M | _ => False) := hpre
      split at hpre
      · exact ⟨_, _, rfl, hpre⟩
      · exact hpre.elim
    obtain ⟨k_th, hc_th⟩ := pz_tlm hcan
    have k_th : pz_kd th = 11 ∧ th < 231 := k_th
    have R_th := pz_kd11 k_th.1
    subst R_th
    obtain ⟨k_n, hc_n⟩ := pz_tlm hc_th
    have l_n : -2147483648 ≤ n := k_n.1
    have u_n : n ≤ 2147483647 := k_n.2
    have hI : pz_ic M := hpre
    have hI0 := hI
    have hS : pz_sW M M := pz_sW.rf
    refine hgo (fun _ => false) 15 0 _ [] M ?_
    refine pz_nrc (c := 71) rfl ?_
    intro v4 e4 a4 b4
    refine pz_nrc (c := 71) rfl ?_
    intro M13 e13
    have hS : pz_sW M M13 := by
      rw [e13]
      exact hS.tr (pz_st.sw (pz_st_u pz_st.rf (by unfold pz_md pz_kx pz_mid; omega) (by omega) (by unfold pz_iok; omega)))
    have hI : pz_ic M13 := hS.1.1 hI0
    refine pz_nrc (c := 3) rfl ?_
    refine And.intro (hI) ?_
    intro M20 q20
    obtain ⟨q20, z20⟩ := q20
    have hS : pz_sW M M20 := hS.tr z20
    have hI : pz_ic M20 := hS.1.1 hI0
    refine And.intro rfl ?_
    exact ⟨trivial, hS⟩
theorem v_X11_state {fr lo i : Nat} {own : String} (h1 : 1 + 1 ≤ fr) (h2 : 8 + (3 + 11) + 20 ≤ lo) (h3 : .methodLink own i yX11_state ∈ lw_tbl) : pz_cV fr lo own i k_X11_state :=
  pz_cVk (maxL := 3) (fr' := 1) (lo' := 20) 1 11 h_X11_state rfl ⟨by decide +kernel, by decide +kernel, by decide +kernel⟩ ⟨(pz_mt 413 (by decide +kernel)), (pz_mt 411 (by decide +kernel)), (pz_mt 412 (by decide +kernel)), (pz_mt 1 (by decide +kernel))⟩ (Or.inl ⟨TX11, 14, rfl⟩) (fun a M _ h => by
    have h : (match (generalizing := false) a with | [.inr (.inr (11, th)), .inl n] => pz_ic M | _ => False) := h
    split at h
    · exact ⟨_, _, rfl⟩
    · exact h.elim) h1 h2 h3
def k_X11_link : pz_C := (5, 1, fun a M => (match a with | [.inr (.inr (11, th)), .inl p, .inl q, .inl w, .inl s] => pz_ic M | _ => False), fun a M r M' => (match a, r with | [.inr (.inr (11, th)), .inl p, .inl q, .inl w, .inl s], some (.inl v) => (((M 71 3 < 12 ∧ (1 ≤ p ∧ p ≤ 999) ∧ (-9999 ≤ q ∧ q ≤ 9999) ∧ (-999 ≤ w ∧ w ≤ 999) ∧ 0 ≤ s ∧ s ≤ 9) ∧ v = M 71 3 ∧ M' = pz_lkf p q w s M) ∨ (¬ (M 71 3 < 12 ∧ (1 ≤ p ∧ p ≤ 999) ∧ (-9999 ≤ q ∧ q ≤ 9999) ∧ (-999 ≤ w ∧ w ≤ 999) ∧ 0 ≤ s ∧ s ≤ 9) ∧ v = -1 ∧ M' = M)) ∧ pz_rt M M' | _, _ => False))
abbrev ct_X11_link : List (Bool × Nat × pz_C) := [(false, 103, k_X11_canHave), (true, 107, k_X0_at), (true, 111, k_X5_makeNew), (true, 97, k_X2_forgetAll), (true, 117, k_X8_forgetAll)]
set_option maxRecDepth 100000 in
set_option maxHeartbeats 4000000 in
theorem h_X11_link : pz_H yX11_link cX11_link 6 (some .int) k_X11_link 2 43 := by
  refine pz_mk (own := RX11) (tb := t_X11_link) (fl := pz_flf fl_RX11) (ci := pz_cif ci_RX11) (ct := pz_ctf ct_X11_link) (rz := false) (by decide +kernel) rfl t_X11_link_ok (pz_flk fl_RX11_ok) (pz_cik ci_RX11_ok) ?_ ?_ (Or.inl ⟨rfl, rfl⟩) ?_ ?_
  · exact fun i k' h => pz_ctk (l := ct_X11_link) (P := fun b i k => b = true → pz_cV 2 43 RX11 i k) (List.forall_mem_cons.mpr ⟨((fun z => by cases z)), List.forall_mem_cons.mpr ⟨(fun _ => v_X0_at (by decide) (by decide) (pz_mt 428 (by decide +kernel))), List.forall_mem_cons.mpr ⟨(fun _ => v_X5_makeNew (by decide) (by decide) (pz_mt 432 (by decide +kernel))), List.forall_mem_cons.mpr ⟨(fun _ => v_X2_forgetAll (by decide) (by decide) (pz_mt 414 (by decide +kernel))), List.forall_mem_cons.mpr ⟨(fun _ => v_X8_forgetAll (by decide) (by decide) (pz_mt 436 (by decide +kernel))), fun _ h => absurd h List.not_mem_nil⟩⟩⟩⟩⟩) true i k' h rfl
  · exact fun i k' h => pz_ctk (l := ct_X11_link) (P := fun b i k => b = false → (pz_cS 2 43 RX11 i k ∨ (k = pz_kac ∧ 1 ≤ 2 ∧ 60 ≤ 43 ∧ Cond.methodLink RX11 i arraycopyName ∈ pz_tbl))) (List.forall_mem_cons.mpr ⟨(fun _ => Or.inl (s_X11_canHave (by decide) (by decide) (Or.inl (pz_mt 422 (by decide +kernel))))), List.forall_mem_cons.mpr ⟨((fun z => by cases z)), List.forall_mem_cons.mpr ⟨((fun z => by cases z)), List.forall_mem_cons.mpr ⟨((fun z => by cases z)), List.forall_mem_cons.mpr ⟨((fun z => by cases z)), fun _ h => absurd h List.not_mem_nil⟩⟩⟩⟩⟩) false i k' h rfl
  · intro a M hlen hpre
    obtain ⟨th, p, q, w, s, rfl, hpre⟩ : ∃ th p q w s, a = [.inr (.inr (11, th)), .inl p, .inl q, .inl w, .inl s] ∧ (pz_ic M) := by
      have hpre : (match (generalizing := false) a with | [.inr (.inr (11, th)), .inl p, .inl q, .inl w, .inl s] => pz_ic M | _ => False) := hpre
      split at hpre
      · exact ⟨_, _, _, _, _, rfl, hpre⟩
      · exact hpre.elim
    exact Nat.le_of_ble_eq_true rfl
  · intro a M hlen hcan hM hpre Ok hgo
    obtain ⟨th, p, q, w, s, rfl, hpre⟩ : ∃ th p q w s, a = [.inr (.inr (11, th)), .inl p, .inl q, .inl w, .inl s] ∧ (pz_ic M) := by
      have hpre : (match (generalizing := false) a with | [.inr (.inr (11, th)), .inl p, .inl q, .inl w, .inl s] => pz_ic M | _ => False) := hpre
      split at hpre
      · exact ⟨_, _, _, _, _, rfl, hpre⟩
      · exact hpre.elim
    obtain ⟨k_th, hc_th⟩ := pz_tlm hcan
    have k_th : pz_kd th = 11 ∧ th < 231 := k_th
    have R_th := pz_kd11 k_th.1
    subst R_th
    obtain ⟨k_p, hc_p⟩ := pz_tlm hc_th
    have l_p : -2147483648 ≤ p := k_p.1
    have u_p : p ≤ 2147483647 := k_p.2
    obtain ⟨k_q, hc_q⟩ := pz_tlm hc_p
    have l_q : -2147483648 ≤ q := k_q.1
    have u_q : q ≤ 2147483647 := k_q.2
    obtain ⟨k_w, hc_w⟩ := pz_tlm hc_q
    have l_w : -2147483648 ≤ w := k_w.1
    have u_w : w ≤ 2147483647 := k_w.2
    obtain ⟨k_s, hc_s⟩ := pz_tlm hc_w
    have l_s : -2147483648 ≤ s := k_s.1
    have u_s : s ≤ 2147483647 := k_s.2
    have hI : pz_ic M := hpre
    have hI0 := hI
    have hS : pz_rt M M := pz_rt.rf
    refine hgo (fun _ => false) 57 0 _ [] M ?_
    refine pz_nrc (c := 71) rfl ?_
    intro v4 e4 a4 b4
    have I4 := hI.1 71 (by omega) (by omega)
    refine And.intro (fun h9 => ?_) (fun h9 => ?_)
    · skip
      refine And.intro rfl ?_
      exact ⟨Or.inr ⟨by omega, rfl, rfl⟩, hS⟩
    · skip
      refine And.intro (True.intro) ?_
      intro v14 M14 a14 b14 q14
      obtain ⟨q14, z14⟩ := q14
      subst z14
      refine And.intro (fun h17 => ?_) (fun h17 => ?_)
      · skip
        refine And.intro rfl ?_
        exact ⟨Or.inr ⟨by omega, rfl, rfl⟩, hS⟩
      · skip
        refine And.intro (True.intro) ?_
        intro v22 M22 a22 b22 q22
        obtain ⟨q22, z22⟩ := q22
        subst z22
        refine And.intro (fun h25 => ?_) (fun h25 => ?_)
        · skip
          refine And.intro rfl ?_
          exact ⟨Or.inr ⟨by omega, rfl, rfl⟩, hS⟩
        · skip
          refine And.intro (True.intro) ?_
          intro v30 M30 a30 b30 q30
          obtain ⟨q30, z30⟩ := q30
          subst z30
          refine And.intro (fun h33 => ?_) (fun h33 => ?_)
          · skip
            refine And.intro rfl ?_
            exact ⟨Or.inr ⟨by omega, rfl, rfl⟩, hS⟩
          · skip
            refine And.intro (True.intro) ?_
            intro v39 M39 a39 b39 q39
            obtain ⟨q39, z39⟩ := q39
            subst z39
            refine And.intro (fun h42 => ?_) (fun h42 => ?_)
            · skip
              refine pz_nrc (c := 71) rfl ?_
              refine pz_nrc (c := 71) rfl ?_
              intro v55 e55 a55 b55
              have I55 := hI.1 71 (by omega) (by omega)
              refine And.intro (True.intro) ?_
              intro r58 M58 k58 q58
              have R58 := pz_kd5 k58
              obtain ⟨q58, z58⟩ := q58
              subst z58
              have Z58 : r58 = 89 + (M 71 3).toNat := by
                rw [if_pos (by omega)] at q58
                rw [q58, pz_rf_l (by omega) (by omega), e55]
                rfl
              refine And.intro (hI) ?_
              intro M70 q70
              obtain ⟨q70, z70⟩ := q70
              have hS : pz_rt M M70 := hS.tr z70
              have hI : pz_ic M70 := hS hI0
              refine pz_nrc (c := 71) rfl ?_
              intro v78 e78 a78 b78
              have I78 := hI.1 71 (by omega) (by omega)
              have Z78 : v78 = M 71 3 := by
                rw [e78, q70]
                exact pz_mkl_o (by omega)
              intro v82 e82 a82 b82
              try rw [pz_wi (by omega) (by omega)] at e82
              intro M83 e83
              have hS : pz_rt M M83 := by
                rw [e83]
                exact pz_rt_u hS (by unfold pz_iok; omega)
              have hI : pz_ic M83 := hS hI0
              refine pz_nrc (c := 3) rfl ?_
              refine And.intro (hI) ?_
              intro M90 q90
              obtain ⟨q90, z90⟩ := q90
              have hS : pz_rt M M90 := hS.tr z90.rt
              have hI : pz_ic M90 := hS hI0
              refine pz_nrc (c := 7) rfl ?_
              refine And.intro (hI) ?_
              intro M97 q97
              obtain ⟨q97, z97⟩ := q97
              have hS : pz_rt M M97 := hS.tr z97.rt
              have hI : pz_ic M97 := hS hI0
              refine pz_nrc (c := 71) rfl ?_
              intro v104 e104 a104 b104
              have I104 := hI.1 71 (by omega) (by omega)
              intro v108 e108 a108 b108
              try rw [pz_wi (by omega) (by omega)] at e108
              refine And.intro rfl ?_
              have Z90 : v104 = v82 := by
                rw [e104, q97, pz_una (by decide), q90, pz_una (by decide), e83]
                exact pz_uu
              have F9 : M97 = pz_lkf p q w s M := by
                rw [q97, q90, e83, q70, e82, Z78, Z58]
                rfl
              exact ⟨Or.inl ⟨by omega, by omega, F9⟩, hS⟩
            · skip
              refine And.intro rfl ?_
              exact ⟨Or.inr ⟨by omega, rfl, rfl⟩, hS⟩
theorem v_X11_link {fr lo i : Nat} {own : String} (h1 : 2 + 1 ≤ fr) (h2 : 8 + (6 + 11) + 43 ≤ lo) (h3 : .methodLink own i yX11_link ∈ lw_tbl) : pz_cV fr lo own i k_X11_link :=
  pz_cVk (maxL := 6) (fr' := 2) (lo' := 43) 4 11 h_X11_link rfl ⟨by decide +kernel, by decide +kernel, by decide +kernel⟩ ⟨(pz_mt 421 (by decide +kernel)), (pz_mt 419 (by decide +kernel)), (pz_mt 420 (by decide +kernel)), (pz_mt 1 (by decide +kernel))⟩ (Or.inl ⟨TX11, 14, rfl⟩) (fun a M _ h => by
    have h : (match (generalizing := false) a with | [.inr (.inr (11, th)), .inl p, .inl q, .inl w, .inl s] => pz_ic M | _ => False) := h
    split at h
    · exact ⟨_, _, rfl⟩
    · exact h.elim) h1 h2 h3
def k_X11_set : pz_C := (4, 1, fun a M => (match a with | [.inr (.inr (11, th)), .inl w, .inl i, .inl n] => pz_ic M | _ => False), fun a M r M' => (match a, r with | [.inr (.inr (11, th)), .inl w, .inl i, .inl n], some (.inl v) => ((((0 ≤ i ∧ i < M 71 3) ∧ ((w = 0 ∧ 1 ≤ n ∧ n ≤ 999) ∨ (w = 1 ∧ -9999 ≤ n ∧ n ≤ 9999) ∨ (w = 2 ∧ -999 ≤ n ∧ n ≤ 999) ∨ (w = 3 ∧ 0 ≤ n ∧ n ≤ 9) ∨ (w = 4 ∧ 0 ≤ n ∧ n ≤ 1))) ∧ v = 1 ∧ M' = pz_u (pz_u M (89 + i.toNat) w.toNat n) 3 2 0) ∨ (¬ ((0 ≤ i ∧ i < M 71 3) ∧ ((w = 0 ∧ 1 ≤ n ∧ n ≤ 999) ∨ (w = 1 ∧ -9999 ≤ n ∧ n ≤ 9999) ∨ (w = 2 ∧ -999 ≤ n ∧ n ≤ 999) ∨ (w = 3 ∧ 0 ≤ n ∧ n ≤ 9) ∨ (w = 4 ∧ 0 ≤ n ∧ n ≤ 1))) ∧ v = 0 ∧ M' = M)) ∧ pz_rt M M' | _, _ => False))
abbrev ct_X11_set : List (Bool × Nat × pz_C) := [(true, 118, k_X0_has), (false, 103, k_X11_canHave), (true, 107, k_X0_at), (true, 97, k_X2_forgetAll)]
set_option maxRecDepth 100000 in
set_option maxHeartbeats 4000000 in
theorem h_X11_set : pz_H yX11_set cX11_set 5 (some .boolean) k_X11_set 2 43 := by
  refine pz_mk (own := RX11) (tb := t_X11_set) (fl := pz_flf fl_RX11) (ci := pz_cif ci_RX11) (ct := pz_ctf ct_X11_set) (rz := true) (by decide +kernel) rfl t_X11_set_ok (pz_flk fl_RX11_ok) (pz_cik ci_RX11_ok) ?_ ?_ (Or.inr ⟨rfl, rfl⟩) ?_ ?_
  · exact fun i k' h => pz_ctk (l := ct_X11_set) (P := fun b i k => b = true → pz_cV 2 43 RX11 i k) (List.forall_mem_cons.mpr ⟨(fun _ => v_X0_has (by decide) (by decide) (pz_mt 444 (by decide +kernel))), List.forall_mem_cons.mpr ⟨((fun z => by cases z)), List.forall_mem_cons.mpr ⟨(fun _ => v_X0_at (by decide) (by decide) (pz_mt 428 (by decide +kernel))), List.forall_mem_cons.mpr ⟨(fun _ => v_X2_forgetAll (by decide) (by decide) (pz_mt 414 (by decide +kernel))), fun _ h => absurd h List.not_mem_nil⟩⟩⟩⟩) true i k' h rfl
  · exact fun i k' h => pz_ctk (l := ct_X11_set) (P := fun b i k => b = false → (pz_cS 2 43 RX11 i k ∨ (k = pz_kac ∧ 1 ≤ 2 ∧ 60 ≤ 43 ∧ Cond.methodLink RX11 i arraycopyName ∈ pz_tbl))) (List.forall_mem_cons.mpr ⟨((fun z => by cases z)), List.forall_mem_cons.mpr ⟨(fun _ => Or.inl (s_X11_canHave (by decide) (by decide) (Or.inl (pz_mt 422 (by decide +kernel))))), List.forall_mem_cons.mpr ⟨((fun z => by cases z)), List.forall_mem_cons.mpr ⟨((fun z => by cases z)), fun _ h => absurd h List.not_mem_nil⟩⟩⟩⟩) false i k' h rfl
  · intro a M hlen hpre
    obtain ⟨th, w, i, n, rfl, hpre⟩ : ∃ th w i n, a = [.inr (.inr (11, th)), .inl w, .inl i, .inl n] ∧ (pz_ic M) := by
      have hpre : (match (generalizing := false) a with | [.inr (.inr (11, th)), .inl w, .inl i, .inl n] => pz_ic M | _ => False) := hpre
      split at hpre
      · exact ⟨_, _, _, _, rfl, hpre⟩
      · exact hpre.elim
    exact Nat.le_of_ble_eq_true rfl
  · intro a M hlen hcan hM hpre Ok hgo
    obtain ⟨th, w, i, n, rfl, hpre⟩ : ∃ th w i n, a = [.inr (.inr (11, th)), .inl w, .inl i, .inl n] ∧ (pz_ic M) := by
      have hpre : (match (generalizing := false) a with | [.inr (.inr (11, th)), .inl w, .inl i, .inl n] => pz_ic M | _ => False) := hpre
      split at hpre
      · exact ⟨_, _, _, _, rfl, hpre⟩
      · exact hpre.elim
    obtain ⟨k_th, hc_th⟩ := pz_tlm hcan
    have k_th : pz_kd th = 11 ∧ th < 231 := k_th
    have R_th := pz_kd11 k_th.1
    subst R_th
    obtain ⟨k_w, hc_w⟩ := pz_tlm hc_th
    have l_w : -2147483648 ≤ w := k_w.1
    have u_w : w ≤ 2147483647 := k_w.2
    obtain ⟨k_i, hc_i⟩ := pz_tlm hc_w
    have l_i : -2147483648 ≤ i := k_i.1
    have u_i : i ≤ 2147483647 := k_i.2
    obtain ⟨k_n, hc_n⟩ := pz_tlm hc_i
    have l_n : -2147483648 ≤ n := k_n.1
    have u_n : n ≤ 2147483647 := k_n.2
    have hI : pz_ic M := hpre
    have hI0 := hI
    have hS : pz_rt M M := pz_rt.rf
    refine hgo (fun _ => false) 44 0 _ [] M ?_
    refine pz_nrc (c := 71) rfl ?_
    refine And.intro (True.intro) ?_
    intro v5 M5 a5 b5 q5
    obtain ⟨q5, z5⟩ := q5
    subst z5
    refine And.intro (fun h8 => ?_) (fun h8 => ?_)
    · skip
      refine And.intro (by omega) ?_
      refine And.intro rfl ?_
      exact ⟨Or.inr ⟨by first | omega | (split at q5 <;> omega), rfl, rfl⟩, hS⟩
    · skip
      refine And.intro (True.intro) ?_
      intro v13 M13 a13 b13 q13
      obtain ⟨q13, z13⟩ := q13
      subst z13
      refine And.intro (fun h16 => ?_) (fun h16 => ?_)
      · skip
        refine pz_nrc (c := 71) rfl ?_
        refine And.intro (True.intro) ?_
        intro r26 M26 k26 q26
        have R26 := pz_kd5 k26
        obtain ⟨q26, z26⟩ := q26
        subst z26
        have Z26 : r26 = 89 + i.toNat := by
          have := hI.1 71 (by omega) (by omega)
          split at q5
          · rw [if_pos (by omega)] at q26
            rw [q26, pz_rf_l (by omega) (by omega)]
            rfl
          · omega
        refine And.intro ?_ ?_
        · skip
          refine And.intro (fun h32 => ?_) ?_
          · skip
            intro M67 e67
            have hS : pz_rt M M67 := by
              rw [e67]
              exact pz_rt_u hS (by unfold pz_iok; omega)
            have hI : pz_ic M67 := hS hI0
            refine pz_nrc (c := 3) rfl ?_
            refine And.intro (hI) ?_
            intro M110 q110
            obtain ⟨q110, z110⟩ := q110
            have hS : pz_rt M M110 := hS.tr z110.rt
            have hI : pz_ic M110 := hS hI0
            refine And.intro (by omega) ?_
            refine And.intro rfl ?_
            first
              | (have Z9 : w.toNat = 0 := by omega
                 have Z8 : M110 = pz_u (pz_u M (89 + i.toNat) w.toNat n) 3 2 0 := by rw [q110, e67, Z26, Z9]
                 exact ⟨Or.inl ⟨by split at q5 <;> omega, rfl, Z8⟩, hS⟩)
              | (have Z9 : w.toNat = 1 := by omega
                 have Z8 : M110 = pz_u (pz_u M (89 + i.toNat) w.toNat n) 3 2 0 := by rw [q110, e76, Z26, Z9]
                 exact ⟨Or.inl ⟨by split at q5 <;> omega, rfl, Z8⟩, hS⟩)
              | (have Z9 : w.toNat = 2 := by omega
                 have Z8 : M110 = pz_u (pz_u M (89 + i.toNat) w.toNat n) 3 2 0 := by rw [q110, e85, Z26, Z9]
                 exact ⟨Or.inl ⟨by split at q5 <;> omega, rfl, Z8⟩, hS⟩)
              | (have Z9 : w.toNat = 3 := by omega
                 have Z8 : M110 = pz_u (pz_u M (89 + i.toNat) w.toNat n) 3 2 0 := by rw [q110, e94, Z26, Z9]
                 exact ⟨Or.inl ⟨by split at q5 <;> omega, rfl, Z8⟩, hS⟩)
              | (have Z9 : w.toNat = 4 := by omega
                 have Z8 : M110 = pz_u (pz_u M (89 + i.toNat) w.toNat n) 3 2 0 := by rw [q110, e103, Z26, Z9]
                 exact ⟨Or.inl ⟨by split at q5 <;> omega, rfl, Z8⟩, hS⟩)
          refine And.intro (fun h32 => ?_) ?_
          · skip
            intro M76 e76
            have hS : pz_rt M M76 := by
              rw [e76]
              exact pz_rt_u hS (by unfold pz_iok; omega)
            have hI : pz_ic M76 := hS hI0
            refine pz_nrc (c := 3) rfl ?_
            refine And.intro (hI) ?_
            intro M110 q110
            obtain ⟨q110, z110⟩ := q110
            have hS : pz_rt M M110 := hS.tr z110.rt
            have hI : pz_ic M110 := hS hI0
            refine And.intro (by omega) ?_
            refine And.intro rfl ?_
            first
              | (have Z9 : w.toNat = 0 := by omega
                 have Z8 : M110 = pz_u (pz_u M (89 + i.toNat) w.toNat n) 3 2 0 := by rw [q110, e67, Z26, Z9]
                 exact ⟨Or.inl ⟨by split at q5 <;> omega, rfl, Z8⟩, hS⟩)
              | (have Z9 : w.toNat = 1 := by omega
                 have Z8 : M110 = pz_u (pz_u M (89 + i.toNat) w.toNat n) 3 2 0 := by rw [q110, e76, Z26, Z9]
                 exact ⟨Or.inl ⟨by split at q5 <;> omega, rfl, Z8⟩, hS⟩)
              | (have Z9 : w.toNat = 2 := by omega
                 have Z8 : M110 = pz_u (pz_u M (89 + i.toNat) w.toNat n) 3 2 0 := by rw [q110, e85, Z26, Z9]
                 exact ⟨Or.inl ⟨by split at q5 <;> omega, rfl, Z8⟩, hS⟩)
              | (have Z9 : w.toNat = 3 := by omega
                 have Z8 : M110 = pz_u (pz_u M (89 + i.toNat) w.toNat n) 3 2 0 := by rw [q110, e94, Z26, Z9]
                 exact ⟨Or.inl ⟨by split at q5 <;> omega, rfl, Z8⟩, hS⟩)
              | (have Z9 : w.toNat = 4 := by omega
                 have Z8 : M110 = pz_u (pz_u M (89 + i.toNat) w.toNat n) 3 2 0 := by rw [q110, e103, Z26, Z9]
                 exact ⟨Or.inl ⟨by split at q5 <;> omega, rfl, Z8⟩, hS⟩)
          refine And.intro (fun h32 => ?_) ?_
          · skip
            intro M85 e85
            have hS : pz_rt M M85 := by
              rw [e85]
              exact pz_rt_u hS (by unfold pz_iok; omega)
            have hI : pz_ic M85 := hS hI0
            refine pz_nrc (c := 3) rfl ?_
            refine And.intro (hI) ?_
            intro M110 q110
            obtain ⟨q110, z110⟩ := q110
            have hS : pz_rt M M110 := hS.tr z110.rt
            have hI : pz_ic M110 := hS hI0
            refine And.intro (by omega) ?_
            refine And.intro rfl ?_
            first
              | (have Z9 : w.toNat = 0 := by omega
                 have Z8 : M110 = pz_u (pz_u M (89 + i.toNat) w.toNat n) 3 2 0 := by rw [q110, e67, Z26, Z9]
                 exact ⟨Or.inl ⟨by split at q5 <;> omega, rfl, Z8⟩, hS⟩)
              | (have Z9 : w.toNat = 1 := by omega
                 have Z8 : M110 = pz_u (pz_u M (89 + i.toNat) w.toNat n) 3 2 0 := by rw [q110, e76, Z26, Z9]
                 exact ⟨Or.inl ⟨by split at q5 <;> omega, rfl, Z8⟩, hS⟩)
              | (have Z9 : w.toNat = 2 := by omega
                 have Z8 : M110 = pz_u (pz_u M (89 + i.toNat) w.toNat n) 3 2 0 := by rw [q110, e85, Z26, Z9]
                 exact ⟨Or.inl ⟨by split at q5 <;> omega, rfl, Z8⟩, hS⟩)
              | (have Z9 : w.toNat = 3 := by omega
                 have Z8 : M110 = pz_u (pz_u M (89 + i.toNat) w.toNat n) 3 2 0 := by rw [q110, e94, Z26, Z9]
                 exact ⟨Or.inl ⟨by split at q5 <;> omega, rfl, Z8⟩, hS⟩)
              | (have Z9 : w.toNat = 4 := by omega
                 have Z8 : M110 = pz_u (pz_u M (89 + i.toNat) w.toNat n) 3 2 0 := by rw [q110, e103, Z26, Z9]
                 exact ⟨Or.inl ⟨by split at q5 <;> omega, rfl, Z8⟩, hS⟩)
          refine And.intro (fun h32 => ?_) ?_
          · skip
            intro M94 e94
            have hS : pz_rt M M94 := by
              rw [e94]
              exact pz_rt_u hS (by unfold pz_iok; omega)
            have hI : pz_ic M94 := hS hI0
            refine pz_nrc (c := 3) rfl ?_
            refine And.intro (hI) ?_
            intro M110 q110
            obtain ⟨q110, z110⟩ := q110
            have hS : pz_rt M M110 := hS.tr z110.rt
            have hI : pz_ic M110 := hS hI0
            refine And.intro (by omega) ?_
            refine And.intro rfl ?_
            first
              | (have Z9 : w.toNat = 0 := by omega
                 have Z8 : M110 = pz_u (pz_u M (89 + i.toNat) w.toNat n) 3 2 0 := by rw [q110, e67, Z26, Z9]
                 exact ⟨Or.inl ⟨by split at q5 <;> omega, rfl, Z8⟩, hS⟩)
              | (have Z9 : w.toNat = 1 := by omega
                 have Z8 : M110 = pz_u (pz_u M (89 + i.toNat) w.toNat n) 3 2 0 := by rw [q110, e76, Z26, Z9]
                 exact ⟨Or.inl ⟨by split at q5 <;> omega, rfl, Z8⟩, hS⟩)
              | (have Z9 : w.toNat = 2 := by omega
                 have Z8 : M110 = pz_u (pz_u M (89 + i.toNat) w.toNat n) 3 2 0 := by rw [q110, e85, Z26, Z9]
                 exact ⟨Or.inl ⟨by split at q5 <;> omega, rfl, Z8⟩, hS⟩)
              | (have Z9 : w.toNat = 3 := by omega
                 have Z8 : M110 = pz_u (pz_u M (89 + i.toNat) w.toNat n) 3 2 0 := by rw [q110, e94, Z26, Z9]
                 exact ⟨Or.inl ⟨by split at q5 <;> omega, rfl, Z8⟩, hS⟩)
              | (have Z9 : w.toNat = 4 := by omega
                 have Z8 : M110 = pz_u (pz_u M (89 + i.toNat) w.toNat n) 3 2 0 := by rw [q110, e103, Z26, Z9]
                 exact ⟨Or.inl ⟨by split at q5 <;> omega, rfl, Z8⟩, hS⟩)
          exact True.intro
        · intro h32
          intro M103 e103
          have hS : pz_rt M M103 := by
            rw [e103]
            exact pz_rt_u hS (by unfold pz_iok; omega)
          have hI : pz_ic M103 := hS hI0
          refine pz_nrc (c := 3) rfl ?_
          refine And.intro (hI) ?_
          intro M110 q110
          obtain ⟨q110, z110⟩ := q110
          have hS : pz_rt M M110 := hS.tr z110.rt
          have hI : pz_ic M110 := hS hI0
          refine And.intro (by omega) ?_
          refine And.intro rfl ?_
          first
            | (have Z9 : w.toNat = 0 := by omega
               have Z8 : M110 = pz_u (pz_u M (89 + i.toNat) w.toNat n) 3 2 0 := by rw [q110, e67, Z26, Z9]
               exact ⟨Or.inl ⟨by split at q5 <;> omega, rfl, Z8⟩, hS⟩)
            | (have Z9 : w.toNat = 1 := by omega
               have Z8 : M110 = pz_u (pz_u M (89 + i.toNat) w.toNat n) 3 2 0 := by rw [q110, e76, Z26, Z9]
               exact ⟨Or.inl ⟨by split at q5 <;> omega, rfl, Z8⟩, hS⟩)
            | (have Z9 : w.toNat = 2 := by omega
               have Z8 : M110 = pz_u (pz_u M (89 + i.toNat) w.toNat n) 3 2 0 := by rw [q110, e85, Z26, Z9]
               exact ⟨Or.inl ⟨by split at q5 <;> omega, rfl, Z8⟩, hS⟩)
            | (have Z9 : w.toNat = 3 := by omega
               have Z8 : M110 = pz_u (pz_u M (89 + i.toNat) w.toNat n) 3 2 0 := by rw [q110, e94, Z26, Z9]
               exact ⟨Or.inl ⟨by split at q5 <;> omega, rfl, Z8⟩, hS⟩)
            | (have Z9 : w.toNat = 4 := by omega
               have Z8 : M110 = pz_u (pz_u M (89 + i.toNat) w.toNat n) 3 2 0 := by rw [q110, e103, Z26, Z9]
               exact ⟨Or.inl ⟨by split at q5 <;> omega, rfl, Z8⟩, hS⟩)
      · skip
        refine And.intro (by omega) ?_
        refine And.intro rfl ?_
        exact ⟨Or.inr ⟨by first | omega | (split at q5 <;> omega), rfl, rfl⟩, hS⟩
theorem v_X11_set {fr lo i : Nat} {own : String} (h1 : 2 + 1 ≤ fr) (h2 : 8 + (5 + 11) + 43 ≤ lo) (h3 : .methodLink own i yX11_set ∈ lw_tbl) : pz_cV fr lo own i k_X11_set :=
  pz_cVk (maxL := 5) (fr' := 2) (lo' := 43) 3 11 h_X11_set rfl ⟨by decide +kernel, by decide +kernel, by decide +kernel⟩ ⟨(pz_mt 443 (by decide +kernel)), (pz_mt 441 (by decide +kernel)), (pz_mt 442 (by decide +kernel)), (pz_mt 1 (by decide +kernel))⟩ (Or.inl ⟨TX11, 14, rfl⟩) (fun a M _ h => by
    have h : (match (generalizing := false) a with | [.inr (.inr (11, th)), .inl w, .inl i, .inl n] => pz_ic M | _ => False) := h
    split at h
    · exact ⟨_, _, rfl⟩
    · exact h.elim) h1 h2 h3
def k_X11_ask : pz_C := (3, 1, fun a M => (match a with | [.inr (.inr (11, th)), .inl i, .inl n] => pz_ic M | _ => False), fun a M r M' => (match a, r with | [.inr (.inr (11, th)), .inl i, .inl n], some (.inl v) => (True) ∧ pz_sW M M' | _, _ => False))
abbrev ct_X11_ask : List (Bool × Nat × pz_C) := [(true, 141, k_X1_canAsk), (true, 145, k_X2_keep), (true, 149, k_X1_askFor)]
set_option maxRecDepth 100000 in
set_option maxHeartbeats 4000000 in
theorem h_X11_ask : pz_H yX11_ask cX11_ask 3 (some .int) k_X11_ask 5 122 := by
  refine pz_mk (own := RX11) (tb := t_X11_ask) (fl := pz_flf fl_RX11) (ci := pz_cif ci_RX11) (ct := pz_ctf ct_X11_ask) (rz := false) (by decide +kernel) rfl t_X11_ask_ok (pz_flk fl_RX11_ok) (pz_cik ci_RX11_ok) ?_ ?_ (Or.inl ⟨rfl, rfl⟩) ?_ ?_
  · exact fun i k' h => pz_ctk (l := ct_X11_ask) (P := fun b i k => b = true → pz_cV 5 122 RX11 i k) (List.forall_mem_cons.mpr ⟨(fun _ => v_X1_canAsk (by decide) (by decide) (pz_mt 452 (by decide +kernel))), List.forall_mem_cons.mpr ⟨(fun _ => v_X2_keep (by decide) (by decide) (pz_mt 462 (by decide +kernel))), List.forall_mem_cons.mpr ⟨(fun _ => v_X1_askFor (by decide) (by decide) (pz_mt 477 (by decide +kernel))), fun _ h => absurd h List.not_mem_nil⟩⟩⟩) true i k' h rfl
  · exact fun i k' h => pz_ctk (l := ct_X11_ask) (P := fun b i k => b = false → (pz_cS 5 122 RX11 i k ∨ (k = pz_kac ∧ 1 ≤ 5 ∧ 60 ≤ 122 ∧ Cond.methodLink RX11 i arraycopyName ∈ pz_tbl))) (List.forall_mem_cons.mpr ⟨((fun z => by cases z)), List.forall_mem_cons.mpr ⟨((fun z => by cases z)), List.forall_mem_cons.mpr ⟨((fun z => by cases z)), fun _ h => absurd h List.not_mem_nil⟩⟩⟩) false i k' h rfl
  · intro a M hlen hpre
    obtain ⟨th, i, n, rfl, hpre⟩ : ∃ th i n, a = [.inr (.inr (11, th)), .inl i, .inl n] ∧ (pz_ic M) := by
      have hpre : (match (generalizing := false) a with | [.inr (.inr (11, th)), .inl i, .inl n] => pz_ic M | _ => False) := hpre
      split at hpre
      · exact ⟨_, _, _, rfl, hpre⟩
      · exact hpre.elim
    exact Nat.le_of_ble_eq_true rfl
  · intro a M hlen hcan hM hpre Ok hgo
    obtain ⟨th, i, n, rfl, hpre⟩ : ∃ th i n, a = [.inr (.inr (11, th)), .inl i, .inl n] ∧ (pz_ic M) := by
      have hpre : (match (generalizing := false) a with | [.inr (.inr (11, th)), .inl i, .inl n] => pz_ic M | _ => False) := hpre
      split at hpre
      · exact ⟨_, _, _, rfl, hpre⟩
      · exact hpre.elim
    obtain ⟨k_th, hc_th⟩ := pz_tlm hcan
    have k_th : pz_kd th = 11 ∧ th < 231 := k_th
    have R_th := pz_kd11 k_th.1
    subst R_th
    obtain ⟨k_i, hc_i⟩ := pz_tlm hc_th
    have l_i : -2147483648 ≤ i := k_i.1
    have u_i : i ≤ 2147483647 := k_i.2
    obtain ⟨k_n, hc_n⟩ := pz_tlm hc_i
    have l_n : -2147483648 ≤ n := k_n.1
    have u_n : n ≤ 2147483647 := k_n.2
    have hI : pz_ic M := hpre
    have hI0 := hI
    have hS : pz_sW M M := pz_sW.rf
    refine hgo (fun _ => false) 25 0 _ [] M ?_
    refine pz_nrc (c := 2) rfl ?_
    refine pz_nrc (c := 71) rfl ?_
    refine And.intro (hI) ?_
    intro v10 M10 a10 b10 q10
    obtain ⟨q10, z10⟩ := q10
    subst z10
    refine And.intro (fun h13 => ?_) (fun h13 => ?_)
    · skip
      refine pz_nrc (c := 3) rfl ?_
      refine pz_nrc (c := 71) rfl ?_
      refine And.intro (And.intro hI (by omega)) ?_
      intro M26 q26
      obtain ⟨q26, z26⟩ := q26
      have hS : pz_sW M M26 := hS.tr z26
      have hI : pz_ic M26 := hS.1.1 hI0
      refine pz_nrc (c := 2) rfl ?_
      refine pz_nrc (c := 71) rfl ?_
      refine And.intro (hI) ?_
      intro v39 M39 a39 b39 q39
      obtain ⟨q39, z39⟩ := q39
      have hS : pz_sW M M39 := hS.tr z39.sw
      have hI : pz_ic M39 := hS.1.1 hI0
      refine And.intro rfl ?_
      exact ⟨trivial, hS⟩
    · skip
      refine And.intro rfl ?_
      exact ⟨trivial, hS⟩
theorem v_X11_ask {fr lo i : Nat} {own : String} (h1 : 5 + 1 ≤ fr) (h2 : 8 + (3 + 11) + 122 ≤ lo) (h3 : .methodLink own i yX11_ask ∈ lw_tbl) : pz_cV fr lo own i k_X11_ask :=
  pz_cVk (maxL := 3) (fr' := 5) (lo' := 122) 2 11 h_X11_ask rfl ⟨by decide +kernel, by decide +kernel, by decide +kernel⟩ ⟨(pz_mt 451 (by decide +kernel)), (pz_mt 449 (by decide +kernel)), (pz_mt 450 (by decide +kernel)), (pz_mt 1 (by decide +kernel))⟩ (Or.inl ⟨TX11, 14, rfl⟩) (fun a M _ h => by
    have h : (match (generalizing := false) a with | [.inr (.inr (11, th)), .inl i, .inl n] => pz_ic M | _ => False) := h
    split at h
    · exact ⟨_, _, rfl⟩
    · exact h.elim) h1 h2 h3
def k_X11_bridge : pz_C := (2, 1, fun a M => (match a with | [.inr (.inr (11, th)), .inl i] => pz_ic M | _ => False), fun a M r M' => (match a, r with | [.inr (.inr (11, th)), .inl i], some (.inl v) => (v = 0 ∨ v = 1) ∧ pz_sW M M' | _, _ => False))
abbrev ct_X11_bridge : List (Bool × Nat × pz_C) := [(true, 153, k_X0_canBridge), (true, 145, k_X2_keep), (true, 156, k_X1_putBridge)]
set_option maxRecDepth 100000 in
set_option maxHeartbeats 4000000 in
theorem h_X11_bridge : pz_H yX11_bridge cX11_bridge 2 (some .boolean) k_X11_bridge 3 64 := by
  refine pz_mk (own := RX11) (tb := t_X11_bridge) (fl := pz_flf fl_RX11) (ci := pz_cif ci_RX11) (ct := pz_ctf ct_X11_bridge) (rz := true) (by decide +kernel) rfl t_X11_bridge_ok (pz_flk fl_RX11_ok) (pz_cik ci_RX11_ok) ?_ ?_ (Or.inr ⟨rfl, rfl⟩) ?_ ?_
  · exact fun i k' h => pz_ctk (l := ct_X11_bridge) (P := fun b i k => b = true → pz_cV 3 64 RX11 i k) (List.forall_mem_cons.mpr ⟨(fun _ => v_X0_canBridge (by decide) (by decide) (pz_mt 525 (by decide +kernel))), List.forall_mem_cons.mpr ⟨(fun _ => v_X2_keep (by decide) (by decide) (pz_mt 462 (by decide +kernel))), List.forall_mem_cons.mpr ⟨(fun _ => v_X1_putBridge (by decide) (by decide) (pz_mt 530 (by decide +kernel))), fun _ h => absurd h List.not_mem_nil⟩⟩⟩) true i k' h rfl
  · exact fun i k' h => pz_ctk (l := ct_X11_bridge) (P := fun b i k => b = false → (pz_cS 3 64 RX11 i k ∨ (k = pz_kac ∧ 1 ≤ 3 ∧ 60 ≤ 64 ∧ Cond.methodLink RX11 i arraycopyName ∈ pz_tbl))) (List.forall_mem_cons.mpr ⟨((fun z => by cases z)), List.forall_mem_cons.mpr ⟨((fun z => by cases z)), List.forall_mem_cons.mpr ⟨((fun z => by cases z)), fun _ h => absurd h List.not_mem_nil⟩⟩⟩) false i k' h rfl
  · intro a M hlen hpre
    obtain ⟨th, i, rfl, hpre⟩ : ∃ th i, a = [.inr (.inr (11, th)), .inl i] ∧ (pz_ic M) := by
      have hpre : (match (generalizing := false) a with | [.inr (.inr (11, th)), .inl i] => pz_ic M | _ => False) := hpre
      split at hpre
      · exact ⟨_, _, rfl, hpre⟩
      · exact hpre.elim
    exact Nat.le_of_ble_eq_true rfl
  · intro a M hlen hcan hM hpre Ok hgo
    obtain ⟨th, i, rfl, hpre⟩ : ∃ th i, a = [.inr (.inr (11, th)), .inl i] ∧ (pz_ic M) := by
      have hpre : (match (generalizing := false) a with | [.inr (.inr (11, th)), .inl i] => pz_ic M | _ => False) := hpre
      split at hpre
      · exact ⟨_, _, rfl, hpre⟩
      · exact hpre.elim
    obtain ⟨k_th, hc_th⟩ := pz_tlm hcan
    have k_th : pz_kd th = 11 ∧ th < 231 := k_th
    have R_th := pz_kd11 k_th.1
    subst R_th
    obtain ⟨k_i, hc_i⟩ := pz_tlm hc_th
    have l_i : -2147483648 ≤ i := k_i.1
    have u_i : i ≤ 2147483647 := k_i.2
    have hI : pz_ic M := hpre
    have hI0 := hI
    have hS : pz_sW M M := pz_sW.rf
    refine hgo (fun _ => false) 22 0 _ [] M ?_
    refine pz_nrc (c := 71) rfl ?_
    refine And.intro (hI) ?_
    intro v5 M5 a5 b5 q5
    obtain ⟨q5, z5⟩ := q5
    subst z5
    refine And.intro (fun h8 => ?_) (fun h8 => ?_)
    · skip
      refine pz_nrc (c := 3) rfl ?_
      refine pz_nrc (c := 71) rfl ?_
      refine And.intro (And.intro hI (by omega)) ?_
      intro M21 q21
      obtain ⟨q21, z21⟩ := q21
      have hS : pz_sW M M21 := hS.tr z21
      have hI : pz_ic M21 := hS.1.1 hI0
      refine pz_nrc (c := 2) rfl ?_
      refine pz_nrc (c := 71) rfl ?_
      refine And.intro (hI) ?_
      intro M33 q33
      obtain ⟨q33, z33⟩ := q33
      have hS : pz_sW M M33 := hS.tr z33.sw
      have hI : pz_ic M33 := hS.1.1 hI0
      refine And.intro (by omega) ?_
      refine And.intro rfl ?_
      exact ⟨by omega, hS⟩
    · skip
      refine And.intro (by omega) ?_
      refine And.intro rfl ?_
      exact ⟨by omega, hS⟩
theorem v_X11_bridge {fr lo i : Nat} {own : String} (h1 : 3 + 1 ≤ fr) (h2 : 8 + (2 + 11) + 64 ≤ lo) (h3 : .methodLink own i yX11_bridge ∈ lw_tbl) : pz_cV fr lo own i k_X11_bridge :=
  pz_cVk (maxL := 2) (fr' := 3) (lo' := 64) 1 11 h_X11_bridge rfl ⟨by decide +kernel, by decide +kernel, by decide +kernel⟩ ⟨(pz_mt 524 (by decide +kernel)), (pz_mt 522 (by decide +kernel)), (pz_mt 523 (by decide +kernel)), (pz_mt 1 (by decide +kernel))⟩ (Or.inl ⟨TX11, 14, rfl⟩) (fun a M _ h => by
    have h : (match (generalizing := false) a with | [.inr (.inr (11, th)), .inl i] => pz_ic M | _ => False) := h
    split at h
    · exact ⟨_, _, rfl⟩
    · exact h.elim) h1 h2 h3
def k_X11_pay : pz_C := (4, 1, fun a M => (match a with | [.inr (.inr (11, th)), .inl i, .inl j, .inl n] => pz_ic M | _ => False), fun a M r M' => (match a, r with | [.inr (.inr (11, th)), .inl i, .inl j, .inl n], some (.inl v) => (v = 0 ∨ v = 1) ∧ pz_sW M M' | _, _ => False))
abbrev ct_X11_pay : List (Bool × Nat × pz_C) := [(true, 160, k_X1_canHandOver), (true, 145, k_X2_keep), (true, 164, k_X1_handOver)]
set_option maxRecDepth 100000 in
set_option maxHeartbeats 4000000 in
theorem h_X11_pay : pz_H yX11_pay cX11_pay 4 (some .boolean) k_X11_pay 3 64 := by
  refine pz_mk (own := RX11) (tb := t_X11_pay) (fl := pz_flf fl_RX11) (ci := pz_cif ci_RX11) (ct := pz_ctf ct_X11_pay) (rz := true) (by decide +kernel) rfl t_X11_pay_ok (pz_flk fl_RX11_ok) (pz_cik ci_RX11_ok) ?_ ?_ (Or.inr ⟨rfl, rfl⟩) ?_ ?_
  · exact fun i k' h => pz_ctk (l := ct_X11_pay) (P := fun b i k => b = true → pz_cV 3 64 RX11 i k) (List.forall_mem_cons.mpr ⟨(fun _ => v_X1_canHandOver (by decide) (by decide) (pz_mt 538 (by decide +kernel))), List.forall_mem_cons.mpr ⟨(fun _ => v_X2_keep (by decide) (by decide) (pz_mt 462 (by decide +kernel))), List.forall_mem_cons.mpr ⟨(fun _ => v_X1_handOver (by decide) (by decide) (pz_mt 543 (by decide +kernel))), fun _ h => absurd h List.not_mem_nil⟩⟩⟩) true i k' h rfl
  · exact fun i k' h => pz_ctk (l := ct_X11_pay) (P := fun b i k => b = false → (pz_cS 3 64 RX11 i k ∨ (k = pz_kac ∧ 1 ≤ 3 ∧ 60 ≤ 64 ∧ Cond.methodLink RX11 i arraycopyName ∈ pz_tbl))) (List.forall_mem_cons.mpr ⟨((fun z => by cases z)), List.forall_mem_cons.mpr ⟨((fun z => by cases z)), List.forall_mem_cons.mpr ⟨((fun z => by cases z)), fun _ h => absurd h List.not_mem_nil⟩⟩⟩) false i k' h rfl
  · intro a M hlen hpre
    obtain ⟨th, i, j, n, rfl, hpre⟩ : ∃ th i j n, a = [.inr (.inr (11, th)), .inl i, .inl j, .inl n] ∧ (pz_ic M) := by
      have hpre : (match (generalizing := false) a with | [.inr (.inr (11, th)), .inl i, .inl j, .inl n] => pz_ic M | _ => False) := hpre
      split at hpre
      · exact ⟨_, _, _, _, rfl, hpre⟩
      · exact hpre.elim
    exact Nat.le_of_ble_eq_true rfl
  · intro a M hlen hcan hM hpre Ok hgo
    obtain ⟨th, i, j, n, rfl, hpre⟩ : ∃ th i j n, a = [.inr (.inr (11, th)), .inl i, .inl j, .inl n] ∧ (pz_ic M) := by
      have hpre : (match (generalizing := false) a with | [.inr (.inr (11, th)), .inl i, .inl j, .inl n] => pz_ic M | _ => False) := hpre
      split at hpre
      · exact ⟨_, _, _, _, rfl, hpre⟩
      · exact hpre.elim
    obtain ⟨k_th, hc_th⟩ := pz_tlm hcan
    have k_th : pz_kd th = 11 ∧ th < 231 := k_th
    have R_th := pz_kd11 k_th.1
    subst R_th
    obtain ⟨k_i, hc_i⟩ := pz_tlm hc_th
    have l_i : -2147483648 ≤ i := k_i.1
    have u_i : i ≤ 2147483647 := k_i.2
    obtain ⟨k_j, hc_j⟩ := pz_tlm hc_i
    have l_j : -2147483648 ≤ j := k_j.1
    have u_j : j ≤ 2147483647 := k_j.2
    obtain ⟨k_n, hc_n⟩ := pz_tlm hc_j
    have l_n : -2147483648 ≤ n := k_n.1
    have u_n : n ≤ 2147483647 := k_n.2
    have hI : pz_ic M := hpre
    have hI0 := hI
    have hS : pz_sW M M := pz_sW.rf
    refine hgo (fun _ => false) 28 0 _ [] M ?_
    refine pz_nrc (c := 2) rfl ?_
    refine pz_nrc (c := 71) rfl ?_
    refine And.intro (hI) ?_
    intro v11 M11 a11 b11 q11
    obtain ⟨q11, z11⟩ := q11
    subst z11
    refine And.intro (fun h14 => ?_) (fun h14 => ?_)
    · skip
      refine pz_nrc (c := 3) rfl ?_
      refine pz_nrc (c := 71) rfl ?_
      refine And.intro (And.intro hI (by omega)) ?_
      intro M27 q27
      obtain ⟨q27, z27⟩ := q27
      have hS : pz_sW M M27 := hS.tr z27
      have hI : pz_ic M27 := hS.1.1 hI0
      refine pz_nrc (c := 2) rfl ?_
      refine pz_nrc (c := 71) rfl ?_
      refine And.intro (hI) ?_
      intro M41 q41
      obtain ⟨q41, z41⟩ := q41
      have hS : pz_sW M M41 := hS.tr z41.sw
      have hI : pz_ic M41 := hS.1.1 hI0
      refine And.intro (by omega) ?_
      refine And.intro rfl ?_
      exact ⟨by omega, hS⟩
    · skip
      refine And.intro (by omega) ?_
      refine And.intro rfl ?_
      exact ⟨by omega, hS⟩
theorem v_X11_pay {fr lo i : Nat} {own : String} (h1 : 3 + 1 ≤ fr) (h2 : 8 + (4 + 11) + 64 ≤ lo) (h3 : .methodLink own i yX11_pay ∈ lw_tbl) : pz_cV fr lo own i k_X11_pay :=
  pz_cVk (maxL := 4) (fr' := 3) (lo' := 64) 3 11 h_X11_pay rfl ⟨by decide +kernel, by decide +kernel, by decide +kernel⟩ ⟨(pz_mt 537 (by decide +kernel)), (pz_mt 535 (by decide +kernel)), (pz_mt 536 (by decide +kernel)), (pz_mt 1 (by decide +kernel))⟩ (Or.inl ⟨TX11, 14, rfl⟩) (fun a M _ h => by
    have h : (match (generalizing := false) a with | [.inr (.inr (11, th)), .inl i, .inl j, .inl n] => pz_ic M | _ => False) := h
    split at h
    · exact ⟨_, _, rfl⟩
    · exact h.elim) h1 h2 h3
def k_X11_paper : pz_C := (2, 1, fun a M => (match a with | [.inr (.inr (11, th)), .inl i] => pz_ic M | _ => False), fun a M r M' => (match a, r with | [.inr (.inr (11, th)), .inl i], some (.inl v) => (v = 0 ∨ v = 1) ∧ pz_sW M M' | _, _ => False))
abbrev ct_X11_paper : List (Bool × Nat × pz_C) := [(true, 168, k_X1_canGetReady), (true, 145, k_X2_keep), (true, 172, k_X1_getReady)]
set_option maxRecDepth 100000 in
set_option maxHeartbeats 4000000 in
theorem h_X11_paper : pz_H yX11_paper cX11_paper 2 (some .boolean) k_X11_paper 3 64 := by
  refine pz_mk (own := RX11) (tb := t_X11_paper) (fl := pz_flf fl_RX11) (ci := pz_cif ci_RX11) (ct := pz_ctf ct_X11_paper) (rz := true) (by decide +kernel) rfl t_X11_paper_ok (pz_flk fl_RX11_ok) (pz_cik ci_RX11_ok) ?_ ?_ (Or.inr ⟨rfl, rfl⟩) ?_ ?_
  · exact fun i k' h => pz_ctk (l := ct_X11_paper) (P := fun b i k => b = true → pz_cV 3 64 RX11 i k) (List.forall_mem_cons.mpr ⟨(fun _ => v_X1_canGetReady (by decide) (by decide) (pz_mt 551 (by decide +kernel))), List.forall_mem_cons.mpr ⟨(fun _ => v_X2_keep (by decide) (by decide) (pz_mt 462 (by decide +kernel))), List.forall_mem_cons.mpr ⟨(fun _ => v_X1_getReady (by decide) (by decide) (pz_mt 555 (by decide +kernel))), fun _ h => absurd h List.not_mem_nil⟩⟩⟩) true i k' h rfl
  · exact fun i k' h => pz_ctk (l := ct_X11_paper) (P := fun b i k => b = false → (pz_cS 3 64 RX11 i k ∨ (k = pz_kac ∧ 1 ≤ 3 ∧ 60 ≤ 64 ∧ Cond.methodLink RX11 i arraycopyName ∈ pz_tbl))) (List.forall_mem_cons.mpr ⟨((fun z => by cases z)), List.forall_mem_cons.mpr ⟨((fun z => by cases z)), List.forall_mem_cons.mpr ⟨((fun z => by cases z)), fun _ h => absurd h List.not_mem_nil⟩⟩⟩) false i k' h rfl
  · intro a M hlen hpre
    obtain ⟨th, i, rfl, hpre⟩ : ∃ th i, a = [.inr (.inr (11, th)), .inl i] ∧ (pz_ic M) := by
      have hpre : (match (generalizing := false) a with | [.inr (.inr (11, th)), .inl i] => pz_ic M | _ => False) := hpre
      split at hpre
      · exact ⟨_, _, rfl, hpre⟩
      · exact hpre.elim
    exact Nat.le_of_ble_eq_true rfl
  · intro a M hlen hcan hM hpre Ok hgo
    obtain ⟨th, i, rfl, hpre⟩ : ∃ th i, a = [.inr (.inr (11, th)), .inl i] ∧ (pz_ic M) := by
      have hpre : (match (generalizing := false) a with | [.inr (.inr (11, th)), .inl i] => pz_ic M | _ => False) := hpre
      split at hpre
      · exact ⟨_, _, rfl, hpre⟩
      · exact hpre.elim
    obtain ⟨k_th, hc_th⟩ := pz_tlm hcan
    have k_th : pz_kd th = 11 ∧ th < 231 := k_th
    have R_th := pz_kd11 k_th.1
    subst R_th
    obtain ⟨k_i, hc_i⟩ := pz_tlm hc_th
    have l_i : -2147483648 ≤ i := k_i.1
    have u_i : i ≤ 2147483647 := k_i.2
    have hI : pz_ic M := hpre
    have hI0 := hI
    have hS : pz_sW M M := pz_sW.rf
    refine hgo (fun _ => false) 24 0 _ [] M ?_
    refine pz_nrc (c := 2) rfl ?_
    refine pz_nrc (c := 71) rfl ?_
    refine And.intro (hI) ?_
    intro v9 M9 a9 b9 q9
    obtain ⟨q9, z9⟩ := q9
    subst z9
    refine And.intro (fun h12 => ?_) (fun h12 => ?_)
    · skip
      refine pz_nrc (c := 3) rfl ?_
      refine pz_nrc (c := 71) rfl ?_
      refine And.intro (And.intro hI (by omega)) ?_
      intro M25 q25
      obtain ⟨q25, z25⟩ := q25
      have hS : pz_sW M M25 := hS.tr z25
      have hI : pz_ic M25 := hS.1.1 hI0
      refine pz_nrc (c := 2) rfl ?_
      refine pz_nrc (c := 71) rfl ?_
      refine And.intro (hI) ?_
      intro M37 q37
      obtain ⟨q37, z37⟩ := q37
      have hS : pz_sW M M37 := hS.tr z37.sw
      have hI : pz_ic M37 := hS.1.1 hI0
      refine And.intro (by omega) ?_
      refine And.intro rfl ?_
      exact ⟨by omega, hS⟩
    · skip
      refine And.intro (by omega) ?_
      refine And.intro rfl ?_
      exact ⟨by omega, hS⟩
theorem v_X11_paper {fr lo i : Nat} {own : String} (h1 : 3 + 1 ≤ fr) (h2 : 8 + (2 + 11) + 64 ≤ lo) (h3 : .methodLink own i yX11_paper ∈ lw_tbl) : pz_cV fr lo own i k_X11_paper :=
  pz_cVk (maxL := 2) (fr' := 3) (lo' := 64) 1 11 h_X11_paper rfl ⟨by decide +kernel, by decide +kernel, by decide +kernel⟩ ⟨(pz_mt 550 (by decide +kernel)), (pz_mt 548 (by decide +kernel)), (pz_mt 549 (by decide +kernel)), (pz_mt 1 (by decide +kernel))⟩ (Or.inl ⟨TX11, 14, rfl⟩) (fun a M _ h => by
    have h : (match (generalizing := false) a with | [.inr (.inr (11, th)), .inl i] => pz_ic M | _ => False) := h
    split at h
    · exact ⟨_, _, rfl⟩
    · exact h.elim) h1 h2 h3
def k_X11_join : pz_C := (2, 1, fun a M => (match a with | [.inr (.inr (11, th)), .inl i] => pz_ic M | _ => False), fun a M r M' => (match a, r with | [.inr (.inr (11, th)), .inl i], some (.inl v) => (v = 0 ∨ v = 1) ∧ pz_sW M M' | _, _ => False))
abbrev ct_X11_join : List (Bool × Nat × pz_C) := [(true, 118, k_X0_has), (true, 107, k_X0_at), (true, 145, k_X2_keep), (true, 178, k_X1_comeIn)]
set_option maxRecDepth 100000 in
set_option maxHeartbeats 4000000 in
theorem h_X11_join : pz_H yX11_join cX11_join 2 (some .boolean) k_X11_join 3 64 := by
  refine pz_mk (own := RX11) (tb := t_X11_join) (fl := pz_flf fl_RX11) (ci := pz_cif ci_RX11) (ct := pz_ctf ct_X11_join) (rz := true) (by decide +kernel) rfl t_X11_join_ok (pz_flk fl_RX11_ok) (pz_cik ci_RX11_ok) ?_ ?_ (Or.inr ⟨rfl, rfl⟩) ?_ ?_
  · exact fun i k' h => pz_ctk (l := ct_X11_join) (P := fun b i k => b = true → pz_cV 3 64 RX11 i k) (List.forall_mem_cons.mpr ⟨(fun _ => v_X0_has (by decide) (by decide) (pz_mt 444 (by decide +kernel))), List.forall_mem_cons.mpr ⟨(fun _ => v_X0_at (by decide) (by decide) (pz_mt 428 (by decide +kernel))), List.forall_mem_cons.mpr ⟨(fun _ => v_X2_keep (by decide) (by decide) (pz_mt 462 (by decide +kernel))), List.forall_mem_cons.mpr ⟨(fun _ => v_X1_comeIn (by decide) (by decide) (pz_mt 563 (by decide +kernel))), fun _ h => absurd h List.not_mem_nil⟩⟩⟩⟩) true i k' h rfl
  · exact fun i k' h => pz_ctk (l := ct_X11_join) (P := fun b i k => b = false → (pz_cS 3 64 RX11 i k ∨ (k = pz_kac ∧ 1 ≤ 3 ∧ 60 ≤ 64 ∧ Cond.methodLink RX11 i arraycopyName ∈ pz_tbl))) (List.forall_mem_cons.mpr ⟨((fun z => by cases z)), List.forall_mem_cons.mpr ⟨((fun z => by cases z)), List.forall_mem_cons.mpr ⟨((fun z => by cases z)), List.forall_mem_cons.mpr ⟨((fun z => by cases z)), fun _ h => absurd h List.not_mem_nil⟩⟩⟩⟩) false i k' h rfl
  · intro a M hlen hpre
    obtain ⟨th, i, rfl, hpre⟩ : ∃ th i, a = [.inr (.inr (11, th)), .inl i] ∧ (pz_ic M) := by
      have hpre : (match (generalizing := false) a with | [.inr (.inr (11, th)), .inl i] => pz_ic M | _ => False) := hpre
      split at hpre
      · exact ⟨_, _, rfl, hpre⟩
      · exact hpre.elim
    exact Nat.le_of_ble_eq_true rfl
  · intro a M hlen hcan hM hpre Ok hgo
    obtain ⟨th, i, rfl, hpre⟩ : ∃ th i, a = [.inr (.inr (11, th)), .inl i] ∧ (pz_ic M) := by
      have hpre : (match (generalizing := false) a with | [.inr (.inr (11, th)), .inl i] => pz_ic M | _ => False) := hpre
      split at hpre
      · exact ⟨_, _, rfl, hpre⟩
      · exact hpre.elim
    obtain ⟨k_th, hc_th⟩ := pz_tlm hcan
    have k_th : pz_kd th = 11 ∧ th < 231 := k_th
    have R_th := pz_kd11 k_th.1
    subst R_th
    obtain ⟨k_i, hc_i⟩ := pz_tlm hc_th
    have l_i : -2147483648 ≤ i := k_i.1
    have u_i : i ≤ 2147483647 := k_i.2
    have hI : pz_ic M := hpre
    have hI0 := hI
    have hS : pz_sW M M := pz_sW.rf
    refine hgo (fun _ => false) 28 0 _ [] M ?_
    refine pz_nrc (c := 71) rfl ?_
    refine And.intro (True.intro) ?_
    intro v5 M5 a5 b5 q5
    obtain ⟨q5, z5⟩ := q5
    subst z5
    refine And.intro (fun h8 => ?_) (fun h8 => ?_)
    · skip
      refine And.intro (by omega) ?_
      refine And.intro rfl ?_
      exact ⟨by omega, hS⟩
    · skip
      refine pz_nrc (c := 71) rfl ?_
      refine And.intro (True.intro) ?_
      intro r16 M16 k16 q16
      have R16 := pz_kd5 k16
      obtain ⟨q16, z16⟩ := q16
      subst z16
      intro v19 e19 a19 b19
      refine And.intro (fun h22 => ?_) (fun h22 => ?_)
      · skip
        refine pz_nrc (c := 3) rfl ?_
        refine pz_nrc (c := 71) rfl ?_
        refine And.intro (And.intro hI (by omega)) ?_
        intro M35 q35
        obtain ⟨q35, z35⟩ := q35
        have hS : pz_sW M M35 := hS.tr z35
        have hI : pz_ic M35 := hS.1.1 hI0
        refine pz_nrc (c := 2) rfl ?_
        refine pz_nrc (c := 71) rfl ?_
        refine And.intro (hI) ?_
        intro M47 q47
        obtain ⟨q47, z47⟩ := q47
        have hS : pz_sW M M47 := hS.tr z47.sw
        have hI : pz_ic M47 := hS.1.1 hI0
        refine And.intro (by omega) ?_
        refine And.intro rfl ?_
        exact ⟨by omega, hS⟩
      · skip
        refine And.intro (by omega) ?_
        refine And.intro rfl ?_
        exact ⟨by omega, hS⟩
theorem v_X11_join {fr lo i : Nat} {own : String} (h1 : 3 + 1 ≤ fr) (h2 : 8 + (2 + 11) + 64 ≤ lo) (h3 : .methodLink own i yX11_join ∈ lw_tbl) : pz_cV fr lo own i k_X11_join :=
  pz_cVk (maxL := 2) (fr' := 3) (lo' := 64) 1 11 h_X11_join rfl ⟨by decide +kernel, by decide +kernel, by decide +kernel⟩ ⟨(pz_mt 562 (by decide +kernel)), (pz_mt 560 (by decide +kernel)), (pz_mt 561 (by decide +kernel)), (pz_mt 1 (by decide +kernel))⟩ (Or.inl ⟨TX11, 14, rfl⟩) (fun a M _ h => by
    have h : (match (generalizing := false) a with | [.inr (.inr (11, th)), .inl i] => pz_ic M | _ => False) := h
    split at h
    · exact ⟨_, _, rfl⟩
    · exact h.elim) h1 h2 h3
def k_X11_days : pz_C := (2, 1, fun a M => (match a with | [.inr (.inr (11, th)), .inl n] => pz_ic M | _ => False), fun a M r M' => (match a, r with | [.inr (.inr (11, th)), .inl n], some (.inl v) => (True) ∧ pz_sW M M' | _, _ => False))
abbrev ct_X11_days : List (Bool × Nat × pz_C) := [(false, 137, k_X11_within), (true, 145, k_X2_keep), (true, 184, k_X1_oneDay)]
set_option maxRecDepth 100000 in
set_option maxHeartbeats 4000000 in
theorem h_X11_days : pz_H yX11_days cX11_days 4 (some .int) k_X11_days 7 169 := by
  refine pz_mk (own := RX11) (tb := t_X11_days) (fl := pz_flf fl_RX11) (ci := pz_cif ci_RX11) (ct := pz_ctf ct_X11_days) (rz := false) (by decide +kernel) rfl t_X11_days_ok (pz_flk fl_RX11_ok) (pz_cik ci_RX11_ok) ?_ ?_ (Or.inl ⟨rfl, rfl⟩) ?_ ?_
  · exact fun i k' h => pz_ctk (l := ct_X11_days) (P := fun b i k => b = true → pz_cV 7 169 RX11 i k) (List.forall_mem_cons.mpr ⟨((fun z => by cases z)), List.forall_mem_cons.mpr ⟨(fun _ => v_X2_keep (by decide) (by decide) (pz_mt 462 (by decide +kernel))), List.forall_mem_cons.mpr ⟨(fun _ => v_X1_oneDay (by decide) (by decide) (pz_mt 571 (by decide +kernel))), fun _ h => absurd h List.not_mem_nil⟩⟩⟩) true i k' h rfl
  · exact fun i k' h => pz_ctk (l := ct_X11_days) (P := fun b i k => b = false → (pz_cS 7 169 RX11 i k ∨ (k = pz_kac ∧ 1 ≤ 7 ∧ 60 ≤ 169 ∧ Cond.methodLink RX11 i arraycopyName ∈ pz_tbl))) (List.forall_mem_cons.mpr ⟨(fun _ => Or.inl (s_X11_within (by decide) (by decide) (Or.inl (pz_mt 425 (by decide +kernel))))), List.forall_mem_cons.mpr ⟨((fun z => by cases z)), List.forall_mem_cons.mpr ⟨((fun z => by cases z)), fun _ h => absurd h List.not_mem_nil⟩⟩⟩) false i k' h rfl
  · intro a M hlen hpre
    obtain ⟨th, n, rfl, hpre⟩ : ∃ th n, a = [.inr (.inr (11, th)), .inl n] ∧ (pz_ic M) := by
      have hpre : (match (generalizing := false) a with | [.inr (.inr (11, th)), .inl n] => pz_ic M | _ => False) := hpre
      split at hpre
      · exact ⟨_, _, rfl, hpre⟩
      · exact hpre.elim
    exact Nat.le_of_ble_eq_true rfl
  · intro a M hlen hcan hM hpre Ok hgo
    obtain ⟨th, n, rfl, hpre⟩ : ∃ th n, a = [.inr (.inr (11, th)), .inl n] ∧ (pz_ic M) := by
      have hpre : (match (generalizing := false) a with | [.inr (.inr (11, th)), .inl n] => pz_ic M | _ => False) := hpre
      split at hpre
      · exact ⟨_, _, rfl, hpre⟩
      · exact hpre.elim
    obtain ⟨k_th, hc_th⟩ := pz_tlm hcan
    have k_th : pz_kd th = 11 ∧ th < 231 := k_th
    have R_th := pz_kd11 k_th.1
    subst R_th
    obtain ⟨k_n, hc_n⟩ := pz_tlm hc_th
    have l_n : -2147483648 ≤ n := k_n.1
    have u_n : n ≤ 2147483647 := k_n.2
    have hI : pz_ic M := hpre
    have hI0 := hI
    have hS : pz_sW M M := pz_sW.rf
    have L31 : ∀ (fu : Nat) (x2 : Int) (x3 : Int) (N31 : pz_M), (60 - x3).toNat < fu → (pz_sW M N31) → (0 ≤ x3) → (n ≤ 60) → Ok 31 [some (.inr (.inr (11, 0))), some (.inl n), some (.inl x2), some (.inl x3)] [] N31 := by
      intro fu
      induction fu with
      | zero => exact fun _ _ _ hn => absurd hn (Nat.not_lt_zero _)
      | succ fu ih31 =>
        intro x2 x3 N31 hn31 hS g31_1 g31_2
        have hI : pz_ic N31 := hS.1.1 hI0
        refine hgo (fun p => Nat.beq p 31) 40 31 _ _ _ ?_
        refine And.intro (fun h33 => ?_) (fun h33 => ?_)
        · skip
          refine And.intro rfl ?_
          exact ⟨trivial, hS⟩
        · skip
          refine pz_nrc (c := 3) rfl ?_
          refine pz_nrc (c := 71) rfl ?_
          refine And.intro (And.intro hI (by omega)) ?_
          intro M44 q44
          obtain ⟨q44, z44⟩ := q44
          have hS : pz_sW M M44 := hS.tr z44
          have hI : pz_ic M44 := hS.1.1 hI0
          refine pz_nrc (c := 2) rfl ?_
          refine pz_nrc (c := 71) rfl ?_
          refine And.intro (hI) ?_
          intro v56 M56 a56 b56 q56
          obtain ⟨q56, z56⟩ := q56
          have hS : pz_sW M M56 := hS.tr z56.sw
          have hI : pz_ic M56 := hS.1.1 hI0
          intro v59 e59 a59 b59
          try rw [pz_wi (by omega) (by omega)] at e59
          intro v61 e61 a61 b61
          try rw [pz_wi (by omega) (by omega)] at e61
          exact ih31 _ _ _ (by omega) hS (by omega) (by omega)
    refine hgo (fun p => Nat.beq p 31) 40 0 _ [] M ?_
    refine And.intro (True.intro) ?_
    intro v4 M4 a4 b4 q4
    obtain ⟨q4, z4⟩ := q4
    subst z4
    refine And.intro (fun h7 => ?_) (fun h7 => ?_)
    · skip
      refine And.intro rfl ?_
      exact ⟨trivial, hS⟩
    · skip
      refine pz_nrc (c := 71) rfl ?_
      intro v14 e14 a14 b14
      intro v18 e18 a18 b18
      try rw [pz_wi (by omega) (by omega)] at e18
      refine And.intro (fun h22 => ?_) (fun h22 => ?_)
      · skip
        exact L31 _ _ _ _ (Nat.lt_succ_self _) hS (by omega) (by omega)
      · skip
        refine And.intro rfl ?_
        exact ⟨trivial, hS⟩
theorem v_X11_days {fr lo i : Nat} {own : String} (h1 : 7 + 1 ≤ fr) (h2 : 8 + (4 + 11) + 169 ≤ lo) (h3 : .methodLink own i yX11_days ∈ lw_tbl) : pz_cV fr lo own i k_X11_days :=
  pz_cVk (maxL := 4) (fr' := 7) (lo' := 169) 1 11 h_X11_days rfl ⟨by decide +kernel, by decide +kernel, by decide +kernel⟩ ⟨(pz_mt 570 (by decide +kernel)), (pz_mt 568 (by decide +kernel)), (pz_mt 569 (by decide +kernel)), (pz_mt 1 (by decide +kernel))⟩ (Or.inl ⟨TX11, 14, rfl⟩) (fun a M _ h => by
    have h : (match (generalizing := false) a with | [.inr (.inr (11, th)), .inl n] => pz_ic M | _ => False) := h
    split at h
    · exact ⟨_, _, rfl⟩
    · exact h.elim) h1 h2 h3
def k_X11_fault : pz_C := (2, 1, fun a M => (match a with | [.inr (.inr (11, th)), .inl i] => pz_ic M | _ => False), fun a M r M' => (match a, r with | [.inr (.inr (11, th)), .inl i], some (.inl v) => ((i = 0 → v = M 5 3) ∧ (i = 1 → v = M 5 4) ∧ (¬ (i = 0 ∨ i = 1) → v = -1)) ∧ M = M' | _, _ => False))
abbrev ct_X11_fault : List (Bool × Nat × pz_C) := []
set_option maxRecDepth 100000 in
set_option maxHeartbeats 4000000 in
theorem h_X11_fault : pz_H yX11_fault cX11_fault 2 (some .int) k_X11_fault 0 0 := by
  refine pz_mk (own := RX11) (tb := t_X11_fault) (fl := pz_flf fl_RX11) (ci := pz_cif ci_RX11) (ct := pz_ctf ct_X11_fault) (rz := false) (by decide +kernel) rfl t_X11_fault_ok (pz_flk fl_RX11_ok) (pz_cik ci_RX11_ok) ?_ ?_ (Or.inl ⟨rfl, rfl⟩) ?_ ?_
  · exact fun i k' h => pz_ctk (l := ct_X11_fault) (P := fun b i k => b = true → pz_cV 0 0 RX11 i k) (fun _ h => absurd h List.not_mem_nil) true i k' h rfl
  · exact fun i k' h => pz_ctk (l := ct_X11_fault) (P := fun b i k => b = false → (pz_cS 0 0 RX11 i k ∨ (k = pz_kac ∧ 1 ≤ 0 ∧ 60 ≤ 0 ∧ Cond.methodLink RX11 i arraycopyName ∈ pz_tbl))) (fun _ h => absurd h List.not_mem_nil) false i k' h rfl
  · intro a M hlen hpre
    obtain ⟨th, i, rfl, hpre⟩ : ∃ th i, a = [.inr (.inr (11, th)), .inl i] ∧ (pz_ic M) := by
      have hpre : (match (generalizing := false) a with | [.inr (.inr (11, th)), .inl i] => pz_ic M | _ => False) := hpre
      split at hpre
      · exact ⟨_, _, rfl, hpre⟩
      · exact hpre.elim
    exact Nat.le_of_ble_eq_true rfl
  · intro a M hlen hcan hM hpre Ok hgo
    obtain ⟨th, i, rfl, hpre⟩ : ∃ th i, a = [.inr (.inr (11, th)), .inl i] ∧ (pz_ic M) := by
      have hpre : (match (generalizing := false) a with | [.inr (.inr (11, th)), .inl i] => pz_ic M | _ => False) := hpre
      split at hpre
      · exact ⟨_, _, rfl, hpre⟩
      · exact hpre.elim
    obtain ⟨k_th, hc_th⟩ := pz_tlm hcan
    have k_th : pz_kd th = 11 ∧ th < 231 := k_th
    have R_th := pz_kd11 k_th.1
    subst R_th
    obtain ⟨k_i, hc_i⟩ := pz_tlm hc_th
    have l_i : -2147483648 ≤ i := k_i.1
    have u_i : i ≤ 2147483647 := k_i.2
    have hI : pz_ic M := hpre
    refine hgo (fun _ => false) 14 0 _ [] M ?_
    refine And.intro ?_ ?_
    · skip
      refine And.intro (fun h1 => ?_) ?_
      · skip
        refine pz_nrc (c := 5) rfl ?_
        intro v32 e32 a32 b32
        refine And.intro rfl ?_
        exact ⟨by omega, rfl⟩
      refine And.intro (fun h1 => ?_) ?_
      · skip
        refine pz_nrc (c := 5) rfl ?_
        intro v40 e40 a40 b40
        refine And.intro rfl ?_
        exact ⟨by omega, rfl⟩
      exact True.intro
    · intro h1_0 h1_1
      refine And.intro rfl ?_
      exact ⟨by omega, rfl⟩
theorem v_X11_fault {fr lo i : Nat} {own : String} (h1 : 0 + 1 ≤ fr) (h2 : 8 + (2 + 11) + 0 ≤ lo) (h3 : .methodLink own i yX11_fault ∈ lw_tbl) : pz_cV fr lo own i k_X11_fault :=
  pz_cVk (maxL := 2) (fr' := 0) (lo' := 0) 1 11 h_X11_fault rfl ⟨by decide +kernel, by decide +kernel, by decide +kernel⟩ ⟨(pz_mt 832 (by decide +kernel)), (pz_mt 830 (by decide +kernel)), (pz_mt 831 (by decide +kernel)), (pz_mt 1 (by decide +kernel))⟩ (Or.inl ⟨TX11, 14, rfl⟩) (fun a M _ h => by
    have h : (match (generalizing := false) a with | [.inr (.inr (11, th)), .inl i] => pz_ic M | _ => False) := h
    split at h
    · exact ⟨_, _, rfl⟩
    · exact h.elim) h1 h2 h3
def k_X11_of : pz_C := (3, 1, fun a M => (match a with | [.inr (.inr (11, th)), .inl i, .inl w] => pz_ic M | _ => False), fun a M r M' => (match a, r with | [.inr (.inr (11, th)), .inl i, .inl w], some (.inl v) => (True) ∧ pz_st M M' | _, _ => False))
abbrev ct_X11_of : List (Bool × Nat × pz_C) := [(true, 118, k_X0_has), (true, 107, k_X0_at), (true, 212, k_X3_tells), (true, 218, k_X0_canPay), (true, 221, k_X0_lacks)]
set_option maxRecDepth 100000 in
set_option maxHeartbeats 4000000 in
theorem h_X11_of : pz_H yX11_of cX11_of 4 (some .int) k_X11_of 4 97 := by
  refine pz_mk (own := RX11) (tb := t_X11_of) (fl := pz_flf fl_RX11) (ci := pz_cif ci_RX11) (ct := pz_ctf ct_X11_of) (rz := false) (by decide +kernel) rfl t_X11_of_ok (pz_flk fl_RX11_ok) (pz_cik ci_RX11_ok) ?_ ?_ (Or.inl ⟨rfl, rfl⟩) ?_ ?_
  · exact fun i k' h => pz_ctk (l := ct_X11_of) (P := fun b i k => b = true → pz_cV 4 97 RX11 i k) (List.forall_mem_cons.mpr ⟨(fun _ => v_X0_has (by decide) (by decide) (pz_mt 444 (by decide +kernel))), List.forall_mem_cons.mpr ⟨(fun _ => v_X0_at (by decide) (by decide) (pz_mt 428 (by decide +kernel))), List.forall_mem_cons.mpr ⟨(fun _ => v_X3_tells (by decide) (by decide) (pz_mt 838 (by decide +kernel))), List.forall_mem_cons.mpr ⟨(fun _ => v_X0_canPay (by decide) (by decide) (pz_mt 839 (by decide +kernel))), List.forall_mem_cons.mpr ⟨(fun _ => v_X0_lacks (by decide) (by decide) (pz_mt 840 (by decide +kernel))), fun _ h => absurd h List.not_mem_nil⟩⟩⟩⟩⟩) true i k' h rfl
  · exact fun i k' h => pz_ctk (l := ct_X11_of) (P := fun b i k => b = false → (pz_cS 4 97 RX11 i k ∨ (k = pz_kac ∧ 1 ≤ 4 ∧ 60 ≤ 97 ∧ Cond.methodLink RX11 i arraycopyName ∈ pz_tbl))) (List.forall_mem_cons.mpr ⟨((fun z => by cases z)), List.forall_mem_cons.mpr ⟨((fun z => by cases z)), List.forall_mem_cons.mpr ⟨((fun z => by cases z)), List.forall_mem_cons.mpr ⟨((fun z => by cases z)), List.forall_mem_cons.mpr ⟨((fun z => by cases z)), fun _ h => absurd h List.not_mem_nil⟩⟩⟩⟩⟩) false i k' h rfl
  · intro a M hlen hpre
    obtain ⟨th, i, w, rfl, hpre⟩ : ∃ th i w, a = [.inr (.inr (11, th)), .inl i, .inl w] ∧ (pz_ic M) := by
      have hpre : (match (generalizing := false) a with | [.inr (.inr (11, th)), .inl i, .inl w] => pz_ic M | _ => False) := hpre
      split at hpre
      · exact ⟨_, _, _, rfl, hpre⟩
      · exact hpre.elim
    exact Nat.le_of_ble_eq_true rfl
  · intro a M hlen hcan hM hpre Ok hgo
    obtain ⟨th, i, w, rfl, hpre⟩ : ∃ th i w, a = [.inr (.inr (11, th)), .inl i, .inl w] ∧ (pz_ic M) := by
      have hpre : (match (generalizing := false) a with | [.inr (.inr (11, th)), .inl i, .inl w] => pz_ic M | _ => False) := hpre
      split at hpre
      · exact ⟨_, _, _, rfl, hpre⟩
      · exact hpre.elim
    obtain ⟨k_th, hc_th⟩ := pz_tlm hcan
    have k_th : pz_kd th = 11 ∧ th < 231 := k_th
    have R_th := pz_kd11 k_th.1
    subst R_th
    obtain ⟨k_i, hc_i⟩ := pz_tlm hc_th
    have l_i : -2147483648 ≤ i := k_i.1
    have u_i : i ≤ 2147483647 := k_i.2
    obtain ⟨k_w, hc_w⟩ := pz_tlm hc_i
    have l_w : -2147483648 ≤ w := k_w.1
    have u_w : w ≤ 2147483647 := k_w.2
    have hI : pz_ic M := hpre
    have hI0 := hI
    have hS : pz_st M M := pz_st.rf
    refine hgo (fun _ => false) 92 0 _ [] M ?_
    intro r1 e1 k1
    have R1 := pz_kd0 k1
    refine And.intro (True.intro) ?_
    intro v5 M5 a5 b5 q5
    obtain ⟨q5, z5⟩ := q5
    subst z5
    refine And.intro (fun h8 => ?_) (fun h8 => ?_)
    · skip
      intro r15 e15 k15
      have R15 := pz_kd0 k15
      refine And.intro (True.intro) ?_
      intro r19 M19 k19 q19
      have R19 := pz_kd5 k19
      obtain ⟨q19, z19⟩ := q19
      subst z19
      refine And.intro ?_ ?_
      · skip
        refine And.intro (fun h24 => ?_) ?_
        · skip
          intro v97 e97 a97 b97
          refine And.intro rfl ?_
          exact ⟨trivial, hS⟩
        refine And.intro (fun h24 => ?_) ?_
        · skip
          intro v102 e102 a102 b102
          refine And.intro rfl ?_
          exact ⟨trivial, hS⟩
        refine And.intro (fun h24 => ?_) ?_
        · skip
          intro v107 e107 a107 b107
          refine And.intro rfl ?_
          exact ⟨trivial, hS⟩
        refine And.intro (fun h24 => ?_) ?_
        · skip
          intro v112 e112 a112 b112
          refine And.intro rfl ?_
          exact ⟨trivial, hS⟩
        refine And.intro (fun h24 => ?_) ?_
        · skip
          intro v117 e117 a117 b117
          refine And.intro rfl ?_
          exact ⟨trivial, hS⟩
        refine And.intro (fun h24 => ?_) ?_
        · skip
          intro v122 e122 a122 b122
          refine And.intro rfl ?_
          exact ⟨trivial, hS⟩
        refine And.intro (fun h24 => ?_) ?_
        · skip
          intro v127 e127 a127 b127
          refine And.intro rfl ?_
          exact ⟨trivial, hS⟩
        refine And.intro (fun h24 => ?_) ?_
        · skip
          intro v132 e132 a132 b132
          refine And.intro rfl ?_
          exact ⟨trivial, hS⟩
        refine And.intro (fun h24 => ?_) ?_
        · skip
          intro r137 e137 k137
          have R137 := pz_kd10 k137
          intro r140 e140 k140
          have R140 := pz_kd3 k140
          intro r145 e145 k145
          have R145 := pz_kd0 k145
          refine And.intro (hI) ?_
          intro v149 M149 a149 b149 q149
          obtain ⟨q149, z149⟩ := q149
          have hS : pz_st M M149 := hS.tr z149
          have hI : pz_ic M149 := hS.1.1 hI0
          refine And.intro rfl ?_
          exact ⟨trivial, hS⟩
        refine And.intro (fun h24 => ?_) ?_
        · skip
          intro r154 e154 k154
          have R154 := pz_kd10 k154
          intro r157 e157 k157
          have R157 := pz_kd3 k157
          intro r162 e162 k162
          have R162 := pz_kd0 k162
          refine And.intro (hI) ?_
          intro v166 M166 a166 b166 q166
          obtain ⟨q166, z166⟩ := q166
          have hS : pz_st M M166 := hS.tr z166
          have hI : pz_ic M166 := hS.1.1 hI0
          refine And.intro rfl ?_
          exact ⟨trivial, hS⟩
        refine And.intro (fun h24 => ?_) ?_
        · skip
          intro r171 e171 k171
          have R171 := pz_kd10 k171
          intro r174 e174 k174
          have R174 := pz_kd3 k174
          intro r179 e179 k179
          have R179 := pz_kd0 k179
          refine And.intro (hI) ?_
          intro v183 M183 a183 b183 q183
          obtain ⟨q183, z183⟩ := q183
          have hS : pz_st M M183 := hS.tr z183
          have hI : pz_ic M183 := hS.1.1 hI0
          refine And.intro rfl ?_
          exact ⟨trivial, hS⟩
        refine And.intro (fun h24 => ?_) ?_
        · skip
          intro r188 e188 k188
          have R188 := pz_kd10 k188
          intro r191 e191 k191
          have R191 := pz_kd3 k191
          intro r196 e196 k196
          have R196 := pz_kd0 k196
          refine And.intro (hI) ?_
          intro v200 M200 a200 b200 q200
          obtain ⟨q200, z200⟩ := q200
          have hS : pz_st M M200 := hS.tr z200
          have hI : pz_ic M200 := hS.1.1 hI0
          refine And.intro rfl ?_
          exact ⟨trivial, hS⟩
        refine And.intro (fun h24 => ?_) ?_
        · skip
          intro r205 e205 k205
          have R205 := pz_kd0 k205
          refine And.intro (hI) ?_
          intro v209 M209 a209 b209 q209
          obtain ⟨q209, z209⟩ := q209
          subst z209
          refine And.intro (fun h212 => ?_) (fun h212 => ?_)
          · skip
            refine And.intro rfl ?_
            exact ⟨trivial, hS⟩
          · skip
            refine And.intro rfl ?_
            exact ⟨trivial, hS⟩
        refine And.intro (fun h24 => ?_) ?_
        · skip
          intro r222 e222 k222
          have R222 := pz_kd0 k222
          refine And.intro (hI) ?_
          intro v226 M226 a226 b226 q226
          obtain ⟨q226, z226⟩ := q226
          subst z226
          refine And.intro rfl ?_
          exact ⟨trivial, hS⟩
        exact True.intro
      · intro h24
        refine And.intro rfl ?_
        exact ⟨trivial, hS⟩
    · skip
      refine And.intro rfl ?_
      exact ⟨trivial, hS⟩
theorem v_X11_of {fr lo i : Nat} {own : String} (h1 : 4 + 1 ≤ fr) (h2 : 8 + (4 + 11) + 97 ≤ lo) (h3 : .methodLink own i yX11_of ∈ lw_tbl) : pz_cV fr lo own i k_X11_of :=
  pz_cVk (maxL := 4) (fr' := 4) (lo' := 97) 2 11 h_X11_of rfl ⟨by decide +kernel, by decide +kernel, by decide +kernel⟩ ⟨(pz_mt 836 (by decide +kernel)), (pz_mt 834 (by decide +kernel)), (pz_mt 835 (by decide +kernel)), (pz_mt 1 (by decide +kernel))⟩ (Or.inl ⟨TX11, 14, rfl⟩) (fun a M _ h => by
    have h : (match (generalizing := false) a with | [.inr (.inr (11, th)), .inl i, .inl w] => pz_ic M | _ => False) := h
    split at h
    · exact ⟨_, _, rfl⟩
    · exact h.elim) h1 h2 h3
def k_X11_phone : pz_C := (3, 1, fun a M => (match a with | [.inr (.inr (11, th)), .inl i, .inl w] => pz_ic M | _ => False), fun a M r M' => (match a, r with | [.inr (.inr (11, th)), .inl i, .inl w], some (.inl v) => (pz_pn1 M i w v) ∧ M = M' | _, _ => False))
abbrev ct_X11_phone : List (Bool × Nat × pz_C) := [(true, 118, k_X0_has), (true, 225, k_X10_phoneFrom), (true, 228, k_X10_phoneTo), (true, 231, k_X10_recordsOf)]
set_option maxRecDepth 100000 in
set_option maxHeartbeats 4000000 in
theorem h_X11_phone : pz_H yX11_phone cX11_phone 3 (some .int) k_X11_phone 3 66 := by
  refine pz_mk (own := RX11) (tb := t_X11_phone) (fl := pz_flf fl_RX11) (ci := pz_cif ci_RX11) (ct := pz_ctf ct_X11_phone) (rz := false) (by decide +kernel) rfl t_X11_phone_ok (pz_flk fl_RX11_ok) (pz_cik ci_RX11_ok) ?_ ?_ (Or.inl ⟨rfl, rfl⟩) ?_ ?_
  · exact fun i k' h => pz_ctk (l := ct_X11_phone) (P := fun b i k => b = true → pz_cV 3 66 RX11 i k) (List.forall_mem_cons.mpr ⟨(fun _ => v_X0_has (by decide) (by decide) (pz_mt 444 (by decide +kernel))), List.forall_mem_cons.mpr ⟨(fun _ => v_X10_phoneFrom (by decide) (by decide) (pz_mt 845 (by decide +kernel))), List.forall_mem_cons.mpr ⟨(fun _ => v_X10_phoneTo (by decide) (by decide) (pz_mt 854 (by decide +kernel))), List.forall_mem_cons.mpr ⟨(fun _ => v_X10_recordsOf (by decide) (by decide) (pz_mt 858 (by decide +kernel))), fun _ h => absurd h List.not_mem_nil⟩⟩⟩⟩) true i k' h rfl
  · exact fun i k' h => pz_ctk (l := ct_X11_phone) (P := fun b i k => b = false → (pz_cS 3 66 RX11 i k ∨ (k = pz_kac ∧ 1 ≤ 3 ∧ 60 ≤ 66 ∧ Cond.methodLink RX11 i arraycopyName ∈ pz_tbl))) (List.forall_mem_cons.mpr ⟨((fun z => by cases z)), List.forall_mem_cons.mpr ⟨((fun z => by cases z)), List.forall_mem_cons.mpr ⟨((fun z => by cases z)), List.forall_mem_cons.mpr ⟨((fun z => by cases z)), fun _ h => absurd h List.not_mem_nil⟩⟩⟩⟩) false i k' h rfl
  · intro a M hlen hpre
    obtain ⟨th, i, w, rfl, hpre⟩ : ∃ th i w, a = [.inr (.inr (11, th)), .inl i, .inl w] ∧ (pz_ic M) := by
      have hpre : (match (generalizing := false) a with | [.inr (.inr (11, th)), .inl i, .inl w] => pz_ic M | _ => False) := hpre
      split at hpre
      · exact ⟨_, _, _, rfl, hpre⟩
      · exact hpre.elim
    exact Nat.le_of_ble_eq_true rfl
  · intro a M hlen hcan hM hpre Ok hgo
    obtain ⟨th, i, w, rfl, hpre⟩ : ∃ th i w, a = [.inr (.inr (11, th)), .inl i, .inl w] ∧ (pz_ic M) := by
      have hpre : (match (generalizing := false) a with | [.inr (.inr (11, th)), .inl i, .inl w] => pz_ic M | _ => False) := hpre
      split at hpre
      · exact ⟨_, _, _, rfl, hpre⟩
      · exact hpre.elim
    obtain ⟨k_th, hc_th⟩ := pz_tlm hcan
    have k_th : pz_kd th = 11 ∧ th < 231 := k_th
    have R_th := pz_kd11 k_th.1
    subst R_th
    obtain ⟨k_i, hc_i⟩ := pz_tlm hc_th
    have l_i : -2147483648 ≤ i := k_i.1
    have u_i : i ≤ 2147483647 := k_i.2
    obtain ⟨k_w, hc_w⟩ := pz_tlm hc_i
    have l_w : -2147483648 ≤ w := k_w.1
    have u_w : w ≤ 2147483647 := k_w.2
    have hI : pz_ic M := hpre
    refine hgo (fun _ => false) 28 0 _ [] M ?_
    refine pz_nrc (c := 71) rfl ?_
    refine And.intro (True.intro) ?_
    intro v5 M5 a5 b5 q5
    obtain ⟨q5, z5⟩ := q5
    subst z5
    refine And.intro (fun h8 => ?_) (fun h8 => ?_)
    · skip
      have q8 : 0 ≤ i ∧ i < M 71 3 := by
        split at q5
        · assumption
        · omega
      refine And.intro ?_ ?_
      · skip
        refine And.intro (fun h14 => ?_) ?_
        · skip
          refine pz_nrc (c := 8) rfl ?_
          refine And.intro (hI) ?_
          intro v45 M45 a45 b45 q45
          obtain ⟨q45, z45⟩ := q45
          subst z45
          refine And.intro rfl ?_
          exact ⟨⟨fun y => absurd ⟨by omega, by omega⟩ y, fun _ => ⟨fun _ => q45, fun y => absurd y (by omega), fun y => absurd y (by omega), fun y => absurd ⟨by omega, by omega⟩ y⟩⟩, rfl⟩
        refine And.intro (fun h14 => ?_) ?_
        · skip
          refine pz_nrc (c := 8) rfl ?_
          refine And.intro (hI) ?_
          intro v54 M54 a54 b54 q54
          obtain ⟨q54, z54⟩ := q54
          subst z54
          refine And.intro rfl ?_
          exact ⟨⟨fun y => absurd ⟨by omega, by omega⟩ y, fun _ => ⟨fun y => absurd y (by omega), fun _ => q54, fun y => absurd y (by omega), fun y => absurd ⟨by omega, by omega⟩ y⟩⟩, rfl⟩
        refine And.intro (fun h14 => ?_) ?_
        · skip
          refine pz_nrc (c := 8) rfl ?_
          refine And.intro (hI) ?_
          intro v63 M63 a63 b63 q63
          obtain ⟨q63, z63⟩ := q63
          subst z63
          refine And.intro rfl ?_
          exact ⟨⟨fun y => absurd ⟨by omega, by omega⟩ y, fun _ => ⟨fun y => absurd y (by omega), fun y => absurd y (by omega), fun _ => q63, fun y => absurd ⟨by omega, by omega⟩ y⟩⟩, rfl⟩
        exact True.intro
      · intro h14
        refine And.intro rfl ?_
        exact ⟨⟨fun y => absurd ⟨by omega, by omega⟩ y, fun _ => ⟨fun y => absurd y (by omega), fun y => absurd y (by omega), fun y => absurd y (by omega), fun _ => rfl⟩⟩, rfl⟩
    · skip
      have q8 : ¬ (0 ≤ i ∧ i < M 71 3) := by
        split at q5
        · omega
        · assumption
      refine And.intro rfl ?_
      exact ⟨⟨fun _ => rfl, fun y => absurd y (by omega)⟩, rfl⟩
theorem v_X11_phone {fr lo i : Nat} {own : String} (h1 : 3 + 1 ≤ fr) (h2 : 8 + (3 + 11) + 66 ≤ lo) (h3 : .methodLink own i yX11_phone ∈ lw_tbl) : pz_cV fr lo own i k_X11_phone :=
  pz_cVk (maxL := 3) (fr' := 3) (lo' := 66) 2 11 h_X11_phone rfl ⟨by decide +kernel, by decide +kernel, by decide +kernel⟩ ⟨(pz_mt 844 (by decide +kernel)), (pz_mt 842 (by decide +kernel)), (pz_mt 843 (by decide +kernel)), (pz_mt 1 (by decide +kernel))⟩ (Or.inl ⟨TX11, 14, rfl⟩) (fun a M _ h => by
    have h : (match (generalizing := false) a with | [.inr (.inr (11, th)), .inl i, .inl w] => pz_ic M | _ => False) := h
    split at h
    · exact ⟨_, _, rfl⟩
    · exact h.elim) h1 h2 h3
def k_X11_book : pz_C := (3, 1, fun a M => (match a with | [.inr (.inr (11, th)), .inl i, .inl w] => pz_ic M | _ => False), fun a M r M' => (match a, r with | [.inr (.inr (11, th)), .inl i, .inl w], some (.inl v) => (True) ∧ M = M' | _, _ => False))
abbrev ct_X11_book : List (Bool × Nat × pz_C) := [(false, 137, k_X11_within)]
set_option maxRecDepth 100000 in
set_option maxHeartbeats 4000000 in
theorem h_X11_book : pz_H yX11_book cX11_book 4 (some .int) k_X11_book 1 22 := by
  refine pz_mk (own := RX11) (tb := t_X11_book) (fl := pz_flf fl_RX11) (ci := pz_cif ci_RX11) (ct := pz_ctf ct_X11_book) (rz := false) (by decide +kernel) rfl t_X11_book_ok (pz_flk fl_RX11_ok) (pz_cik ci_RX11_ok) ?_ ?_ (Or.inl ⟨rfl, rfl⟩) ?_ ?_
  · exact fun i k' h => pz_ctk (l := ct_X11_book) (P := fun b i k => b = true → pz_cV 1 22 RX11 i k) (List.forall_mem_cons.mpr ⟨((fun z => by cases z)), fun _ h => absurd h List.not_mem_nil⟩) true i k' h rfl
  · exact fun i k' h => pz_ctk (l := ct_X11_book) (P := fun b i k => b = false → (pz_cS 1 22 RX11 i k ∨ (k = pz_kac ∧ 1 ≤ 1 ∧ 60 ≤ 22 ∧ Cond.methodLink RX11 i arraycopyName ∈ pz_tbl))) (List.forall_mem_cons.mpr ⟨(fun _ => Or.inl (s_X11_within (by decide) (by decide) (Or.inl (pz_mt 425 (by decide +kernel))))), fun _ h => absurd h List.not_mem_nil⟩) false i k' h rfl
  · intro a M hlen hpre
    obtain ⟨th, i, w, rfl, hpre⟩ : ∃ th i w, a = [.inr (.inr (11, th)), .inl i, .inl w] ∧ (pz_ic M) := by
      have hpre : (match (generalizing := false) a with | [.inr (.inr (11, th)), .inl i, .inl w] => pz_ic M | _ => False) := hpre
      split at hpre
      · exact ⟨_, _, _, rfl, hpre⟩
      · exact hpre.elim
    exact Nat.le_of_ble_eq_true rfl
  · intro a M hlen hcan hM hpre Ok hgo
    obtain ⟨th, i, w, rfl, hpre⟩ : ∃ th i w, a = [.inr (.inr (11, th)), .inl i, .inl w] ∧ (pz_ic M) := by
      have hpre : (match (generalizing := false) a with | [.inr (.inr (11, th)), .inl i, .inl w] => pz_ic M | _ => False) := hpre
      split at hpre
      · exact ⟨_, _, _, rfl, hpre⟩
      · exact hpre.elim
    obtain ⟨k_th, hc_th⟩ := pz_tlm hcan
    have k_th : pz_kd th = 11 ∧ th < 231 := k_th
    have R_th := pz_kd11 k_th.1
    subst R_th
    obtain ⟨k_i, hc_i⟩ := pz_tlm hc_th
    have l_i : -2147483648 ≤ i := k_i.1
    have u_i : i ≤ 2147483647 := k_i.2
    obtain ⟨k_w, hc_w⟩ := pz_tlm hc_i
    have l_w : -2147483648 ≤ w := k_w.1
    have u_w : w ≤ 2147483647 := k_w.2
    have hI : pz_ic M := hpre
    refine hgo (fun _ => false) 36 0 _ [] M ?_
    intro r3 e3 k3
    have R3 := pz_kd0 k3
    intro v6 e6 a6 b6
    have I6 := hI.1 r3 (by omega) (by omega)
    intro v10 e10 a10 b10
    try rw [pz_wi (by omega) (by omega)] at e10
    refine And.intro (True.intro) ?_
    intro v11 M11 a11 b11 q11
    obtain ⟨q11, z11⟩ := q11
    subst z11
    refine And.intro (fun h14 => ?_) (fun h14 => ?_)
    · skip
      refine And.intro rfl ?_
      exact ⟨trivial, rfl⟩
    · skip
      refine And.intro (True.intro) ?_
      intro v20 M20 a20 b20 q20
      obtain ⟨q20, z20⟩ := q20
      subst z20
      refine And.intro (fun h23 => ?_) (fun h23 => ?_)
      · skip
        intro v30 e30 a30 b30
        try rw [pz_wi (by omega) (by omega)] at e30
        intro v32 e32 a32 b32
        try rw [pz_wi (by omega) (by omega)] at e32
        intro r36 e36 k36
        have R36 := pz_kdA k36 (by decide) (by decide)
        have Z39 : (((pz_ak 13).2 : Nat) : Int) = 600 := rfl
        refine And.intro (fun h40 => ?_) (fun h40 => ?_)
        · skip
          refine And.intro rfl ?_
          exact ⟨trivial, rfl⟩
        · skip
          intro r44 e44 k44
          have R44 := pz_kdA k44 (by decide) (by decide)
          refine And.intro (by omega) (And.intro (show _ < (600 : Int) from by omega) ?_)
          intro v48 e48 a48 b48
          refine And.intro rfl ?_
          exact ⟨trivial, rfl⟩
      · skip
        refine And.intro rfl ?_
        exact ⟨trivial, rfl⟩
theorem v_X11_book {fr lo i : Nat} {own : String} (h1 : 1 + 1 ≤ fr) (h2 : 8 + (4 + 11) + 22 ≤ lo) (h3 : .methodLink own i yX11_book ∈ lw_tbl) : pz_cV fr lo own i k_X11_book :=
  pz_cVk (maxL := 4) (fr' := 1) (lo' := 22) 2 11 h_X11_book rfl ⟨by decide +kernel, by decide +kernel, by decide +kernel⟩ ⟨(pz_mt 865 (by decide +kernel)), (pz_mt 863 (by decide +kernel)), (pz_mt 864 (by decide +kernel)), (pz_mt 1 (by decide +kernel))⟩ (Or.inl ⟨TX11, 14, rfl⟩) (fun a M _ h => by
    have h : (match (generalizing := false) a with | [.inr (.inr (11, th)), .inl i, .inl w] => pz_ic M | _ => False) := h
    split at h
    · exact ⟨_, _, rfl⟩
    · exact h.elim) h1 h2 h3
def k_X11_goes : pz_C := (3, 1, fun a M => (match a with | [.inr (.inr (11, th)), .inl n, .inl w] => pz_ic M | _ => False), fun a M r M' => (match a, r with | [.inr (.inr (11, th)), .inl n, .inl w], some (.inl v) => (True) ∧ pz_st M M' | _, _ => False))
abbrev ct_X11_goes : List (Bool × Nat × pz_C) := [(false, 137, k_X11_within), (true, 237, k_X0_take), (true, 184, k_X1_oneDay), (true, 240, k_X0_movedOnes), (false, 244, k_J6_bitCount_0f7a4), (true, 249, k_X0_latestMove)]
set_option maxRecDepth 100000 in
set_option maxHeartbeats 4000000 in
theorem h_X11_goes : pz_H yX11_goes cX11_goes 4 (some .int) k_X11_goes 7 169 := by
  refine pz_mk (own := RX11) (tb := t_X11_goes) (fl := pz_flf fl_RX11) (ci := pz_cif ci_RX11) (ct := pz_ctf ct_X11_goes) (rz := false) (by decide +kernel) rfl t_X11_goes_ok (pz_flk fl_RX11_ok) (pz_cik ci_RX11_ok) ?_ ?_ (Or.inl ⟨rfl, rfl⟩) ?_ ?_
  · exact fun i k' h => pz_ctk (l := ct_X11_goes) (P := fun b i k => b = true → pz_cV 7 169 RX11 i k) (List.forall_mem_cons.mpr ⟨((fun z => by cases z)), List.forall_mem_cons.mpr ⟨(fun _ => v_X0_take (by decide) (by decide) (pz_mt 870 (by decide +kernel))), List.forall_mem_cons.mpr ⟨(fun _ => v_X1_oneDay (by decide) (by decide) (pz_mt 571 (by decide +kernel))), List.forall_mem_cons.mpr ⟨(fun _ => v_X0_movedOnes (by decide) (by decide) (pz_mt 871 (by decide +kernel))), List.forall_mem_cons.mpr ⟨((fun z => by cases z)), List.forall_mem_cons.mpr ⟨(fun _ => v_X0_latestMove (by decide) (by decide) (pz_mt 876 (by decide +kernel))), fun _ h => absurd h List.not_mem_nil⟩⟩⟩⟩⟩⟩) true i k' h rfl
  · exact fun i k' h => pz_ctk (l := ct_X11_goes) (P := fun b i k => b = false → (pz_cS 7 169 RX11 i k ∨ (k = pz_kac ∧ 1 ≤ 7 ∧ 60 ≤ 169 ∧ Cond.methodLink RX11 i arraycopyName ∈ pz_tbl))) (List.forall_mem_cons.mpr ⟨(fun _ => Or.inl (s_X11_within (by decide) (by decide) (Or.inl (pz_mt 425 (by decide +kernel))))), List.forall_mem_cons.mpr ⟨((fun z => by cases z)), List.forall_mem_cons.mpr ⟨((fun z => by cases z)), List.forall_mem_cons.mpr ⟨((fun z => by cases z)), List.forall_mem_cons.mpr ⟨(fun _ => Or.inl (s_J6_bitCount_0f7a4 (by decide) (by decide) (Or.inl (pz_mt 875 (by decide +kernel))))), List.forall_mem_cons.mpr ⟨((fun z => by cases z)), fun _ h => absurd h List.not_mem_nil⟩⟩⟩⟩⟩⟩) false i k' h rfl
  · intro a M hlen hpre
    obtain ⟨th, n, w, rfl, hpre⟩ : ∃ th n w, a = [.inr (.inr (11, th)), .inl n, .inl w] ∧ (pz_ic M) := by
      have hpre : (match (generalizing := false) a with | [.inr (.inr (11, th)), .inl n, .inl w] => pz_ic M | _ => False) := hpre
      split at hpre
      · exact ⟨_, _, _, rfl, hpre⟩
      · exact hpre.elim
    exact Nat.le_of_ble_eq_true rfl
  · intro a M hlen hcan hM hpre Ok hgo
    obtain ⟨th, n, w, rfl, hpre⟩ : ∃ th n w, a = [.inr (.inr (11, th)), .inl n, .inl w] ∧ (pz_ic M) := by
      have hpre : (match (generalizing := false) a with | [.inr (.inr (11, th)), .inl n, .inl w] => pz_ic M | _ => False) := hpre
      split at hpre
      · exact ⟨_, _, _, rfl, hpre⟩
      · exact hpre.elim
    obtain ⟨k_th, hc_th⟩ := pz_tlm hcan
    have k_th : pz_kd th = 11 ∧ th < 231 := k_th
    have R_th := pz_kd11 k_th.1
    subst R_th
    obtain ⟨k_n, hc_n⟩ := pz_tlm hc_th
    have l_n : -2147483648 ≤ n := k_n.1
    have u_n : n ≤ 2147483647 := k_n.2
    obtain ⟨k_w, hc_w⟩ := pz_tlm hc_n
    have l_w : -2147483648 ≤ w := k_w.1
    have u_w : w ≤ 2147483647 := k_w.2
    have hI : pz_ic M := hpre
    have hI0 := hI
    have hS : pz_st M M := pz_st.rf
    have L35 : ∀ (fu : Nat) (x3 : Int) (N35 : pz_M), (99 - x3).toNat < fu → (pz_st M N35) → (0 ≤ x3) → (n ≤ 99) → Ok 35 [some (.inr (.inr (11, 0))), some (.inl n), some (.inl w), some (.inl x3)] [] N35 := by
      intro fu
      induction fu with
      | zero => exact fun _ _ hn => absurd hn (Nat.not_lt_zero _)
      | succ fu ih35 =>
        intro x3 N35 hn35 hS g35_1 g35_2
        have hI : pz_ic N35 := hS.1.1 hI0
        refine hgo (fun p => Nat.beq p 35) 47 35 _ _ _ ?_
        refine And.intro (fun h37 => ?_) (fun h37 => ?_)
        · skip
          refine And.intro ?_ ?_
          · skip
            refine And.intro (fun h59 => ?_) ?_
            · skip
              refine pz_nrc (c := 72) rfl ?_
              refine And.intro (hI) ?_
              intro v88 M88 a88 b88 q88
              obtain ⟨q88, z88⟩ := q88
              subst z88
              refine And.intro (True.intro) ?_
              intro v91 M91 a91 b91 q91
              obtain ⟨q91, z91⟩ := q91
              subst z91
              refine And.intro rfl ?_
              exact ⟨trivial, hS⟩
            refine And.intro (fun h59 => ?_) ?_
            · skip
              refine pz_nrc (c := 72) rfl ?_
              refine And.intro (hI) ?_
              intro v99 M99 a99 b99 q99
              obtain ⟨q99, z99⟩ := q99
              subst z99
              refine And.intro rfl ?_
              exact ⟨trivial, hS⟩
            exact True.intro
          · intro h59_0 h59_1
            refine pz_nrc (c := 72) rfl ?_
            intro v107 e107 a107 b107
            refine And.intro rfl ?_
            exact ⟨trivial, hS⟩
        · skip
          refine pz_nrc (c := 2) rfl ?_
          refine pz_nrc (c := 72) rfl ?_
          refine And.intro (hI) ?_
          intro v48 M48 a48 b48 q48
          obtain ⟨q48, z48⟩ := q48
          have hS : pz_st M M48 := hS.tr z48
          have hI : pz_ic M48 := hS.1.1 hI0
          intro v52 e52 a52 b52
          try rw [pz_wi (by omega) (by omega)] at e52
          exact ih35 _ _ (by omega) hS (by omega) (by omega)
    refine hgo (fun p => Nat.beq p 35) 47 0 _ [] M ?_
    refine And.intro (True.intro) ?_
    intro v4 M4 a4 b4 q4
    obtain ⟨q4, z4⟩ := q4
    subst z4
    refine And.intro (fun h7 => ?_) (fun h7 => ?_)
    · skip
      refine And.intro rfl ?_
      exact ⟨trivial, hS⟩
    · skip
      refine And.intro (True.intro) ?_
      intro v13 M13 a13 b13 q13
      obtain ⟨q13, z13⟩ := q13
      subst z13
      refine And.intro (fun h16 => ?_) (fun h16 => ?_)
      · skip
        refine pz_nrc (c := 72) rfl ?_
        refine pz_nrc (c := 71) rfl ?_
        refine And.intro (hI) ?_
        intro M30 q30
        obtain ⟨q30, z30⟩ := q30
        have hS : pz_st M M30 := hS.tr (pz_tf72_st q30 z30)
        have hI : pz_ic M30 := hS.1.1 hI0
        exact L35 _ _ _ (Nat.lt_succ_self _) hS (by omega) (by omega)
      · skip
        refine And.intro rfl ?_
        exact ⟨trivial, hS⟩
theorem v_X11_goes {fr lo i : Nat} {own : String} (h1 : 7 + 1 ≤ fr) (h2 : 8 + (4 + 11) + 169 ≤ lo) (h3 : .methodLink own i yX11_goes ∈ lw_tbl) : pz_cV fr lo own i k_X11_goes :=
  pz_cVk (maxL := 4) (fr' := 7) (lo' := 169) 2 11 h_X11_goes rfl ⟨by decide +kernel, by decide +kernel, by decide +kernel⟩ ⟨(pz_mt 869 (by decide +kernel)), (pz_mt 867 (by decide +kernel)), (pz_mt 868 (by decide +kernel)), (pz_mt 1 (by decide +kernel))⟩ (Or.inl ⟨TX11, 14, rfl⟩) (fun a M _ h => by
    have h : (match (generalizing := false) a with | [.inr (.inr (11, th)), .inl n, .inl w] => pz_ic M | _ => False) := h
    split at h
    · exact ⟨_, _, rfl⟩
    · exact h.elim) h1 h2 h3
def k_X11_odds : pz_C := (2, 1, fun a M => (match a with | [.inr (.inr (11, th)), .inl d] => pz_ic M | _ => False), fun a M r M' => (match a, r with | [.inr (.inr (11, th)), .inl d], some (.inl v) => (True) ∧ pz_st M M' | _, _ => False))
abbrev ct_X11_odds : List (Bool × Nat × pz_C) := [(false, 137, k_X11_within), (true, 255, k_X4_reckon), (true, 258, k_X4_oddsOf)]
set_option maxRecDepth 100000 in
set_option maxHeartbeats 4000000 in
theorem h_X11_odds : pz_H yX11_odds cX11_odds 2 (some .int) k_X11_odds 5 120 := by
  refine pz_mk (own := RX11) (tb := t_X11_odds) (fl := pz_flf fl_RX11) (ci := pz_cif ci_RX11) (ct := pz_ctf ct_X11_odds) (rz := false) (by decide +kernel) rfl t_X11_odds_ok (pz_flk fl_RX11_ok) (pz_cik ci_RX11_ok) ?_ ?_ (Or.inl ⟨rfl, rfl⟩) ?_ ?_
  · exact fun i k' h => pz_ctk (l := ct_X11_odds) (P := fun b i k => b = true → pz_cV 5 120 RX11 i k) (List.forall_mem_cons.mpr ⟨((fun z => by cases z)), List.forall_mem_cons.mpr ⟨(fun _ => v_X4_reckon (by decide) (by decide) (pz_mt 884 (by decide +kernel))), List.forall_mem_cons.mpr ⟨(fun _ => v_X4_oddsOf (by decide) (by decide) (pz_mt 896 (by decide +kernel))), fun _ h => absurd h List.not_mem_nil⟩⟩⟩) true i k' h rfl
  · exact fun i k' h => pz_ctk (l := ct_X11_odds) (P := fun b i k => b = false → (pz_cS 5 120 RX11 i k ∨ (k = pz_kac ∧ 1 ≤ 5 ∧ 60 ≤ 120 ∧ Cond.methodLink RX11 i arraycopyName ∈ pz_tbl))) (List.forall_mem_cons.mpr ⟨(fun _ => Or.inl (s_X11_within (by decide) (by decide) (Or.inl (pz_mt 425 (by decide +kernel))))), List.forall_mem_cons.mpr ⟨((fun z => by cases z)), List.forall_mem_cons.mpr ⟨((fun z => by cases z)), fun _ h => absurd h List.not_mem_nil⟩⟩⟩) false i k' h rfl
  · intro a M hlen hpre
    obtain ⟨th, d, rfl, hpre⟩ : ∃ th d, a = [.inr (.inr (11, th)), .inl d] ∧ (pz_ic M) := by
      have hpre : (match (generalizing := false) a with | [.inr (.inr (11, th)), .inl d] => pz_ic M | _ => False) := hpre
      split at hpre
      · exact ⟨_, _, rfl, hpre⟩
      · exact hpre.elim
    exact Nat.le_of_ble_eq_true rfl
  · intro a M hlen hcan hM hpre Ok hgo
    obtain ⟨th, d, rfl, hpre⟩ : ∃ th d, a = [.inr (.inr (11, th)), .inl d] ∧ (pz_ic M) := by
      have hpre : (match (generalizing := false) a with | [.inr (.inr (11, th)), .inl d] => pz_ic M | _ => False) := hpre
      split at hpre
      · exact ⟨_, _, rfl, hpre⟩
      · exact hpre.elim
    obtain ⟨k_th, hc_th⟩ := pz_tlm hcan
    have k_th : pz_kd th = 11 ∧ th < 231 := k_th
    have R_th := pz_kd11 k_th.1
    subst R_th
    obtain ⟨k_d, hc_d⟩ := pz_tlm hc_th
    have l_d : -2147483648 ≤ d := k_d.1
    have u_d : d ≤ 2147483647 := k_d.2
    have hI : pz_ic M := hpre
    have hI0 := hI
    have hS : pz_st M M := pz_st.rf
    refine hgo (fun _ => false) 27 0 _ [] M ?_
    refine And.intro (True.intro) ?_
    intro v4 M4 a4 b4 q4
    obtain ⟨q4, z4⟩ := q4
    subst z4
    refine And.intro (fun h7 => ?_) (fun h7 => ?_)
    · skip
      intro r13 e13 k13
      have R13 := pz_kd4 k13
      intro r17 e17 k17
      have R17 := pz_kd0 k17
      refine And.intro (hI) ?_
      intro M21 q21
      obtain ⟨q21, z21⟩ := q21
      have hS : pz_st M M21 := hS.tr z21
      have hI : pz_ic M21 := hS.1.1 hI0
      intro r25 e25 k25
      have R25 := pz_kd4 k25
      intro r29 e29 k29
      have R29 := pz_kd0 k29
      intro r34 e34 k34
      have R34 := pz_kd0 k34
      intro v37 e37 a37 b37
      have I37 := hI.1 r34 (by omega) (by omega)
      intro v41 e41 a41 b41
      try rw [pz_wi (by omega) (by omega)] at e41
      refine And.intro (And.intro hI (by omega)) ?_
      intro v42 M42 a42 b42 q42
      obtain ⟨q42, z42⟩ := q42
      subst z42
      refine And.intro rfl ?_
      exact ⟨trivial, hS⟩
    · skip
      refine And.intro rfl ?_
      exact ⟨trivial, hS⟩
theorem v_X11_odds {fr lo i : Nat} {own : String} (h1 : 5 + 1 ≤ fr) (h2 : 8 + (2 + 11) + 120 ≤ lo) (h3 : .methodLink own i yX11_odds ∈ lw_tbl) : pz_cV fr lo own i k_X11_odds :=
  pz_cVk (maxL := 2) (fr' := 5) (lo' := 120) 1 11 h_X11_odds rfl ⟨by decide +kernel, by decide +kernel, by decide +kernel⟩ ⟨(pz_mt 883 (by decide +kernel)), (pz_mt 881 (by decide +kernel)), (pz_mt 882 (by decide +kernel)), (pz_mt 1 (by decide +kernel))⟩ (Or.inl ⟨TX11, 14, rfl⟩) (fun a M _ h => by
    have h : (match (generalizing := false) a with | [.inr (.inr (11, th)), .inl d] => pz_ic M | _ => False) := h
    split at h
    · exact ⟨_, _, rfl⟩
    · exact h.elim) h1 h2 h3
def k_X11_holds : pz_C := (3, 1, fun a M => (match a with | [.inr (.inr (11, th)), .inl d, .inl w] => pz_ic M | _ => False), fun a M r M' => (match a, r with | [.inr (.inr (11, th)), .inl d, .inl w], some (.inl v) => (True) ∧ pz_st M M' | _, _ => False))
abbrev ct_X11_holds : List (Bool × Nat × pz_C) := [(false, 137, k_X11_within), (true, 255, k_X4_reckon), (true, 261, k_X4_holder), (true, 264, k_X4_chanceOf)]
set_option maxRecDepth 100000 in
set_option maxHeartbeats 4000000 in
theorem h_X11_holds : pz_H yX11_holds cX11_holds 4 (some .int) k_X11_holds 5 120 := by
  refine pz_mk (own := RX11) (tb := t_X11_holds) (fl := pz_flf fl_RX11) (ci := pz_cif ci_RX11) (ct := pz_ctf ct_X11_holds) (rz := false) (by decide +kernel) rfl t_X11_holds_ok (pz_flk fl_RX11_ok) (pz_cik ci_RX11_ok) ?_ ?_ (Or.inl ⟨rfl, rfl⟩) ?_ ?_
  · exact fun i k' h => pz_ctk (l := ct_X11_holds) (P := fun b i k => b = true → pz_cV 5 120 RX11 i k) (List.forall_mem_cons.mpr ⟨((fun z => by cases z)), List.forall_mem_cons.mpr ⟨(fun _ => v_X4_reckon (by decide) (by decide) (pz_mt 884 (by decide +kernel))), List.forall_mem_cons.mpr ⟨(fun _ => v_X4_holder (by decide) (by decide) (pz_mt 917 (by decide +kernel))), List.forall_mem_cons.mpr ⟨(fun _ => v_X4_chanceOf (by decide) (by decide) (pz_mt 921 (by decide +kernel))), fun _ h => absurd h List.not_mem_nil⟩⟩⟩⟩) true i k' h rfl
  · exact fun i k' h => pz_ctk (l := ct_X11_holds) (P := fun b i k => b = false → (pz_cS 5 120 RX11 i k ∨ (k = pz_kac ∧ 1 ≤ 5 ∧ 60 ≤ 120 ∧ Cond.methodLink RX11 i arraycopyName ∈ pz_tbl))) (List.forall_mem_cons.mpr ⟨(fun _ => Or.inl (s_X11_within (by decide) (by decide) (Or.inl (pz_mt 425 (by decide +kernel))))), List.forall_mem_cons.mpr ⟨((fun z => by cases z)), List.forall_mem_cons.mpr ⟨((fun z => by cases z)), List.forall_mem_cons.mpr ⟨((fun z => by cases z)), fun _ h => absurd h List.not_mem_nil⟩⟩⟩⟩) false i k' h rfl
  · intro a M hlen hpre
    obtain ⟨th, d, w, rfl, hpre⟩ : ∃ th d w, a = [.inr (.inr (11, th)), .inl d, .inl w] ∧ (pz_ic M) := by
      have hpre : (match (generalizing := false) a with | [.inr (.inr (11, th)), .inl d, .inl w] => pz_ic M | _ => False) := hpre
      split at hpre
      · exact ⟨_, _, _, rfl, hpre⟩
      · exact hpre.elim
    exact Nat.le_of_ble_eq_true rfl
  · intro a M hlen hcan hM hpre Ok hgo
    obtain ⟨th, d, w, rfl, hpre⟩ : ∃ th d w, a = [.inr (.inr (11, th)), .inl d, .inl w] ∧ (pz_ic M) := by
      have hpre : (match (generalizing := false) a with | [.inr (.inr (11, th)), .inl d, .inl w] => pz_ic M | _ => False) := hpre
      split at hpre
      · exact ⟨_, _, _, rfl, hpre⟩
      · exact hpre.elim
    obtain ⟨k_th, hc_th⟩ := pz_tlm hcan
    have k_th : pz_kd th = 11 ∧ th < 231 := k_th
    have R_th := pz_kd11 k_th.1
    subst R_th
    obtain ⟨k_d, hc_d⟩ := pz_tlm hc_th
    have l_d : -2147483648 ≤ d := k_d.1
    have u_d : d ≤ 2147483647 := k_d.2
    obtain ⟨k_w, hc_w⟩ := pz_tlm hc_d
    have l_w : -2147483648 ≤ w := k_w.1
    have u_w : w ≤ 2147483647 := k_w.2
    have hI : pz_ic M := hpre
    have hI0 := hI
    have hS : pz_st M M := pz_st.rf
    refine hgo (fun _ => false) 38 0 _ [] M ?_
    refine And.intro (True.intro) ?_
    intro v4 M4 a4 b4 q4
    obtain ⟨q4, z4⟩ := q4
    subst z4
    refine And.intro (fun h7 => ?_) (fun h7 => ?_)
    · skip
      refine And.intro rfl ?_
      exact ⟨trivial, hS⟩
    · skip
      refine And.intro (True.intro) ?_
      intro v13 M13 a13 b13 q13
      obtain ⟨q13, z13⟩ := q13
      subst z13
      refine And.intro (fun h16 => ?_) (fun h16 => ?_)
      · skip
        intro r22 e22 k22
        have R22 := pz_kd4 k22
        intro r26 e26 k26
        have R26 := pz_kd0 k26
        refine And.intro (hI) ?_
        intro M30 q30
        obtain ⟨q30, z30⟩ := q30
        have hS : pz_st M M30 := hS.tr z30
        have hI : pz_ic M30 := hS.1.1 hI0
        intro r34 e34 k34
        have R34 := pz_kd4 k34
        intro r38 e38 k38
        have R38 := pz_kd0 k38
        refine And.intro (hI) ?_
        intro v41 M41 a41 b41 q41
        obtain ⟨q41, z41⟩ := q41
        subst z41
        refine And.intro (fun h47 => ?_) (fun h47 => ?_)
        · skip
          refine And.intro rfl ?_
          exact ⟨trivial, hS⟩
        · skip
          refine And.intro (fun h51 => ?_) (fun h51 => ?_)
          · skip
            intro r59 e59 k59
            have R59 := pz_kd4 k59
            refine And.intro (True.intro) ?_
            intro v63 M63 a63 b63 q63
            obtain ⟨q63, z63⟩ := q63
            subst z63
            refine And.intro rfl ?_
            exact ⟨trivial, hS⟩
          · skip
            refine And.intro rfl ?_
            exact ⟨trivial, hS⟩
      · skip
        refine And.intro rfl ?_
        exact ⟨trivial, hS⟩
theorem v_X11_holds {fr lo i : Nat} {own : String} (h1 : 5 + 1 ≤ fr) (h2 : 8 + (4 + 11) + 120 ≤ lo) (h3 : .methodLink own i yX11_holds ∈ lw_tbl) : pz_cV fr lo own i k_X11_holds :=
  pz_cVk (maxL := 4) (fr' := 5) (lo' := 120) 2 11 h_X11_holds rfl ⟨by decide +kernel, by decide +kernel, by decide +kernel⟩ ⟨(pz_mt 916 (by decide +kernel)), (pz_mt 914 (by decide +kernel)), (pz_mt 915 (by decide +kernel)), (pz_mt 1 (by decide +kernel))⟩ (Or.inl ⟨TX11, 14, rfl⟩) (fun a M _ h => by
    have h : (match (generalizing := false) a with | [.inr (.inr (11, th)), .inl d, .inl w] => pz_ic M | _ => False) := h
    split at h
    · exact ⟨_, _, rfl⟩
    · exact h.elim) h1 h2 h3
def k_X11_many : pz_C := (3, 1, fun a M => (match a with | [.inr (.inr (11, th)), .inl p, .inl d] => pz_ic M | _ => False), fun a M r M' => (match a, r with | [.inr (.inr (11, th)), .inl p, .inl d], some (.inl v) => (v = (if 0 ≤ p ∧ p ≤ 1000 ∧ 1 ≤ d ∧ d ≤ 60 then pz_mc (1000000 - pz_lf p d.toNat) 60 1000000 0 else -1)) ∧ M = M' | _, _ => False))
abbrev ct_X11_many : List (Bool × Nat × pz_C) := [(false, 137, k_X11_within), (false, 267, k_X4_chance), (false, 272, k_X4_times)]
set_option maxRecDepth 100000 in
set_option maxHeartbeats 4000000 in
theorem h_X11_many : pz_H yX11_many cX11_many 6 (some .int) k_X11_many 3 65 := by
  refine pz_mk (own := RX11) (tb := t_X11_many) (fl := pz_flf fl_RX11) (ci := pz_cif ci_RX11) (ct := pz_ctf ct_X11_many) (rz := false) (by decide +kernel) rfl t_X11_many_ok (pz_flk fl_RX11_ok) (pz_cik ci_RX11_ok) ?_ ?_ (Or.inl ⟨rfl, rfl⟩) ?_ ?_
  · exact fun i k' h => pz_ctk (l := ct_X11_many) (P := fun b i k => b = true → pz_cV 3 65 RX11 i k) (List.forall_mem_cons.mpr ⟨((fun z => by cases z)), List.forall_mem_cons.mpr ⟨((fun z => by cases z)), List.forall_mem_cons.mpr ⟨((fun z => by cases z)), fun _ h => absurd h List.not_mem_nil⟩⟩⟩) true i k' h rfl
  · exact fun i k' h => pz_ctk (l := ct_X11_many) (P := fun b i k => b = false → (pz_cS 3 65 RX11 i k ∨ (k = pz_kac ∧ 1 ≤ 3 ∧ 60 ≤ 65 ∧ Cond.methodLink RX11 i arraycopyName ∈ pz_tbl))) (List.forall_mem_cons.mpr ⟨(fun _ => Or.inl (s_X11_within (by decide) (by decide) (Or.inl (pz_mt 425 (by decide +kernel))))), List.forall_mem_cons.mpr ⟨(fun _ => Or.inl (s_X4_chance (by decide) (by decide) (Or.inl (pz_mt 926 (by decide +kernel))))), List.forall_mem_cons.mpr ⟨(fun _ => Or.inl (s_X4_times (by decide) (by decide) (Or.inl (pz_mt 930 (by decide +kernel))))), fun _ h => absurd h List.not_mem_nil⟩⟩⟩) false i k' h rfl
  · intro a M hlen hpre
    obtain ⟨th, p, d, rfl, hpre⟩ : ∃ th p d, a = [.inr (.inr (11, th)), .inl p, .inl d] ∧ (pz_ic M) := by
      have hpre : (match (generalizing := false) a with | [.inr (.inr (11, th)), .inl p, .inl d] => pz_ic M | _ => False) := hpre
      split at hpre
      · exact ⟨_, _, _, rfl, hpre⟩
      · exact hpre.elim
    exact Nat.le_of_ble_eq_true rfl
  · intro a M hlen hcan hM hpre Ok hgo
    obtain ⟨th, p, d, rfl, hpre⟩ : ∃ th p d, a = [.inr (.inr (11, th)), .inl p, .inl d] ∧ (pz_ic M) := by
      have hpre : (match (generalizing := false) a with | [.inr (.inr (11, th)), .inl p, .inl d] => pz_ic M | _ => False) := hpre
      split at hpre
      · exact ⟨_, _, _, rfl, hpre⟩
      · exact hpre.elim
    obtain ⟨k_th, hc_th⟩ := pz_tlm hcan
    have k_th : pz_kd th = 11 ∧ th < 231 := k_th
    have R_th := pz_kd11 k_th.1
    subst R_th
    obtain ⟨k_p, hc_p⟩ := pz_tlm hc_th
    have l_p : -2147483648 ≤ p := k_p.1
    have u_p : p ≤ 2147483647 := k_p.2
    obtain ⟨k_d, hc_d⟩ := pz_tlm hc_p
    have l_d : -2147483648 ≤ d := k_d.1
    have u_d : d ≤ 2147483647 := k_d.2
    have hI : pz_ic M := hpre
    have L37 : ∀ (fu : Nat) (x3 : Int) (x4 : Int) (x5 : Int), (60 - x5).toNat < fu → (0 ≤ x5) → (x5 ≤ 60) → (0 ≤ p ∧ p ≤ 1000 ∧ 1 ≤ d ∧ d ≤ 60) → (x3 = 1000000 - pz_lf p d.toNat) → (0 ≤ x4 ∧ x4 ≤ 1000000) → (pz_mc x3 (60 - x5).toNat x4 x5 = pz_mc x3 60 1000000 0) → Ok 37 [some (.inr (.inr (11, 0))), some (.inl p), some (.inl d), some (.inl x3), some (.inl x4), some (.inl x5)] [] M := by
      intro fu
      induction fu with
      | zero => exact fun _ _ _ hn => absurd hn (Nat.not_lt_zero _)
      | succ fu ih37 =>
        intro x3 x4 x5 hn37 g37_0 g37_1 g37_2 g37_3 g37_4 g37_5
        have B37 := pz_lf_b g37_2.1 g37_2.2.1 d.toNat
        refine hgo (fun p => Nat.beq p 37) 38 37 _ _ _ ?_
        refine And.intro (fun h41 => ?_) (fun h41 => ?_)
        · skip
          refine And.intro rfl ?_
          refine ⟨?_, rfl⟩
          rw [if_pos g37_2, ← g37_3, ← g37_5, pz_mc0 (e := x3) (a := x4) (i := x5) (n := (60 - x5).toNat) (by omega)]
          omega
        · skip
          refine And.intro (True.intro) ?_
          intro v47 M47 a47 b47 q47
          obtain ⟨q47, z47⟩ := q47
          subst z47
          have q47 := q47 (by omega) (by omega) (by omega) (by omega)
          have B47 := pz_m9 (x := x4) (y := x3) (a := 1000000) (b := 1000000) (by omega) (by omega) (by omega) (by omega)
          refine And.intro (fun h57 => ?_) (fun h57 => ?_)
          · skip
            intro v63 e63 a63 b63
            try rw [pz_wi (by omega) (by omega)] at e63
            have G63 : pz_mc x3 (60 - v63).toNat v47 v63 = pz_mc x3 60 1000000 0 := by
              rw [← g37_5, pz_mcS (n := (60 - x5).toNat) (m := (60 - v63).toNat) (by omega) q47 (by omega), e63]
            exact ih37 _ _ _ (by omega) (by first | omega | assumption | rfl) (by first | omega | assumption | rfl) (by first | omega | assumption | rfl) (by first | omega | assumption | rfl) (by first | omega | assumption | rfl) (by first | omega | assumption | rfl)
          · skip
            refine And.intro rfl ?_
            refine ⟨?_, rfl⟩
            rw [if_pos g37_2, ← g37_3, ← g37_5, pz_mcR (n := (60 - x5).toNat) (m := (59 - x5).toNat) (by omega) q47 (by omega)]
    refine hgo (fun p => Nat.beq p 37) 38 0 _ [] M ?_
    refine And.intro (True.intro) ?_
    intro v5 M5 a5 b5 q5
    obtain ⟨q5, z5⟩ := q5
    subst z5
    refine And.intro (fun h8 => ?_) (fun h8 => ?_)
    · skip
      skip
      refine And.intro rfl ?_
      refine ⟨?_, rfl⟩
      rw [if_neg]
      intro z
      first
        | (split at q5 <;> split at q15 <;> omega)
        | (split at q5 <;> omega)
    · skip
      skip
      refine And.intro (True.intro) ?_
      intro v15 M15 a15 b15 q15
      obtain ⟨q15, z15⟩ := q15
      subst z15
      refine And.intro (fun h18 => ?_) (fun h18 => ?_)
      · skip
        refine And.intro (True.intro) ?_
        intro v25 M25 a25 b25 q25
        obtain ⟨q25, z25⟩ := q25
        subst z25
        have P25 : 0 ≤ p ∧ p ≤ 1000 ∧ 1 ≤ d ∧ d ≤ 60 := by
          clear hgo
          split at q5 <;> split at q15 <;> omega
        have q25 := q25 P25.1 P25.2.1 (by omega)
        have B25 := pz_lf_b P25.1 P25.2.1 d.toNat
        exact L37 _ _ _ _ (Nat.lt_succ_self _) (by first | omega | assumption | rfl) (by first | omega | assumption | rfl) (by first | omega | assumption | rfl) (by first | omega | assumption | rfl) (by first | omega | assumption | rfl) (by first | omega | assumption | rfl)
      · skip
        refine And.intro rfl ?_
        refine ⟨?_, rfl⟩
        rw [if_neg]
        intro z
        first
          | (split at q5 <;> split at q15 <;> omega)
          | (split at q5 <;> omega)
theorem v_X11_many {fr lo i : Nat} {own : String} (h1 : 3 + 1 ≤ fr) (h2 : 8 + (6 + 11) + 65 ≤ lo) (h3 : .methodLink own i yX11_many ∈ lw_tbl) : pz_cV fr lo own i k_X11_many :=
  pz_cVk (maxL := 6) (fr' := 3) (lo' := 65) 2 11 h_X11_many rfl ⟨by decide +kernel, by decide +kernel, by decide +kernel⟩ ⟨(pz_mt 925 (by decide +kernel)), (pz_mt 923 (by decide +kernel)), (pz_mt 924 (by decide +kernel)), (pz_mt 1 (by decide +kernel))⟩ (Or.inl ⟨TX11, 14, rfl⟩) (fun a M _ h => by
    have h : (match (generalizing := false) a with | [.inr (.inr (11, th)), .inl p, .inl d] => pz_ic M | _ => False) := h
    split at h
    · exact ⟨_, _, rfl⟩
    · exact h.elim) h1 h2 h3
def k_X11_bridges : pz_C := (4, 1, fun a M => (match a with | [.inr (.inr (11, th)), .inl d, .inl h, .inl w] => pz_ic M | _ => False), fun a M r M' => (match a, r with | [.inr (.inr (11, th)), .inl d, .inl h, .inl w], some (.inl v) => (True) ∧ pz_st M M' | _, _ => False))
abbrev ct_X11_bridges : List (Bool × Nat × pz_C) := [(false, 137, k_X11_within), (true, 255, k_X4_reckon), (true, 276, k_X4_cheapestBridges), (true, 280, k_X4_costOf)]
set_option maxRecDepth 100000 in
set_option maxHeartbeats 4000000 in
theorem h_X11_bridges : pz_H yX11_bridges cX11_bridges 5 (some .int) k_X11_bridges 5 120 := by
  refine pz_mk (own := RX11) (tb := t_X11_bridges) (fl := pz_flf fl_RX11) (ci := pz_cif ci_RX11) (ct := pz_ctf ct_X11_bridges) (rz := false) (by decide +kernel) rfl t_X11_bridges_ok (pz_flk fl_RX11_ok) (pz_cik ci_RX11_ok) ?_ ?_ (Or.inl ⟨rfl, rfl⟩) ?_ ?_
  · exact fun i k' h => pz_ctk (l := ct_X11_bridges) (P := fun b i k => b = true → pz_cV 5 120 RX11 i k) (List.forall_mem_cons.mpr ⟨((fun z => by cases z)), List.forall_mem_cons.mpr ⟨(fun _ => v_X4_reckon (by decide) (by decide) (pz_mt 884 (by decide +kernel))), List.forall_mem_cons.mpr ⟨(fun _ => v_X4_cheapestBridges (by decide) (by decide) (pz_mt 936 (by decide +kernel))), List.forall_mem_cons.mpr ⟨(fun _ => v_X4_costOf (by decide) (by decide) (pz_mt 960 (by decide +kernel))), fun _ h => absurd h List.not_mem_nil⟩⟩⟩⟩) true i k' h rfl
  · exact fun i k' h => pz_ctk (l := ct_X11_bridges) (P := fun b i k => b = false → (pz_cS 5 120 RX11 i k ∨ (k = pz_kac ∧ 1 ≤ 5 ∧ 60 ≤ 120 ∧ Cond.methodLink RX11 i arraycopyName ∈ pz_tbl))) (List.forall_mem_cons.mpr ⟨(fun _ => Or.inl (s_X11_within (by decide) (by decide) (Or.inl (pz_mt 425 (by decide +kernel))))), List.forall_mem_cons.mpr ⟨((fun z => by cases z)), List.forall_mem_cons.mpr ⟨((fun z => by cases z)), List.forall_mem_cons.mpr ⟨((fun z => by cases z)), fun _ h => absurd h List.not_mem_nil⟩⟩⟩⟩) false i k' h rfl
  · intro a M hlen hpre
    obtain ⟨th, d, h, w, rfl, hpre⟩ : ∃ th d h w, a = [.inr (.inr (11, th)), .inl d, .inl h, .inl w] ∧ (pz_ic M) := by
      have hpre : (match (generalizing := false) a with | [.inr (.inr (11, th)), .inl d, .inl h, .inl w] => pz_ic M | _ => False) := hpre
      split at hpre
      · exact ⟨_, _, _, _, rfl, hpre⟩
      · exact hpre.elim
    exact Nat.le_of_ble_eq_true rfl
  · intro a M hlen hcan hM hpre Ok hgo
    obtain ⟨th, d, h, w, rfl, hpre⟩ : ∃ th d h w, a = [.inr (.inr (11, th)), .inl d, .inl h, .inl w] ∧ (pz_ic M) := by
      have hpre : (match (generalizing := false) a with | [.inr (.inr (11, th)), .inl d, .inl h, .inl w] => pz_ic M | _ => False) := hpre
      split at hpre
      · exact ⟨_, _, _, _, rfl, hpre⟩
      · exact hpre.elim
    obtain ⟨k_th, hc_th⟩ := pz_tlm hcan
    have k_th : pz_kd th = 11 ∧ th < 231 := k_th
    have R_th := pz_kd11 k_th.1
    subst R_th
    obtain ⟨k_d, hc_d⟩ := pz_tlm hc_th
    have l_d : -2147483648 ≤ d := k_d.1
    have u_d : d ≤ 2147483647 := k_d.2
    obtain ⟨k_h, hc_h⟩ := pz_tlm hc_d
    have l_h : -2147483648 ≤ h := k_h.1
    have u_h : h ≤ 2147483647 := k_h.2
    obtain ⟨k_w, hc_w⟩ := pz_tlm hc_h
    have l_w : -2147483648 ≤ w := k_w.1
    have u_w : w ≤ 2147483647 := k_w.2
    have hI : pz_ic M := hpre
    have hI0 := hI
    have hS : pz_st M M := pz_st.rf
    refine hgo (fun _ => false) 49 0 _ [] M ?_
    refine And.intro (True.intro) ?_
    intro v4 M4 a4 b4 q4
    obtain ⟨q4, z4⟩ := q4
    subst z4
    refine And.intro (fun h7 => ?_) (fun h7 => ?_)
    · skip
      refine And.intro rfl ?_
      exact ⟨trivial, hS⟩
    · skip
      refine And.intro (True.intro) ?_
      intro v15 M15 a15 b15 q15
      obtain ⟨q15, z15⟩ := q15
      subst z15
      refine And.intro (fun h18 => ?_) (fun h18 => ?_)
      · skip
        refine And.intro rfl ?_
        exact ⟨trivial, hS⟩
      · skip
        refine And.intro (True.intro) ?_
        intro v24 M24 a24 b24 q24
        obtain ⟨q24, z24⟩ := q24
        subst z24
        refine And.intro (fun h27 => ?_) (fun h27 => ?_)
        · skip
          intro r33 e33 k33
          have R33 := pz_kd4 k33
          intro r37 e37 k37
          have R37 := pz_kd0 k37
          refine And.intro (hI) ?_
          intro M41 q41
          obtain ⟨q41, z41⟩ := q41
          have hS : pz_st M M41 := hS.tr z41
          have hI : pz_ic M41 := hS.1.1 hI0
          intro r45 e45 k45
          have R45 := pz_kd4 k45
          intro r49 e49 k49
          have R49 := pz_kd0 k49
          refine And.intro (hI) ?_
          intro v53 M53 a53 b53 q53
          obtain ⟨q53, z53⟩ := q53
          have hS : pz_st M M53 := hS.tr z53
          have hI : pz_ic M53 := hS.1.1 hI0
          refine And.intro (fun h61 => ?_) (fun h61 => ?_)
          · skip
            refine And.intro rfl ?_
            exact ⟨trivial, hS⟩
          · skip
            refine And.intro (fun h66 => ?_) (fun h66 => ?_)
            · skip
              intro r76 e76 k76
              have R76 := pz_kd4 k76
              intro r80 e80 k80
              have R80 := pz_kd0 k80
              refine And.intro (hI) ?_
              intro v85 M85 a85 b85 q85
              obtain ⟨q85, z85⟩ := q85
              subst z85
              intro v88 e88 a88 b88
              try rw [pz_wi (by omega) (by omega)] at e88
              refine And.intro rfl ?_
              exact ⟨trivial, hS⟩
            · skip
              refine And.intro rfl ?_
              exact ⟨trivial, hS⟩
        · skip
          refine And.intro rfl ?_
          exact ⟨trivial, hS⟩
theorem v_X11_bridges {fr lo i : Nat} {own : String} (h1 : 5 + 1 ≤ fr) (h2 : 8 + (5 + 11) + 120 ≤ lo) (h3 : .methodLink own i yX11_bridges ∈ lw_tbl) : pz_cV fr lo own i k_X11_bridges :=
  pz_cVk (maxL := 5) (fr' := 5) (lo' := 120) 3 11 h_X11_bridges rfl ⟨by decide +kernel, by decide +kernel, by decide +kernel⟩ ⟨(pz_mt 935 (by decide +kernel)), (pz_mt 933 (by decide +kernel)), (pz_mt 934 (by decide +kernel)), (pz_mt 1 (by decide +kernel))⟩ (Or.inl ⟨TX11, 14, rfl⟩) (fun a M _ h => by
    have h : (match (generalizing := false) a with | [.inr (.inr (11, th)), .inl d, .inl h, .inl w] => pz_ic M | _ => False) := h
    split at h
    · exact ⟨_, _, rfl⟩
    · exact h.elim) h1 h2 h3
def k_X11_highestLevel : pz_C := (2, 1, fun a M => (match a with | [.inr (.inr (11, th)), .inl n] => pz_ic M | _ => False), fun a M r M' => (match a, r with | [.inr (.inr (11, th)), .inl n], some (.inl v) => (True) ∧ M = M' | _, _ => False))
abbrev ct_X11_highestLevel : List (Bool × Nat × pz_C) := [(true, 283, k_X0_givenTo)]
set_option maxRecDepth 100000 in
set_option maxHeartbeats 4000000 in
theorem h_X11_highestLevel : pz_H yX11_highestLevel cX11_highestLevel 6 (some .int) k_X11_highestLevel 3 65 := by
  refine pz_mk (own := RX11) (tb := t_X11_highestLevel) (fl := pz_flf fl_RX11) (ci := pz_cif ci_RX11) (ct := pz_ctf ct_X11_highestLevel) (rz := false) (by decide +kernel) rfl t_X11_highestLevel_ok (pz_flk fl_RX11_ok) (pz_cik ci_RX11_ok) ?_ ?_ (Or.inl ⟨rfl, rfl⟩) ?_ ?_
  · exact fun i k' h => pz_ctk (l := ct_X11_highestLevel) (P := fun b i k => b = true → pz_cV 3 65 RX11 i k) (List.forall_mem_cons.mpr ⟨(fun _ => v_X0_givenTo (by decide) (by decide) (pz_mt 965 (by decide +kernel))), fun _ h => absurd h List.not_mem_nil⟩) true i k' h rfl
  · exact fun i k' h => pz_ctk (l := ct_X11_highestLevel) (P := fun b i k => b = false → (pz_cS 3 65 RX11 i k ∨ (k = pz_kac ∧ 1 ≤ 3 ∧ 60 ≤ 65 ∧ Cond.methodLink RX11 i arraycopyName ∈ pz_tbl))) (List.forall_mem_cons.mpr ⟨((fun z => by cases z)), fun _ h => absurd h List.not_mem_nil⟩) false i k' h rfl
  · intro a M hlen hpre
    obtain ⟨th, n, rfl, hpre⟩ : ∃ th n, a = [.inr (.inr (11, th)), .inl n] ∧ (pz_ic M) := by
      have hpre : (match (generalizing := false) a with | [.inr (.inr (11, th)), .inl n] => pz_ic M | _ => False) := hpre
      split at hpre
      · exact ⟨_, _, rfl, hpre⟩
      · exact hpre.elim
    exact Nat.le_of_ble_eq_true rfl
  · intro a M hlen hcan hM hpre Ok hgo
    obtain ⟨th, n, rfl, hpre⟩ : ∃ th n, a = [.inr (.inr (11, th)), .inl n] ∧ (pz_ic M) := by
      have hpre : (match (generalizing := false) a with | [.inr (.inr (11, th)), .inl n] => pz_ic M | _ => False) := hpre
      split at hpre
      · exact ⟨_, _, rfl, hpre⟩
      · exact hpre.elim
    obtain ⟨k_th, hc_th⟩ := pz_tlm hcan
    have k_th : pz_kd th = 11 ∧ th < 231 := k_th
    have R_th := pz_kd11 k_th.1
    subst R_th
    obtain ⟨k_n, hc_n⟩ := pz_tlm hc_th
    have l_n : -2147483648 ≤ n := k_n.1
    have u_n : n ≤ 2147483647 := k_n.2
    have hI : pz_ic M := hpre
    have L9 : ∀ (fu : Nat) (x2 : Int) (x3 : Int) (x4 : Int) (d5 : Option pz_V), (999 - x4).toNat < fu → (0 ≤ x4) → (0 ≤ x2) → (x2 ≤ 999) → (0 ≤ x3) → (x3 ≤ 999) → Ok 9 [some (.inr (.inr (11, 0))), some (.inl n), some (.inl x2), some (.inl x3), some (.inl x4), d5] [] M := by
      intro fu
      induction fu with
      | zero => exact fun _ _ _ _ hn => absurd hn (Nat.not_lt_zero _)
      | succ fu ih9 =>
        intro x2 x3 x4 d5 hn9 g9_0 g9_1 g9_2 g9_3 g9_4
        refine hgo (fun p => Nat.beq p 9) 39 9 _ _ _ ?_
        refine And.intro (fun h14 => ?_) (fun h14 => ?_)
        · skip
          refine And.intro rfl ?_
          exact ⟨trivial, rfl⟩
        · skip
          refine And.intro (fun h19 => ?_) (fun h19 => ?_)
          · skip
            refine And.intro rfl ?_
            exact ⟨trivial, rfl⟩
          · skip
            intro v24 e24 a24 b24
            try rw [pz_wi (by omega) (by omega)] at e24
            intro v26 e26 a26 b26
            try rw [pz_wi (by omega) (by omega)] at e26
            refine And.intro (by omega) ?_
            intro v28 e28 a28 b28
            rw [Int.tdiv_eq_ediv_of_nonneg (by omega)] at e28
            rw [pz_wi (by omega) (by omega)] at e28
            intro r32 e32 k32
            have R32 := pz_kd0 k32
            refine And.intro (hI) ?_
            intro v37 M37 a37 b37 q37
            obtain ⟨q37, z37⟩ := q37
            subst z37
            refine And.intro (fun h41 => ?_) (fun h41 => ?_)
            · skip
              intro v53 e53 a53 b53
              try rw [pz_wi (by omega) (by omega)] at e53
              intro v55 e55 a55 b55
              try rw [pz_wi (by omega) (by omega)] at e55
              exact ih9 _ _ _ _ (by omega) (by omega) (by omega) (by omega) (by omega) (by omega)
            · skip
              intro v55 e55 a55 b55
              try rw [pz_wi (by omega) (by omega)] at e55
              exact ih9 _ _ _ _ (by omega) (by omega) (by omega) (by omega) (by omega) (by omega)
    refine hgo (fun p => Nat.beq p 9) 39 0 _ [] M ?_
    exact L9 _ _ _ _ _ (Nat.lt_succ_self _) (by omega) (by omega) (by omega) (by omega) (by omega)
theorem v_X11_highestLevel {fr lo i : Nat} {own : String} (h1 : 3 + 1 ≤ fr) (h2 : 8 + (6 + 11) + 65 ≤ lo) (h3 : .methodLink own i yX11_highestLevel ∈ lw_tbl) : pz_cV fr lo own i k_X11_highestLevel :=
  pz_cVk (maxL := 6) (fr' := 3) (lo' := 65) 1 11 h_X11_highestLevel rfl ⟨by decide +kernel, by decide +kernel, by decide +kernel⟩ ⟨(pz_mt 977 (by decide +kernel)), (pz_mt 976 (by decide +kernel)), (pz_ms 2 (by decide +kernel)), (pz_mt 1 (by decide +kernel))⟩ (Or.inl ⟨TX11, 14, rfl⟩) (fun a M _ h => by
    have h : (match (generalizing := false) a with | [.inr (.inr (11, th)), .inl n] => pz_ic M | _ => False) := h
    split at h
    · exact ⟨_, _, rfl⟩
    · exact h.elim) h1 h2 h3
def k_X11_share : pz_C := (3, 1, fun a M => (match a with | [.inr (.inr (11, th)), .inl n, .inl i] => pz_ic M | _ => False), fun a M r M' => (match a, r with | [.inr (.inr (11, th)), .inl n, .inl i], some (.inl v) => (True) ∧ M = M' | _, _ => False))
abbrev ct_X11_share : List (Bool × Nat × pz_C) := [(false, 137, k_X11_within), (true, 118, k_X0_has), (true, 283, k_X0_givenTo), (true, 286, k_X11_highestLevel), (true, 289, k_X0_canGive), (false, 292, k_J9_min_7cf53)]
set_option maxRecDepth 100000 in
set_option maxHeartbeats 4000000 in
theorem h_X11_share : pz_H yX11_share cX11_share 6 (some .int) k_X11_share 4 90 := by
  refine pz_mk (own := RX11) (tb := t_X11_share) (fl := pz_flf fl_RX11) (ci := pz_cif ci_RX11) (ct := pz_ctf ct_X11_share) (rz := false) (by decide +kernel) rfl t_X11_share_ok (pz_flk fl_RX11_ok) (pz_cik ci_RX11_ok) ?_ ?_ (Or.inl ⟨rfl, rfl⟩) ?_ ?_
  · exact fun i k' h => pz_ctk (l := ct_X11_share) (P := fun b i k => b = true → pz_cV 4 90 RX11 i k) (List.forall_mem_cons.mpr ⟨((fun z => by cases z)), List.forall_mem_cons.mpr ⟨(fun _ => v_X0_has (by decide) (by decide) (pz_mt 444 (by decide +kernel))), List.forall_mem_cons.mpr ⟨(fun _ => v_X0_givenTo (by decide) (by decide) (pz_mt 965 (by decide +kernel))), List.forall_mem_cons.mpr ⟨(fun _ => v_X11_highestLevel (by decide) (by decide) (pz_mt 974 (by decide +kernel))), List.forall_mem_cons.mpr ⟨(fun _ => v_X0_canGive (by decide) (by decide) (pz_mt 978 (by decide +kernel))), List.forall_mem_cons.mpr ⟨((fun z => by cases z)), fun _ h => absurd h List.not_mem_nil⟩⟩⟩⟩⟩⟩) true i k' h rfl
  · exact fun i k' h => pz_ctk (l := ct_X11_share) (P := fun b i k => b = false → (pz_cS 4 90 RX11 i k ∨ (k = pz_kac ∧ 1 ≤ 4 ∧ 60 ≤ 90 ∧ Cond.methodLink RX11 i arraycopyName ∈ pz_tbl))) (List.forall_mem_cons.mpr ⟨(fun _ => Or.inl (s_X11_within (by decide) (by decide) (Or.inl (pz_mt 425 (by decide +kernel))))), List.forall_mem_cons.mpr ⟨((fun z => by cases z)), List.forall_mem_cons.mpr ⟨((fun z => by cases z)), List.forall_mem_cons.mpr ⟨((fun z => by cases z)), List.forall_mem_cons.mpr ⟨((fun z => by cases z)), List.forall_mem_cons.mpr ⟨(fun _ => Or.inl (s_J9_min_7cf53 (by decide) (by decide) (Or.inl (pz_mt 979 (by decide +kernel))))), fun _ h => absurd h List.not_mem_nil⟩⟩⟩⟩⟩⟩) false i k' h rfl
  · intro a M hlen hpre
    obtain ⟨th, n, i, rfl, hpre⟩ : ∃ th n i, a = [.inr (.inr (11, th)), .inl n, .inl i] ∧ (pz_ic M) := by
      have hpre : (match (generalizing := false) a with | [.inr (.inr (11, th)), .inl n, .inl i] => pz_ic M | _ => False) := hpre
      split at hpre
      · exact ⟨_, _, _, rfl, hpre⟩
      · exact hpre.elim
    exact Nat.le_of_ble_eq_true rfl
  · intro a M hlen hcan hM hpre Ok hgo
    obtain ⟨th, n, i, rfl, hpre⟩ : ∃ th n i, a = [.inr (.inr (11, th)), .inl n, .inl i] ∧ (pz_ic M) := by
      have hpre : (match (generalizing := false) a with | [.inr (.inr (11, th)), .inl n, .inl i] => pz_ic M | _ => False) := hpre
      split at hpre
      · exact ⟨_, _, _, rfl, hpre⟩
      · exact hpre.elim
    obtain ⟨k_th, hc_th⟩ := pz_tlm hcan
    have k_th : pz_kd th = 11 ∧ th < 231 := k_th
    have R_th := pz_kd11 k_th.1
    subst R_th
    obtain ⟨k_n, hc_n⟩ := pz_tlm hc_th
    have l_n : -2147483648 ≤ n := k_n.1
    have u_n : n ≤ 2147483647 := k_n.2
    obtain ⟨k_i, hc_i⟩ := pz_tlm hc_n
    have l_i : -2147483648 ≤ i := k_i.1
    have u_i : i ≤ 2147483647 := k_i.2
    have hI : pz_ic M := hpre
    have L59 : ∀ (fu : Nat) (x3 : Int) (x4 : Int) (x5 : Int), (i - x5).toNat < fu → (0 ≤ x5) → Ok 59 [some (.inr (.inr (11, 0))), some (.inl n), some (.inl i), some (.inl x3), some (.inl x4), some (.inl x5)] [] M := by
      intro fu
      induction fu with
      | zero => exact fun _ _ _ hn => absurd hn (Nat.not_lt_zero _)
      | succ fu ih59 =>
        intro x3 x4 x5 hn59 g59_0
        have L81 : ∀ (x3 : Int) (x4 : Int) (x5 : Int), (0 ≤ x5) → (x5 < i) → ((i - x5).toNat < fu + 1) → Ok 81 [some (.inr (.inr (11, 0))), some (.inl n), some (.inl i), some (.inl x3), some (.inl x4), some (.inl x5)] [] M := by
          intro x3 x4 x5 g81_0 g81_1 g81_2
          refine hgo (fun p => Nat.beq p 59 || Nat.beq p 81) 63 81 _ _ _ ?_
          intro v81 e81 a81 b81
          try rw [pz_wi (by omega) (by omega)] at e81
          exact ih59 _ _ _ (by omega) (by omega)
        refine hgo (fun p => Nat.beq p 59 || Nat.beq p 81) 63 59 _ _ _ ?_
        refine And.intro (fun h62 => ?_) (fun h62 => ?_)
        · skip
          intro r88 e88 k88
          have R88 := pz_kd0 k88
          refine And.intro (True.intro) ?_
          intro v92 M92 a92 b92 q92
          obtain ⟨q92, z92⟩ := q92
          subst z92
          refine And.intro (fun h100 => ?_) (fun h100 => ?_)
          · skip
            refine And.intro (True.intro) ?_
            intro v117 M117 a117 b117 q117
            obtain ⟨q117, z117⟩ := q117
            subst z117
            refine And.intro rfl ?_
            exact ⟨trivial, rfl⟩
          · skip
            refine And.intro (fun h105 => ?_) (fun h105 => ?_)
            · skip
              refine And.intro (True.intro) ?_
              intro v117 M117 a117 b117 q117
              obtain ⟨q117, z117⟩ := q117
              subst z117
              refine And.intro rfl ?_
              exact ⟨trivial, rfl⟩
            · skip
              intro v110 e110 a110 b110
              try rw [pz_wi (by omega) (by omega)] at e110
              refine And.intro rfl ?_
              exact ⟨trivial, rfl⟩
        · skip
          intro r66 e66 k66
          have R66 := pz_kd0 k66
          refine And.intro (True.intro) ?_
          intro v71 M71 a71 b71 q71
          obtain ⟨q71, z71⟩ := q71
          subst z71
          refine And.intro (fun h75 => ?_) (fun h75 => ?_)
          · skip
            exact L81 _ _ _ (by omega) (by omega) (by omega)
          · skip
            intro v78 e78 a78 b78
            try rw [pz_wi (by omega) (by omega)] at e78
            exact L81 _ _ _ (by omega) (by omega) (by omega)
    refine hgo (fun p => Nat.beq p 59 || Nat.beq p 81) 63 0 _ [] M ?_
    refine And.intro (True.intro) ?_
    intro v5 M5 a5 b5 q5
    obtain ⟨q5, z5⟩ := q5
    subst z5
    refine And.intro (fun h8 => ?_) (fun h8 => ?_)
    · skip
      refine And.intro rfl ?_
      exact ⟨trivial, rfl⟩
    · skip
      intro r12 e12 k12
      have R12 := pz_kd0 k12
      refine And.intro (True.intro) ?_
      intro v16 M16 a16 b16 q16
      obtain ⟨q16, z16⟩ := q16
      subst z16
      refine And.intro (fun h19 => ?_) (fun h19 => ?_)
      · skip
        refine And.intro rfl ?_
        exact ⟨trivial, rfl⟩
      · skip
        intro r23 e23 k23
        have R23 := pz_kd0 k23
        refine And.intro (hI) ?_
        intro v29 M29 a29 b29 q29
        obtain ⟨q29, z29⟩ := q29
        subst z29
        refine And.intro (fun h33 => ?_) (fun h33 => ?_)
        · skip
          refine And.intro (hI) ?_
          intro v40 M40 a40 b40 q40
          obtain ⟨q40, z40⟩ := q40
          subst z40
          intro r46 e46 k46
          have R46 := pz_kd0 k46
          refine And.intro (hI) ?_
          intro v50 M50 a50 b50 q50
          obtain ⟨q50, z50⟩ := q50
          subst z50
          intro v53 e53 a53 b53
          try rw [pz_wi (by omega) (by omega)] at e53
          exact L59 _ _ _ _ (Nat.lt_succ_self _) (by omega)
        · skip
          refine And.intro rfl ?_
          exact ⟨trivial, rfl⟩
theorem v_X11_share {fr lo i : Nat} {own : String} (h1 : 4 + 1 ≤ fr) (h2 : 8 + (6 + 11) + 90 ≤ lo) (h3 : .methodLink own i yX11_share ∈ lw_tbl) : pz_cV fr lo own i k_X11_share :=
  pz_cVk (maxL := 6) (fr' := 4) (lo' := 90) 2 11 h_X11_share rfl ⟨by decide +kernel, by decide +kernel, by decide +kernel⟩ ⟨(pz_mt 964 (by decide +kernel)), (pz_mt 962 (by decide +kernel)), (pz_mt 963 (by decide +kernel)), (pz_mt 1 (by decide +kernel))⟩ (Or.inl ⟨TX11, 14, rfl⟩) (fun a M _ h => by
    have h : (match (generalizing := false) a with | [.inr (.inr (11, th)), .inl n, .inl i] => pz_ic M | _ => False) := h
    split at h
    · exact ⟨_, _, rfl⟩
    · exact h.elim) h1 h2 h3
def k_X11_along : pz_C := (4, 1, fun a M => (match a with | [.inr (.inr (11, th)), .inl i, .inl n, .inl w] => pz_ic M | _ => False), fun a M r M' => (match a, r with | [.inr (.inr (11, th)), .inl i, .inl n, .inl w], some (.inl v) => (True) ∧ pz_st M M' | _, _ => False))
abbrev ct_X11_along : List (Bool × Nat × pz_C) := [(true, 118, k_X0_has), (false, 137, k_X11_within), (true, 107, k_X0_at), (true, 297, k_X5_isIn), (true, 212, k_X3_tells), (false, 292, k_J9_min_7cf53)]
set_option maxRecDepth 100000 in
set_option maxHeartbeats 4000000 in
theorem h_X11_along : pz_H yX11_along cX11_along 8 (some .int) k_X11_along 4 97 := by
  refine pz_mk (own := RX11) (tb := t_X11_along) (fl := pz_flf fl_RX11) (ci := pz_cif ci_RX11) (ct := pz_ctf ct_X11_along) (rz := false) (by decide +kernel) rfl t_X11_along_ok (pz_flk fl_RX11_ok) (pz_cik ci_RX11_ok) ?_ ?_ (Or.inl ⟨rfl, rfl⟩) ?_ ?_
  · exact fun i k' h => pz_ctk (l := ct_X11_along) (P := fun b i k => b = true → pz_cV 4 97 RX11 i k) (List.forall_mem_cons.mpr ⟨(fun _ => v_X0_has (by decide) (by decide) (pz_mt 444 (by decide +kernel))), List.forall_mem_cons.mpr ⟨((fun z => by cases z)), List.forall_mem_cons.mpr ⟨(fun _ => v_X0_at (by decide) (by decide) (pz_mt 428 (by decide +kernel))), List.forall_mem_cons.mpr ⟨(fun _ => v_X5_isIn (by decide) (by decide) (pz_mt 984 (by decide +kernel))), List.forall_mem_cons.mpr ⟨(fun _ => v_X3_tells (by decide) (by decide) (pz_mt 838 (by decide +kernel))), List.forall_mem_cons.mpr ⟨((fun z => by cases z)), fun _ h => absurd h List.not_mem_nil⟩⟩⟩⟩⟩⟩) true i k' h rfl
  · exact fun i k' h => pz_ctk (l := ct_X11_along) (P := fun b i k => b = false → (pz_cS 4 97 RX11 i k ∨ (k = pz_kac ∧ 1 ≤ 4 ∧ 60 ≤ 97 ∧ Cond.methodLink RX11 i arraycopyName ∈ pz_tbl))) (List.forall_mem_cons.mpr ⟨((fun z => by cases z)), List.forall_mem_cons.mpr ⟨(fun _ => Or.inl (s_X11_within (by decide) (by decide) (Or.inl (pz_mt 425 (by decide +kernel))))), List.forall_mem_cons.mpr ⟨((fun z => by cases z)), List.forall_mem_cons.mpr ⟨((fun z => by cases z)), List.forall_mem_cons.mpr ⟨((fun z => by cases z)), List.forall_mem_cons.mpr ⟨(fun _ => Or.inl (s_J9_min_7cf53 (by decide) (by decide) (Or.inl (pz_mt 979 (by decide +kernel))))), fun _ h => absurd h List.not_mem_nil⟩⟩⟩⟩⟩⟩) false i k' h rfl
  · intro a M hlen hpre
    obtain ⟨th, i, n, w, rfl, hpre⟩ : ∃ th i n w, a = [.inr (.inr (11, th)), .inl i, .inl n, .inl w] ∧ (pz_ic M) := by
      have hpre : (match (generalizing := false) a with | [.inr (.inr (11, th)), .inl i, .inl n, .inl w] => pz_ic M | _ => False) := hpre
      split at hpre
      · exact ⟨_, _, _, _, rfl, hpre⟩
      · exact hpre.elim
    exact Nat.le_of_ble_eq_true rfl
  · intro a M hlen hcan hM hpre Ok hgo
    obtain ⟨th, i, n, w, rfl, hpre⟩ : ∃ th i n w, a = [.inr (.inr (11, th)), .inl i, .inl n, .inl w] ∧ (pz_ic M) := by
      have hpre : (match (generalizing := false) a with | [.inr (.inr (11, th)), .inl i, .inl n, .inl w] => pz_ic M | _ => False) := hpre
      split at hpre
      · exact ⟨_, _, _, _, rfl, hpre⟩
      · exact hpre.elim
    obtain ⟨k_th, hc_th⟩ := pz_tlm hcan
    have k_th : pz_kd th = 11 ∧ th < 231 := k_th
    have R_th := pz_kd11 k_th.1
    subst R_th
    obtain ⟨k_i, hc_i⟩ := pz_tlm hc_th
    have l_i : -2147483648 ≤ i := k_i.1
    have u_i : i ≤ 2147483647 := k_i.2
    obtain ⟨k_n, hc_n⟩ := pz_tlm hc_i
    have l_n : -2147483648 ≤ n := k_n.1
    have u_n : n ≤ 2147483647 := k_n.2
    obtain ⟨k_w, hc_w⟩ := pz_tlm hc_n
    have l_w : -2147483648 ≤ w := k_w.1
    have u_w : w ≤ 2147483647 := k_w.2
    have hI : pz_ic M := hpre
    have hI0 := hI
    have hS : pz_st M M := pz_st.rf
    have L42 : ∀ (fu : Nat) (x4 : Int) (x5 : Int) (x6 : Int) (d7 : Option pz_V) (N42 : pz_M), (12 - x6).toNat < fu → (pz_st M N42) → (0 ≤ x6) → Ok 42 [some (.inr (.inr (11, 0))), some (.inl i), some (.inl n), some (.inl w), some (.inl x4), some (.inl x5), some (.inl x6), d7] [] N42 := by
      intro fu
      induction fu with
      | zero => exact fun _ _ _ _ _ hn => absurd hn (Nat.not_lt_zero _)
      | succ fu ih42 =>
        intro x4 x5 x6 d7 N42 hn42 hS g42_1
        have hI : pz_ic N42 := hS.1.1 hI0
        have L115 : ∀ (x4 : Int) (x5 : Int) (x6 : Int) (d7 : Option pz_V) (N115 : pz_M), (pz_st M N115) → (0 ≤ x6) → (x6 < 12) → ((12 - x6).toNat < fu + 1) → Ok 115 [some (.inr (.inr (11, 0))), some (.inl i), some (.inl n), some (.inl w), some (.inl x4), some (.inl x5), some (.inl x6), d7] [] N115 := by
          intro x4 x5 x6 d7 N115 hS g115_1 g115_2 g115_3
          have hI : pz_ic N115 := hS.1.1 hI0
          refine hgo (fun p => Nat.beq p 42 || Nat.beq p 115) 67 115 _ _ _ ?_
          intro v115 e115 a115 b115
          try rw [pz_wi (by omega) (by omega)] at e115
          exact ih42 _ _ _ _ _ (by omega) hS (by omega)
        refine hgo (fun p => Nat.beq p 42 || Nat.beq p 115) 67 42 _ _ _ ?_
        intro r45 e45 k45
        have R45 := pz_kd0 k45
        intro v48 e48 a48 b48
        have I48 := hI.1 r45 (by omega) (by omega)
        refine And.intro (fun h51 => ?_) (fun h51 => ?_)
        · skip
          refine And.intro (fun h122 => ?_) (fun h122 => ?_)
          · skip
            refine And.intro rfl ?_
            exact ⟨trivial, hS⟩
          · skip
            refine And.intro rfl ?_
            exact ⟨trivial, hS⟩
        · skip
          intro r55 e55 k55
          have R55 := pz_kd0 k55
          refine And.intro (True.intro) ?_
          intro r60 M60 k60 q60
          have R60 := pz_kd5 k60
          obtain ⟨q60, z60⟩ := q60
          subst z60
          refine And.intro (True.intro) ?_
          intro v63 M63 a63 b63 q63
          obtain ⟨q63, z63⟩ := q63
          subst z63
          refine And.intro (fun h66 => ?_) (fun h66 => ?_)
          · skip
            exact L115 _ _ _ _ _ hS (by omega) (by omega) (by omega)
          · skip
            intro r72 e72 k72
            have R72 := pz_kd10 k72
            intro r75 e75 k75
            have R75 := pz_kd3 k75
            intro r80 e80 k80
            have R80 := pz_kd0 k80
            refine And.intro (hI) ?_
            intro v85 M85 a85 b85 q85
            obtain ⟨q85, z85⟩ := q85
            have hS : pz_st M M85 := hS.tr z85
            have hI : pz_ic M85 := hS.1.1 hI0
            refine And.intro (True.intro) ?_
            intro v88 M88 a88 b88 q88
            obtain ⟨q88, z88⟩ := q88
            subst z88
            intro v97 e97 a97 b97
            try rw [pz_wi (by omega) (by omega)] at e97
            refine And.intro (fun h104 => ?_) (fun h104 => ?_)
            · skip
              intro v112 e112 a112 b112
              try rw [pz_wi (by omega) (by omega)] at e112
              exact L115 _ _ _ _ _ hS (by omega) (by omega) (by omega)
            · skip
              intro v112 e112 a112 b112
              try rw [pz_wi (by omega) (by omega)] at e112
              exact L115 _ _ _ _ _ hS (by omega) (by omega) (by omega)
    refine hgo (fun p => Nat.beq p 42 || Nat.beq p 115) 67 0 _ [] M ?_
    intro r1 e1 k1
    have R1 := pz_kd0 k1
    refine And.intro (True.intro) ?_
    intro v5 M5 a5 b5 q5
    obtain ⟨q5, z5⟩ := q5
    subst z5
    refine And.intro (fun h8 => ?_) (fun h8 => ?_)
    · skip
      refine And.intro rfl ?_
      exact ⟨trivial, hS⟩
    · skip
      refine And.intro (True.intro) ?_
      intro v16 M16 a16 b16 q16
      obtain ⟨q16, z16⟩ := q16
      subst z16
      refine And.intro (fun h19 => ?_) (fun h19 => ?_)
      · skip
        refine And.intro rfl ?_
        exact ⟨trivial, hS⟩
      · skip
        refine And.intro (True.intro) ?_
        intro v25 M25 a25 b25 q25
        obtain ⟨q25, z25⟩ := q25
        subst z25
        refine And.intro (fun h28 => ?_) (fun h28 => ?_)
        · skip
          exact L42 _ _ _ _ _ _ (Nat.lt_succ_self _) hS (by omega)
        · skip
          refine And.intro rfl ?_
          exact ⟨trivial, hS⟩
theorem v_X11_along {fr lo i : Nat} {own : String} (h1 : 4 + 1 ≤ fr) (h2 : 8 + (8 + 11) + 97 ≤ lo) (h3 : .methodLink own i yX11_along ∈ lw_tbl) : pz_cV fr lo own i k_X11_along :=
  pz_cVk (maxL := 8) (fr' := 4) (lo' := 97) 3 11 h_X11_along rfl ⟨by decide +kernel, by decide +kernel, by decide +kernel⟩ ⟨(pz_mt 983 (by decide +kernel)), (pz_mt 981 (by decide +kernel)), (pz_mt 982 (by decide +kernel)), (pz_mt 1 (by decide +kernel))⟩ (Or.inl ⟨TX11, 14, rfl⟩) (fun a M _ h => by
    have h : (match (generalizing := false) a with | [.inr (.inr (11, th)), .inl i, .inl n, .inl w] => pz_ic M | _ => False) := h
    split at h
    · exact ⟨_, _, rfl⟩
    · exact h.elim) h1 h2 h3
def k_X11_choice : pz_C := (5, 1, fun a M => (match a with | [.inr (.inr (11, th)), .inl i, .inl n, .inl p, .inl w] => pz_ic M | _ => False), fun a M r M' => (match a, r with | [.inr (.inr (11, th)), .inl i, .inl n, .inl p, .inl w], some (.inl v) => (True) ∧ pz_st M M' | _, _ => False))
abbrev ct_X11_choice : List (Bool × Nat × pz_C) := [(true, 118, k_X0_has), (false, 137, k_X11_within), (true, 107, k_X0_at), (false, 301, k_J9_max_7cf53), (false, 304, k_J9_floorDiv_7cf53), (true, 212, k_X3_tells)]
set_option maxRecDepth 100000 in
set_option maxHeartbeats 4000000 in
theorem h_X11_choice : pz_H yX11_choice cX11_choice 9 (some .int) k_X11_choice 4 97 := by
  refine pz_mk (own := RX11) (tb := t_X11_choice) (fl := pz_flf fl_RX11) (ci := pz_cif ci_RX11) (ct := pz_ctf ct_X11_choice) (rz := false) (by decide +kernel) rfl t_X11_choice_ok (pz_flk fl_RX11_ok) (pz_cik ci_RX11_ok) ?_ ?_ (Or.inl ⟨rfl, rfl⟩) ?_ ?_
  · exact fun i k' h => pz_ctk (l := ct_X11_choice) (P := fun b i k => b = true → pz_cV 4 97 RX11 i k) (List.forall_mem_cons.mpr ⟨(fun _ => v_X0_has (by decide) (by decide) (pz_mt 444 (by decide +kernel))), List.forall_mem_cons.mpr ⟨((fun z => by cases z)), List.forall_mem_cons.mpr ⟨(fun _ => v_X0_at (by decide) (by decide) (pz_mt 428 (by decide +kernel))), List.forall_mem_cons.mpr ⟨((fun z => by cases z)), List.forall_mem_cons.mpr ⟨((fun z => by cases z)), List.forall_mem_cons.mpr ⟨(fun _ => v_X3_tells (by decide) (by decide) (pz_mt 838 (by decide +kernel))), fun _ h => absurd h List.not_mem_nil⟩⟩⟩⟩⟩⟩) true i k' h rfl
  · exact fun i k' h => pz_ctk (l := ct_X11_choice) (P := fun b i k => b = false → (pz_cS 4 97 RX11 i k ∨ (k = pz_kac ∧ 1 ≤ 4 ∧ 60 ≤ 97 ∧ Cond.methodLink RX11 i arraycopyName ∈ pz_tbl))) (List.forall_mem_cons.mpr ⟨((fun z => by cases z)), List.forall_mem_cons.mpr ⟨(fun _ => Or.inl (s_X11_within (by decide) (by decide) (Or.inl (pz_mt 425 (by decide +kernel))))), List.forall_mem_cons.mpr ⟨((fun z => by cases z)), List.forall_mem_cons.mpr ⟨(fun _ => Or.inl (s_J9_max_7cf53 (by decide) (by decide) (Or.inl (pz_mt 989 (by decide +kernel))))), List.forall_mem_cons.mpr ⟨(fun _ => Or.inl (s_J9_floorDiv_7cf53 (by decide) (by decide) (Or.inl (pz_mt 990 (by decide +kernel))))), List.forall_mem_cons.mpr ⟨((fun z => by cases z)), fun _ h => absurd h List.not_mem_nil⟩⟩⟩⟩⟩⟩) false i k' h rfl
  · intro a M hlen hpre
    obtain ⟨th, i, n, p, w, rfl, hpre⟩ : ∃ th i n p w, a = [.inr (.inr (11, th)), .inl i, .inl n, .inl p, .inl w] ∧ (pz_ic M) := by
      have hpre : (match (generalizing := false) a with | [.inr (.inr (11, th)), .inl i, .inl n, .inl p, .inl w] => pz_ic M | _ => False) := hpre
      split at hpre
      · exact ⟨_, _, _, _, _, rfl, hpre⟩
      · exact hpre.elim
    exact Nat.le_of_ble_eq_true rfl
  · intro a M hlen hcan hM hpre Ok hgo
    obtain ⟨th, i, n, p, w, rfl, hpre⟩ : ∃ th i n p w, a = [.inr (.inr (11, th)), .inl i, .inl n, .inl p, .inl w] ∧ (pz_ic M) := by
      have hpre : (match (generalizing := false) a with | [.inr (.inr (11, th)), .inl i, .inl n, .inl p, .inl w] => pz_ic M | _ => False) := hpre
      split at hpre
      · exact ⟨_, _, _, _, _, rfl, hpre⟩
      · exact hpre.elim
    obtain ⟨k_th, hc_th⟩ := pz_tlm hcan
    have k_th : pz_kd th = 11 ∧ th < 231 := k_th
    have R_th := pz_kd11 k_th.1
    subst R_th
    obtain ⟨k_i, hc_i⟩ := pz_tlm hc_th
    have l_i : -2147483648 ≤ i := k_i.1
    have u_i : i ≤ 2147483647 := k_i.2
    obtain ⟨k_n, hc_n⟩ := pz_tlm hc_i
    have l_n : -2147483648 ≤ n := k_n.1
    have u_n : n ≤ 2147483647 := k_n.2
    obtain ⟨k_p, hc_p⟩ := pz_tlm hc_n
    have l_p : -2147483648 ≤ p := k_p.1
    have u_p : p ≤ 2147483647 := k_p.2
    obtain ⟨k_w, hc_w⟩ := pz_tlm hc_p
    have l_w : -2147483648 ≤ w := k_w.1
    have u_w : w ≤ 2147483647 := k_w.2
    have hI : pz_ic M := hpre
    have hI0 := hI
    have hS : pz_st M M := pz_st.rf
    have L137 : ∀ (x5 : Int) (x6 : Int) (x7 : Int) (x8 : Int) (N137 : pz_M), (pz_st M N137) → Ok 137 [some (.inr (.inr (11, 0))), some (.inl i), some (.inl n), some (.inl p), some (.inl w), some (.inl x5), some (.inl x6), some (.inl x7), some (.inl x8)] [] N137 := by
      intro x5 x6 x7 x8 N137 hS
      have hI : pz_ic N137 := hS.1.1 hI0
      refine hgo (fun p => Nat.beq p 126 || Nat.beq p 137) 80 137 _ _ _ ?_
      refine And.intro (fun h139 => ?_) (fun h139 => ?_)
      · skip
        refine And.intro rfl ?_
        exact ⟨trivial, hS⟩
      · skip
        refine And.intro rfl ?_
        exact ⟨trivial, hS⟩
    have L126 : ∀ (x5 : Int) (x6 : Int) (x7 : Int) (x8 : Int) (N126 : pz_M), (pz_st M N126) → Ok 126 [some (.inr (.inr (11, 0))), some (.inl i), some (.inl n), some (.inl p), some (.inl w), some (.inl x5), some (.inl x6), some (.inl x7), some (.inl x8)] [] N126 := by
      intro x5 x6 x7 x8 N126 hS
      have hI : pz_ic N126 := hS.1.1 hI0
      refine hgo (fun p => Nat.beq p 126 || Nat.beq p 137) 80 126 _ _ _ ?_
      refine And.intro (fun h128 => ?_) (fun h128 => ?_)
      · skip
        exact L137 _ _ _ _ _ hS
      · skip
        exact L137 _ _ _ _ _ hS
    refine hgo (fun p => Nat.beq p 126 || Nat.beq p 137) 80 0 _ [] M ?_
    intro r1 e1 k1
    have R1 := pz_kd0 k1
    refine And.intro (True.intro) ?_
    intro v5 M5 a5 b5 q5
    obtain ⟨q5, z5⟩ := q5
    subst z5
    refine And.intro (fun h8 => ?_) (fun h8 => ?_)
    · skip
      refine And.intro rfl ?_
      exact ⟨trivial, hS⟩
    · skip
      refine And.intro (True.intro) ?_
      intro v16 M16 a16 b16 q16
      obtain ⟨q16, z16⟩ := q16
      subst z16
      refine And.intro (fun h19 => ?_) (fun h19 => ?_)
      · skip
        refine And.intro rfl ?_
        exact ⟨trivial, hS⟩
      · skip
        refine And.intro (True.intro) ?_
        intro v27 M27 a27 b27 q27
        obtain ⟨q27, z27⟩ := q27
        subst z27
        refine And.intro (fun h30 => ?_) (fun h30 => ?_)
        · skip
          refine And.intro rfl ?_
          exact ⟨trivial, hS⟩
        · skip
          refine And.intro (True.intro) ?_
          intro v37 M37 a37 b37 q37
          obtain ⟨q37, z37⟩ := q37
          subst z37
          refine And.intro (fun h40 => ?_) (fun h40 => ?_)
          · skip
            intro r47 e47 k47
            have R47 := pz_kd0 k47
            refine And.intro (True.intro) ?_
            intro r51 M51 k51 q51
            have R51 := pz_kd5 k51
            obtain ⟨q51, z51⟩ := q51
            subst z51
            intro v54 e54 a54 b54
            intro v62 e62 a62 b62
            try rw [pz_wi (by omega) (by omega)] at e62
            intro v71 e71 a71 b71
            try rw [pz_wi (by omega) (by omega)] at e71
            intro v76 e76 a76 b76
            try rw [pz_wi (by omega) (by omega)] at e76
            intro v80 e80 a80 b80
            try rw [pz_wi (by omega) (by omega)] at e80
            refine And.intro (True.intro) ?_
            intro v82 M82 a82 b82 q82
            obtain ⟨q82, z82⟩ := q82
            subst z82
            intro v85 e85 a85 b85
            try rw [pz_wi (by omega) (by omega)] at e85
            intro v86 e86 a86 b86
            try rw [pz_wi (by omega) (by omega)] at e86
            refine And.intro (by first | exact Or.inl rfl | exact Or.inr rfl) ?_
            intro v90 M90 a90 b90 q90
            obtain ⟨q90, z90⟩ := q90
            subst z90
            intro r94 e94 k94
            have R94 := pz_kd10 k94
            intro r97 e97 k97
            have R97 := pz_kd3 k97
            intro r102 e102 k102
            have R102 := pz_kd0 k102
            refine And.intro (hI) ?_
            intro v106 M106 a106 b106 q106
            obtain ⟨q106, z106⟩ := q106
            have hS : pz_st M M106 := hS.tr z106
            have hI : pz_ic M106 := hS.1.1 hI0
            intro v109 e109 a109 b109
            try rw [pz_wi (by omega) (by omega)] at e109
            refine And.intro (fun h116 => ?_) (fun h116 => ?_)
            · skip
              exact L126 _ _ _ _ _ hS
            · skip
              exact L126 _ _ _ _ _ hS
          · skip
            refine And.intro rfl ?_
            exact ⟨trivial, hS⟩
theorem v_X11_choice {fr lo i : Nat} {own : String} (h1 : 4 + 1 ≤ fr) (h2 : 8 + (9 + 11) + 97 ≤ lo) (h3 : .methodLink own i yX11_choice ∈ lw_tbl) : pz_cV fr lo own i k_X11_choice :=
  pz_cVk (maxL := 9) (fr' := 4) (lo' := 97) 4 11 h_X11_choice rfl ⟨by decide +kernel, by decide +kernel, by decide +kernel⟩ ⟨(pz_mt 988 (by decide +kernel)), (pz_mt 986 (by decide +kernel)), (pz_mt 987 (by decide +kernel)), (pz_mt 1 (by decide +kernel))⟩ (Or.inl ⟨TX11, 14, rfl⟩) (fun a M _ h => by
    have h : (match (generalizing := false) a with | [.inr (.inr (11, th)), .inl i, .inl n, .inl p, .inl w] => pz_ic M | _ => False) := h
    split at h
    · exact ⟨_, _, rfl⟩
    · exact h.elim) h1 h2 h3
def k_X11_bluff : pz_C := (4, 1, fun a M => (match a with | [.inr (.inr (11, th)), .inl p, .inl q, .inl w] => pz_ic M | _ => False), fun a M r M' => (match a, r with | [.inr (.inr (11, th)), .inl p, .inl q, .inl w], some (.inl v) => (v = (if 0 ≤ p ∧ p ≤ 1000 ∧ 0 ≤ q ∧ q ≤ 1000 ∧ 0 ≤ w ∧ w ≤ 1000 ∧ 0 < p * q + (1000 - p) * w then p * q * 1000000 / (p * q + (1000 - p) * w) else -1)) ∧ M = M' | _, _ => False))
abbrev ct_X11_bluff : List (Bool × Nat × pz_C) := [(false, 137, k_X11_within)]
set_option maxRecDepth 100000 in
set_option maxHeartbeats 4000000 in
theorem h_X11_bluff : pz_H yX11_bluff cX11_bluff 6 (some .int) k_X11_bluff 1 22 := by
  refine pz_mk (own := RX11) (tb := t_X11_bluff) (fl := pz_flf fl_RX11) (ci := pz_cif ci_RX11) (ct := pz_ctf ct_X11_bluff) (rz := false) (by decide +kernel) rfl t_X11_bluff_ok (pz_flk fl_RX11_ok) (pz_cik ci_RX11_ok) ?_ ?_ (Or.inl ⟨rfl, rfl⟩) ?_ ?_
  · exact fun i k' h => pz_ctk (l := ct_X11_bluff) (P := fun b i k => b = true → pz_cV 1 22 RX11 i k) (List.forall_mem_cons.mpr ⟨((fun z => by cases z)), fun _ h => absurd h List.not_mem_nil⟩) true i k' h rfl
  · exact fun i k' h => pz_ctk (l := ct_X11_bluff) (P := fun b i k => b = false → (pz_cS 1 22 RX11 i k ∨ (k = pz_kac ∧ 1 ≤ 1 ∧ 60 ≤ 22 ∧ Cond.methodLink RX11 i arraycopyName ∈ pz_tbl))) (List.forall_mem_cons.mpr ⟨(fun _ => Or.inl (s_X11_within (by decide) (by decide) (Or.inl (pz_mt 425 (by decide +kernel))))), fun _ h => absurd h List.not_mem_nil⟩) false i k' h rfl
  · intro a M hlen hpre
    obtain ⟨th, p, q, w, rfl, hpre⟩ : ∃ th p q w, a = [.inr (.inr (11, th)), .inl p, .inl q, .inl w] ∧ (pz_ic M) := by
      have hpre : (match (generalizing := false) a with | [.inr (.inr (11, th)), .inl p, .inl q, .inl w] => pz_ic M | _ => False) := hpre
      split at hpre
      · exact ⟨_, _, _, _, rfl, hpre⟩
      · exact hpre.elim
    exact Nat.le_of_ble_eq_true rfl
  · intro a M hlen hcan hM hpre Ok hgo
    obtain ⟨th, p, q, w, rfl, hpre⟩ : ∃ th p q w, a = [.inr (.inr (11, th)), .inl p, .inl q, .inl w] ∧ (pz_ic M) := by
      have hpre : (match (generalizing := false) a with | [.inr (.inr (11, th)), .inl p, .inl q, .inl w] => pz_ic M | _ => False) := hpre
      split at hpre
      · exact ⟨_, _, _, _, rfl, hpre⟩
      · exact hpre.elim
    obtain ⟨k_th, hc_th⟩ := pz_tlm hcan
    have k_th : pz_kd th = 11 ∧ th < 231 := k_th
    have R_th := pz_kd11 k_th.1
    subst R_th
    obtain ⟨k_p, hc_p⟩ := pz_tlm hc_th
    have l_p : -2147483648 ≤ p := k_p.1
    have u_p : p ≤ 2147483647 := k_p.2
    obtain ⟨k_q, hc_q⟩ := pz_tlm hc_p
    have l_q : -2147483648 ≤ q := k_q.1
    have u_q : q ≤ 2147483647 := k_q.2
    obtain ⟨k_w, hc_w⟩ := pz_tlm hc_q
    have l_w : -2147483648 ≤ w := k_w.1
    have u_w : w ≤ 2147483647 := k_w.2
    have hI : pz_ic M := hpre
    refine hgo (fun _ => false) 44 0 _ [] M ?_
    refine And.intro (True.intro) ?_
    intro v5 M5 a5 b5 q5
    obtain ⟨q5, z5⟩ := q5
    subst z5
    refine And.intro (fun h8 => ?_) (fun h8 => ?_)
    · skip
      refine And.intro rfl ?_
      refine ⟨?_, rfl⟩
      by_cases h9 : 0 ≤ p ∧ p ≤ 1000 ∧ 0 ≤ q ∧ q ≤ 1000 ∧ 0 ≤ w ∧ w ≤ 1000 ∧ 0 < p * q + (1000 - p) * w
      · rw [if_pos h9]
        first
          | (exfalso; omega)
          | (have F9 := pz_blf h9
             have E72 : v63 = p * q * 1000000 := by omega
             have E53 : v49 = p * q + (1000 - p) * w := by omega
             rw [E72, E53, F9.1, pz_wli (by omega) (by omega)] at e67
             rw [pz_wi (by omega) (by omega)] at e68
             exact e68.trans e67)
      · first
          | (rw [if_neg h9]; done)
          | (exfalso; omega)
    · skip
      refine And.intro (True.intro) ?_
      intro v16 M16 a16 b16 q16
      obtain ⟨q16, z16⟩ := q16
      subst z16
      refine And.intro (fun h19 => ?_) (fun h19 => ?_)
      · skip
        refine And.intro rfl ?_
        refine ⟨?_, rfl⟩
        by_cases h9 : 0 ≤ p ∧ p ≤ 1000 ∧ 0 ≤ q ∧ q ≤ 1000 ∧ 0 ≤ w ∧ w ≤ 1000 ∧ 0 < p * q + (1000 - p) * w
        · rw [if_pos h9]
          first
            | (exfalso; omega)
            | (have F9 := pz_blf h9
               have E72 : v63 = p * q * 1000000 := by omega
               have E53 : v49 = p * q + (1000 - p) * w := by omega
               rw [E72, E53, F9.1, pz_wli (by omega) (by omega)] at e67
               rw [pz_wi (by omega) (by omega)] at e68
               exact e68.trans e67)
        · first
            | (rw [if_neg h9]; done)
            | (exfalso; omega)
      · skip
        refine And.intro (True.intro) ?_
        intro v27 M27 a27 b27 q27
        obtain ⟨q27, z27⟩ := q27
        subst z27
        refine And.intro (fun h30 => ?_) (fun h30 => ?_)
        · skip
          intro v37 e37 a37 b37
          have B37 := pz_m3 (x := p) (y := q) (by omega) (by omega) (by omega) (by omega)
          rw [pz_wi (by omega) (by omega)] at e37
          intro v46 e46 a46 b46
          try rw [pz_wi (by omega) (by omega)] at e46
          intro v48 e48 a48 b48
          have B48 := pz_m3 (x := v46) (y := w) (by omega) (by omega) (by omega) (by omega)
          rw [pz_wi (by omega) (by omega)] at e48
          rw [e46] at e48 B48
          intro v49 e49 a49 b49
          try rw [pz_wi (by omega) (by omega)] at e49
          refine And.intro (fun h54 => ?_) (fun h54 => ?_)
          · skip
            refine And.intro rfl ?_
            refine ⟨?_, rfl⟩
            by_cases h9 : 0 ≤ p ∧ p ≤ 1000 ∧ 0 ≤ q ∧ q ≤ 1000 ∧ 0 ≤ w ∧ w ≤ 1000 ∧ 0 < p * q + (1000 - p) * w
            · rw [if_pos h9]
              first
                | (exfalso; omega)
                | (have F9 := pz_blf h9
                   have E72 : v63 = p * q * 1000000 := by omega
                   have E53 : v49 = p * q + (1000 - p) * w := by omega
                   rw [E72, E53, F9.1, pz_wli (by omega) (by omega)] at e67
                   rw [pz_wi (by omega) (by omega)] at e68
                   exact e68.trans e67)
            · first
                | (rw [if_neg h9]; done)
                | (exfalso; omega)
          · skip
            intro v63 e63 a63 b63
            try rw [pz_wli (by omega) (by omega)] at e63
            refine And.intro (by omega) ?_
            intro v67 e67 a67 b67
            intro v68 e68 a68 b68
            try rw [pz_wi (by omega) (by omega)] at e68
            refine And.intro rfl ?_
            refine ⟨?_, rfl⟩
            by_cases h9 : 0 ≤ p ∧ p ≤ 1000 ∧ 0 ≤ q ∧ q ≤ 1000 ∧ 0 ≤ w ∧ w ≤ 1000 ∧ 0 < p * q + (1000 - p) * w
            · rw [if_pos h9]
              first
                | (exfalso; omega)
                | (have F9 := pz_blf h9
                   have E72 : v63 = p * q * 1000000 := by omega
                   have E53 : v49 = p * q + (1000 - p) * w := by omega
                   rw [E72, E53, F9.1, pz_wli (by omega) (by omega)] at e67
                   rw [pz_wi (by omega) (by omega)] at e68
                   exact e68.trans e67)
            · first
                | (rw [if_neg h9]; done)
                | (exfalso; omega)
        · skip
          refine And.intro rfl ?_
          refine ⟨?_, rfl⟩
          by_cases h9 : 0 ≤ p ∧ p ≤ 1000 ∧ 0 ≤ q ∧ q ≤ 1000 ∧ 0 ≤ w ∧ w ≤ 1000 ∧ 0 < p * q + (1000 - p) * w
          · rw [if_pos h9]
            first
              | (exfalso; omega)
              | (have F9 := pz_blf h9
                 have E72 : v63 = p * q * 1000000 := by omega
                 have E53 : v49 = p * q + (1000 - p) * w := by omega
                 rw [E72, E53, F9.1, pz_wli (by omega) (by omega)] at e67
                 rw [pz_wi (by omega) (by omega)] at e68
                 exact e68.trans e67)
          · first
              | (rw [if_neg h9]; done)
              | (exfalso; omega)
theorem v_X11_bluff {fr lo i : Nat} {own : String} (h1 : 1 + 1 ≤ fr) (h2 : 8 + (6 + 11) + 22 ≤ lo) (h3 : .methodLink own i yX11_bluff ∈ lw_tbl) : pz_cV fr lo own i k_X11_bluff :=
  pz_cVk (maxL := 6) (fr' := 1) (lo' := 22) 3 11 h_X11_bluff rfl ⟨by decide +kernel, by decide +kernel, by decide +kernel⟩ ⟨(pz_mt 994 (by decide +kernel)), (pz_mt 992 (by decide +kernel)), (pz_mt 993 (by decide +kernel)), (pz_mt 1 (by decide +kernel))⟩ (Or.inl ⟨TX11, 14, rfl⟩) (fun a M _ h => by
    have h : (match (generalizing := false) a with | [.inr (.inr (11, th)), .inl p, .inl q, .inl w] => pz_ic M | _ => False) := h
    split at h
    · exact ⟨_, _, rfl⟩
    · exact h.elim) h1 h2 h3
def k_X11_signs : pz_C := (2, 1, fun a M => (match a with | [.inr (.inr (11, th)), .inl w] => pz_ic M | _ => False), fun a M r M' => (match a, r with | [.inr (.inr (11, th)), .inl w], some (.inl v) => (True) ∧ pz_st M M' | _, _ => False))
abbrev ct_X11_signs : List (Bool × Nat × pz_C) := [(true, 309, k_X8_plan), (false, 137, k_X11_within), (true, 319, k_X8_signer)]
set_option maxRecDepth 100000 in
set_option maxHeartbeats 4000000 in
theorem h_X11_signs : pz_H yX11_signs cX11_signs 2 (some .int) k_X11_signs 4 89 := by
  refine pz_mk (own := RX11) (tb := t_X11_signs) (fl := pz_flf fl_RX11) (ci := pz_cif ci_RX11) (ct := pz_ctf ct_X11_signs) (rz := false) (by decide +kernel) rfl t_X11_signs_ok (pz_flk fl_RX11_ok) (pz_cik ci_RX11_ok) ?_ ?_ (Or.inl ⟨rfl, rfl⟩) ?_ ?_
  · exact fun i k' h => pz_ctk (l := ct_X11_signs) (P := fun b i k => b = true → pz_cV 4 89 RX11 i k) (List.forall_mem_cons.mpr ⟨(fun _ => v_X8_plan (by decide) (by decide) (pz_mt 1000 (by decide +kernel))), List.forall_mem_cons.mpr ⟨((fun z => by cases z)), List.forall_mem_cons.mpr ⟨(fun _ => v_X8_signer (by decide) (by decide) (pz_mt 1021 (by decide +kernel))), fun _ h => absurd h List.not_mem_nil⟩⟩⟩) true i k' h rfl
  · exact fun i k' h => pz_ctk (l := ct_X11_signs) (P := fun b i k => b = false → (pz_cS 4 89 RX11 i k ∨ (k = pz_kac ∧ 1 ≤ 4 ∧ 60 ≤ 89 ∧ Cond.methodLink RX11 i arraycopyName ∈ pz_tbl))) (List.forall_mem_cons.mpr ⟨((fun z => by cases z)), List.forall_mem_cons.mpr ⟨(fun _ => Or.inl (s_X11_within (by decide) (by decide) (Or.inl (pz_mt 425 (by decide +kernel))))), List.forall_mem_cons.mpr ⟨((fun z => by cases z)), fun _ h => absurd h List.not_mem_nil⟩⟩⟩) false i k' h rfl
  · intro a M hlen hpre
    obtain ⟨th, w, rfl, hpre⟩ : ∃ th w, a = [.inr (.inr (11, th)), .inl w] ∧ (pz_ic M) := by
      have hpre : (match (generalizing := false) a with | [.inr (.inr (11, th)), .inl w] => pz_ic M | _ => False) := hpre
      split at hpre
      · exact ⟨_, _, rfl, hpre⟩
      · exact hpre.elim
    exact Nat.le_of_ble_eq_true rfl
  · intro a M hlen hcan hM hpre Ok hgo
    obtain ⟨th, w, rfl, hpre⟩ : ∃ th w, a = [.inr (.inr (11, th)), .inl w] ∧ (pz_ic M) := by
      have hpre : (match (generalizing := false) a with | [.inr (.inr (11, th)), .inl w] => pz_ic M | _ => False) := hpre
      split at hpre
      · exact ⟨_, _, rfl, hpre⟩
      · exact hpre.elim
    obtain ⟨k_th, hc_th⟩ := pz_tlm hcan
    have k_th : pz_kd th = 11 ∧ th < 231 := k_th
    have R_th := pz_kd11 k_th.1
    subst R_th
    obtain ⟨k_w, hc_w⟩ := pz_tlm hc_th
    have l_w : -2147483648 ≤ w := k_w.1
    have u_w : w ≤ 2147483647 := k_w.2
    have hI : pz_ic M := hpre
    have hI0 := hI
    have hS : pz_st M M := pz_st.rf
    refine hgo (fun _ => false) 37 0 _ [] M ?_
    intro r1 e1 k1
    have R1 := pz_kd8 k1
    intro r5 e5 k5
    have R5 := pz_kd0 k5
    intro v8 e8 a8 b8
    have I8 := hI.1 r5 (by omega) (by omega)
    intro r12 e12 k12
    have R12 := pz_kd10 k12
    refine And.intro (And.intro hI (by omega)) ?_
    intro M15 q15
    obtain ⟨q15, z15⟩ := q15
    have hS : pz_st M M15 := hS.tr z15
    have hI : pz_ic M15 := hS.1.1 hI0
    refine And.intro (fun h20 => ?_) (fun h20 => ?_)
    · skip
      refine And.intro (fun h32 => ?_) (fun h32 => ?_)
      · skip
        refine And.intro (True.intro) ?_
        intro v48 M48 a48 b48 q48
        obtain ⟨q48, z48⟩ := q48
        subst z48
        refine And.intro (fun h51 => ?_) (fun h51 => ?_)
        · skip
          refine And.intro rfl ?_
          exact ⟨trivial, hS⟩
        · skip
          intro r55 e55 k55
          have R55 := pz_kd8 k55
          intro v61 e61 a61 b61
          try rw [pz_wi (by omega) (by omega)] at e61
          refine And.intro (hI) ?_
          intro v62 M62 a62 b62 q62
          obtain ⟨q62, z62⟩ := q62
          subst z62
          refine And.intro rfl ?_
          exact ⟨trivial, hS⟩
      · skip
        intro r36 e36 k36
        have R36 := pz_kd8 k36
        intro v39 e39 a39 b39
        refine And.intro rfl ?_
        exact ⟨trivial, hS⟩
    · skip
      intro r24 e24 k24
      have R24 := pz_kd8 k24
      intro v27 e27 a27 b27
      refine And.intro rfl ?_
      exact ⟨trivial, hS⟩
theorem v_X11_signs {fr lo i : Nat} {own : String} (h1 : 4 + 1 ≤ fr) (h2 : 8 + (2 + 11) + 89 ≤ lo) (h3 : .methodLink own i yX11_signs ∈ lw_tbl) : pz_cV fr lo own i k_X11_signs :=
  pz_cVk (maxL := 2) (fr' := 4) (lo' := 89) 1 11 h_X11_signs rfl ⟨by decide +kernel, by decide +kernel, by decide +kernel⟩ ⟨(pz_mt 999 (by decide +kernel)), (pz_mt 997 (by decide +kernel)), (pz_mt 998 (by decide +kernel)), (pz_mt 1 (by decide +kernel))⟩ (Or.inl ⟨TX11, 14, rfl⟩) (fun a M _ h => by
    have h : (match (generalizing := false) a with | [.inr (.inr (11, th)), .inl w] => pz_ic M | _ => False) := h
    split at h
    · exact ⟨_, _, rfl⟩
    · exact h.elim) h1 h2 h3
def k_X11_money : pz_C := (3, 1, fun a M => (match a with | [.inr (.inr (11, th)), .inl t, .inl m] => pz_ic M | _ => False), fun a M r M' => (match a, r with | [.inr (.inr (11, th)), .inl t, .inl m], some (.inl v) => (v = (if 0 ≤ t ∧ t ≤ 600 ∧ 0 ≤ m ∧ m ≤ 600 then pz_mo (fun k => M (89 + k) 3) m (M 71 3).toNat 0 t (-1) else -1)) ∧ M = M' | _, _ => False))
abbrev ct_X11_money : List (Bool × Nat × pz_C) := [(false, 137, k_X11_within), (true, 107, k_X0_at)]
set_option maxRecDepth 100000 in
set_option maxHeartbeats 4000000 in
theorem h_X11_money : pz_H yX11_money cX11_money 6 (some .int) k_X11_money 1 22 := by
  refine pz_mk (own := RX11) (tb := t_X11_money) (fl := pz_flf fl_RX11) (ci := pz_cif ci_RX11) (ct := pz_ctf ct_X11_money) (rz := false) (by decide +kernel) rfl t_X11_money_ok (pz_flk fl_RX11_ok) (pz_cik ci_RX11_ok) ?_ ?_ (Or.inl ⟨rfl, rfl⟩) ?_ ?_
  · exact fun i k' h => pz_ctk (l := ct_X11_money) (P := fun b i k => b = true → pz_cV 1 22 RX11 i k) (List.forall_mem_cons.mpr ⟨((fun z => by cases z)), List.forall_mem_cons.mpr ⟨(fun _ => v_X0_at (by decide) (by decide) (pz_mt 428 (by decide +kernel))), fun _ h => absurd h List.not_mem_nil⟩⟩) true i k' h rfl
  · exact fun i k' h => pz_ctk (l := ct_X11_money) (P := fun b i k => b = false → (pz_cS 1 22 RX11 i k ∨ (k = pz_kac ∧ 1 ≤ 1 ∧ 60 ≤ 22 ∧ Cond.methodLink RX11 i arraycopyName ∈ pz_tbl))) (List.forall_mem_cons.mpr ⟨(fun _ => Or.inl (s_X11_within (by decide) (by decide) (Or.inl (pz_mt 425 (by decide +kernel))))), List.forall_mem_cons.mpr ⟨((fun z => by cases z)), fun _ h => absurd h List.not_mem_nil⟩⟩) false i k' h rfl
  · intro a M hlen hpre
    obtain ⟨th, t, m, rfl, hpre⟩ : ∃ th t m, a = [.inr (.inr (11, th)), .inl t, .inl m] ∧ (pz_ic M) := by
      have hpre : (match (generalizing := false) a with | [.inr (.inr (11, th)), .inl t, .inl m] => pz_ic M | _ => False) := hpre
      split at hpre
      · exact ⟨_, _, _, rfl, hpre⟩
      · exact hpre.elim
    exact Nat.le_of_ble_eq_true rfl
  · intro a M hlen hcan hM hpre Ok hgo
    obtain ⟨th, t, m, rfl, hpre⟩ : ∃ th t m, a = [.inr (.inr (11, th)), .inl t, .inl m] ∧ (pz_ic M) := by
      have hpre : (match (generalizing := false) a with | [.inr (.inr (11, th)), .inl t, .inl m] => pz_ic M | _ => False) := hpre
      split at hpre
      · exact ⟨_, _, _, rfl, hpre⟩
      · exact hpre.elim
    obtain ⟨k_th, hc_th⟩ := pz_tlm hcan
    have k_th : pz_kd th = 11 ∧ th < 231 := k_th
    have R_th := pz_kd11 k_th.1
    subst R_th
    obtain ⟨k_t, hc_t⟩ := pz_tlm hc_th
    have l_t : -2147483648 ≤ t := k_t.1
    have u_t : t ≤ 2147483647 := k_t.2
    obtain ⟨k_m, hc_m⟩ := pz_tlm hc_t
    have l_m : -2147483648 ≤ m := k_m.1
    have u_m : m ≤ 2147483647 := k_m.2
    have hI : pz_ic M := hpre
    have L32 : ∀ (fu : Nat) (x3 : Int) (x4 : Int) (x5 : Int), (12 - x5).toNat < fu → (0 ≤ x5) → (x5 ≤ M 71 3) → (M 71 3 ≤ 12) → (0 ≤ t ∧ t ≤ 600 ∧ 0 ≤ m ∧ m ≤ 600) → (pz_mo (fun k => M (89 + k) 3) m (M 71 3 - x5).toNat x5.toNat x4 x3 = pz_mo (fun k => M (89 + k) 3) m (M 71 3).toNat 0 t (-1)) → Ok 32 [some (.inr (.inr (11, 0))), some (.inl t), some (.inl m), some (.inl x3), some (.inl x4), some (.inl x5)] [] M := by
      intro fu
      induction fu with
      | zero => exact fun _ _ _ hn => absurd hn (Nat.not_lt_zero _)
      | succ fu ih32 =>
        intro x3 x4 x5 hn32 g32_0 g32_1 g32_2 g32_3 g32_4
        have L73 : ∀ (x3 : Int) (x4 : Int) (x5 : Int), (0 ≤ x5) → (x5 < M 71 3) → (M 71 3 ≤ 12) → ((12 - x5).toNat < fu + 1) → (0 ≤ t ∧ t ≤ 600 ∧ 0 ≤ m ∧ m ≤ 600) → (pz_mo (fun k => M (89 + k) 3) m (M 71 3 - x5 - 1).toNat (x5.toNat + 1) x4 x3 = pz_mo (fun k => M (89 + k) 3) m (M 71 3).toNat 0 t (-1)) → Ok 73 [some (.inr (.inr (11, 0))), some (.inl t), some (.inl m), some (.inl x3), some (.inl x4), some (.inl x5)] [] M := by
          intro x3 x4 x5 g73_0 g73_1 g73_2 g73_3 g73_4 g73_5
          refine hgo (fun p => Nat.beq p 32 || Nat.beq p 73) 44 73 _ _ _ ?_
          intro v73 e73 a73 b73
          try rw [pz_wi (by omega) (by omega)] at e73
          have G73 : pz_mo (fun k => M (89 + k) 3) m (M 71 3 - v73).toNat v73.toNat x4 x3 = pz_mo (fun k => M (89 + k) 3) m (M 71 3).toNat 0 t (-1) := by
            rw [show (M 71 3 - v73).toNat = (M 71 3 - x5 - 1).toNat by omega, show v73.toNat = x5.toNat + 1 by omega]
            exact g73_5
          exact ih32 _ _ _ (by omega) (by first | omega | (rw [show (M 71 3 - 0).toNat = (M 71 3).toNat by omega]; rfl) | exact G73) (by first | omega | (rw [show (M 71 3 - 0).toNat = (M 71 3).toNat by omega]; rfl) | exact G73) (by first | omega | (rw [show (M 71 3 - 0).toNat = (M 71 3).toNat by omega]; rfl) | exact G73) (by first | omega | (rw [show (M 71 3 - 0).toNat = (M 71 3).toNat by omega]; rfl) | exact G73) (by first | omega | (rw [show (M 71 3 - 0).toNat = (M 71 3).toNat by omega]; rfl) | exact G73)
        refine hgo (fun p => Nat.beq p 32 || Nat.beq p 73) 44 32 _ _ _ ?_
        refine pz_nrc (c := 71) rfl ?_
        intro v38 e38 a38 b38
        have I38 := hI.1 71 (by omega) (by omega)
        refine And.intro (fun h41 => ?_) (fun h41 => ?_)
        · skip
          refine And.intro rfl ?_
          refine ⟨?_, rfl⟩
          rw [if_pos g32_3, ← g32_4, pz_mo0 (by omega)]
        · skip
          refine pz_nrc (c := 71) rfl ?_
          refine And.intro (True.intro) ?_
          intro r54 M54 k54 q54
          have R54 := pz_kd5 k54
          obtain ⟨q54, z54⟩ := q54
          subst z54
          have Z54 : r54 = 89 + x5.toNat := by
            rw [if_pos (by omega)] at q54
            rw [q54, pz_rf_l (by omega) (by omega)]
            rfl
          intro v57 e57 a57 b57
          rw [Z54] at e57
          intro v60 e60 a60 b60
          intro v61 e61 a61 b61
          have E61 : v61 = pz_w (x4 + pz_w (10 + M (89 + x5.toNat) 3)) := by
            rw [← e57, ← e60]
            exact e61
          refine And.intro (fun h67 => ?_) (fun h67 => ?_)
          · skip
            have G67 : pz_mo (fun k => M (89 + k) 3) m (M 71 3 - x5 - 1).toNat (x5.toNat + 1) v61 x3 = pz_mo (fun k => M (89 + k) 3) m (M 71 3).toNat 0 t (-1) := Eq.trans (by exact pz_moS (n := (M 71 3 - x5).toNat) (by omega) rfl E61 (by omega)) g32_4
            exact L73 _ _ _ (by first | omega | exact G67) (by first | omega | exact G67) (by first | omega | exact G67) (by first | omega | exact G67) (by first | omega | exact G67) (by first | omega | exact G67)
          · skip
            have G67 : pz_mo (fun k => M (89 + k) 3) m (M 71 3 - x5 - 1).toNat (x5.toNat + 1) v61 x5 = pz_mo (fun k => M (89 + k) 3) m (M 71 3).toNat 0 t (-1) := Eq.trans (by exact pz_moS (n := (M 71 3 - x5).toNat) (by omega) rfl E61 (by omega)) g32_4
            exact L73 _ _ _ (by first | omega | exact G67) (by first | omega | exact G67) (by first | omega | exact G67) (by first | omega | exact G67) (by first | omega | exact G67) (by first | omega | exact G67)
    refine hgo (fun p => Nat.beq p 32 || Nat.beq p 73) 44 0 _ [] M ?_
    refine And.intro (True.intro) ?_
    intro v5 M5 a5 b5 q5
    obtain ⟨q5, z5⟩ := q5
    subst z5
    refine And.intro (fun h8 => ?_) (fun h8 => ?_)
    · skip
      refine And.intro rfl ?_
      refine ⟨?_, rfl⟩
      rw [if_neg]
      intro z
      first
        | (split at q5 <;> split at q16 <;> omega)
        | (split at q5 <;> omega)
    · skip
      refine And.intro (True.intro) ?_
      intro v16 M16 a16 b16 q16
      obtain ⟨q16, z16⟩ := q16
      subst z16
      refine And.intro (fun h19 => ?_) (fun h19 => ?_)
      · skip
        have P19 : 0 ≤ t ∧ t ≤ 600 ∧ 0 ≤ m ∧ m ≤ 600 := by
          split at q5 <;> split at q16 <;> omega
        have I19 := hI.1 71 (by omega) (by omega)
        exact L32 _ _ _ _ (Nat.lt_succ_self _) (by first | omega | (rw [show (M 71 3 - 0).toNat = (M 71 3).toNat by omega]; rfl) | exact G73) (by first | omega | (rw [show (M 71 3 - 0).toNat = (M 71 3).toNat by omega]; rfl) | exact G73) (by first | omega | (rw [show (M 71 3 - 0).toNat = (M 71 3).toNat by omega]; rfl) | exact G73) (by first | omega | (rw [show (M 71 3 - 0).toNat = (M 71 3).toNat by omega]; rfl) | exact G73) (by first | omega | (rw [show (M 71 3 - 0).toNat = (M 71 3).toNat by omega]; rfl) | exact G73)
      · skip
        skip
        refine And.intro rfl ?_
        refine ⟨?_, rfl⟩
        rw [if_neg]
        intro z
        first
          | (split at q5 <;> split at q16 <;> omega)
          | (split at q5 <;> omega)
theorem v_X11_money {fr lo i : Nat} {own : String} (h1 : 1 + 1 ≤ fr) (h2 : 8 + (6 + 11) + 22 ≤ lo) (h3 : .methodLink own i yX11_money ∈ lw_tbl) : pz_cV fr lo own i k_X11_money :=
  pz_cVk (maxL := 6) (fr' := 1) (lo' := 22) 2 11 h_X11_money rfl ⟨by decide +kernel, by decide +kernel, by decide +kernel⟩ ⟨(pz_mt 1028 (by decide +kernel)), (pz_mt 1026 (by decide +kernel)), (pz_mt 1027 (by decide +kernel)), (pz_mt 1 (by decide +kernel))⟩ (Or.inl ⟨TX11, 14, rfl⟩) (fun a M _ h => by
    have h : (match (generalizing := false) a with | [.inr (.inr (11, th)), .inl t, .inl m] => pz_ic M | _ => False) := h
    split at h
    · exact ⟨_, _, rfl⟩
    · exact h.elim) h1 h2 h3
def k_X11_ill : pz_C := (3, 1, fun a M => (match a with | [.inr (.inr (11, th)), .inl a1, .inl k] => pz_ic M | _ => False), fun a M r M' => (match a, r with | [.inr (.inr (11, th)), .inl a1, .inl k], some (.inl v) => (pz_il1 M a1 k v) ∧ M = M' | _, _ => False))
abbrev ct_X11_ill : List (Bool × Nat × pz_C) := [(false, 137, k_X11_within), (true, 322, k_X0_all), (true, 325, k_X10_writers)]
set_option maxRecDepth 100000 in
set_option maxHeartbeats 4000000 in
theorem h_X11_ill : pz_H yX11_ill cX11_ill 3 (some .int) k_X11_ill 2 47 := by
  refine pz_mk (own := RX11) (tb := t_X11_ill) (fl := pz_flf fl_RX11) (ci := pz_cif ci_RX11) (ct := pz_ctf ct_X11_ill) (rz := false) (by decide +kernel) rfl t_X11_ill_ok (pz_flk fl_RX11_ok) (pz_cik ci_RX11_ok) ?_ ?_ (Or.inl ⟨rfl, rfl⟩) ?_ ?_
  · exact fun i k' h => pz_ctk (l := ct_X11_ill) (P := fun b i k => b = true → pz_cV 2 47 RX11 i k) (List.forall_mem_cons.mpr ⟨((fun z => by cases z)), List.forall_mem_cons.mpr ⟨(fun _ => v_X0_all (by decide) (by decide) (pz_mt 1033 (by decide +kernel))), List.forall_mem_cons.mpr ⟨(fun _ => v_X10_writers (by decide) (by decide) (pz_mt 1037 (by decide +kernel))), fun _ h => absurd h List.not_mem_nil⟩⟩⟩) true i k' h rfl
  · exact fun i k' h => pz_ctk (l := ct_X11_ill) (P := fun b i k => b = false → (pz_cS 2 47 RX11 i k ∨ (k = pz_kac ∧ 1 ≤ 2 ∧ 60 ≤ 47 ∧ Cond.methodLink RX11 i arraycopyName ∈ pz_tbl))) (List.forall_mem_cons.mpr ⟨(fun _ => Or.inl (s_X11_within (by decide) (by decide) (Or.inl (pz_mt 425 (by decide +kernel))))), List.forall_mem_cons.mpr ⟨((fun z => by cases z)), List.forall_mem_cons.mpr ⟨((fun z => by cases z)), fun _ h => absurd h List.not_mem_nil⟩⟩⟩) false i k' h rfl
  · intro a M hlen hpre
    obtain ⟨th, a1, k, rfl, hpre⟩ : ∃ th a1 k, a = [.inr (.inr (11, th)), .inl a1, .inl k] ∧ (pz_ic M) := by
      have hpre : (match (generalizing := false) a with | [.inr (.inr (11, th)), .inl a1, .inl k] => pz_ic M | _ => False) := hpre
      split at hpre
      · exact ⟨_, _, _, rfl, hpre⟩
      · exact hpre.elim
    exact Nat.le_of_ble_eq_true rfl
  · intro a M hlen hcan hM hpre Ok hgo
    obtain ⟨th, a1, k, rfl, hpre⟩ : ∃ th a1 k, a = [.inr (.inr (11, th)), .inl a1, .inl k] ∧ (pz_ic M) := by
      have hpre : (match (generalizing := false) a with | [.inr (.inr (11, th)), .inl a1, .inl k] => pz_ic M | _ => False) := hpre
      split at hpre
      · exact ⟨_, _, _, rfl, hpre⟩
      · exact hpre.elim
    obtain ⟨k_th, hc_th⟩ := pz_tlm hcan
    have k_th : pz_kd th = 11 ∧ th < 231 := k_th
    have R_th := pz_kd11 k_th.1
    subst R_th
    obtain ⟨k_a1, hc_a1⟩ := pz_tlm hc_th
    have l_a1 : -2147483648 ≤ a1 := k_a1.1
    have u_a1 : a1 ≤ 2147483647 := k_a1.2
    obtain ⟨k_k, hc_k⟩ := pz_tlm hc_a1
    have l_k : -2147483648 ≤ k := k_k.1
    have u_k : k ≤ 2147483647 := k_k.2
    have hI : pz_ic M := hpre
    refine hgo (fun _ => false) 30 0 _ [] M ?_
    refine And.intro (True.intro) ?_
    intro v5 M5 a5 b5 q5
    obtain ⟨q5, z5⟩ := q5
    subst z5
    refine And.intro (fun h8 => ?_) (fun h8 => ?_)
    · skip
      refine And.intro rfl ?_
      exact ⟨⟨fun _ => rfl, fun y => absurd y (by first | (split at q5 <;> omega) | (split at q5 <;> split at q15 <;> omega))⟩, rfl⟩
    · skip
      refine And.intro (True.intro) ?_
      intro v15 M15 a15 b15 q15
      obtain ⟨q15, z15⟩ := q15
      subst z15
      refine And.intro (fun h18 => ?_) (fun h18 => ?_)
      · skip
        refine pz_nrc (c := 71) rfl ?_
        refine And.intro (hI) ?_
        intro v27 M27 a27 b27 q27
        obtain ⟨q27, z27⟩ := q27
        subst z27
        refine pz_nrc (c := 8) rfl ?_
        intro v37 e37 a37 b37
        intro v39 e39 a39 b39
        refine And.intro (hI) ?_
        intro v40 M40 a40 b40 q40
        obtain ⟨q40, z40⟩ := q40
        subst z40
        have C5 : (0 ≤ a1 ∧ a1 ≤ 999) ∧ 1 ≤ k ∧ k ≤ 30 := by
          split at q5 <;> split at q15 <;> omega
        rw [pz_wi (by omega) (by omega)] at e37
        rw [pz_wi (by omega) (by omega)] at e39
        rw [show v39 = a1 + k - 1 by omega] at q40
        intro v44 e44 a44 b44
        intro v45 e45 a45 b45
        refine And.intro rfl ?_
        have C5 : (0 ≤ a1 ∧ a1 ≤ 999) ∧ 1 ≤ k ∧ k ≤ 30 := by
          split at q5 <;> split at q15 <;> omega
        try rw [pz_wi (by omega) (by omega)] at e37
        try rw [pz_wi (by omega) (by omega)] at e39
        exact ⟨⟨fun y => absurd C5 y, fun _ rows => pz_sb_an q27 (q40 rows) e44 e45⟩, rfl⟩
      · skip
        refine And.intro rfl ?_
        exact ⟨⟨fun _ => rfl, fun y => absurd y (by first | (split at q5 <;> omega) | (split at q5 <;> split at q15 <;> omega))⟩, rfl⟩
theorem v_X11_ill {fr lo i : Nat} {own : String} (h1 : 2 + 1 ≤ fr) (h2 : 8 + (3 + 11) + 47 ≤ lo) (h3 : .methodLink own i yX11_ill ∈ lw_tbl) : pz_cV fr lo own i k_X11_ill :=
  pz_cVk (maxL := 3) (fr' := 2) (lo' := 47) 2 11 h_X11_ill rfl ⟨by decide +kernel, by decide +kernel, by decide +kernel⟩ ⟨(pz_mt 1032 (by decide +kernel)), (pz_mt 1030 (by decide +kernel)), (pz_mt 1031 (by decide +kernel)), (pz_mt 1 (by decide +kernel))⟩ (Or.inl ⟨TX11, 14, rfl⟩) (fun a M _ h => by
    have h : (match (generalizing := false) a with | [.inr (.inr (11, th)), .inl a1, .inl k] => pz_ic M | _ => False) := h
    split at h
    · exact ⟨_, _, rfl⟩
    · exact h.elim) h1 h2 h3
def k_X11_wrote : pz_C := (1, 1, fun a M => (match a with | [.inr (.inr (11, th))] => pz_ic M | _ => False), fun a M r M' => (match a, r with | [.inr (.inr (11, th))], some (.inl v) => (pz_wr1 M v) ∧ M = M' | _, _ => False))
abbrev ct_X11_wrote : List (Bool × Nat × pz_C) := [(true, 325, k_X10_writers), (true, 322, k_X0_all), (false, 244, k_J6_bitCount_0f7a4), (false, 301, k_J9_max_7cf53)]
set_option maxRecDepth 100000 in
set_option maxHeartbeats 4000000 in
theorem h_X11_wrote : pz_H yX11_wrote cX11_wrote 7 (some .int) k_X11_wrote 2 47 := by
  refine pz_mk (own := RX11) (tb := t_X11_wrote) (fl := pz_flf fl_RX11) (ci := pz_cif ci_RX11) (ct := pz_ctf ct_X11_wrote) (rz := false) (by decide +kernel) rfl t_X11_wrote_ok (pz_flk fl_RX11_ok) (pz_cik ci_RX11_ok) ?_ ?_ (Or.inl ⟨rfl, rfl⟩) ?_ ?_
  · exact fun i k' h => pz_ctk (l := ct_X11_wrote) (P := fun b i k => b = true → pz_cV 2 47 RX11 i k) (List.forall_mem_cons.mpr ⟨(fun _ => v_X10_writers (by decide) (by decide) (pz_mt 1037 (by decide +kernel))), List.forall_mem_cons.mpr ⟨(fun _ => v_X0_all (by decide) (by decide) (pz_mt 1033 (by decide +kernel))), List.forall_mem_cons.mpr ⟨((fun z => by cases z)), List.forall_mem_cons.mpr ⟨((fun z => by cases z)), fun _ h => absurd h List.not_mem_nil⟩⟩⟩⟩) true i k' h rfl
  · exact fun i k' h => pz_ctk (l := ct_X11_wrote) (P := fun b i k => b = false → (pz_cS 2 47 RX11 i k ∨ (k = pz_kac ∧ 1 ≤ 2 ∧ 60 ≤ 47 ∧ Cond.methodLink RX11 i arraycopyName ∈ pz_tbl))) (List.forall_mem_cons.mpr ⟨((fun z => by cases z)), List.forall_mem_cons.mpr ⟨((fun z => by cases z)), List.forall_mem_cons.mpr ⟨(fun _ => Or.inl (s_J6_bitCount_0f7a4 (by decide) (by decide) (Or.inl (pz_mt 875 (by decide +kernel))))), List.forall_mem_cons.mpr ⟨(fun _ => Or.inl (s_J9_max_7cf53 (by decide) (by decide) (Or.inl (pz_mt 989 (by decide +kernel))))), fun _ h => absurd h List.not_mem_nil⟩⟩⟩⟩) false i k' h rfl
  · intro a M hlen hpre
    obtain ⟨th, rfl, hpre⟩ : ∃ th, a = [.inr (.inr (11, th))] ∧ (pz_ic M) := by
      have hpre : (match (generalizing := false) a with | [.inr (.inr (11, th))] => pz_ic M | _ => False) := hpre
      split at hpre
      · exact ⟨_, rfl, hpre⟩
      · exact hpre.elim
    exact Nat.le_of_ble_eq_true rfl
  · intro a M hlen hcan hM hpre Ok hgo
    obtain ⟨th, rfl, hpre⟩ : ∃ th, a = [.inr (.inr (11, th))] ∧ (pz_ic M) := by
      have hpre : (match (generalizing := false) a with | [.inr (.inr (11, th))] => pz_ic M | _ => False) := hpre
      split at hpre
      · exact ⟨_, rfl, hpre⟩
      · exact hpre.elim
    obtain ⟨k_th, hc_th⟩ := pz_tlm hcan
    have k_th : pz_kd th = 11 ∧ th < 231 := k_th
    have R_th := pz_kd11 k_th.1
    subst R_th
    have hI : pz_ic M := hpre
    have I71 := hI.1 71 (by omega) (by omega)
    have L23 : ∀ (fu : Nat) (x1 : Int) (x2 : Int) (x3 : Int) (x4 : Int) (d5 : Option pz_V) (d6 : Option pz_V), (100 - x4).toNat < fu → (0 ≤ x4) → (x4 ≤ 100) → (2 ≤ M 71 3) → (pz_wlp (pz_grd M 8) (pz_nrd M 8) (M 71 3).toNat x1 x2 x3 x4) → Ok 23 [some (.inr (.inr (11, 0))), some (.inl x1), some (.inl x2), some (.inl x3), some (.inl x4), d5, d6] [] M := by
      intro fu
      induction fu with
      | zero => exact fun _ _ _ _ _ _ hn => absurd hn (Nat.not_lt_zero _)
      | succ fu ih23 =>
        intro x1 x2 x3 x4 d5 d6 hn23 g23_0 g23_1 g23_2 g23_3
        refine hgo (fun p => Nat.beq p 23) 54 23 _ _ _ ?_
        refine And.intro (fun h27 => ?_) (fun h27 => ?_)
        · skip
          refine And.intro rfl ?_
          refine ⟨⟨fun y => absurd y (by omega), fun _ rows => ?_⟩, rfl⟩
          have f := (g23_3 rows).2
          rcases f with f | f
          · omega
          · rw [f.2.1, show (x4 - 1).toNat = 99 by omega]
        · skip
          refine pz_nrc (c := 8) rfl ?_
          refine And.intro (hI) ?_
          intro v39 M39 a39 b39 q39
          obtain ⟨q39, z39⟩ := q39
          subst z39
          intro v42 e42 a42 b42
          refine pz_nrc (c := 71) rfl ?_
          refine And.intro (hI) ?_
          intro v49 M49 a49 b49 q49
          obtain ⟨q49, z49⟩ := q49
          subst z49
          intro v52 e52 a52 b52
          refine And.intro (True.intro) ?_
          intro v53 M53 a53 b53 q53
          obtain ⟨q53, z53⟩ := q53
          subst z53
          refine pz_nrc (c := 71) rfl ?_
          intro v64 e64 a64 b64
          have I64 := hI.1 71 (by omega) (by omega)
          intro v69 e69 a69 b69
          refine And.intro (True.intro) ?_
          intro v70 M70 a70 b70 q70
          obtain ⟨q70, z70⟩ := q70
          subst z70
          refine And.intro (fun h78 => ?_) (fun h78 => ?_)
          · skip
            intro v87 e87 a87 b87
            try rw [pz_wi (by omega) (by omega)] at e87
            have E69 : v69 = pz_w (((M 71 3).toNat : Int) - v53) := by
              rw [show ((M 71 3).toNat : Int) = v64 by omega]
              exact e69
            first
              | (have G87 : pz_wlp (pz_grd M 8) (pz_nrd M 8) (M 71 3).toNat x4 v70 v42 v87 := pz_wlp_s (by omega) g23_0 (by omega) g23_3 q39 e42 q49 e52 q53 E69 q70 (Or.inl ⟨by omega, rfl, rfl⟩))
              | (have G87 : pz_wlp (pz_grd M 8) (pz_nrd M 8) (M 71 3).toNat x1 x2 v42 v87 := pz_wlp_s (by omega) g23_0 (by omega) g23_3 q39 e42 q49 e52 q53 E69 q70 (Or.inr ⟨by omega, rfl, rfl⟩))
            exact ih23 _ _ _ _ _ _ (by omega) (by first | omega | assumption | exact pz_wlp_0) (by first | omega | assumption | exact pz_wlp_0) (by first | omega | assumption | exact pz_wlp_0) (by first | omega | assumption | exact pz_wlp_0)
          · skip
            intro v87 e87 a87 b87
            try rw [pz_wi (by omega) (by omega)] at e87
            have E69 : v69 = pz_w (((M 71 3).toNat : Int) - v53) := by
              rw [show ((M 71 3).toNat : Int) = v64 by omega]
              exact e69
            first
              | (have G87 : pz_wlp (pz_grd M 8) (pz_nrd M 8) (M 71 3).toNat x4 v70 v42 v87 := pz_wlp_s (by omega) g23_0 (by omega) g23_3 q39 e42 q49 e52 q53 E69 q70 (Or.inl ⟨by omega, rfl, rfl⟩))
              | (have G87 : pz_wlp (pz_grd M 8) (pz_nrd M 8) (M 71 3).toNat x1 x2 v42 v87 := pz_wlp_s (by omega) g23_0 (by omega) g23_3 q39 e42 q49 e52 q53 E69 q70 (Or.inr ⟨by omega, rfl, rfl⟩))
            exact ih23 _ _ _ _ _ _ (by omega) (by first | omega | assumption | exact pz_wlp_0) (by first | omega | assumption | exact pz_wlp_0) (by first | omega | assumption | exact pz_wlp_0) (by first | omega | assumption | exact pz_wlp_0)
    refine hgo (fun p => Nat.beq p 23) 54 0 _ [] M ?_
    refine pz_nrc (c := 71) rfl ?_
    intro v4 e4 a4 b4
    have I4 := hI.1 71 (by omega) (by omega)
    refine And.intro (fun h8 => ?_) (fun h8 => ?_)
    · skip
      exact L23 _ _ _ _ _ _ _ (Nat.lt_succ_self _) (by first | omega | assumption | exact pz_wlp_0) (by first | omega | assumption | exact pz_wlp_0) (by first | omega | assumption | exact pz_wlp_0) (by first | omega | assumption | exact pz_wlp_0)
    · skip
      refine And.intro rfl ?_
      exact ⟨⟨fun _ => rfl, fun y => absurd y (by omega)⟩, rfl⟩
theorem v_X11_wrote {fr lo i : Nat} {own : String} (h1 : 2 + 1 ≤ fr) (h2 : 8 + (7 + 11) + 47 ≤ lo) (h3 : .methodLink own i yX11_wrote ∈ lw_tbl) : pz_cV fr lo own i k_X11_wrote :=
  pz_cVk (maxL := 7) (fr' := 2) (lo' := 47) 0 11 h_X11_wrote rfl ⟨by decide +kernel, by decide +kernel, by decide +kernel⟩ ⟨(pz_mt 1044 (by decide +kernel)), (pz_mt 1042 (by decide +kernel)), (pz_mt 1043 (by decide +kernel)), (pz_mt 1 (by decide +kernel))⟩ (Or.inl ⟨TX11, 14, rfl⟩) (fun a M _ h => by
    have h : (match (generalizing := false) a with | [.inr (.inr (11, th))] => pz_ic M | _ => False) := h
    split at h
    · exact ⟨_, _, rfl⟩
    · exact h.elim) h1 h2 h3
def k_X11_slowest : pz_C := (1, 1, fun a M => (match a with | [.inr (.inr (11, th))] => pz_ic M | _ => False), fun a M r M' => (match a, r with | [.inr (.inr (11, th))], some (.inl v) => (True) ∧ pz_st M M' | _, _ => False))
abbrev ct_X11_slowest : List (Bool × Nat × pz_C) := [(true, 107, k_X0_at), (true, 212, k_X3_tells)]
set_option maxRecDepth 100000 in
set_option maxHeartbeats 4000000 in
theorem h_X11_slowest : pz_H yX11_slowest cX11_slowest 5 (some .int) k_X11_slowest 4 97 := by
  refine pz_mk (own := RX11) (tb := t_X11_slowest) (fl := pz_flf fl_RX11) (ci := pz_cif ci_RX11) (ct := pz_ctf ct_X11_slowest) (rz := false) (by decide +kernel) rfl t_X11_slowest_ok (pz_flk fl_RX11_ok) (pz_cik ci_RX11_ok) ?_ ?_ (Or.inl ⟨rfl, rfl⟩) ?_ ?_
  · exact fun i k' h => pz_ctk (l := ct_X11_slowest) (P := fun b i k => b = true → pz_cV 4 97 RX11 i k) (List.forall_mem_cons.mpr ⟨(fun _ => v_X0_at (by decide) (by decide) (pz_mt 428 (by decide +kernel))), List.forall_mem_cons.mpr ⟨(fun _ => v_X3_tells (by decide) (by decide) (pz_mt 838 (by decide +kernel))), fun _ h => absurd h List.not_mem_nil⟩⟩) true i k' h rfl
  · exact fun i k' h => pz_ctk (l := ct_X11_slowest) (P := fun b i k => b = false → (pz_cS 4 97 RX11 i k ∨ (k = pz_kac ∧ 1 ≤ 4 ∧ 60 ≤ 97 ∧ Cond.methodLink RX11 i arraycopyName ∈ pz_tbl))) (List.forall_mem_cons.mpr ⟨((fun z => by cases z)), List.forall_mem_cons.mpr ⟨((fun z => by cases z)), fun _ h => absurd h List.not_mem_nil⟩⟩) false i k' h rfl
  · intro a M hlen hpre
    obtain ⟨th, rfl, hpre⟩ : ∃ th, a = [.inr (.inr (11, th))] ∧ (pz_ic M) := by
      have hpre : (match (generalizing := false) a with | [.inr (.inr (11, th))] => pz_ic M | _ => False) := hpre
      split at hpre
      · exact ⟨_, rfl, hpre⟩
      · exact hpre.elim
    exact Nat.le_of_ble_eq_true rfl
  · intro a M hlen hcan hM hpre Ok hgo
    obtain ⟨th, rfl, hpre⟩ : ∃ th, a = [.inr (.inr (11, th))] ∧ (pz_ic M) := by
      have hpre : (match (generalizing := false) a with | [.inr (.inr (11, th))] => pz_ic M | _ => False) := hpre
      split at hpre
      · exact ⟨_, rfl, hpre⟩
      · exact hpre.elim
    obtain ⟨k_th, hc_th⟩ := pz_tlm hcan
    have k_th : pz_kd th = 11 ∧ th < 231 := k_th
    have R_th := pz_kd11 k_th.1
    subst R_th
    have hI : pz_ic M := hpre
    have hI0 := hI
    have hS : pz_st M M := pz_st.rf
    have L6 : ∀ (fu : Nat) (x1 : Int) (x2 : Int) (x3 : Int) (d4 : Option pz_V) (N6 : pz_M), (12 - x3).toNat < fu → (pz_st M N6) → (0 ≤ x3) → Ok 6 [some (.inr (.inr (11, 0))), some (.inl x1), some (.inl x2), some (.inl x3), d4] [] N6 := by
      intro fu
      induction fu with
      | zero => exact fun _ _ _ _ _ hn => absurd hn (Nat.not_lt_zero _)
      | succ fu ih6 =>
        intro x1 x2 x3 d4 N6 hn6 hS g6_1
        have hI : pz_ic N6 := hS.1.1 hI0
        have L66 : ∀ (x1 : Int) (x2 : Int) (x3 : Int) (d4 : Option pz_V) (N66 : pz_M), (pz_st M N66) → (0 ≤ x3) → (x3 < 12) → ((12 - x3).toNat < fu + 1) → Ok 66 [some (.inr (.inr (11, 0))), some (.inl x1), some (.inl x2), some (.inl x3), d4] [] N66 := by
          intro x1 x2 x3 d4 N66 hS g66_1 g66_2 g66_3
          have hI : pz_ic N66 := hS.1.1 hI0
          refine hgo (fun p => Nat.beq p 6 || Nat.beq p 66) 43 66 _ _ _ ?_
          intro v66 e66 a66 b66
          try rw [pz_wi (by omega) (by omega)] at e66
          exact ih6 _ _ _ _ _ (by omega) hS (by omega)
        refine hgo (fun p => Nat.beq p 6 || Nat.beq p 66) 43 6 _ _ _ ?_
        intro r8 e8 k8
        have R8 := pz_kd0 k8
        intro v11 e11 a11 b11
        have I11 := hI.1 r8 (by omega) (by omega)
        refine And.intro (fun h14 => ?_) (fun h14 => ?_)
        · skip
          refine And.intro rfl ?_
          exact ⟨trivial, hS⟩
        · skip
          intro r18 e18 k18
          have R18 := pz_kd0 k18
          refine And.intro (True.intro) ?_
          intro r22 M22 k22 q22
          have R22 := pz_kd5 k22
          obtain ⟨q22, z22⟩ := q22
          subst z22
          intro v25 e25 a25 b25
          refine And.intro (fun h29 => ?_) (fun h29 => ?_)
          · skip
            exact L66 _ _ _ _ _ hS (by omega) (by omega) (by omega)
          · skip
            intro r33 e33 k33
            have R33 := pz_kd10 k33
            intro r36 e36 k36
            have R36 := pz_kd3 k36
            intro r41 e41 k41
            have R41 := pz_kd0 k41
            refine And.intro (hI) ?_
            intro v45 M45 a45 b45 q45
            obtain ⟨q45, z45⟩ := q45
            have hS : pz_st M M45 := hS.tr z45
            have hI : pz_ic M45 := hS.1.1 hI0
            refine And.intro (fun h52 => ?_) (fun h52 => ?_)
            · skip
              exact L66 _ _ _ _ _ hS (by omega) (by omega) (by omega)
            · skip
              refine And.intro (fun h58 => ?_) (fun h58 => ?_)
              · skip
                exact L66 _ _ _ _ _ hS (by omega) (by omega) (by omega)
              · skip
                exact L66 _ _ _ _ _ hS (by omega) (by omega) (by omega)
    refine hgo (fun p => Nat.beq p 6 || Nat.beq p 66) 43 0 _ [] M ?_
    exact L6 _ _ _ _ _ _ (Nat.lt_succ_self _) hS (by omega)
theorem v_X11_slowest {fr lo i : Nat} {own : String} (h1 : 4 + 1 ≤ fr) (h2 : 8 + (5 + 11) + 97 ≤ lo) (h3 : .methodLink own i yX11_slowest ∈ lw_tbl) : pz_cV fr lo own i k_X11_slowest :=
  pz_cVk (maxL := 5) (fr' := 4) (lo' := 97) 0 11 h_X11_slowest rfl ⟨by decide +kernel, by decide +kernel, by decide +kernel⟩ ⟨(pz_mt 1048 (by decide +kernel)), (pz_mt 1046 (by decide +kernel)), (pz_mt 1047 (by decide +kernel)), (pz_mt 1 (by decide +kernel))⟩ (Or.inl ⟨TX11, 14, rfl⟩) (fun a M _ h => by
    have h : (match (generalizing := false) a with | [.inr (.inr (11, th))] => pz_ic M | _ => False) := h
    split at h
    · exact ⟨_, _, rfl⟩
    · exact h.elim) h1 h2 h3
def k_X11_heap : pz_C := (2, 1, fun a M => (match a with | [.inr (.inr (11, th)), .inl i] => pz_ic M | _ => False), fun a M r M' => (match a, r with | [.inr (.inr (11, th)), .inl i], some (.inl v) => (True) ∧ M = M' | _, _ => False))
abbrev ct_X11_heap : List (Bool × Nat × pz_C) := [(true, 107, k_X0_at)]
set_option maxRecDepth 100000 in
set_option maxHeartbeats 4000000 in
theorem h_X11_heap : pz_H yX11_heap cX11_heap 3 (some .int) k_X11_heap 1 21 := by
  refine pz_mk (own := RX11) (tb := t_X11_heap) (fl := pz_flf fl_RX11) (ci := pz_cif ci_RX11) (ct := pz_ctf ct_X11_heap) (rz := false) (by decide +kernel) rfl t_X11_heap_ok (pz_flk fl_RX11_ok) (pz_cik ci_RX11_ok) ?_ ?_ (Or.inl ⟨rfl, rfl⟩) ?_ ?_
  · exact fun i k' h => pz_ctk (l := ct_X11_heap) (P := fun b i k => b = true → pz_cV 1 21 RX11 i k) (List.forall_mem_cons.mpr ⟨(fun _ => v_X0_at (by decide) (by decide) (pz_mt 428 (by decide +kernel))), fun _ h => absurd h List.not_mem_nil⟩) true i k' h rfl
  · exact fun i k' h => pz_ctk (l := ct_X11_heap) (P := fun b i k => b = false → (pz_cS 1 21 RX11 i k ∨ (k = pz_kac ∧ 1 ≤ 1 ∧ 60 ≤ 21 ∧ Cond.methodLink RX11 i arraycopyName ∈ pz_tbl))) (List.forall_mem_cons.mpr ⟨((fun z => by cases z)), fun _ h => absurd h List.not_mem_nil⟩) false i k' h rfl
  · intro a M hlen hpre
    obtain ⟨th, i, rfl, hpre⟩ : ∃ th i, a = [.inr (.inr (11, th)), .inl i] ∧ (pz_ic M) := by
      have hpre : (match (generalizing := false) a with | [.inr (.inr (11, th)), .inl i] => pz_ic M | _ => False) := hpre
      split at hpre
      · exact ⟨_, _, rfl, hpre⟩
      · exact hpre.elim
    exact Nat.le_of_ble_eq_true rfl
  · intro a M hlen hcan hM hpre Ok hgo
    obtain ⟨th, i, rfl, hpre⟩ : ∃ th i, a = [.inr (.inr (11, th)), .inl i] ∧ (pz_ic M) := by
      have hpre : (match (generalizing := false) a with | [.inr (.inr (11, th)), .inl i] => pz_ic M | _ => False) := hpre
      split at hpre
      · exact ⟨_, _, rfl, hpre⟩
      · exact hpre.elim
    obtain ⟨k_th, hc_th⟩ := pz_tlm hcan
    have k_th : pz_kd th = 11 ∧ th < 231 := k_th
    have R_th := pz_kd11 k_th.1
    subst R_th
    obtain ⟨k_i, hc_i⟩ := pz_tlm hc_th
    have l_i : -2147483648 ≤ i := k_i.1
    have u_i : i ≤ 2147483647 := k_i.2
    have hI : pz_ic M := hpre
    refine hgo (fun _ => false) 16 0 _ [] M ?_
    intro r1 e1 k1
    have R1 := pz_kd0 k1
    refine And.intro (True.intro) ?_
    intro r5 M5 k5 q5
    have R5 := pz_kd5 k5
    obtain ⟨q5, z5⟩ := q5
    subst z5
    intro v10 e10 a10 b10
    refine And.intro (fun h14 => ?_) (fun h14 => ?_)
    · skip
      refine And.intro rfl ?_
      exact ⟨trivial, rfl⟩
    · skip
      intro v18 e18 a18 b18
      refine And.intro rfl ?_
      exact ⟨trivial, rfl⟩
theorem v_X11_heap {fr lo i : Nat} {own : String} (h1 : 1 + 1 ≤ fr) (h2 : 8 + (3 + 11) + 21 ≤ lo) (h3 : .methodLink own i yX11_heap ∈ lw_tbl) : pz_cV fr lo own i k_X11_heap :=
  pz_cVk (maxL := 3) (fr' := 1) (lo' := 21) 1 11 h_X11_heap rfl ⟨by decide +kernel, by decide +kernel, by decide +kernel⟩ ⟨(pz_mt 1056 (by decide +kernel)), (pz_mt 1055 (by decide +kernel)), (pz_ms 3 (by decide +kernel)), (pz_mt 1 (by decide +kernel))⟩ (Or.inl ⟨TX11, 14, rfl⟩) (fun a M _ h => by
    have h : (match (generalizing := false) a with | [.inr (.inr (11, th)), .inl i] => pz_ic M | _ => False) := h
    split at h
    · exact ⟨_, _, rfl⟩
    · exact h.elim) h1 h2 h3
def k_X11_game : pz_C := (2, 1, fun a M => (match a with | [.inr (.inr (11, th)), .inl w] => pz_ic M | _ => False), fun a M r M' => (match a, r with | [.inr (.inr (11, th)), .inl w], some (.inl v) => (True) ∧ M = M' | _, _ => False))
abbrev ct_X11_game : List (Bool × Nat × pz_C) := [(false, 137, k_X11_within), (true, 328, k_X11_heap), (false, 292, k_J9_min_7cf53)]
set_option maxRecDepth 100000 in
set_option maxHeartbeats 4000000 in
theorem h_X11_game : pz_H yX11_game cX11_game 5 (some .int) k_X11_game 2 43 := by
  refine pz_mk (own := RX11) (tb := t_X11_game) (fl := pz_flf fl_RX11) (ci := pz_cif ci_RX11) (ct := pz_ctf ct_X11_game) (rz := false) (by decide +kernel) rfl t_X11_game_ok (pz_flk fl_RX11_ok) (pz_cik ci_RX11_ok) ?_ ?_ (Or.inl ⟨rfl, rfl⟩) ?_ ?_
  · exact fun i k' h => pz_ctk (l := ct_X11_game) (P := fun b i k => b = true → pz_cV 2 43 RX11 i k) (List.forall_mem_cons.mpr ⟨((fun z => by cases z)), List.forall_mem_cons.mpr ⟨(fun _ => v_X11_heap (by decide) (by decide) (pz_mt 1053 (by decide +kernel))), List.forall_mem_cons.mpr ⟨((fun z => by cases z)), fun _ h => absurd h List.not_mem_nil⟩⟩⟩) true i k' h rfl
  · exact fun i k' h => pz_ctk (l := ct_X11_game) (P := fun b i k => b = false → (pz_cS 2 43 RX11 i k ∨ (k = pz_kac ∧ 1 ≤ 2 ∧ 60 ≤ 43 ∧ Cond.methodLink RX11 i arraycopyName ∈ pz_tbl))) (List.forall_mem_cons.mpr ⟨(fun _ => Or.inl (s_X11_within (by decide) (by decide) (Or.inl (pz_mt 425 (by decide +kernel))))), List.forall_mem_cons.mpr ⟨((fun z => by cases z)), List.forall_mem_cons.mpr ⟨(fun _ => Or.inl (s_J9_min_7cf53 (by decide) (by decide) (Or.inl (pz_mt 979 (by decide +kernel))))), fun _ h => absurd h List.not_mem_nil⟩⟩⟩) false i k' h rfl
  · intro a M hlen hpre
    obtain ⟨th, w, rfl, hpre⟩ : ∃ th w, a = [.inr (.inr (11, th)), .inl w] ∧ (pz_ic M) := by
      have hpre : (match (generalizing := false) a with | [.inr (.inr (11, th)), .inl w] => pz_ic M | _ => False) := hpre
      split at hpre
      · exact ⟨_, _, rfl, hpre⟩
      · exact hpre.elim
    exact Nat.le_of_ble_eq_true rfl
  · intro a M hlen hcan hM hpre Ok hgo
    obtain ⟨th, w, rfl, hpre⟩ : ∃ th w, a = [.inr (.inr (11, th)), .inl w] ∧ (pz_ic M) := by
      have hpre : (match (generalizing := false) a with | [.inr (.inr (11, th)), .inl w] => pz_ic M | _ => False) := hpre
      split at hpre
      · exact ⟨_, _, rfl, hpre⟩
      · exact hpre.elim
    obtain ⟨k_th, hc_th⟩ := pz_tlm hcan
    have k_th : pz_kd th = 11 ∧ th < 231 := k_th
    have R_th := pz_kd11 k_th.1
    subst R_th
    obtain ⟨k_w, hc_w⟩ := pz_tlm hc_th
    have l_w : -2147483648 ≤ w := k_w.1
    have u_w : w ≤ 2147483647 := k_w.2
    have hI : pz_ic M := hpre
    have L44 : ∀ (fo : Nat) (x2 : Int) (x3 : Int) (d4 : Option pz_V), (12 - x3).toNat < fo → (0 ≤ x3) → Ok 44 [some (.inr (.inr (11, 0))), some (.inl w), some (.inl x2), some (.inl x3), d4] [] M := by
      intro fo
      induction fo with
      | zero => exact fun _ _ _ hn => absurd hn (Nat.not_lt_zero _)
      | succ fo ih44 =>
        intro x2 x3 d4 hn44 g44_0
        have L58 : ∀ (fu : Nat) (x2 : Int) (x3 : Int) (x4 : Int), (4 - x4).toNat < fu → (0 ≤ x4) → (0 ≤ x3) → (x3 < 12) → ((12 - x3).toNat < fo + 1) → Ok 58 [some (.inr (.inr (11, 0))), some (.inl w), some (.inl x2), some (.inl x3), some (.inl x4)] [] M := by
          intro fu
          induction fu with
          | zero => exact fun _ _ _ hn => absurd hn (Nat.not_lt_zero _)
          | succ fu ih58 =>
            intro x2 x3 x4 hn58 g58_0 g58_1 g58_2 g58_3
            refine hgo (fun p => Nat.beq p 15 || Nat.beq p 44 || Nat.beq p 58) 72 58 _ _ _ ?_
            refine And.intro (hI) ?_
            intro v63 M63 a63 b63 q63
            obtain ⟨q63, z63⟩ := q63
            subst z63
            refine And.intro (True.intro) ?_
            intro v66 M66 a66 b66 q66
            obtain ⟨q66, z66⟩ := q66
            subst z66
            refine And.intro (fun h69 => ?_) (fun h69 => ?_)
            · skip
              intro v112 e112 a112 b112
              try rw [pz_wi (by omega) (by omega)] at e112
              exact ih44 _ _ _ (by omega) (by omega)
            · skip
              refine And.intro (hI) ?_
              intro v75 M75 a75 b75 q75
              obtain ⟨q75, z75⟩ := q75
              subst z75
              intro v79 e79 a79 b79
              intro v80 e80 a80 b80
              refine And.intro (hI) ?_
              intro v83 M83 a83 b83 q83
              obtain ⟨q83, z83⟩ := q83
              subst z83
              intro v88 e88 a88 b88
              try rw [pz_wi (by omega) (by omega)] at e88
              intro v90 e90 a90 b90
              intro v91 e91 a91 b91
              refine And.intro (fun h92 => ?_) (fun h92 => ?_)
              · skip
                intro v106 e106 a106 b106
                try rw [pz_wi (by omega) (by omega)] at e106
                exact ih58 _ _ _ (by omega) (by omega) (by omega) (by omega) (by omega)
              · skip
                refine And.intro (fun h96 => ?_) (fun h96 => ?_)
                · skip
                  refine And.intro rfl ?_
                  exact ⟨trivial, rfl⟩
                · skip
                  refine And.intro rfl ?_
                  exact ⟨trivial, rfl⟩
        refine hgo (fun p => Nat.beq p 15 || Nat.beq p 44 || Nat.beq p 58) 72 44 _ _ _ ?_
        intro r46 e46 k46
        have R46 := pz_kd0 k46
        intro v49 e49 a49 b49
        have I49 := hI.1 r46 (by omega) (by omega)
        refine And.intro (fun h52 => ?_) (fun h52 => ?_)
        · skip
          refine And.intro rfl ?_
          exact ⟨trivial, rfl⟩
        · skip
          exact L58 _ _ _ _ (Nat.lt_succ_self _) (by omega) (by omega) (by omega) (by omega)
    have L15 : ∀ (fu : Nat) (x2 : Int) (x3 : Int) (d4 : Option pz_V), (12 - x3).toNat < fu → (0 ≤ x3) → Ok 15 [some (.inr (.inr (11, 0))), some (.inl w), some (.inl x2), some (.inl x3), d4] [] M := by
      intro fu
      induction fu with
      | zero => exact fun _ _ _ hn => absurd hn (Nat.not_lt_zero _)
      | succ fu ih15 =>
        intro x2 x3 d4 hn15 g15_0
        refine hgo (fun p => Nat.beq p 15 || Nat.beq p 44 || Nat.beq p 58) 72 15 _ _ _ ?_
        intro r17 e17 k17
        have R17 := pz_kd0 k17
        intro v20 e20 a20 b20
        have I20 := hI.1 r17 (by omega) (by omega)
        refine And.intro (fun h23 => ?_) (fun h23 => ?_)
        · skip
          exact L44 _ _ _ _ (Nat.lt_succ_self _) (by omega)
        · skip
          refine And.intro (hI) ?_
          intro v29 M29 a29 b29 q29
          obtain ⟨q29, z29⟩ := q29
          subst z29
          intro v33 e33 a33 b33
          intro v34 e34 a34 b34
          intro v36 e36 a36 b36
          try rw [pz_wi (by omega) (by omega)] at e36
          exact ih15 _ _ _ (by omega) (by omega)
    refine hgo (fun p => Nat.beq p 15 || Nat.beq p 44 || Nat.beq p 58) 72 0 _ [] M ?_
    refine And.intro (True.intro) ?_
    intro v3 M3 a3 b3 q3
    obtain ⟨q3, z3⟩ := q3
    subst z3
    refine And.intro (fun h6 => ?_) (fun h6 => ?_)
    · skip
      exact L15 _ _ _ _ (Nat.lt_succ_self _) (by omega)
    · skip
      refine And.intro rfl ?_
      exact ⟨trivial, rfl⟩
theorem v_X11_game {fr lo i : Nat} {own : String} (h1 : 2 + 1 ≤ fr) (h2 : 8 + (5 + 11) + 43 ≤ lo) (h3 : .methodLink own i yX11_game ∈ lw_tbl) : pz_cV fr lo own i k_X11_game :=
  pz_cVk (maxL := 5) (fr' := 2) (lo' := 43) 1 11 h_X11_game rfl ⟨by decide +kernel, by decide +kernel, by decide +kernel⟩ ⟨(pz_mt 1052 (by decide +kernel)), (pz_mt 1050 (by decide +kernel)), (pz_mt 1051 (by decide +kernel)), (pz_mt 1 (by decide +kernel))⟩ (Or.inl ⟨TX11, 14, rfl⟩) (fun a M _ h => by
    have h : (match (generalizing := false) a with | [.inr (.inr (11, th)), .inl w] => pz_ic M | _ => False) := h
    split at h
    · exact ⟨_, _, rfl⟩
    · exact h.elim) h1 h2 h3
def k_X11_soon : pz_C := (2, 1, fun a M => (match a with | [.inr (.inr (11, th)), .inl h] => pz_ic M | _ => False), fun a M r M' => (match a, r with | [.inr (.inr (11, th)), .inl h], some (.inl v) => (True) ∧ pz_st M M' | _, _ => False))
abbrev ct_X11_soon : List (Bool × Nat × pz_C) := [(false, 137, k_X11_within), (true, 255, k_X4_reckon), (true, 331, k_X4_oneDayMore), (true, 258, k_X4_oddsOf)]
set_option maxRecDepth 100000 in
set_option maxHeartbeats 4000000 in
theorem h_X11_soon : pz_H yX11_soon cX11_soon 3 (some .int) k_X11_soon 5 120 := by
  refine pz_mk (own := RX11) (tb := t_X11_soon) (fl := pz_flf fl_RX11) (ci := pz_cif ci_RX11) (ct := pz_ctf ct_X11_soon) (rz := false) (by decide +kernel) rfl t_X11_soon_ok (pz_flk fl_RX11_ok) (pz_cik ci_RX11_ok) ?_ ?_ (Or.inl ⟨rfl, rfl⟩) ?_ ?_
  · exact fun i k' h => pz_ctk (l := ct_X11_soon) (P := fun b i k => b = true → pz_cV 5 120 RX11 i k) (List.forall_mem_cons.mpr ⟨((fun z => by cases z)), List.forall_mem_cons.mpr ⟨(fun _ => v_X4_reckon (by decide) (by decide) (pz_mt 884 (by decide +kernel))), List.forall_mem_cons.mpr ⟨(fun _ => v_X4_oneDayMore (by decide) (by decide) (pz_mt 1061 (by decide +kernel))), List.forall_mem_cons.mpr ⟨(fun _ => v_X4_oddsOf (by decide) (by decide) (pz_mt 896 (by decide +kernel))), fun _ h => absurd h List.not_mem_nil⟩⟩⟩⟩) true i k' h rfl
  · exact fun i k' h => pz_ctk (l := ct_X11_soon) (P := fun b i k => b = false → (pz_cS 5 120 RX11 i k ∨ (k = pz_kac ∧ 1 ≤ 5 ∧ 60 ≤ 120 ∧ Cond.methodLink RX11 i arraycopyName ∈ pz_tbl))) (List.forall_mem_cons.mpr ⟨(fun _ => Or.inl (s_X11_within (by decide) (by decide) (Or.inl (pz_mt 425 (by decide +kernel))))), List.forall_mem_cons.mpr ⟨((fun z => by cases z)), List.forall_mem_cons.mpr ⟨((fun z => by cases z)), List.forall_mem_cons.mpr ⟨((fun z => by cases z)), fun _ h => absurd h List.not_mem_nil⟩⟩⟩⟩) false i k' h rfl
  · intro a M hlen hpre
    obtain ⟨th, h, rfl, hpre⟩ : ∃ th h, a = [.inr (.inr (11, th)), .inl h] ∧ (pz_ic M) := by
      have hpre : (match (generalizing := false) a with | [.inr (.inr (11, th)), .inl h] => pz_ic M | _ => False) := hpre
      split at hpre
      · exact ⟨_, _, rfl, hpre⟩
      · exact hpre.elim
    exact Nat.le_of_ble_eq_true rfl
  · intro a M hlen hcan hM hpre Ok hgo
    obtain ⟨th, h, rfl, hpre⟩ : ∃ th h, a = [.inr (.inr (11, th)), .inl h] ∧ (pz_ic M) := by
      have hpre : (match (generalizing := false) a with | [.inr (.inr (11, th)), .inl h] => pz_ic M | _ => False) := hpre
      split at hpre
      · exact ⟨_, _, rfl, hpre⟩
      · exact hpre.elim
    obtain ⟨k_th, hc_th⟩ := pz_tlm hcan
    have k_th : pz_kd th = 11 ∧ th < 231 := k_th
    have R_th := pz_kd11 k_th.1
    subst R_th
    obtain ⟨k_h, hc_h⟩ := pz_tlm hc_th
    have l_h : -2147483648 ≤ h := k_h.1
    have u_h : h ≤ 2147483647 := k_h.2
    have hI : pz_ic M := hpre
    have hI0 := hI
    have hS : pz_st M M := pz_st.rf
    have L27 : ∀ (fu : Nat) (x2 : Int) (N27 : pz_M), (61 - x2).toNat < fu → (pz_st M N27) → (0 ≤ x2) → Ok 27 [some (.inr (.inr (11, 0))), some (.inl h), some (.inl x2)] [] N27 := by
      intro fu
      induction fu with
      | zero => exact fun _ _ hn => absurd hn (Nat.not_lt_zero _)
      | succ fu ih27 =>
        intro x2 N27 hn27 hS g27_1
        have hI : pz_ic N27 := hS.1.1 hI0
        refine hgo (fun p => Nat.beq p 27) 44 27 _ _ _ ?_
        refine And.intro (fun h30 => ?_) (fun h30 => ?_)
        · skip
          refine And.intro rfl ?_
          exact ⟨trivial, hS⟩
        · skip
          intro r34 e34 k34
          have R34 := pz_kd4 k34
          intro r38 e38 k38
          have R38 := pz_kd0 k38
          refine And.intro (hI) ?_
          intro M41 q41
          obtain ⟨q41, z41⟩ := q41
          have hS : pz_st M M41 := hS.tr z41
          have hI : pz_ic M41 := hS.1.1 hI0
          intro r45 e45 k45
          have R45 := pz_kd4 k45
          intro r49 e49 k49
          have R49 := pz_kd0 k49
          intro r54 e54 k54
          have R54 := pz_kd0 k54
          intro v57 e57 a57 b57
          have I57 := hI.1 r54 (by omega) (by omega)
          intro v61 e61 a61 b61
          try rw [pz_wi (by omega) (by omega)] at e61
          refine And.intro (And.intro hI (by omega)) ?_
          intro v62 M62 a62 b62 q62
          obtain ⟨q62, z62⟩ := q62
          subst z62
          refine And.intro (fun h66 => ?_) (fun h66 => ?_)
          · skip
            intro v71 e71 a71 b71
            try rw [pz_wi (by omega) (by omega)] at e71
            exact ih27 _ _ (by omega) hS (by omega)
          · skip
            refine And.intro rfl ?_
            exact ⟨trivial, hS⟩
    refine hgo (fun p => Nat.beq p 27) 44 0 _ [] M ?_
    refine And.intro (True.intro) ?_
    intro v5 M5 a5 b5 q5
    obtain ⟨q5, z5⟩ := q5
    subst z5
    refine And.intro (fun h8 => ?_) (fun h8 => ?_)
    · skip
      intro r14 e14 k14
      have R14 := pz_kd4 k14
      intro r18 e18 k18
      have R18 := pz_kd0 k18
      refine And.intro (hI) ?_
      intro M22 q22
      obtain ⟨q22, z22⟩ := q22
      have hS : pz_st M M22 := hS.tr z22
      have hI : pz_ic M22 := hS.1.1 hI0
      exact L27 _ _ _ (Nat.lt_succ_self _) hS (by omega)
    · skip
      refine And.intro rfl ?_
      exact ⟨trivial, hS⟩
theorem v_X11_soon {fr lo i : Nat} {own : String} (h1 : 5 + 1 ≤ fr) (h2 : 8 + (3 + 11) + 120 ≤ lo) (h3 : .methodLink own i yX11_soon ∈ lw_tbl) : pz_cV fr lo own i k_X11_soon :=
  pz_cVk (maxL := 3) (fr' := 5) (lo' := 120) 1 11 h_X11_soon rfl ⟨by decide +kernel, by decide +kernel, by decide +kernel⟩ ⟨(pz_mt 1060 (by decide +kernel)), (pz_mt 1058 (by decide +kernel)), (pz_mt 1059 (by decide +kernel)), (pz_mt 1 (by decide +kernel))⟩ (Or.inl ⟨TX11, 14, rfl⟩) (fun a M _ h => by
    have h : (match (generalizing := false) a with | [.inr (.inr (11, th)), .inl h] => pz_ic M | _ => False) := h
    split at h
    · exact ⟨_, _, rfl⟩
    · exact h.elim) h1 h2 h3
def k_X11_hurry : pz_C := (3, 1, fun a M => (match a with | [.inr (.inr (11, th)), .inl d, .inl w] => pz_ic M | _ => False), fun a M r M' => (match a, r with | [.inr (.inr (11, th)), .inl d, .inl w], some (.inl v) => (True) ∧ pz_st M M' | _, _ => False))
abbrev ct_X11_hurry : List (Bool × Nat × pz_C) := [(false, 137, k_X11_within), (true, 255, k_X4_reckon), (true, 334, k_X4_oddsHurried)]
set_option maxRecDepth 100000 in
set_option maxHeartbeats 4000000 in
theorem h_X11_hurry : pz_H yX11_hurry cX11_hurry 7 (some .int) k_X11_hurry 5 124 := by
  refine pz_mk (own := RX11) (tb := t_X11_hurry) (fl := pz_flf fl_RX11) (ci := pz_cif ci_RX11) (ct := pz_ctf ct_X11_hurry) (rz := false) (by decide +kernel) rfl t_X11_hurry_ok (pz_flk fl_RX11_ok) (pz_cik ci_RX11_ok) ?_ ?_ (Or.inl ⟨rfl, rfl⟩) ?_ ?_
  · exact fun i k' h => pz_ctk (l := ct_X11_hurry) (P := fun b i k => b = true → pz_cV 5 124 RX11 i k) (List.forall_mem_cons.mpr ⟨((fun z => by cases z)), List.forall_mem_cons.mpr ⟨(fun _ => v_X4_reckon (by decide) (by decide) (pz_mt 884 (by decide +kernel))), List.forall_mem_cons.mpr ⟨(fun _ => v_X4_oddsHurried (by decide) (by decide) (pz_mt 1069 (by decide +kernel))), fun _ h => absurd h List.not_mem_nil⟩⟩⟩) true i k' h rfl
  · exact fun i k' h => pz_ctk (l := ct_X11_hurry) (P := fun b i k => b = false → (pz_cS 5 124 RX11 i k ∨ (k = pz_kac ∧ 1 ≤ 5 ∧ 60 ≤ 124 ∧ Cond.methodLink RX11 i arraycopyName ∈ pz_tbl))) (List.forall_mem_cons.mpr ⟨(fun _ => Or.inl (s_X11_within (by decide) (by decide) (Or.inl (pz_mt 425 (by decide +kernel))))), List.forall_mem_cons.mpr ⟨((fun z => by cases z)), List.forall_mem_cons.mpr ⟨((fun z => by cases z)), fun _ h => absurd h List.not_mem_nil⟩⟩⟩) false i k' h rfl
  · intro a M hlen hpre
    obtain ⟨th, d, w, rfl, hpre⟩ : ∃ th d w, a = [.inr (.inr (11, th)), .inl d, .inl w] ∧ (pz_ic M) := by
      have hpre : (match (generalizing := false) a with | [.inr (.inr (11, th)), .inl d, .inl w] => pz_ic M | _ => False) := hpre
      split at hpre
      · exact ⟨_, _, _, rfl, hpre⟩
      · exact hpre.elim
    exact Nat.le_of_ble_eq_true rfl
  · intro a M hlen hcan hM hpre Ok hgo
    obtain ⟨th, d, w, rfl, hpre⟩ : ∃ th d w, a = [.inr (.inr (11, th)), .inl d, .inl w] ∧ (pz_ic M) := by
      have hpre : (match (generalizing := false) a with | [.inr (.inr (11, th)), .inl d, .inl w] => pz_ic M | _ => False) := hpre
      split at hpre
      · exact ⟨_, _, _, rfl, hpre⟩
      · exact hpre.elim
    obtain ⟨k_th, hc_th⟩ := pz_tlm hcan
    have k_th : pz_kd th = 11 ∧ th < 231 := k_th
    have R_th := pz_kd11 k_th.1
    subst R_th
    obtain ⟨k_d, hc_d⟩ := pz_tlm hc_th
    have l_d : -2147483648 ≤ d := k_d.1
    have u_d : d ≤ 2147483647 := k_d.2
    obtain ⟨k_w, hc_w⟩ := pz_tlm hc_d
    have l_w : -2147483648 ≤ w := k_w.1
    have u_w : w ≤ 2147483647 := k_w.2
    have hI : pz_ic M := hpre
    have hI0 := hI
    have hS : pz_st M M := pz_st.rf
    have L41 : ∀ (fu : Nat) (x3 : Int) (x4 : Int) (x5 : Int) (d6 : Option pz_V) (N41 : pz_M), (12 - x5).toNat < fu → (pz_st M N41) → (0 ≤ x5) → Ok 41 [some (.inr (.inr (11, 0))), some (.inl d), some (.inl w), some (.inl x3), some (.inl x4), some (.inl x5), d6] [] N41 := by
      intro fu
      induction fu with
      | zero => exact fun _ _ _ _ _ hn => absurd hn (Nat.not_lt_zero _)
      | succ fu ih41 =>
        intro x3 x4 x5 d6 N41 hn41 hS g41_1
        have hI : pz_ic N41 := hS.1.1 hI0
        have L83 : ∀ (x3 : Int) (x4 : Int) (x5 : Int) (x6 : Int) (N83 : pz_M), (pz_st M N83) → (0 ≤ x5) → (x5 < 12) → ((12 - x5).toNat < fu + 1) → Ok 83 [some (.inr (.inr (11, 0))), some (.inl d), some (.inl w), some (.inl x3), some (.inl x4), some (.inl x5), some (.inl x6)] [] N83 := by
          intro x3 x4 x5 x6 N83 hS g83_1 g83_2 g83_3
          have hI : pz_ic N83 := hS.1.1 hI0
          refine hgo (fun p => Nat.beq p 41 || Nat.beq p 83) 54 83 _ _ _ ?_
          intro v83 e83 a83 b83
          try rw [pz_wi (by omega) (by omega)] at e83
          exact ih41 _ _ _ _ _ (by omega) hS (by omega)
        refine hgo (fun p => Nat.beq p 41 || Nat.beq p 83) 54 41 _ _ _ ?_
        intro r44 e44 k44
        have R44 := pz_kd0 k44
        intro v47 e47 a47 b47
        have I47 := hI.1 r44 (by omega) (by omega)
        refine And.intro (fun h50 => ?_) (fun h50 => ?_)
        · skip
          refine And.intro (fun h90 => ?_) (fun h90 => ?_)
          · skip
            refine And.intro rfl ?_
            exact ⟨trivial, hS⟩
          · skip
            refine And.intro rfl ?_
            exact ⟨trivial, hS⟩
        · skip
          intro r54 e54 k54
          have R54 := pz_kd4 k54
          intro r58 e58 k58
          have R58 := pz_kd0 k58
          refine And.intro (hI) ?_
          intro v64 M64 a64 b64 q64
          obtain ⟨q64, z64⟩ := q64
          have hS : pz_st M M64 := hS.tr z64
          have hI : pz_ic M64 := hS.1.1 hI0
          refine And.intro (fun h73 => ?_) (fun h73 => ?_)
          · skip
            exact L83 _ _ _ _ _ hS (by omega) (by omega) (by omega)
          · skip
            exact L83 _ _ _ _ _ hS (by omega) (by omega) (by omega)
    refine hgo (fun p => Nat.beq p 41 || Nat.beq p 83) 54 0 _ [] M ?_
    refine And.intro (True.intro) ?_
    intro v4 M4 a4 b4 q4
    obtain ⟨q4, z4⟩ := q4
    subst z4
    refine And.intro (fun h7 => ?_) (fun h7 => ?_)
    · skip
      refine And.intro rfl ?_
      exact ⟨trivial, hS⟩
    · skip
      refine And.intro (True.intro) ?_
      intro v13 M13 a13 b13 q13
      obtain ⟨q13, z13⟩ := q13
      subst z13
      refine And.intro (fun h16 => ?_) (fun h16 => ?_)
      · skip
        intro r27 e27 k27
        have R27 := pz_kd4 k27
        intro r31 e31 k31
        have R31 := pz_kd0 k31
        refine And.intro (hI) ?_
        intro M35 q35
        obtain ⟨q35, z35⟩ := q35
        have hS : pz_st M M35 := hS.tr z35
        have hI : pz_ic M35 := hS.1.1 hI0
        exact L41 _ _ _ _ _ _ (Nat.lt_succ_self _) hS (by omega)
      · skip
        refine And.intro rfl ?_
        exact ⟨trivial, hS⟩
theorem v_X11_hurry {fr lo i : Nat} {own : String} (h1 : 5 + 1 ≤ fr) (h2 : 8 + (7 + 11) + 124 ≤ lo) (h3 : .methodLink own i yX11_hurry ∈ lw_tbl) : pz_cV fr lo own i k_X11_hurry :=
  pz_cVk (maxL := 7) (fr' := 5) (lo' := 124) 2 11 h_X11_hurry rfl ⟨by decide +kernel, by decide +kernel, by decide +kernel⟩ ⟨(pz_mt 1068 (by decide +kernel)), (pz_mt 1066 (by decide +kernel)), (pz_mt 1067 (by decide +kernel)), (pz_mt 1 (by decide +kernel))⟩ (Or.inl ⟨TX11, 14, rfl⟩) (fun a M _ h => by
    have h : (match (generalizing := false) a with | [.inr (.inr (11, th)), .inl d, .inl w] => pz_ic M | _ => False) := h
    split at h
    · exact ⟨_, _, rfl⟩
    · exact h.elim) h1 h2 h3
def k_X11_split : pz_C := (3, 1, fun a M => (match a with | [.inr (.inr (11, th)), .inl d, .inl w] => pz_ic M | _ => False), fun a M r M' => (match a, r with | [.inr (.inr (11, th)), .inl d, .inl w], some (.inl v) => (True) ∧ pz_st M M' | _, _ => False))
abbrev ct_X11_split : List (Bool × Nat × pz_C) := [(false, 137, k_X11_within), (true, 337, k_X0_bridgedOnes), (true, 255, k_X4_reckon), (true, 340, k_X4_reckonSpans), (true, 153, k_X0_canBridge), (true, 343, k_X4_leastOdds)]
set_option maxRecDepth 100000 in
set_option maxHeartbeats 4000000 in
theorem h_X11_split : pz_H yX11_split cX11_split 8 (some .int) k_X11_split 5 120 := by
  refine pz_mk (own := RX11) (tb := t_X11_split) (fl := pz_flf fl_RX11) (ci := pz_cif ci_RX11) (ct := pz_ctf ct_X11_split) (rz := false) (by decide +kernel) rfl t_X11_split_ok (pz_flk fl_RX11_ok) (pz_cik ci_RX11_ok) ?_ ?_ (Or.inl ⟨rfl, rfl⟩) ?_ ?_
  · exact fun i k' h => pz_ctk (l := ct_X11_split) (P := fun b i k => b = true → pz_cV 5 120 RX11 i k) (List.forall_mem_cons.mpr ⟨((fun z => by cases z)), List.forall_mem_cons.mpr ⟨(fun _ => v_X0_bridgedOnes (by decide) (by decide) (pz_mt 1078 (by decide +kernel))), List.forall_mem_cons.mpr ⟨(fun _ => v_X4_reckon (by decide) (by decide) (pz_mt 884 (by decide +kernel))), List.forall_mem_cons.mpr ⟨(fun _ => v_X4_reckonSpans (by decide) (by decide) (pz_mt 1079 (by decide +kernel))), List.forall_mem_cons.mpr ⟨(fun _ => v_X0_canBridge (by decide) (by decide) (pz_mt 525 (by decide +kernel))), List.forall_mem_cons.mpr ⟨(fun _ => v_X4_leastOdds (by decide) (by decide) (pz_mt 1080 (by decide +kernel))), fun _ h => absurd h List.not_mem_nil⟩⟩⟩⟩⟩⟩) true i k' h rfl
  · exact fun i k' h => pz_ctk (l := ct_X11_split) (P := fun b i k => b = false → (pz_cS 5 120 RX11 i k ∨ (k = pz_kac ∧ 1 ≤ 5 ∧ 60 ≤ 120 ∧ Cond.methodLink RX11 i arraycopyName ∈ pz_tbl))) (List.forall_mem_cons.mpr ⟨(fun _ => Or.inl (s_X11_within (by decide) (by decide) (Or.inl (pz_mt 425 (by decide +kernel))))), List.forall_mem_cons.mpr ⟨((fun z => by cases z)), List.forall_mem_cons.mpr ⟨((fun z => by cases z)), List.forall_mem_cons.mpr ⟨((fun z => by cases z)), List.forall_mem_cons.mpr ⟨((fun z => by cases z)), List.forall_mem_cons.mpr ⟨((fun z => by cases z)), fun _ h => absurd h List.not_mem_nil⟩⟩⟩⟩⟩⟩) false i k' h rfl
  · intro a M hlen hpre
    obtain ⟨th, d, w, rfl, hpre⟩ : ∃ th d w, a = [.inr (.inr (11, th)), .inl d, .inl w] ∧ (pz_ic M) := by
      have hpre : (match (generalizing := false) a with | [.inr (.inr (11, th)), .inl d, .inl w] => pz_ic M | _ => False) := hpre
      split at hpre
      · exact ⟨_, _, _, rfl, hpre⟩
      · exact hpre.elim
    exact Nat.le_of_ble_eq_true rfl
  · intro a M hlen hcan hM hpre Ok hgo
    obtain ⟨th, d, w, rfl, hpre⟩ : ∃ th d w, a = [.inr (.inr (11, th)), .inl d, .inl w] ∧ (pz_ic M) := by
      have hpre : (match (generalizing := false) a with | [.inr (.inr (11, th)), .inl d, .inl w] => pz_ic M | _ => False) := hpre
      split at hpre
      · exact ⟨_, _, _, rfl, hpre⟩
      · exact hpre.elim
    obtain ⟨k_th, hc_th⟩ := pz_tlm hcan
    have k_th : pz_kd th = 11 ∧ th < 231 := k_th
    have R_th := pz_kd11 k_th.1
    subst R_th
    obtain ⟨k_d, hc_d⟩ := pz_tlm hc_th
    have l_d : -2147483648 ≤ d := k_d.1
    have u_d : d ≤ 2147483647 := k_d.2
    obtain ⟨k_w, hc_w⟩ := pz_tlm hc_d
    have l_w : -2147483648 ≤ w := k_w.1
    have u_w : w ≤ 2147483647 := k_w.2
    have hI : pz_ic M := hpre
    have hI0 := hI
    have hS : pz_st M M := pz_st.rf
    have L61 : ∀ (fu : Nat) (x3 : Int) (x4 : Int) (x5 : Int) (x6 : Int) (d7 : Option pz_V) (N61 : pz_M), (12 - x6).toNat < fu → (pz_st M N61) → (0 ≤ x6) → Ok 61 [some (.inr (.inr (11, 0))), some (.inl d), some (.inl w), some (.inl x3), some (.inl x4), some (.inl x5), some (.inl x6), d7] [] N61 := by
      intro fu
      induction fu with
      | zero => exact fun _ _ _ _ _ _ hn => absurd hn (Nat.not_lt_zero _)
      | succ fu ih61 =>
        intro x3 x4 x5 x6 d7 N61 hn61 hS g61_1
        have hI : pz_ic N61 := hS.1.1 hI0
        have L119 : ∀ (x3 : Int) (x4 : Int) (x5 : Int) (x6 : Int) (d7 : Option pz_V) (N119 : pz_M), (pz_st M N119) → (0 ≤ x6) → (x6 < 12) → ((12 - x6).toNat < fu + 1) → Ok 119 [some (.inr (.inr (11, 0))), some (.inl d), some (.inl w), some (.inl x3), some (.inl x4), some (.inl x5), some (.inl x6), d7] [] N119 := by
          intro x3 x4 x5 x6 d7 N119 hS g119_1 g119_2 g119_3
          have hI : pz_ic N119 := hS.1.1 hI0
          refine hgo (fun p => Nat.beq p 61 || Nat.beq p 119) 71 119 _ _ _ ?_
          intro v119 e119 a119 b119
          try rw [pz_wi (by omega) (by omega)] at e119
          exact ih61 _ _ _ _ _ _ (by omega) hS (by omega)
        refine hgo (fun p => Nat.beq p 61 || Nat.beq p 119) 71 61 _ _ _ ?_
        intro r64 e64 k64
        have R64 := pz_kd0 k64
        intro v67 e67 a67 b67
        have I67 := hI.1 r64 (by omega) (by omega)
        refine And.intro (fun h70 => ?_) (fun h70 => ?_)
        · skip
          refine And.intro (fun h126 => ?_) (fun h126 => ?_)
          · skip
            refine And.intro rfl ?_
            exact ⟨trivial, hS⟩
          · skip
            refine And.intro rfl ?_
            exact ⟨trivial, hS⟩
        · skip
          intro r74 e74 k74
          have R74 := pz_kd0 k74
          refine And.intro (hI) ?_
          intro v79 M79 a79 b79 q79
          obtain ⟨q79, z79⟩ := q79
          subst z79
          refine And.intro (fun h82 => ?_) (fun h82 => ?_)
          · skip
            exact L119 _ _ _ _ _ _ hS (by omega) (by omega) (by omega)
          · skip
            intro r86 e86 k86
            have R86 := pz_kd4 k86
            intro r90 e90 k90
            have R90 := pz_kd0 k90
            intro v98 e98 a98 b98
            intro v99 e99 a99 b99
            refine And.intro (hI) ?_
            intro v100 M100 a100 b100 q100
            obtain ⟨q100, z100⟩ := q100
            subst z100
            refine And.intro (fun h109 => ?_) (fun h109 => ?_)
            · skip
              exact L119 _ _ _ _ _ _ hS (by omega) (by omega) (by omega)
            · skip
              exact L119 _ _ _ _ _ _ hS (by omega) (by omega) (by omega)
    refine hgo (fun p => Nat.beq p 61 || Nat.beq p 119) 71 0 _ [] M ?_
    refine And.intro (True.intro) ?_
    intro v4 M4 a4 b4 q4
    obtain ⟨q4, z4⟩ := q4
    subst z4
    refine And.intro (fun h7 => ?_) (fun h7 => ?_)
    · skip
      refine And.intro rfl ?_
      exact ⟨trivial, hS⟩
    · skip
      refine And.intro (True.intro) ?_
      intro v13 M13 a13 b13 q13
      obtain ⟨q13, z13⟩ := q13
      subst z13
      refine And.intro (fun h16 => ?_) (fun h16 => ?_)
      · skip
        intro r27 e27 k27
        have R27 := pz_kd0 k27
        refine And.intro (hI) ?_
        intro v30 M30 a30 b30 q30
        obtain ⟨q30, z30⟩ := q30
        subst z30
        intro r36 e36 k36
        have R36 := pz_kd4 k36
        intro r40 e40 k40
        have R40 := pz_kd0 k40
        refine And.intro (hI) ?_
        intro M44 q44
        obtain ⟨q44, z44⟩ := q44
        have hS : pz_st M M44 := hS.tr z44
        have hI : pz_ic M44 := hS.1.1 hI0
        intro r48 e48 k48
        have R48 := pz_kd4 k48
        intro r52 e52 k52
        have R52 := pz_kd0 k52
        refine And.intro (hI) ?_
        intro M55 q55
        obtain ⟨q55, z55⟩ := q55
        have hS : pz_st M M55 := hS.tr z55
        have hI : pz_ic M55 := hS.1.1 hI0
        exact L61 _ _ _ _ _ _ _ (Nat.lt_succ_self _) hS (by omega)
      · skip
        refine And.intro rfl ?_
        exact ⟨trivial, hS⟩
theorem v_X11_split {fr lo i : Nat} {own : String} (h1 : 5 + 1 ≤ fr) (h2 : 8 + (8 + 11) + 120 ≤ lo) (h3 : .methodLink own i yX11_split ∈ lw_tbl) : pz_cV fr lo own i k_X11_split :=
  pz_cVk (maxL := 8) (fr' := 5) (lo' := 120) 2 11 h_X11_split rfl ⟨by decide +kernel, by decide +kernel, by decide +kernel⟩ ⟨(pz_mt 1077 (by decide +kernel)), (pz_mt 1075 (by decide +kernel)), (pz_mt 1076 (by decide +kernel)), (pz_mt 1 (by decide +kernel))⟩ (Or.inl ⟨TX11, 14, rfl⟩) (fun a M _ h => by
    have h : (match (generalizing := false) a with | [.inr (.inr (11, th)), .inl d, .inl w] => pz_ic M | _ => False) := h
    split at h
    · exact ⟨_, _, rfl⟩
    · exact h.elim) h1 h2 h3
def k_X11_gap : pz_C := (2, 1, fun a M => (match a with | [.inr (.inr (11, th)), .inl i] => pz_ic M | _ => False), fun a M r M' => (match a, r with | [.inr (.inr (11, th)), .inl i], some (.inl v) => (True) ∧ M = M' | _, _ => False))
abbrev ct_X11_gap : List (Bool × Nat × pz_C) := [(true, 118, k_X0_has), (true, 346, k_X0_lackOfMoney)]
set_option maxRecDepth 100000 in
set_option maxHeartbeats 4000000 in
theorem h_X11_gap : pz_H yX11_gap cX11_gap 2 (some .int) k_X11_gap 2 43 := by
  refine pz_mk (own := RX11) (tb := t_X11_gap) (fl := pz_flf fl_RX11) (ci := pz_cif ci_RX11) (ct := pz_ctf ct_X11_gap) (rz := false) (by decide +kernel) rfl t_X11_gap_ok (pz_flk fl_RX11_ok) (pz_cik ci_RX11_ok) ?_ ?_ (Or.inl ⟨rfl, rfl⟩) ?_ ?_
  · exact fun i k' h => pz_ctk (l := ct_X11_gap) (P := fun b i k => b = true → pz_cV 2 43 RX11 i k) (List.forall_mem_cons.mpr ⟨(fun _ => v_X0_has (by decide) (by decide) (pz_mt 444 (by decide +kernel))), List.forall_mem_cons.mpr ⟨(fun _ => v_X0_lackOfMoney (by decide) (by decide) (pz_mt 1085 (by decide +kernel))), fun _ h => absurd h List.not_mem_nil⟩⟩) true i k' h rfl
  · exact fun i k' h => pz_ctk (l := ct_X11_gap) (P := fun b i k => b = false → (pz_cS 2 43 RX11 i k ∨ (k = pz_kac ∧ 1 ≤ 2 ∧ 60 ≤ 43 ∧ Cond.methodLink RX11 i arraycopyName ∈ pz_tbl))) (List.forall_mem_cons.mpr ⟨((fun z => by cases z)), List.forall_mem_cons.mpr ⟨((fun z => by cases z)), fun _ h => absurd h List.not_mem_nil⟩⟩) false i k' h rfl
  · intro a M hlen hpre
    obtain ⟨th, i, rfl, hpre⟩ : ∃ th i, a = [.inr (.inr (11, th)), .inl i] ∧ (pz_ic M) := by
      have hpre : (match (generalizing := false) a with | [.inr (.inr (11, th)), .inl i] => pz_ic M | _ => False) := hpre
      split at hpre
      · exact ⟨_, _, rfl, hpre⟩
      · exact hpre.elim
    exact Nat.le_of_ble_eq_true rfl
  · intro a M hlen hcan hM hpre Ok hgo
    obtain ⟨th, i, rfl, hpre⟩ : ∃ th i, a = [.inr (.inr (11, th)), .inl i] ∧ (pz_ic M) := by
      have hpre : (match (generalizing := false) a with | [.inr (.inr (11, th)), .inl i] => pz_ic M | _ => False) := hpre
      split at hpre
      · exact ⟨_, _, rfl, hpre⟩
      · exact hpre.elim
    obtain ⟨k_th, hc_th⟩ := pz_tlm hcan
    have k_th : pz_kd th = 11 ∧ th < 231 := k_th
    have R_th := pz_kd11 k_th.1
    subst R_th
    obtain ⟨k_i, hc_i⟩ := pz_tlm hc_th
    have l_i : -2147483648 ≤ i := k_i.1
    have u_i : i ≤ 2147483647 := k_i.2
    have hI : pz_ic M := hpre
    refine hgo (fun _ => false) 14 0 _ [] M ?_
    intro r1 e1 k1
    have R1 := pz_kd0 k1
    refine And.intro (True.intro) ?_
    intro v5 M5 a5 b5 q5
    obtain ⟨q5, z5⟩ := q5
    subst z5
    refine And.intro (fun h8 => ?_) (fun h8 => ?_)
    · skip
      refine And.intro rfl ?_
      exact ⟨trivial, rfl⟩
    · skip
      intro r12 e12 k12
      have R12 := pz_kd0 k12
      refine And.intro (hI) ?_
      intro v16 M16 a16 b16 q16
      obtain ⟨q16, z16⟩ := q16
      subst z16
      refine And.intro rfl ?_
      exact ⟨trivial, rfl⟩
theorem v_X11_gap {fr lo i : Nat} {own : String} (h1 : 2 + 1 ≤ fr) (h2 : 8 + (2 + 11) + 43 ≤ lo) (h3 : .methodLink own i yX11_gap ∈ lw_tbl) : pz_cV fr lo own i k_X11_gap :=
  pz_cVk (maxL := 2) (fr' := 2) (lo' := 43) 1 11 h_X11_gap rfl ⟨by decide +kernel, by decide +kernel, by decide +kernel⟩ ⟨(pz_mt 1084 (by decide +kernel)), (pz_mt 1082 (by decide +kernel)), (pz_mt 1083 (by decide +kernel)), (pz_mt 1 (by decide +kernel))⟩ (Or.inl ⟨TX11, 14, rfl⟩) (fun a M _ h => by
    have h : (match (generalizing := false) a with | [.inr (.inr (11, th)), .inl i] => pz_ic M | _ => False) := h
    split at h
    · exact ⟨_, _, rfl⟩
    · exact h.elim) h1 h2 h3
def k_X11_runs : pz_C := (2, 1, fun a M => (match a with | [.inr (.inr (11, th)), .inl w] => pz_ic M | _ => False), fun a M r M' => (match a, r with | [.inr (.inr (11, th)), .inl w], some (.inl v) => (True) ∧ M = M' | _, _ => False))
abbrev ct_X11_runs : List (Bool × Nat × pz_C) := [(true, 107, k_X0_at), (true, 297, k_X5_isIn), (true, 218, k_X0_canPay)]
set_option maxRecDepth 100000 in
set_option maxHeartbeats 4000000 in
theorem h_X11_runs : pz_H yX11_runs cX11_runs 9 (some .int) k_X11_runs 3 64 := by
  refine pz_mk (own := RX11) (tb := t_X11_runs) (fl := pz_flf fl_RX11) (ci := pz_cif ci_RX11) (ct := pz_ctf ct_X11_runs) (rz := false) (by decide +kernel) rfl t_X11_runs_ok (pz_flk fl_RX11_ok) (pz_cik ci_RX11_ok) ?_ ?_ (Or.inl ⟨rfl, rfl⟩) ?_ ?_
  · exact fun i k' h => pz_ctk (l := ct_X11_runs) (P := fun b i k => b = true → pz_cV 3 64 RX11 i k) (List.forall_mem_cons.mpr ⟨(fun _ => v_X0_at (by decide) (by decide) (pz_mt 428 (by decide +kernel))), List.forall_mem_cons.mpr ⟨(fun _ => v_X5_isIn (by decide) (by decide) (pz_mt 984 (by decide +kernel))), List.forall_mem_cons.mpr ⟨(fun _ => v_X0_canPay (by decide) (by decide) (pz_mt 839 (by decide +kernel))), fun _ h => absurd h List.not_mem_nil⟩⟩⟩) true i k' h rfl
  · exact fun i k' h => pz_ctk (l := ct_X11_runs) (P := fun b i k => b = false → (pz_cS 3 64 RX11 i k ∨ (k = pz_kac ∧ 1 ≤ 3 ∧ 60 ≤ 64 ∧ Cond.methodLink RX11 i arraycopyName ∈ pz_tbl))) (List.forall_mem_cons.mpr ⟨((fun z => by cases z)), List.forall_mem_cons.mpr ⟨((fun z => by cases z)), List.forall_mem_cons.mpr ⟨((fun z => by cases z)), fun _ h => absurd h List.not_mem_nil⟩⟩⟩) false i k' h rfl
  · intro a M hlen hpre
    obtain ⟨th, w, rfl, hpre⟩ : ∃ th w, a = [.inr (.inr (11, th)), .inl w] ∧ (pz_ic M) := by
      have hpre : (match (generalizing := false) a with | [.inr (.inr (11, th)), .inl w] => pz_ic M | _ => False) := hpre
      split at hpre
      · exact ⟨_, _, rfl, hpre⟩
      · exact hpre.elim
    exact Nat.le_of_ble_eq_true rfl
  · intro a M hlen hcan hM hpre Ok hgo
    obtain ⟨th, w, rfl, hpre⟩ : ∃ th w, a = [.inr (.inr (11, th)), .inl w] ∧ (pz_ic M) := by
      have hpre : (match (generalizing := false) a with | [.inr (.inr (11, th)), .inl w] => pz_ic M | _ => False) := hpre
      split at hpre
      · exact ⟨_, _, rfl, hpre⟩
      · exact hpre.elim
    obtain ⟨k_th, hc_th⟩ := pz_tlm hcan
    have k_th : pz_kd th = 11 ∧ th < 231 := k_th
    have R_th := pz_kd11 k_th.1
    subst R_th
    obtain ⟨k_w, hc_w⟩ := pz_tlm hc_th
    have l_w : -2147483648 ≤ w := k_w.1
    have u_w : w ≤ 2147483647 := k_w.2
    have hI : pz_ic M := hpre
    have L13 : ∀ (fu : Nat) (x2 : Int) (x3 : Int) (x4 : Int) (x5 : Int) (x6 : Int) (d7 : Option pz_V) (d8 : Option pz_V), (12 - x6).toNat < fu → (0 ≤ x6) → (0 ≤ x5) → (x5 ≤ x6) → Ok 13 [some (.inr (.inr (11, 0))), some (.inl w), some (.inl x2), some (.inl x3), some (.inl x4), some (.inl x5), some (.inl x6), d7, d8] [] M := by
      intro fu
      induction fu with
      | zero => exact fun _ _ _ _ _ _ _ hn => absurd hn (Nat.not_lt_zero _)
      | succ fu ih13 =>
        intro x2 x3 x4 x5 x6 d7 d8 hn13 g13_0 g13_1 g13_2
        have L130 : ∀ (x2 : Int) (x3 : Int) (x4 : Int) (x5 : Int) (x6 : Int) (r7 : Nat) (x8 : Int), (pz_kd r7 = 5) → (0 ≤ x6) → (x6 < 12) → (0 ≤ x5) → (x5 ≤ x6 + 1) → ((12 - x6).toNat < fu + 1) → Ok 130 [some (.inr (.inr (11, 0))), some (.inl w), some (.inl x2), some (.inl x3), some (.inl x4), some (.inl x5), some (.inl x6), some (.inr (.inr (5, r7))), some (.inl x8)] [] M := by
          intro x2 x3 x4 x5 x6 r7 x8 K_r7 g130_1 g130_2 g130_3 g130_4 g130_5
          have R_r7 := pz_kd5 K_r7
          refine hgo (fun p => Nat.beq p 13 || Nat.beq p 61 || Nat.beq p 76 || Nat.beq p 95 || Nat.beq p 130) 80 130 _ _ _ ?_
          intro v130 e130 a130 b130
          try rw [pz_wi (by omega) (by omega)] at e130
          exact ih13 _ _ _ _ _ _ _ (by omega) (by omega) (by omega) (by omega)
        have L95 : ∀ (x2 : Int) (x3 : Int) (x4 : Int) (x5 : Int) (x6 : Int) (r7 : Nat) (x8 : Int), (pz_kd r7 = 5) → (0 ≤ x6) → (x6 < 12) → (0 ≤ x5) → (x5 ≤ x6 + 1) → ((12 - x6).toNat < fu + 1) → Ok 95 [some (.inr (.inr (11, 0))), some (.inl w), some (.inl x2), some (.inl x3), some (.inl x4), some (.inl x5), some (.inl x6), some (.inr (.inr (5, r7))), some (.inl x8)] [] M := by
          intro x2 x3 x4 x5 x6 r7 x8 K_r7 g95_1 g95_2 g95_3 g95_4 g95_5
          have R_r7 := pz_kd5 K_r7
          refine hgo (fun p => Nat.beq p 13 || Nat.beq p 61 || Nat.beq p 76 || Nat.beq p 95 || Nat.beq p 130) 80 95 _ _ _ ?_
          refine And.intro (fun h97 => ?_) (fun h97 => ?_)
          · skip
            exact L130 _ _ _ _ _ _ _ (by first | assumption | rfl) (by omega) (by omega) (by omega) (by omega) (by omega)
          · skip
            refine And.intro (fun h103 => ?_) (fun h103 => ?_)
            · skip
              exact L130 _ _ _ _ _ _ _ (by first | assumption | rfl) (by omega) (by omega) (by omega) (by omega) (by omega)
            · skip
              intro v108 e108 a108 b108
              intro r112 e112 k112
              have R112 := pz_kd0 k112
              refine And.intro (True.intro) ?_
              intro r117 M117 k117 q117
              have R117 := pz_kd5 k117
              obtain ⟨q117, z117⟩ := q117
              subst z117
              intro v120 e120 a120 b120
              refine And.intro (fun h123 => ?_) (fun h123 => ?_)
              · skip
                exact L130 _ _ _ _ _ _ _ (by first | assumption | rfl) (by omega) (by omega) (by omega) (by omega) (by omega)
              · skip
                exact L130 _ _ _ _ _ _ _ (by first | assumption | rfl) (by omega) (by omega) (by omega) (by omega) (by omega)
        have L76 : ∀ (x2 : Int) (x3 : Int) (x4 : Int) (x5 : Int) (x6 : Int) (r7 : Nat) (x8 : Int) (s0 : Int), (pz_kd r7 = 5) → (0 ≤ x6) → (x6 < 12) → (0 ≤ s0) → (s0 ≤ x6 + 1) → ((12 - x6).toNat < fu + 1) → Ok 76 [some (.inr (.inr (11, 0))), some (.inl w), some (.inl x2), some (.inl x3), some (.inl x4), some (.inl x5), some (.inl x6), some (.inr (.inr (5, r7))), some (.inl x8)] [.inl s0] M := by
          intro x2 x3 x4 x5 x6 r7 x8 s0 K_r7 g76_1 g76_2 g76_3 g76_4 g76_5
          have R_r7 := pz_kd5 K_r7
          refine hgo (fun p => Nat.beq p 13 || Nat.beq p 61 || Nat.beq p 76 || Nat.beq p 95 || Nat.beq p 130) 80 76 _ _ _ ?_
          refine And.intro (fun h81 => ?_) (fun h81 => ?_)
          · skip
            exact L95 _ _ _ _ _ _ _ (by first | assumption | rfl) (by omega) (by omega) (by omega) (by omega) (by omega)
          · skip
            intro v91 e91 a91 b91
            try rw [pz_wi (by omega) (by omega)] at e91
            intro v93 e93 a93 b93
            try rw [pz_wi (by omega) (by omega)] at e93
            exact L95 _ _ _ _ _ _ _ (by first | assumption | rfl) (by omega) (by omega) (by omega) (by omega) (by omega)
        have L61 : ∀ (x2 : Int) (x3 : Int) (x4 : Int) (x5 : Int) (x6 : Int) (r7 : Nat) (d8 : Option pz_V) (s0 : Int), (pz_kd r7 = 5) → (0 ≤ x6) → (x6 < 12) → (0 ≤ x5) → (x5 ≤ x6) → ((12 - x6).toNat < fu + 1) → Ok 61 [some (.inr (.inr (11, 0))), some (.inl w), some (.inl x2), some (.inl x3), some (.inl x4), some (.inl x5), some (.inl x6), some (.inr (.inr (5, r7))), d8] [.inl s0] M := by
          intro x2 x3 x4 x5 x6 r7 d8 s0 K_r7 g61_1 g61_2 g61_3 g61_4 g61_5
          have R_r7 := pz_kd5 K_r7
          refine hgo (fun p => Nat.beq p 13 || Nat.beq p 61 || Nat.beq p 76 || Nat.beq p 95 || Nat.beq p 130) 80 61 _ _ _ ?_
          refine And.intro (fun h65 => ?_) (fun h65 => ?_)
          · skip
            exact L76 _ _ _ _ _ _ _ _ (by first | assumption | rfl) (by omega) (by omega) (by omega) (by omega) (by omega)
          · skip
            intro v71 e71 a71 b71
            try rw [pz_wi (by omega) (by omega)] at e71
            exact L76 _ _ _ _ _ _ _ _ (by first | assumption | rfl) (by omega) (by omega) (by omega) (by omega) (by omega)
        refine hgo (fun p => Nat.beq p 13 || Nat.beq p 61 || Nat.beq p 76 || Nat.beq p 95 || Nat.beq p 130) 80 13 _ _ _ ?_
        intro r16 e16 k16
        have R16 := pz_kd0 k16
        intro v19 e19 a19 b19
        have I19 := hI.1 r16 (by omega) (by omega)
        refine And.intro (fun h22 => ?_) (fun h22 => ?_)
        · skip
          refine And.intro ?_ ?_
          · skip
            refine And.intro (fun h137 => ?_) ?_
            · skip
              refine And.intro rfl ?_
              exact ⟨trivial, rfl⟩
            refine And.intro (fun h137 => ?_) ?_
            · skip
              refine And.intro rfl ?_
              exact ⟨trivial, rfl⟩
            refine And.intro (fun h137 => ?_) ?_
            · skip
              refine And.intro rfl ?_
              exact ⟨trivial, rfl⟩
            exact True.intro
          · intro h137
            refine And.intro rfl ?_
            exact ⟨trivial, rfl⟩
        · skip
          intro r26 e26 k26
          have R26 := pz_kd0 k26
          refine And.intro (True.intro) ?_
          intro r31 M31 k31 q31
          have R31 := pz_kd5 k31
          obtain ⟨q31, z31⟩ := q31
          subst z31
          refine And.intro (True.intro) ?_
          intro v38 M38 a38 b38 q38
          obtain ⟨q38, z38⟩ := q38
          subst z38
          refine And.intro (fun h41 => ?_) (fun h41 => ?_)
          · skip
            exact L61 _ _ _ _ _ _ _ _ (by first | assumption | rfl) (by omega) (by omega) (by omega) (by omega) (by omega)
          · skip
            intro r45 e45 k45
            have R45 := pz_kd0 k45
            refine And.intro (hI) ?_
            intro v50 M50 a50 b50 q50
            obtain ⟨q50, z50⟩ := q50
            subst z50
            refine And.intro (fun h53 => ?_) (fun h53 => ?_)
            · skip
              exact L61 _ _ _ _ _ _ _ _ (by first | assumption | rfl) (by omega) (by omega) (by omega) (by omega) (by omega)
            · skip
              exact L61 _ _ _ _ _ _ _ _ (by first | assumption | rfl) (by omega) (by omega) (by omega) (by omega) (by omega)
    refine hgo (fun p => Nat.beq p 13 || Nat.beq p 61 || Nat.beq p 76 || Nat.beq p 95 || Nat.beq p 130) 80 0 _ [] M ?_
    exact L13 _ _ _ _ _ _ _ _ (Nat.lt_succ_self _) (by omega) (by omega) (by omega)
theorem v_X11_runs {fr lo i : Nat} {own : String} (h1 : 3 + 1 ≤ fr) (h2 : 8 + (9 + 11) + 64 ≤ lo) (h3 : .methodLink own i yX11_runs ∈ lw_tbl) : pz_cV fr lo own i k_X11_runs :=
  pz_cVk (maxL := 9) (fr' := 3) (lo' := 64) 1 11 h_X11_runs rfl ⟨by decide +kernel, by decide +kernel, by decide +kernel⟩ ⟨(pz_mt 1089 (by decide +kernel)), (pz_mt 1087 (by decide +kernel)), (pz_mt 1088 (by decide +kernel)), (pz_mt 1 (by decide +kernel))⟩ (Or.inl ⟨TX11, 14, rfl⟩) (fun a M _ h => by
    have h : (match (generalizing := false) a with | [.inr (.inr (11, th)), .inl w] => pz_ic M | _ => False) := h
    split at h
    · exact ⟨_, _, rfl⟩
    · exact h.elim) h1 h2 h3
def k_X11_undo : pz_C := (1, 1, fun a M => (match a with | [.inr (.inr (11, th))] => pz_ic M | _ => False), fun a M r M' => (match a, r with | [.inr (.inr (11, th))], some (.inl v) => ((M 3 2 = 0 ∧ v = 0 ∧ M' = M) ∨ (M 3 2 ≠ 0 ∧ v = 1 ∧ M' = pz_bf M)) ∧ pz_sW M M' | _, _ => False))
abbrev ct_X11_undo : List (Bool × Nat × pz_C) := [(true, 349, k_X2_goBack)]
set_option maxRecDepth 100000 in
set_option maxHeartbeats 4000000 in
theorem h_X11_undo : pz_H yX11_undo cX11_undo 1 (some .boolean) k_X11_undo 3 64 := by
  refine pz_mk (own := RX11) (tb := t_X11_undo) (fl := pz_flf fl_RX11) (ci := pz_cif ci_RX11) (ct := pz_ctf ct_X11_undo) (rz := true) (by decide +kernel) rfl t_X11_undo_ok (pz_flk fl_RX11_ok) (pz_cik ci_RX11_ok) ?_ ?_ (Or.inr ⟨rfl, rfl⟩) ?_ ?_
  · exact fun i k' h => pz_ctk (l := ct_X11_undo) (P := fun b i k => b = true → pz_cV 3 64 RX11 i k) (List.forall_mem_cons.mpr ⟨(fun _ => v_X2_goBack (by decide) (by decide) (pz_mt 1094 (by decide +kernel))), fun _ h => absurd h List.not_mem_nil⟩) true i k' h rfl
  · exact fun i k' h => pz_ctk (l := ct_X11_undo) (P := fun b i k => b = false → (pz_cS 3 64 RX11 i k ∨ (k = pz_kac ∧ 1 ≤ 3 ∧ 60 ≤ 64 ∧ Cond.methodLink RX11 i arraycopyName ∈ pz_tbl))) (List.forall_mem_cons.mpr ⟨((fun z => by cases z)), fun _ h => absurd h List.not_mem_nil⟩) false i k' h rfl
  · intro a M hlen hpre
    obtain ⟨th, rfl, hpre⟩ : ∃ th, a = [.inr (.inr (11, th))] ∧ (pz_ic M) := by
      have hpre : (match (generalizing := false) a with | [.inr (.inr (11, th))] => pz_ic M | _ => False) := hpre
      split at hpre
      · exact ⟨_, rfl, hpre⟩
      · exact hpre.elim
    exact Nat.le_of_ble_eq_true rfl
  · intro a M hlen hcan hM hpre Ok hgo
    obtain ⟨th, rfl, hpre⟩ : ∃ th, a = [.inr (.inr (11, th))] ∧ (pz_ic M) := by
      have hpre : (match (generalizing := false) a with | [.inr (.inr (11, th))] => pz_ic M | _ => False) := hpre
      split at hpre
      · exact ⟨_, rfl, hpre⟩
      · exact hpre.elim
    obtain ⟨k_th, hc_th⟩ := pz_tlm hcan
    have k_th : pz_kd th = 11 ∧ th < 231 := k_th
    have R_th := pz_kd11 k_th.1
    subst R_th
    have hI : pz_ic M := hpre
    have hI0 := hI
    have hS : pz_sW M M := pz_sW.rf
    refine hgo (fun _ => false) 8 0 _ [] M ?_
    refine pz_nrc (c := 3) rfl ?_
    refine pz_nrc (c := 71) rfl ?_
    refine And.intro (And.intro hI (by omega)) ?_
    intro v8 M8 a8 b8 q8
    obtain ⟨q8, z8⟩ := q8
    have hS : pz_sW M M8 := hS.tr z8
    have hI : pz_ic M8 := hS.1.1 hI0
    refine And.intro (by omega) ?_
    refine And.intro rfl ?_
    exact ⟨q8, hS⟩
theorem v_X11_undo {fr lo i : Nat} {own : String} (h1 : 3 + 1 ≤ fr) (h2 : 8 + (1 + 11) + 64 ≤ lo) (h3 : .methodLink own i yX11_undo ∈ lw_tbl) : pz_cV fr lo own i k_X11_undo :=
  pz_cVk (maxL := 1) (fr' := 3) (lo' := 64) 0 11 h_X11_undo rfl ⟨by decide +kernel, by decide +kernel, by decide +kernel⟩ ⟨(pz_mt 1093 (by decide +kernel)), (pz_mt 1091 (by decide +kernel)), (pz_mt 1092 (by decide +kernel)), (pz_mt 1 (by decide +kernel))⟩ (Or.inl ⟨TX11, 14, rfl⟩) (fun a M _ h => by
    have h : (match (generalizing := false) a with | [.inr (.inr (11, th))] => pz_ic M | _ => False) := h
    split at h
    · exact ⟨_, _, rfl⟩
    · exact h.elim) h1 h2 h3
def k_X11_image : pz_C := (2, 1, fun a M => (match a with | [.inr (.inr (11, th)), .inl t] => pz_ic M | _ => False), fun a M r M' => (match a, r with | [.inr (.inr (11, th)), .inl t], some (.inl v) => ((t = 0 ∧ M 0 13 = 0 ∧ v = 0 ∧ M' = M) ∨ ((t ≠ 0 ∧ v = 1 ∧ M' 0 13 = 1 ∧ pz_xi 73 71 M M') ∧ pz_Ti 9 8 M M') ∨ ((t = 0 ∧ M 0 13 ≠ 0 ∧ v = 1 ∧ M' 0 13 = M 0 13 ∧ M' 3 2 = 0 ∧ pz_xi 71 73 M M') ∧ pz_Ti 8 9 M M')) ∧ pz_rt M M' | _, _ => False))
abbrev ct_X11_image : List (Bool × Nat × pz_C) := [(true, 237, k_X0_take), (true, 353, k_X10_take), (false, 356, pz_kac), (true, 97, k_X2_forgetAll), (true, 117, k_X8_forgetAll)]
set_option maxRecDepth 100000 in
set_option maxHeartbeats 4000000 in
theorem h_X11_image : pz_H yX11_image cX11_image 2 (some .boolean) k_X11_image 3 102 := by
  refine pz_mk (own := RX11) (tb := t_X11_image) (fl := pz_flf fl_RX11) (ci := pz_cif ci_RX11) (ct := pz_ctf ct_X11_image) (rz := true) (by decide +kernel) rfl t_X11_image_ok (pz_flk fl_RX11_ok) (pz_cik ci_RX11_ok) ?_ ?_ (Or.inr ⟨rfl, rfl⟩) ?_ ?_
  · exact fun i k' h => pz_ctk (l := ct_X11_image) (P := fun b i k => b = true → pz_cV 3 102 RX11 i k) (List.forall_mem_cons.mpr ⟨(fun _ => v_X0_take (by decide) (by decide) (pz_mt 870 (by decide +kernel))), List.forall_mem_cons.mpr ⟨(fun _ => v_X10_take (by decide) (by decide) (pz_mt 1102 (by decide +kernel))), List.forall_mem_cons.mpr ⟨((fun z => by cases z)), List.forall_mem_cons.mpr ⟨(fun _ => v_X2_forgetAll (by decide) (by decide) (pz_mt 414 (by decide +kernel))), List.forall_mem_cons.mpr ⟨(fun _ => v_X8_forgetAll (by decide) (by decide) (pz_mt 436 (by decide +kernel))), fun _ h => absurd h List.not_mem_nil⟩⟩⟩⟩⟩) true i k' h rfl
  · exact fun i k' h => pz_ctk (l := ct_X11_image) (P := fun b i k => b = false → (pz_cS 3 102 RX11 i k ∨ (k = pz_kac ∧ 1 ≤ 3 ∧ 60 ≤ 102 ∧ Cond.methodLink RX11 i arraycopyName ∈ pz_tbl))) (List.forall_mem_cons.mpr ⟨((fun z => by cases z)), List.forall_mem_cons.mpr ⟨((fun z => by cases z)), List.forall_mem_cons.mpr ⟨(fun _ => Or.inr ⟨rfl, by decide, by decide, pz_tbl_in (by decide +kernel) rfl⟩), List.forall_mem_cons.mpr ⟨((fun z => by cases z)), List.forall_mem_cons.mpr ⟨((fun z => by cases z)), fun _ h => absurd h List.not_mem_nil⟩⟩⟩⟩⟩) false i k' h rfl
  · intro a M hlen hpre
    obtain ⟨th, t, rfl, hpre⟩ : ∃ th t, a = [.inr (.inr (11, th)), .inl t] ∧ (pz_ic M) := by
      have hpre : (match (generalizing := false) a with | [.inr (.inr (11, th)), .inl t] => pz_ic M | _ => False) := hpre
      split at hpre
      · exact ⟨_, _, rfl, hpre⟩
      · exact hpre.elim
    exact Nat.le_of_ble_eq_true rfl
  · intro a M hlen hcan hM hpre Ok hgo
    obtain ⟨th, t, rfl, hpre⟩ : ∃ th t, a = [.inr (.inr (11, th)), .inl t] ∧ (pz_ic M) := by
      have hpre : (match (generalizing := false) a with | [.inr (.inr (11, th)), .inl t] => pz_ic M | _ => False) := hpre
      split at hpre
      · exact ⟨_, _, rfl, hpre⟩
      · exact hpre.elim
    obtain ⟨k_th, hc_th⟩ := pz_tlm hcan
    have k_th : pz_kd th = 11 ∧ th < 231 := k_th
    have R_th := pz_kd11 k_th.1
    subst R_th
    obtain ⟨k_t, hc_t⟩ := pz_tlm hc_th
    have l_t : -2147483648 ≤ t := k_t.1
    have u_t : t ≤ 2147483647 := k_t.2
    have hI : pz_ic M := hpre
    have hI0 := hI
    have hS : pz_st M M := pz_st.rf
    refine hgo (fun _ => false) 62 0 _ [] M ?_
    refine And.intro (fun h1 => ?_) (fun h1 => ?_)
    · skip
      intro v52 e52 a52 b52
      refine And.intro (fun h55 => ?_) (fun h55 => ?_)
      · skip
        refine pz_nrc (c := 71) rfl ?_
        refine pz_nrc (c := 73) rfl ?_
        refine And.intro (hI) ?_
        intro M68 q68
        obtain ⟨q68, z68⟩ := q68
        have hS : pz_xi 71 73 M M68 := pz_xi_0 (by omega) q68 z68
        have hI : pz_ic M68 := hS.1 hI0
        refine pz_nrc (c := 8) rfl ?_
        refine pz_nrc (c := 9) rfl ?_
        refine And.intro (And.intro hI (by omega)) ?_
        intro M79 q79
        obtain ⟨q79, z79⟩ := q79
        have hS : pz_xi 71 73 M M79 := pz_xi.trf hS z79 (fun b j y => q79.2.2.2.2.2 b j (by unfold pz_mq0 pz_ko pz_mid at y; unfold pz_td; omega))
        have hI : pz_ic M79 := hS.1 hI0
        refine pz_nrc (c := 46) rfl ?_
        refine pz_nrc (c := 45) rfl ?_
        refine pz_nrc (c := 45) rfl ?_
        have Z96 : (((pz_ak 13).2 : Nat) : Int) = 600 := rfl
        refine And.intro ⟨_, _, _, _, _, _, _, rfl, rfl, rfl, by decide, by decide, by decide, by decide, by decide⟩ ?_
        intro M97 q97
        obtain ⟨k197, a197, k297, a297, sp97, dp97, n97, z197, -, z297⟩ := q97
        cases z197
        have hS : pz_xi 71 73 M M97 := hS.tr (by
          rw [z297]
          exact pz_st_c pz_st.rf (by omega) (by omega))
        have hI : pz_ic M97 := hS.1 hI0
        refine pz_nrc (c := 3) rfl ?_
        refine And.intro (hI) ?_
        intro M104 q104
        obtain ⟨q104, z104⟩ := q104
        have hS : pz_xi 71 73 M M104 := pz_xi.fg hS q104 z104.rt
        have hI : pz_ic M104 := hS.1 hI0
        refine pz_nrc (c := 7) rfl ?_
        refine And.intro (hI) ?_
        intro M111 q111
        obtain ⟨q111, z111⟩ := q111
        have hS : pz_xi 71 73 M M111 := hS.tr z111
        have hI : pz_ic M111 := hS.1 hI0
        refine And.intro (by omega) ?_
        refine And.intro rfl ?_
        have F9 := (hS.2.1 0 13 (Or.inr (Or.inl ⟨rfl, rfl⟩)) (by omega) (by omega)).trans (pz_tf_o (by omega) (by unfold pz_lb; omega))
        have F8 := pz_Ti_of (Or.inl ⟨rfl, rfl⟩) q79 (M := M) (N := M111) (fun b j y y2 => by rw [q68]; exact pz_tf_o (by omega) (by unfold pz_lb; omega)) (fun b j y y2 => by rw [q111, pz_una (by omega), q104, pz_una (by omega), z297]; exact pz_cpy_o (by omega))
        exact ⟨Or.inr (Or.inr ⟨⟨by omega, by omega, rfl, F9, by rw [q111, pz_una (by decide), q104]; exact pz_uu, hS⟩, F8⟩), hS.1⟩
      · skip
        refine And.intro (by omega) ?_
        refine And.intro rfl ?_
        exact ⟨Or.inl ⟨by omega, by omega, rfl, rfl⟩, hS.rt⟩
    · skip
      refine pz_nrc (c := 73) rfl ?_
      refine pz_nrc (c := 71) rfl ?_
      refine And.intro (hI) ?_
      intro M12 q12
      obtain ⟨q12, z12⟩ := q12
      have hS : pz_xi 73 71 M M12 := pz_xi_0 (by omega) q12 z12
      have hI : pz_ic M12 := hS.1 hI0
      refine pz_nrc (c := 9) rfl ?_
      refine pz_nrc (c := 8) rfl ?_
      refine And.intro (And.intro hI (by omega)) ?_
      intro M23 q23
      obtain ⟨q23, z23⟩ := q23
      have hS : pz_xi 73 71 M M23 := pz_xi.trf hS z23 (fun b j y => q23.2.2.2.2.2 b j (by unfold pz_mq0 pz_ko pz_mid at y; unfold pz_td; omega))
      have hI : pz_ic M23 := hS.1 hI0
      refine pz_nrc (c := 45) rfl ?_
      refine pz_nrc (c := 46) rfl ?_
      refine pz_nrc (c := 45) rfl ?_
      have Z40 : (((pz_ak 13).2 : Nat) : Int) = 600 := rfl
      refine And.intro ⟨_, _, _, _, _, _, _, rfl, rfl, rfl, by decide, by decide, by decide, by decide, by decide⟩ ?_
      intro M41 q41
      obtain ⟨k141, a141, k241, a241, sp41, dp41, n41, z141, -, z241⟩ := q41
      cases z141
      have hS : pz_xi 73 71 M M41 := hS.tr (by
        rw [z241]
        exact pz_st_c pz_st.rf (by omega) (by omega))
      have hI : pz_ic M41 := hS.1 hI0
      refine And.intro (by omega) ?_
      intro M46 e46
      have hS : pz_xi 73 71 M M46 := by
        rw [e46]
        exact pz_xi_u hS ⟨rfl, rfl⟩ (by unfold pz_iok; omega)
      have hI : pz_ic M46 := hS.1 hI0
      refine And.intro (by omega) ?_
      refine And.intro rfl ?_
      have F9 := pz_Ti_of (Or.inr ⟨rfl, rfl⟩) q23 (M := M) (N := M46) (fun b j y y2 => by rw [q12]; exact pz_tf_o (by omega) (by unfold pz_lb; omega)) (fun b j y y2 => by rw [e46, pz_una (by omega), z241]; exact pz_cpy_o (by omega))
      exact ⟨Or.inr (Or.inl ⟨⟨by omega, rfl, by rw [e46]; exact pz_uu, hS⟩, F9⟩), hS.1⟩
theorem v_X11_image {fr lo i : Nat} {own : String} (h1 : 3 + 1 ≤ fr) (h2 : 8 + (2 + 11) + 102 ≤ lo) (h3 : .methodLink own i yX11_image ∈ lw_tbl) : pz_cV fr lo own i k_X11_image :=
  pz_cVk (maxL := 2) (fr' := 3) (lo' := 102) 1 11 h_X11_image rfl ⟨by decide +kernel, by decide +kernel, by decide +kernel⟩ ⟨(pz_mt 1101 (by decide +kernel)), (pz_mt 1099 (by decide +kernel)), (pz_mt 1100 (by decide +kernel)), (pz_mt 1 (by decide +kernel))⟩ (Or.inl ⟨TX11, 14, rfl⟩) (fun a M _ h => by
    have h : (match (generalizing := false) a with | [.inr (.inr (11, th)), .inl t] => pz_ic M | _ => False) := h
    split at h
    · exact ⟨_, _, rfl⟩
    · exact h.elim) h1 h2 h3
def k_X11_look : pz_C := (2, 1, fun a M => (match a with | [.inr (.inr (11, th)), .inl w] => pz_ic M | _ => False), fun a M r M' => (match a, r with | [.inr (.inr (11, th)), .inl w], some (.inl v) => (True) ∧ M = M' | _, _ => False))
abbrev ct_X11_look : List (Bool × Nat × pz_C) := [(true, 240, k_X0_movedOnes), (true, 337, k_X0_bridgedOnes), (true, 366, k_X0_parts)]
set_option maxRecDepth 100000 in
set_option maxHeartbeats 4000000 in
theorem h_X11_look : pz_H yX11_look cX11_look 2 (some .int) k_X11_look 3 63 := by
  refine pz_mk (own := RX11) (tb := t_X11_look) (fl := pz_flf fl_RX11) (ci := pz_cif ci_RX11) (ct := pz_ctf ct_X11_look) (rz := false) (by decide +kernel) rfl t_X11_look_ok (pz_flk fl_RX11_ok) (pz_cik ci_RX11_ok) ?_ ?_ (Or.inl ⟨rfl, rfl⟩) ?_ ?_
  · exact fun i k' h => pz_ctk (l := ct_X11_look) (P := fun b i k => b = true → pz_cV 3 63 RX11 i k) (List.forall_mem_cons.mpr ⟨(fun _ => v_X0_movedOnes (by decide) (by decide) (pz_mt 871 (by decide +kernel))), List.forall_mem_cons.mpr ⟨(fun _ => v_X0_bridgedOnes (by decide) (by decide) (pz_mt 1078 (by decide +kernel))), List.forall_mem_cons.mpr ⟨(fun _ => v_X0_parts (by decide) (by decide) (pz_mt 1113 (by decide +kernel))), fun _ h => absurd h List.not_mem_nil⟩⟩⟩) true i k' h rfl
  · exact fun i k' h => pz_ctk (l := ct_X11_look) (P := fun b i k => b = false → (pz_cS 3 63 RX11 i k ∨ (k = pz_kac ∧ 1 ≤ 3 ∧ 60 ≤ 63 ∧ Cond.methodLink RX11 i arraycopyName ∈ pz_tbl))) (List.forall_mem_cons.mpr ⟨((fun z => by cases z)), List.forall_mem_cons.mpr ⟨((fun z => by cases z)), List.forall_mem_cons.mpr ⟨((fun z => by cases z)), fun _ h => absurd h List.not_mem_nil⟩⟩⟩) false i k' h rfl
  · intro a M hlen hpre
    obtain ⟨th, w, rfl, hpre⟩ : ∃ th w, a = [.inr (.inr (11, th)), .inl w] ∧ (pz_ic M) := by
      have hpre : (match (generalizing := false) a with | [.inr (.inr (11, th)), .inl w] => pz_ic M | _ => False) := hpre
      split at hpre
      · exact ⟨_, _, rfl, hpre⟩
      · exact hpre.elim
    exact Nat.le_of_ble_eq_true rfl
  · intro a M hlen hcan hM hpre Ok hgo
    obtain ⟨th, w, rfl, hpre⟩ : ∃ th w, a = [.inr (.inr (11, th)), .inl w] ∧ (pz_ic M) := by
      have hpre : (match (generalizing := false) a with | [.inr (.inr (11, th)), .inl w] => pz_ic M | _ => False) := hpre
      split at hpre
      · exact ⟨_, _, rfl, hpre⟩
      · exact hpre.elim
    obtain ⟨k_th, hc_th⟩ := pz_tlm hcan
    have k_th : pz_kd th = 11 ∧ th < 231 := k_th
    have R_th := pz_kd11 k_th.1
    subst R_th
    obtain ⟨k_w, hc_w⟩ := pz_tlm hc_th
    have l_w : -2147483648 ≤ w := k_w.1
    have u_w : w ≤ 2147483647 := k_w.2
    have hI : pz_ic M := hpre
    refine hgo (fun _ => false) 62 0 _ [] M ?_
    refine And.intro ?_ ?_
    · skip
      refine And.intro (fun h1 => ?_) ?_
      · skip
        intro r69 e69 k69
        have R69 := pz_kd0 k69
        intro v72 e72 a72 b72
        have I72 := hI.1 r69 (by omega) (by omega)
        refine And.intro rfl ?_
        exact ⟨trivial, rfl⟩
      refine And.intro (fun h1 => ?_) ?_
      · skip
        intro r77 e77 k77
        have R77 := pz_kd0 k77
        intro v80 e80 a80 b80
        refine And.intro rfl ?_
        exact ⟨trivial, rfl⟩
      refine And.intro (fun h1 => ?_) ?_
      · skip
        intro r85 e85 k85
        have R85 := pz_kd0 k85
        intro v88 e88 a88 b88
        refine And.intro rfl ?_
        exact ⟨trivial, rfl⟩
      refine And.intro (fun h1 => ?_) ?_
      · skip
        intro r93 e93 k93
        have R93 := pz_kd0 k93
        refine And.intro (hI) ?_
        intro v96 M96 a96 b96 q96
        obtain ⟨q96, z96⟩ := q96
        subst z96
        refine And.intro rfl ?_
        exact ⟨trivial, rfl⟩
      refine And.intro (fun h1 => ?_) ?_
      · skip
        intro r101 e101 k101
        have R101 := pz_kd0 k101
        refine And.intro (hI) ?_
        intro v104 M104 a104 b104 q104
        obtain ⟨q104, z104⟩ := q104
        subst z104
        refine And.intro rfl ?_
        exact ⟨trivial, rfl⟩
      refine And.intro (fun h1 => ?_) ?_
      · skip
        intro r109 e109 k109
        have R109 := pz_kd0 k109
        refine And.intro (hI) ?_
        intro v112 M112 a112 b112 q112
        obtain ⟨q112, z112⟩ := q112
        subst z112
        refine And.intro rfl ?_
        exact ⟨trivial, rfl⟩
      refine And.intro (fun h1 => ?_) ?_
      · skip
        intro r117 e117 k117
        have R117 := pz_kd0 k117
        intro v120 e120 a120 b120
        have I120 := hI.1 r117 (by omega) (by omega)
        refine And.intro rfl ?_
        exact ⟨trivial, rfl⟩
      refine And.intro (fun h1 => ?_) ?_
      · skip
        intro r125 e125 k125
        have R125 := pz_kd0 k125
        intro v128 e128 a128 b128
        refine And.intro rfl ?_
        exact ⟨trivial, rfl⟩
      refine And.intro (fun h1 => ?_) ?_
      · skip
        intro r133 e133 k133
        have R133 := pz_kd10 k133
        intro r136 e136 k136
        have R136 := pz_kd3 k136
        intro v139 e139 a139 b139
        have I139 := hI.2.2.2.1 r136 (by omega) (by omega)
        refine And.intro rfl ?_
        exact ⟨trivial, rfl⟩
      refine And.intro (fun h1 => ?_) ?_
      · skip
        intro r144 e144 k144
        have R144 := pz_kd10 k144
        intro r147 e147 k147
        have R147 := pz_kd6 k147
        intro v150 e150 a150 b150
        have I150 := hI.2.2.1 r147 (by omega) (by omega)
        refine And.intro rfl ?_
        exact ⟨trivial, rfl⟩
      refine And.intro (fun h1 => ?_) ?_
      · skip
        intro r155 e155 k155
        have R155 := pz_kd10 k155
        intro r158 e158 k158
        have R158 := pz_kd6 k158
        intro v161 e161 a161 b161
        have I161 := hI.2.2.1 r158 (by omega) (by omega)
        refine And.intro rfl ?_
        exact ⟨trivial, rfl⟩
      refine And.intro (fun h1 => ?_) ?_
      · skip
        intro r166 e166 k166
        have R166 := pz_kd10 k166
        intro r169 e169 k169
        have R169 := pz_kd6 k169
        intro v172 e172 a172 b172
        have I172 := hI.2.2.1 r169 (by omega) (by omega)
        refine And.intro rfl ?_
        exact ⟨trivial, rfl⟩
      refine And.intro (fun h1 => ?_) ?_
      · skip
        intro r177 e177 k177
        have R177 := pz_kd2 k177
        intro v180 e180 a180 b180
        refine And.intro rfl ?_
        exact ⟨trivial, rfl⟩
      exact True.intro
    · intro h1
      refine And.intro rfl ?_
      exact ⟨trivial, rfl⟩
theorem v_X11_look {fr lo i : Nat} {own : String} (h1 : 3 + 1 ≤ fr) (h2 : 8 + (2 + 11) + 63 ≤ lo) (h3 : .methodLink own i yX11_look ∈ lw_tbl) : pz_cV fr lo own i k_X11_look :=
  pz_cVk (maxL := 2) (fr' := 3) (lo' := 63) 1 11 h_X11_look rfl ⟨by decide +kernel, by decide +kernel, by decide +kernel⟩ ⟨(pz_mt 1112 (by decide +kernel)), (pz_mt 1110 (by decide +kernel)), (pz_mt 1111 (by decide +kernel)), (pz_mt 1 (by decide +kernel))⟩ (Or.inl ⟨TX11, 14, rfl⟩) (fun a M _ h => by
    have h : (match (generalizing := false) a with | [.inr (.inr (11, th)), .inl w] => pz_ic M | _ => False) := h
    split at h
    · exact ⟨_, _, rfl⟩
    · exact h.elim) h1 h2 h3
