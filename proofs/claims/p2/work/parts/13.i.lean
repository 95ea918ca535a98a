def k_X11_feed : pz_C := (6, 1, fun a M => (match a with | [.inr (.inr (11, th)), .inl p, .inl q, .inl w, .inl s, .inl u] => pz_ic M | _ => False), fun a M r M' => (match a, r with | [.inr (.inr (11, th)), .inl p, .inl q, .inl w, .inl s, .inl u], some (.inl v) => ((M 4 1 + 20 ≤ 400 ∧ v = M 4 1 + 20 ∧ M' 4 1 = M 4 1 + 20 ∧ pz_fb M M' p q w s u) ∨ (¬ M 4 1 + 20 ≤ 400 ∧ v = -1 ∧ M' = M)) ∧ pq_pr pq_Pf M M' | _, _ => False))
abbrev ct_X11_feed : List (Bool × Nat × pz_C) := [(true, 191, k_X7_put)]
set_option maxRecDepth 100000 in
set_option maxHeartbeats 4000000 in
theorem h_X11_feed : pz_H yX11_feed cX11_feed 6 (some .int) k_X11_feed 1 22 := by
  refine pz_mk (own := RX11) (tb := t_X11_feed) (fl := pz_flf fl_RX11) (ci := pz_cif ci_RX11) (ct := pz_ctf ct_X11_feed) (rz := false) (by decide +kernel) rfl t_X11_feed_ok (pz_flk fl_RX11_ok) (pz_cik ci_RX11_ok) ?_ ?_ (Or.inl ⟨rfl, rfl⟩) ?_ ?_
  · exact fun i k' h => pz_ctk (l := ct_X11_feed) (P := fun b i k => b = true → pz_cV 1 22 RX11 i k) (List.forall_mem_cons.mpr ⟨(fun _ => v_X7_put (by decide) (by decide) (pz_mt 647 (by decide +kernel))), fun _ h => absurd h List.not_mem_nil⟩) true i k' h rfl
  · exact fun i k' h => pz_ctk (l := ct_X11_feed) (P := fun b i k => b = false → (pz_cS 1 22 RX11 i k ∨ (k = pz_kac ∧ 1 ≤ 1 ∧ 60 ≤ 22 ∧ Cond.methodLink RX11 i arraycopyName ∈ pz_tbl))) (List.forall_mem_cons.mpr ⟨((fun z => by cases z)), fun _ h => absurd h List.not_mem_nil⟩) false i k' h rfl
  · intro a M hlen hpre
    obtain ⟨th, p, q, w, s, u, rfl, hpre⟩ : ∃ th p q w s u, a = [.inr (.inr (11, th)), .inl p, .inl q, .inl w, .inl s, .inl u] ∧ (pz_ic M) := by
      have hpre : (match (generalizing := false) a with | [.inr (.inr (11, th)), .inl p, .inl q, .inl w, .inl s, .inl u] => pz_ic M | _ => False) := hpre
      split at hpre
      · exact ⟨_, _, _, _, _, _, rfl, hpre⟩
      · exact hpre.elim
    exact Nat.le_of_ble_eq_true rfl
  · intro a M hlen hcan hM hpre Ok hgo
    obtain ⟨th, p, q, w, s, u, rfl, hpre⟩ : ∃ th p q w s u, a = [.inr (.inr (11, th)), .inl p, .inl q, .inl w, .inl s, .inl u] ∧ (pz_ic M) := by
      have hpre : (match (generalizing := false) a with | [.inr (.inr (11, th)), .inl p, .inl q, .inl w, .inl s, .inl u] => pz_ic M | _ => False) := hpre
      split at hpre
      · exact ⟨_, _, _, _, _, _, rfl, hpre⟩
      · exact hpre.elim
    obtain ⟨k_th, hc_th⟩ := pz_tlm hcan
    have k_th : pz_kd th = 11 ∧ th < 231 := k_th
    have R_th := pz_kd11 k_th.1
    subst R_th
    obtain ⟨k_p, hc_p⟩ := pz_tlm hc_th
    have l_p : -2147483648 ≤ p := k_p.1
    have u_p : p ≤ 2147483647 := k_p.2
    obtain ⟨k_q, hc_q⟩ := pz_tlm hc_p
    have l_q : -2147483648 ≤ q := k_q.1
    have u_q : q ≤ 2147483647 := k_q.2
    obtain ⟨k_w, hc_w⟩ := pz_tlm hc_q
    have l_w : -2147483648 ≤ w := k_w.1
    have u_w : w ≤ 2147483647 := k_w.2
    obtain ⟨k_s, hc_s⟩ := pz_tlm hc_w
    have l_s : -2147483648 ≤ s := k_s.1
    have u_s : s ≤ 2147483647 := k_s.2
    obtain ⟨k_u, hc_u⟩ := pz_tlm hc_s
    have l_u : -2147483648 ≤ u := k_u.1
    have u_u : u ≤ 2147483647 := k_u.2
    have hI : pz_ic M := hpre
    have hI0 := hI
    have hS : pq_pr pq_Pf M M := pq_pr.rf
    have I0 := hI.2.2.2.2.1
    refine hgo (fun _ => false) 35 0 _ [] M ?_
    refine pz_nrc (c := 4) rfl ?_
    intro v4 e4 a4 b4
    have I4 := hI.2.2.2.2.1
    intro v9 e9 a9 b9
    try rw [pz_wi (by omega) (by omega)] at e9
    refine And.intro (fun h13 => ?_) (fun h13 => ?_)
    · skip
      refine pz_nrc (c := 4) rfl ?_
      refine And.intro (hI) ?_
      intro M23 q23
      obtain ⟨q23, z23⟩ := q23
      have hS : pq_pr pq_Pf M M23 := hS.tr z23
      have hI : pz_ic M23 := hS.1 hI0
      refine pz_nrc (c := 4) rfl ?_
      refine And.intro (hI) ?_
      intro M31 q31
      obtain ⟨q31, z31⟩ := q31
      have hS : pq_pr pq_Pf M M31 := hS.tr z31
      have hI : pz_ic M31 := hS.1 hI0
      refine pz_nrc (c := 4) rfl ?_
      refine And.intro (hI) ?_
      intro M39 q39
      obtain ⟨q39, z39⟩ := q39
      have hS : pq_pr pq_Pf M M39 := hS.tr z39
      have hI : pz_ic M39 := hS.1 hI0
      refine pz_nrc (c := 4) rfl ?_
      refine And.intro (hI) ?_
      intro M48 q48
      obtain ⟨q48, z48⟩ := q48
      have hS : pq_pr pq_Pf M M48 := hS.tr z48
      have hI : pz_ic M48 := hS.1 hI0
      refine pz_nrc (c := 4) rfl ?_
      refine And.intro (hI) ?_
      intro M57 q57
      obtain ⟨q57, z57⟩ := q57
      have hS : pq_pr pq_Pf M M57 := hS.tr z57
      have hI : pz_ic M57 := hS.1 hI0
      refine pz_nrc (c := 4) rfl ?_
      intro v64 e64 a64 b64
      have I64 := hI.2.2.2.2.1
      refine And.intro rfl ?_
      have F9 := pz_fb_of (by omega) I0.1 q23.1 q31.1 q39.1 q48.1 q57.1
      exact ⟨Or.inl ⟨by omega, by omega, F9.1, F9.2⟩, hS⟩
    · skip
      refine And.intro rfl ?_
      exact ⟨Or.inr ⟨by omega, rfl, rfl⟩, hS⟩
theorem v_X11_feed {fr lo i : Nat} {own : String} (h1 : 1 + 1 ≤ fr) (h2 : 8 + (6 + 11) + 22 ≤ lo) (h3 : .methodLink own i yX11_feed ∈ lw_tbl) : pz_cV fr lo own i k_X11_feed :=
  pz_cVk (maxL := 6) (fr' := 1) (lo' := 22) 5 11 h_X11_feed rfl ⟨by decide +kernel, by decide +kernel, by decide +kernel⟩ ⟨(pz_mt 646 (by decide +kernel)), (pz_mt 644 (by decide +kernel)), (pz_mt 645 (by decide +kernel)), (pz_mt 1 (by decide +kernel))⟩ (Or.inl ⟨TX11, 14, rfl⟩) (fun a M _ h => by
    have h : (match (generalizing := false) a with | [.inr (.inr (11, th)), .inl p, .inl q, .inl w, .inl s, .inl u] => pz_ic M | _ => False) := h
    split at h
    · exact ⟨_, _, rfl⟩
    · exact h.elim) h1 h2 h3
def k_X11_end : pz_C := (2, 1, fun a M => (match a with | [.inr (.inr (11, th)), .inl n] => pz_ic M | _ => False), fun a M r M' => (match a, r with | [.inr (.inr (11, th)), .inl n], some (.inl v) => ((if 0 ≤ n ∧ n ≤ M 4 1 then v = 1 ∧ M' 4 1 = n else v = 0 ∧ M' 4 1 = M 4 1)) ∧ pz_sy M M' | _, _ => False))
abbrev ct_X11_end : List (Bool × Nat × pz_C) := [(false, 137, k_X11_within)]
set_option maxRecDepth 100000 in
set_option maxHeartbeats 4000000 in
theorem h_X11_end : pz_H yX11_end cX11_end 2 (some .boolean) k_X11_end 1 22 := by
  refine pz_mk (own := RX11) (tb := t_X11_end) (fl := pz_flf fl_RX11) (ci := pz_cif ci_RX11) (ct := pz_ctf ct_X11_end) (rz := true) (by decide +kernel) rfl t_X11_end_ok (pz_flk fl_RX11_ok) (pz_cik ci_RX11_ok) ?_ ?_ (Or.inr ⟨rfl, rfl⟩) ?_ ?_
  · exact fun i k' h => pz_ctk (l := ct_X11_end) (P := fun b i k => b = true → pz_cV 1 22 RX11 i k) (List.forall_mem_cons.mpr ⟨((fun z => by cases z)), fun _ h => absurd h List.not_mem_nil⟩) true i k' h rfl
  · exact fun i k' h => pz_ctk (l := ct_X11_end) (P := fun b i k => b = false → (pz_cS 1 22 RX11 i k ∨ (k = pz_kac ∧ 1 ≤ 1 ∧ 60 ≤ 22 ∧ Cond.methodLink RX11 i arraycopyName ∈ pz_tbl))) (List.forall_mem_cons.mpr ⟨(fun _ => Or.inl (s_X11_within (by decide) (by decide) (Or.inl (pz_mt 425 (by decide +kernel))))), fun _ h => absurd h List.not_mem_nil⟩) false i k' h rfl
  · intro a M hlen hpre
    obtain ⟨th, n, rfl, hpre⟩ : ∃ th n, a = [.inr (.inr (11, th)), .inl n] ∧ (pz_ic M) := by
      have hpre : (match (generalizing := false) a with | [.inr (.inr (11, th)), .inl n] => pz_ic M | _ => False) := hpre
      split at hpre
      · exact ⟨_, _, rfl, hpre⟩
      · exact hpre.elim
    exact Nat.le_of_ble_eq_true rfl
  · intro a M hlen hcan hM hpre Ok hgo
    obtain ⟨th, n, rfl, hpre⟩ : ∃ th n, a = [.inr (.inr (11, th)), .inl n] ∧ (pz_ic M) := by
      have hpre : (match (generalizing := false) a with | [.inr (.inr (11, th)), .inl n] => pz_ic M | _ => False) := hpre
      split at hpre
      · exact ⟨_, _, rfl, hpre⟩
      · exact hpre.elim
    obtain ⟨k_th, hc_th⟩ := pz_tlm hcan
    have k_th : pz_kd th = 11 ∧ th < 231 := k_th
    have R_th := pz_kd11 k_th.1
    subst R_th
    obtain ⟨k_n, hc_n⟩ := pz_tlm hc_th
    have l_n : -2147483648 ≤ n := k_n.1
    have u_n : n ≤ 2147483647 := k_n.2
    have hI : pz_ic M := hpre
    have hI0 := hI
    have hS : pz_sy M M := pz_sy.rf
    refine hgo (fun _ => false) 17 0 _ [] M ?_
    intro r3 e3 k3
    have R3 := pz_kd7 k3
    intro v6 e6 a6 b6
    rw [R3] at e6
    have I6 := hI.2.2.2.2.1
    refine And.intro (True.intro) ?_
    intro v9 M9 a9 b9 q9
    obtain ⟨q9, z9⟩ := q9
    subst z9
    have H9 : v9 = (if 0 ≤ n ∧ n ≤ v6 then 1 else 0) := q9
    refine And.intro (fun h12 => ?_) (fun h12 => ?_)
    · skip
      intro r18 e18 k18
      have R18 := pz_kd7 k18
      intro M22 e22
      have hS : pz_sy M M22 := by
        rw [e22]
        exact pz_sy_u hS (by unfold pz_md pz_kx pz_mid; omega) (by unfold pz_iok; omega)
      have hI : pz_ic M22 := hS.1 hI0
      have T22_0 := pz_uve e22 4 1
      refine And.intro (by omega) ?_
      refine And.intro rfl ?_
      refine And.intro ?_ hS
      split at q9 <;> split <;> omega
    · skip
      refine And.intro (by omega) ?_
      refine And.intro rfl ?_
      refine And.intro ?_ hS
      split at q9 <;> split <;> omega
theorem v_X11_end {fr lo i : Nat} {own : String} (h1 : 1 + 1 ≤ fr) (h2 : 8 + (2 + 11) + 22 ≤ lo) (h3 : .methodLink own i yX11_end ∈ lw_tbl) : pz_cV fr lo own i k_X11_end :=
  pz_cVk (maxL := 2) (fr' := 1) (lo' := 22) 1 11 h_X11_end rfl ⟨by decide +kernel, by decide +kernel, by decide +kernel⟩ ⟨(pz_mt 654 (by decide +kernel)), (pz_mt 652 (by decide +kernel)), (pz_mt 653 (by decide +kernel)), (pz_mt 1 (by decide +kernel))⟩ (Or.inl ⟨TX11, 14, rfl⟩) (fun a M _ h => by
    have h : (match (generalizing := false) a with | [.inr (.inr (11, th)), .inl n] => pz_ic M | _ => False) := h
    split at h
    · exact ⟨_, _, rfl⟩
    · exact h.elim) h1 h2 h3
def k_X11_text : pz_C := (2, 1, fun a M => (match a with | [.inr (.inr (11, th)), .inl k] => pz_ic M | _ => False), fun a M r M' => (match a, r with | [.inr (.inr (11, th)), .inl k], some (.inl v) => (pq_te k (M 71 3) M M' v ∧ M' 4 1 = 0 ∧ (∀ j : Nat, j ≠ 2 → M' 3 j = M 3 j) ∧ (M' 3 2 = M 3 2 ∨ M' 3 2 = 0)) ∧ pq_pr pq_Pt M M' | _, _ => False))
abbrev ct_X11_text : List (Bool × Nat × pz_C) := [(true, 195, k_X9_tell), (true, 97, k_X2_forgetAll), (true, 117, k_X8_forgetAll)]
set_option maxRecDepth 100000 in
set_option maxHeartbeats 4000000 in
theorem h_X11_text : pz_H yX11_text cX11_text 3 (some .int) k_X11_text 23 526 := by
  refine pz_mk (own := RX11) (tb := t_X11_text) (fl := pz_flf fl_RX11) (ci := pz_cif ci_RX11) (ct := pz_ctf ct_X11_text) (rz := false) (by decide +kernel) rfl t_X11_text_ok (pz_flk fl_RX11_ok) (pz_cik ci_RX11_ok) ?_ ?_ (Or.inl ⟨rfl, rfl⟩) ?_ ?_
  · exact fun i k' h => pz_ctk (l := ct_X11_text) (P := fun b i k => b = true → pz_cV 23 526 RX11 i k) (List.forall_mem_cons.mpr ⟨(fun _ => v_X9_tell (by decide) (by decide) (pz_mt 659 (by decide +kernel))), List.forall_mem_cons.mpr ⟨(fun _ => v_X2_forgetAll (by decide) (by decide) (pz_mt 414 (by decide +kernel))), List.forall_mem_cons.mpr ⟨(fun _ => v_X8_forgetAll (by decide) (by decide) (pz_mt 436 (by decide +kernel))), fun _ h => absurd h List.not_mem_nil⟩⟩⟩) true i k' h rfl
  · exact fun i k' h => pz_ctk (l := ct_X11_text) (P := fun b i k => b = false → (pz_cS 23 526 RX11 i k ∨ (k = pz_kac ∧ 1 ≤ 23 ∧ 60 ≤ 526 ∧ Cond.methodLink RX11 i arraycopyName ∈ pz_tbl))) (List.forall_mem_cons.mpr ⟨((fun z => by cases z)), List.forall_mem_cons.mpr ⟨((fun z => by cases z)), List.forall_mem_cons.mpr ⟨((fun z => by cases z)), fun _ h => absurd h List.not_mem_nil⟩⟩⟩) false i k' h rfl
  · intro a M hlen hpre
    obtain ⟨th, k, rfl, hpre⟩ : ∃ th k, a = [.inr (.inr (11, th)), .inl k] ∧ (pz_ic M) := by
      have hpre : (match (generalizing := false) a with | [.inr (.inr (11, th)), .inl k] => pz_ic M | _ => False) := hpre
      split at hpre
      · exact ⟨_, _, rfl, hpre⟩
      · exact hpre.elim
    exact Nat.le_of_ble_eq_true rfl
  · intro a M hlen hcan hM hpre Ok hgo
    obtain ⟨th, k, rfl, hpre⟩ : ∃ th k, a = [.inr (.inr (11, th)), .inl k] ∧ (pz_ic M) := by
      have hpre : (match (generalizing := false) a with | [.inr (.inr (11, th)), .inl k] => pz_ic M | _ => False) := hpre
      split at hpre
      · exact ⟨_, _, rfl, hpre⟩
      · exact hpre.elim
    obtain ⟨k_th, hc_th⟩ := pz_tlm hcan
    have k_th : pz_kd th = 11 ∧ th < 231 := k_th
    have R_th := pz_kd11 k_th.1
    subst R_th
    obtain ⟨k_k, hc_k⟩ := pz_tlm hc_th
    have l_k : -2147483648 ≤ k := k_k.1
    have u_k : k ≤ 2147483647 := k_k.2
    have hI : pz_ic M := hpre
    have hI0 := hI
    have hS : pq_pr pq_Pt M M := pq_pr.rf
    refine hgo (fun _ => false) 32 0 _ [] M ?_
    refine pz_nrc (c := 5) rfl ?_
    refine pz_nrc (c := 8) rfl ?_
    refine pz_nrc (c := 71) rfl ?_
    intro v13 e13 a13 b13
    have I13 := hI.1 71 (by omega) (by omega)
    refine And.intro (And.intro hI (And.intro rfl (And.intro (by omega) (by omega)))) ?_
    intro v16 M16 a16 b16 q16
    obtain ⟨q16, z16⟩ := q16
    have hS : pq_pr pq_Pt M M16 := hS.tr z16
    have hI : pz_ic M16 := hS.1 hI0
    rw [e13] at q16
    refine And.intro (fun h22 => ?_) (fun h22 => ?_)
    · skip
      refine And.intro (fun h39 => ?_) (fun h39 => ?_)
      · skip
        refine And.intro rfl ?_
        first
          | exact ⟨⟨q16.1, q16.2.1, fun j _ => q16.2.2 j, Or.inl (q16.2.2 2)⟩, hS⟩
          | exact ⟨⟨pq_te_cg q16.1 (fun b j y y2 => by rw [q34]; exact pz_una y), by rw [q34, pz_una (by decide)]; exact q16.2.1, fun j y => by rw [q34, pz_une (by omega)]; exact q16.2.2 j, Or.inr (by rw [q34]; exact pz_uu)⟩, hS⟩
          | exact ⟨⟨pq_te_cg q16.1 (fun b j y y2 => by rw [q51]; exact pz_una y2), by rw [q51, pz_una (by decide)]; exact q16.2.1, fun j y => by rw [q51, pz_una (by decide)]; exact q16.2.2 j, Or.inl (by rw [q51, pz_una (by decide)]; exact q16.2.2 2)⟩, hS⟩
          | (exfalso; omega)
      · skip
        refine And.intro (fun h44 => ?_) (fun h44 => ?_)
        · skip
          refine And.intro rfl ?_
          first
            | exact ⟨⟨q16.1, q16.2.1, fun j _ => q16.2.2 j, Or.inl (q16.2.2 2)⟩, hS⟩
            | exact ⟨⟨pq_te_cg q16.1 (fun b j y y2 => by rw [q34]; exact pz_una y), by rw [q34, pz_una (by decide)]; exact q16.2.1, fun j y => by rw [q34, pz_une (by omega)]; exact q16.2.2 j, Or.inr (by rw [q34]; exact pz_uu)⟩, hS⟩
            | exact ⟨⟨pq_te_cg q16.1 (fun b j y y2 => by rw [q51]; exact pz_una y2), by rw [q51, pz_una (by decide)]; exact q16.2.1, fun j y => by rw [q51, pz_una (by decide)]; exact q16.2.2 j, Or.inl (by rw [q51, pz_una (by decide)]; exact q16.2.2 2)⟩, hS⟩
            | (exfalso; omega)
        · skip
          refine pz_nrc (c := 7) rfl ?_
          refine And.intro (hI) ?_
          intro M51 q51
          obtain ⟨q51, z51⟩ := q51
          have hS : pq_pr pq_Pt M M51 := hS.tr ⟨z51.rt, fun b j y => by rw [q51]; exact pz_une (by unfold pq_Pt at y; omega)⟩
          have hI : pz_ic M51 := hS.1 hI0
          refine And.intro rfl ?_
          first
            | exact ⟨⟨q16.1, q16.2.1, fun j _ => q16.2.2 j, Or.inl (q16.2.2 2)⟩, hS⟩
            | exact ⟨⟨pq_te_cg q16.1 (fun b j y y2 => by rw [q34]; exact pz_una y), by rw [q34, pz_una (by decide)]; exact q16.2.1, fun j y => by rw [q34, pz_une (by omega)]; exact q16.2.2 j, Or.inr (by rw [q34]; exact pz_uu)⟩, hS⟩
            | exact ⟨⟨pq_te_cg q16.1 (fun b j y y2 => by rw [q51]; exact pz_una y2), by rw [q51, pz_una (by decide)]; exact q16.2.1, fun j y => by rw [q51, pz_una (by decide)]; exact q16.2.2 j, Or.inl (by rw [q51, pz_una (by decide)]; exact q16.2.2 2)⟩, hS⟩
            | (exfalso; omega)
    · skip
      refine And.intro (fun h27 => ?_) (fun h27 => ?_)
      · skip
        refine And.intro (fun h39 => ?_) (fun h39 => ?_)
        · skip
          refine And.intro rfl ?_
          first
            | exact ⟨⟨q16.1, q16.2.1, fun j _ => q16.2.2 j, Or.inl (q16.2.2 2)⟩, hS⟩
            | exact ⟨⟨pq_te_cg q16.1 (fun b j y y2 => by rw [q34]; exact pz_una y), by rw [q34, pz_una (by decide)]; exact q16.2.1, fun j y => by rw [q34, pz_une (by omega)]; exact q16.2.2 j, Or.inr (by rw [q34]; exact pz_uu)⟩, hS⟩
            | exact ⟨⟨pq_te_cg q16.1 (fun b j y y2 => by rw [q51]; exact pz_una y2), by rw [q51, pz_una (by decide)]; exact q16.2.1, fun j y => by rw [q51, pz_una (by decide)]; exact q16.2.2 j, Or.inl (by rw [q51, pz_una (by decide)]; exact q16.2.2 2)⟩, hS⟩
            | (exfalso; omega)
        · skip
          refine And.intro (fun h44 => ?_) (fun h44 => ?_)
          · skip
            refine And.intro rfl ?_
            first
              | exact ⟨⟨q16.1, q16.2.1, fun j _ => q16.2.2 j, Or.inl (q16.2.2 2)⟩, hS⟩
              | exact ⟨⟨pq_te_cg q16.1 (fun b j y y2 => by rw [q34]; exact pz_una y), by rw [q34, pz_una (by decide)]; exact q16.2.1, fun j y => by rw [q34, pz_une (by omega)]; exact q16.2.2 j, Or.inr (by rw [q34]; exact pz_uu)⟩, hS⟩
              | exact ⟨⟨pq_te_cg q16.1 (fun b j y y2 => by rw [q51]; exact pz_una y2), by rw [q51, pz_una (by decide)]; exact q16.2.1, fun j y => by rw [q51, pz_una (by decide)]; exact q16.2.2 j, Or.inl (by rw [q51, pz_una (by decide)]; exact q16.2.2 2)⟩, hS⟩
              | (exfalso; omega)
          · skip
            refine pz_nrc (c := 7) rfl ?_
            refine And.intro (hI) ?_
            intro M51 q51
            obtain ⟨q51, z51⟩ := q51
            have hS : pq_pr pq_Pt M M51 := hS.tr ⟨z51.rt, fun b j y => by rw [q51]; exact pz_une (by unfold pq_Pt at y; omega)⟩
            have hI : pz_ic M51 := hS.1 hI0
            refine And.intro rfl ?_
            first
              | exact ⟨⟨q16.1, q16.2.1, fun j _ => q16.2.2 j, Or.inl (q16.2.2 2)⟩, hS⟩
              | exact ⟨⟨pq_te_cg q16.1 (fun b j y y2 => by rw [q34]; exact pz_una y), by rw [q34, pz_una (by decide)]; exact q16.2.1, fun j y => by rw [q34, pz_une (by omega)]; exact q16.2.2 j, Or.inr (by rw [q34]; exact pz_uu)⟩, hS⟩
              | exact ⟨⟨pq_te_cg q16.1 (fun b j y y2 => by rw [q51]; exact pz_una y2), by rw [q51, pz_una (by decide)]; exact q16.2.1, fun j y => by rw [q51, pz_una (by decide)]; exact q16.2.2 j, Or.inl (by rw [q51, pz_una (by decide)]; exact q16.2.2 2)⟩, hS⟩
              | (exfalso; omega)
      · skip
        refine pz_nrc (c := 3) rfl ?_
        refine And.intro (hI) ?_
        intro M34 q34
        obtain ⟨q34, z34⟩ := q34
        have hS : pq_pr pq_Pt M M34 := hS.tr ⟨z34.rt, fun b j y => by rw [q34]; exact pz_une (by unfold pq_Pt at y; omega)⟩
        have hI : pz_ic M34 := hS.1 hI0
        refine And.intro (fun h39 => ?_) (fun h39 => ?_)
        · skip
          refine And.intro rfl ?_
          first
            | exact ⟨⟨q16.1, q16.2.1, fun j _ => q16.2.2 j, Or.inl (q16.2.2 2)⟩, hS⟩
            | exact ⟨⟨pq_te_cg q16.1 (fun b j y y2 => by rw [q34]; exact pz_una y), by rw [q34, pz_una (by decide)]; exact q16.2.1, fun j y => by rw [q34, pz_une (by omega)]; exact q16.2.2 j, Or.inr (by rw [q34]; exact pz_uu)⟩, hS⟩
            | exact ⟨⟨pq_te_cg q16.1 (fun b j y y2 => by rw [q51]; exact pz_una y2), by rw [q51, pz_una (by decide)]; exact q16.2.1, fun j y => by rw [q51, pz_una (by decide)]; exact q16.2.2 j, Or.inl (by rw [q51, pz_una (by decide)]; exact q16.2.2 2)⟩, hS⟩
            | (exfalso; omega)
        · skip
          refine And.intro (fun h44 => ?_) (fun h44 => ?_)
          · skip
            refine And.intro rfl ?_
            first
              | exact ⟨⟨q16.1, q16.2.1, fun j _ => q16.2.2 j, Or.inl (q16.2.2 2)⟩, hS⟩
              | exact ⟨⟨pq_te_cg q16.1 (fun b j y y2 => by rw [q34]; exact pz_una y), by rw [q34, pz_una (by decide)]; exact q16.2.1, fun j y => by rw [q34, pz_une (by omega)]; exact q16.2.2 j, Or.inr (by rw [q34]; exact pz_uu)⟩, hS⟩
              | exact ⟨⟨pq_te_cg q16.1 (fun b j y y2 => by rw [q51]; exact pz_una y2), by rw [q51, pz_una (by decide)]; exact q16.2.1, fun j y => by rw [q51, pz_una (by decide)]; exact q16.2.2 j, Or.inl (by rw [q51, pz_una (by decide)]; exact q16.2.2 2)⟩, hS⟩
              | (exfalso; omega)
          · skip
            refine pz_nrc (c := 7) rfl ?_
            refine And.intro (hI) ?_
            intro M51 q51
            obtain ⟨q51, z51⟩ := q51
            have hS : pq_pr pq_Pt M M51 := hS.tr ⟨z51.rt, fun b j y => by rw [q51]; exact pz_une (by unfold pq_Pt at y; omega)⟩
            have hI : pz_ic M51 := hS.1 hI0
            refine And.intro rfl ?_
            first
              | exact ⟨⟨q16.1, q16.2.1, fun j _ => q16.2.2 j, Or.inl (q16.2.2 2)⟩, hS⟩
              | exact ⟨⟨pq_te_cg q16.1 (fun b j y y2 => by rw [q34]; exact pz_una y), by rw [q34, pz_una (by decide)]; exact q16.2.1, fun j y => by rw [q34, pz_une (by omega)]; exact q16.2.2 j, Or.inr (by rw [q34]; exact pz_uu)⟩, hS⟩
              | exact ⟨⟨pq_te_cg q16.1 (fun b j y y2 => by rw [q51]; exact pz_una y2), by rw [q51, pz_una (by decide)]; exact q16.2.1, fun j y => by rw [q51, pz_una (by decide)]; exact q16.2.2 j, Or.inl (by rw [q51, pz_una (by decide)]; exact q16.2.2 2)⟩, hS⟩
              | (exfalso; omega)
theorem v_X11_text {fr lo i : Nat} {own : String} (h1 : 23 + 1 ≤ fr) (h2 : 8 + (3 + 11) + 526 ≤ lo) (h3 : .methodLink own i yX11_text ∈ lw_tbl) : pz_cV fr lo own i k_X11_text :=
  pz_cVk (maxL := 3) (fr' := 23) (lo' := 526) 1 11 h_X11_text rfl ⟨by decide +kernel, by decide +kernel, by decide +kernel⟩ ⟨(pz_mt 658 (by decide +kernel)), (pz_mt 656 (by decide +kernel)), (pz_mt 657 (by decide +kernel)), (pz_mt 1 (by decide +kernel))⟩ (Or.inl ⟨TX11, 14, rfl⟩) (fun a M _ h => by
    have h : (match (generalizing := false) a with | [.inr (.inr (11, th)), .inl k] => pz_ic M | _ => False) := h
    split at h
    · exact ⟨_, _, rfl⟩
    · exact h.elim) h1 h2 h3
