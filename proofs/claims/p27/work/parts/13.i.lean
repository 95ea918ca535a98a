noncomputable def k_X11_feed : pz_C := (6, 1, fun a M => (match a with | [.inr (.inr (11, th)), .inl p, .inl q, .inl w, .inl s, .inl u] => pz_ic M | _ => False), fun a M r M' => (match a, r with | [.inr (.inr (11, th)), .inl p, .inl q, .inl w, .inl s, .inl u], some (.inl v) => ((M 4 1 + 20 ≤ 400 ∧ v = M 4 1 + 20 ∧ M' 4 1 = M 4 1 + 20 ∧ pz_fb M M' p q w s u) ∨ (¬ M 4 1 + 20 ≤ 400 ∧ v = -1 ∧ M' = M)) ∧ pq_pr pq_Pf M M' | _, _ => False))
noncomputable abbrev ct_X11_feed : List (Bool × Nat × pz_C) := [(true, 191, k_X7_put)]
set_option maxRecDepth 100000 in
set_option maxHeartbeats 4000000 in
theorem h_X11_feed : pz_H yX11_feed cX11_feed 6 (some .int) k_X11_feed 1 22 := by
  refine pz_mk (own := RX11) (tb := t_X11_feed) (fl := pz_flf fl_RX11) (ci := pz_cif ci_RX11) (ct := pz_ctf ct_X11_feed) (rz := false) (by decide +kernel) rfl t_X11_feed_ok (pz_flk fl_RX11_ok) (pz_cik ci_RX11_ok) ?_ ?_ (Or.inl ⟨rfl, rfl⟩) ?_ ?_
  · exact fun i k' h => pz_ctk (l := ct_X11_feed) (P := fun b i k => b = true → pz_cV 1 22 RX11 i k) (List.forall_mem_cons.mpr ⟨(fun _ => v_X7_put (by decide) (by decide) (pz_mt 647 (by decide +kernel))), fun _ h => absurd h List.not_mem_nil⟩) true i k' h rfl
  · exact fun i k' h => pz_ctk (l := ct_X11_feed) (P := fun b i k => b = false → (pz_cS 1 22 RX11 i k ∨ (k = pz_kac ∧ 1 ≤ 1 ∧ 60 ≤ 22 ∧ Cond.methodLink RX11 i arraycopyName ∈ pz_tbl))) (List.forall_mem_cons.mpr ⟨((fun z => by cases z)), fun _ h => absurd h List.not_mem_nil⟩) false i k' h rfl
  · intro a M hlen hpre
    obtain ⟨th, p, q, w, s, u, rfl, hpre⟩ : ∃ th p q w s u, a = [.inr (.inr (11, th)), .inl p, .inl q, .inl w, .inl s, .inl u] ∧ (pz_ic M) := by
      have hpre : (match (generalizing := false) a with | [.inr (.inr (11, th)), .inl p, .inl q, .inl w, .inl s, .inl u] => pz_ic M | _ => False) := hpre
      split at hpre
      · exact ⟨_, _, _, _, _, _, rfl, hpre⟩
      · exact hpre.elim
    exact Nat.le_of_ble_eq_true rfl
  · intro a M hlen hcan hM hpre Ok hgo
    obtain ⟨th, p, q, w, s, u, rfl, hpre⟩ : ∃ th p q w s u, a = [.inr (.inr (11, th)), .inl p, .inl q, .inl w, .inl s, .inl u] ∧ (pz_ic M) := by
      have hpre : (match (generalizing := false) a with | [.inr (.inr (11, th)), .inl p, .inl q, .inl w, .inl s, .inl u] => pz_ic M | _ => False) := hpre
      split at hpre
      · exact ⟨_, _, _, _, _, _, rfl, hpre⟩
      · exact hpre.elim
    obtain ⟨k_th, hc_th⟩ := pz_tlm hcan
    have k_th : pz_kd th = 11 ∧ th < 231 := k_th
    have R_th := pz_kd11 k_th.1
    subst R_th
    obtain ⟨k_p, hc_p⟩ := pz_tlm hc_th
    have l_p : -2147483648 ≤ p := k_p.1
    have u_p : p ≤ 2147483647 := k_p.2
    obtain ⟨k_q, hc_q⟩ := pz_tlm hc_p
    have l_q : -2147483648 ≤ q := k_q.1
    have u_q : q ≤ 2147483647 := k_q.2
    obtain ⟨k_w, hc_w⟩ := pz_tlm hc_q
    have l_w : -2147483648 ≤ w := k_w.1
    have u_w : w ≤ 2147483647 := k_w.2
    obtain ⟨k_s, hc_s⟩ := pz_tlm hc_w
    have l_s : -2147483648 ≤ s := k_s.1
    have u_s : s ≤ 2147483647 := k_s.2
    obtain ⟨k_u, hc_u⟩ := pz_tlm hc_s
    have l_u : -2147483648 ≤ u := k_u.1
    have u_u : u ≤ 2147483647 := k_u.2
    have hI : pz_ic M := hpre
    have hI0 := hI
    have hS : pq_pr pq_Pf M M := pq_pr.rf
    have I0 := hI.2.2.2.2.1
    refine hgo (fun _ => false) 35 0 _ [] M ?_
    refine pz_nrc (c := 4) rfl ?_
    intro v4 e4 a4 b4
    have I4 := hI.2.2.2.2.1
    intro v9 e9 a9 b9
    try rw [pz_wi (by omega) (by omega)] at e9
    refine And.intro (fun h13 => ?_) (fun h13 => ?_)
    · skip
      refine pz_nrc (c := 4) rfl ?_
      refine And.intro (hI) ?_
      intro M23 q23
      obtain ⟨q23, z23⟩ := q23
      have hS : pq_pr pq_Pf M M23 := hS.tr z23
      have hI : pz_ic M23 := hS.1 hI0
      refine pz_nrc (c := 4) rfl ?_
      refine And.intro (hI) ?_
      intro M31 q31
      obtain ⟨q31, z31⟩ := q31
      have hS : pq_pr pq_Pf M M31 := hS.tr z31
      have hI : pz_ic M31 := hS.1 hI0
      refine pz_nrc (c := 4) rfl ?_
      refine And.intro (hI) ?_
      intro M39 q39
      obtain ⟨q39, z39⟩ := q39
      have hS : pq_pr pq_Pf M M39 := hS.tr z39
      have hI : pz_ic M39 := hS.1 hI0
      refine pz_nrc (c := 4) rfl ?_
      refine And.intro (hI) ?_
      intro M48 q48
      obtain ⟨q48, z48⟩ := q48
      have hS : pq_pr pq_Pf M M48 := hS.tr z48
      have hI : pz_ic M48 := hS.1 hI0
      refine pz_nrc (c := 4) rfl ?_
      refine And.intro (hI) ?_
      intro M57 q57
      obtain ⟨q57, z57⟩ := q57
      have hS : pq_pr pq_Pf M M57 := hS.tr z57
      have hI : pz_ic M57 := hS.1 hI0
      refine pz_nrc (c := 4) rfl ?_
      intro v64 e64 a64 b64
      have I64 := hI.2.2.2.2.1
      refine And.intro rfl ?_
      have F9 := pz_fb_of (by omega) I0.1 q23.1 q31.1 q39.1 q48.1 q57.1
      exact ⟨Or.inl ⟨by omega, by omega, F9.1, F9.2⟩, hS⟩
    · skip
      refine And.intro rfl ?_
      exact ⟨Or.inr ⟨by omega, rfl, rfl⟩, hS⟩
theorem v_X11_feed {fr lo i : Nat} {own : String} (h1 : 1 + 1 ≤ fr) (h2 : 8 + (6 + 11) + 22 ≤ lo) (h3 : .methodLink own i yX11_feed ∈ lw_tbl) : pz_cV fr lo own i k_X11_feed :=
  pz_cVk (maxL := 6) (fr' := 1) (lo' := 22) 5 11 h_X11_feed rfl ⟨by decide +kernel, by decide +kernel, by decide +kernel⟩ ⟨(pz_mt 646 (by decide +kernel)), (pz_mt 644 (by decide +kernel)), (pz_mt 645 (by decide +kernel)), (pz_mt 1 (by decide +kernel))⟩ (Or.inl ⟨TX11, 14, rfl⟩) (fun a M _ h => by
    have h : (match (generalizing := false) a with | [.inr (.inr (11, th)), .inl p, .inl q, .inl w, .inl s, .inl u] => pz_ic M | _ => False) := h
    split at h
    · exact ⟨_, _, rfl⟩
    · exact h.elim) h1 h2 h3


