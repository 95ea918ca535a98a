section
noncomputable def k_X11_ill : pz_C := (3, 1, fun a M => (match a with | [.inr (.inr (11, th)), .inl a1, .inl k] => pz_ic M | _ => False), fun a M r M' => (match a, r with | [.inr (.inr (11, th)), .inl a1, .inl k], some (.inl v) => (pz_il1 M a1 k v) ∧ M = M' | _, _ => False))
noncomputable abbrev ct_X11_ill : List (Bool × Nat × pz_C) := [(false, 137, k_X11_within), (true, 322, k_X0_all), (true, 325, k_X10_writers)]
set_option maxRecDepth 100000 in
set_option maxHeartbeats 4000000 in
theorem h_X11_ill : pz_H yX11_ill cX11_ill 3 (some .int) k_X11_ill 2 47 := by
  refine pz_mk (own := RX11) (tb := t_X11_ill) (fl := pz_flf fl_RX11) (ci := pz_cif ci_RX11) (ct := pz_ctf ct_X11_ill) (rz := false) (pz_pfc_RX11 yX11_ill rfl) rfl t_X11_ill_ok (pz_flk fl_RX11_ok) (pz_cik ci_RX11_ok) ?_ ?_ (Or.inl ⟨rfl, rfl⟩) ?_ ?_
  · exact fun i k' h => pz_ctk (l := ct_X11_ill) (P := fun b i k => b = true → pz_cV 2 47 RX11 i k) (List.forall_mem_cons.mpr ⟨((fun z => by cases z)), List.forall_mem_cons.mpr ⟨(fun _ => v_X0_all (by decide) (by decide) pz_wq1033), List.forall_mem_cons.mpr ⟨(fun _ => v_X10_writers (by decide) (by decide) pz_wq1037), fun _ h => absurd h List.not_mem_nil⟩⟩⟩) true i k' h rfl
  · exact fun i k' h => pz_ctk (l := ct_X11_ill) (P := fun b i k => b = false → (pz_cS 2 47 RX11 i k ∨ (k = pz_kac ∧ 1 ≤ 2 ∧ 60 ≤ 47 ∧ Cond.methodLink RX11 i arraycopyName ∈ pz_tbl))) (List.forall_mem_cons.mpr ⟨(fun _ => Or.inl (s_X11_within (by decide) (by decide) (Or.inl pz_wq425))), List.forall_mem_cons.mpr ⟨((fun z => by cases z)), List.forall_mem_cons.mpr ⟨((fun z => by cases z)), fun _ h => absurd h List.not_mem_nil⟩⟩⟩) false i k' h rfl
  · intro a M hlen hpre
    obtain ⟨th, a1, k, rfl, hpre⟩ : ∃ th a1 k, a = [.inr (.inr (11, th)), .inl a1, .inl k] ∧ (pz_ic M) := by
      have hpre : (match (generalizing := false) a with | [.inr (.inr (11, th)), .inl a1, .inl k] => pz_ic M | _ => False) := hpre
      split at hpre
      · exact ⟨_, _, _, rfl, hpre⟩
      · exact hpre.elim
    exact Nat.le_of_ble_eq_true rfl
  · intro a M hlen hcan hM hpre Ok hgo
    obtain ⟨th, a1, k, rfl, hpre⟩ : ∃ th a1 k, a = [.inr (.inr (11, th)), .inl a1, .inl k] ∧ (pz_ic M) := by
      have hpre : (match (generalizing := false) a with | [.inr (.inr (11, th)), .inl a1, .inl k] => pz_ic M | _ => False) := hpre
      split at hpre
      · exact ⟨_, _, _, rfl, hpre⟩
      · exact hpre.elim
    obtain ⟨k_th, hc_th⟩ := pz_tlm hcan
    have k_th : pz_kd th = 11 ∧ th < 231 := k_th
    have R_th := pz_kd11 k_th.1
    subst R_th
    obtain ⟨k_a1, hc_a1⟩ := pz_tlm hc_th
    have l_a1 : -2147483648 ≤ a1 := k_a1.1
    have u_a1 : a1 ≤ 2147483647 := k_a1.2
    obtain ⟨k_k, hc_k⟩ := pz_tlm hc_a1
    have l_k : -2147483648 ≤ k := k_k.1
    have u_k : k ≤ 2147483647 := k_k.2
    have hI : pz_ic M := hpre
    refine hgo (fun _ => false) 30 0 _ [] M ?_
    refine And.intro (True.intro) ?_
    intro v5 M5 a5 b5 q5
    obtain ⟨q5, z5⟩ := q5
    subst z5
    refine And.intro (fun h8 => ?_) (fun h8 => ?_)
    · skip
      refine And.intro rfl ?_
      exact ⟨⟨fun _ => rfl, fun y => absurd y (by first | (split at q5 <;> omega) | (split at q5 <;> split at q15 <;> omega))⟩, rfl⟩
    · skip
      refine And.intro (True.intro) ?_
      intro v15 M15 a15 b15 q15
      obtain ⟨q15, z15⟩ := q15
      subst z15
      refine And.intro (fun h18 => ?_) (fun h18 => ?_)
      · skip
        refine pz_nrc (c := 71) rfl ?_
        refine And.intro (hI) ?_
        intro v27 M27 a27 b27 q27
        obtain ⟨q27, z27⟩ := q27
        subst z27
        refine pz_nrc (c := 8) rfl ?_
        intro v37 e37 a37 b37
        intro v39 e39 a39 b39
        refine And.intro (hI) ?_
        intro v40 M40 a40 b40 q40
        obtain ⟨q40, z40⟩ := q40
        subst z40
        have C5 : (0 ≤ a1 ∧ a1 ≤ 999) ∧ 1 ≤ k ∧ k ≤ 30 := by
          split at q5 <;> split at q15 <;> omega
        rw [pz_wi (by omega) (by omega)] at e37
        rw [pz_wi (by omega) (by omega)] at e39
        rw [show v39 = a1 + k - 1 by omega] at q40
        intro v44 e44 a44 b44
        intro v45 e45 a45 b45
        refine And.intro rfl ?_
        have C5 : (0 ≤ a1 ∧ a1 ≤ 999) ∧ 1 ≤ k ∧ k ≤ 30 := by
          split at q5 <;> split at q15 <;> omega
        try rw [pz_wi (by omega) (by omega)] at e37
        try rw [pz_wi (by omega) (by omega)] at e39
        exact ⟨⟨fun y => absurd C5 y, fun _ rows => pz_sb_an q27 (q40 rows) e44 e45⟩, rfl⟩
      · skip
        refine And.intro rfl ?_
        exact ⟨⟨fun _ => rfl, fun y => absurd y (by first | (split at q5 <;> omega) | (split at q5 <;> split at q15 <;> omega))⟩, rfl⟩
theorem v_X11_ill {fr lo i : Nat} {own : String} (h1 : 2 + 1 ≤ fr) (h2 : 8 + (3 + 11) + 47 ≤ lo) (h3 : .methodLink own i yX11_ill ∈ lw_tbl) : pz_cV fr lo own i k_X11_ill :=
  pz_cVk (maxL := 3) (fr' := 2) (lo' := 47) 2 11 h_X11_ill rfl ⟨(pz_nhc_RX11 yX11_ill rfl).1, (pz_nhc_RX11 yX11_ill rfl).2, pz_ds10⟩ ⟨pz_wq1032, pz_wq1030, pz_wq1031, pz_wq1⟩ (Or.inl ⟨TX11, 14, rfl⟩) (fun a M _ h => by
    have h : (match (generalizing := false) a with | [.inr (.inr (11, th)), .inl a1, .inl k] => pz_ic M | _ => False) := h
    split at h
    · exact ⟨_, _, rfl⟩
    · exact h.elim) h1 h2 h3
noncomputable def k_X11_wrote : pz_C := (1, 1, fun a M => (match a with | [.inr (.inr (11, th))] => pz_ic M | _ => False), fun a M r M' => (match a, r with | [.inr (.inr (11, th))], some (.inl v) => (pz_wr1 M v) ∧ M = M' | _, _ => False))
noncomputable abbrev ct_X11_wrote : List (Bool × Nat × pz_C) := [(true, 325, k_X10_writers), (true, 322, k_X0_all), (false, 244, k_J6_bitCount_0f7a4), (false, 301, k_J9_max_7cf53)]
set_option maxRecDepth 100000 in
set_option maxHeartbeats 4000000 in
theorem h_X11_wrote : pz_H yX11_wrote cX11_wrote 7 (some .int) k_X11_wrote 2 47 := by
  refine pz_mk (own := RX11) (tb := t_X11_wrote) (fl := pz_flf fl_RX11) (ci := pz_cif ci_RX11) (ct := pz_ctf ct_X11_wrote) (rz := false) (pz_pfc_RX11 yX11_wrote rfl) rfl t_X11_wrote_ok (pz_flk fl_RX11_ok) (pz_cik ci_RX11_ok) ?_ ?_ (Or.inl ⟨rfl, rfl⟩) ?_ ?_
  · exact fun i k' h => pz_ctk (l := ct_X11_wrote) (P := fun b i k => b = true → pz_cV 2 47 RX11 i k) (List.forall_mem_cons.mpr ⟨(fun _ => v_X10_writers (by decide) (by decide) pz_wq1037), List.forall_mem_cons.mpr ⟨(fun _ => v_X0_all (by decide) (by decide) pz_wq1033), List.forall_mem_cons.mpr ⟨((fun z => by cases z)), List.forall_mem_cons.mpr ⟨((fun z => by cases z)), fun _ h => absurd h List.not_mem_nil⟩⟩⟩⟩) true i k' h rfl
  · exact fun i k' h => pz_ctk (l := ct_X11_wrote) (P := fun b i k => b = false → (pz_cS 2 47 RX11 i k ∨ (k = pz_kac ∧ 1 ≤ 2 ∧ 60 ≤ 47 ∧ Cond.methodLink RX11 i arraycopyName ∈ pz_tbl))) (List.forall_mem_cons.mpr ⟨((fun z => by cases z)), List.forall_mem_cons.mpr ⟨((fun z => by cases z)), List.forall_mem_cons.mpr ⟨(fun _ => Or.inl (s_J6_bitCount_0f7a4 (by decide) (by decide) (Or.inl pz_wq875))), List.forall_mem_cons.mpr ⟨(fun _ => Or.inl (s_J9_max_7cf53 (by decide) (by decide) (Or.inl pz_wq989))), fun _ h => absurd h List.not_mem_nil⟩⟩⟩⟩) false i k' h rfl
  · intro a M hlen hpre
    obtain ⟨th, rfl, hpre⟩ : ∃ th, a = [.inr (.inr (11, th))] ∧ (pz_ic M) := by
      have hpre : (match (generalizing := false) a with | [.inr (.inr (11, th))] => pz_ic M | _ => False) := hpre
      split at hpre
      · exact ⟨_, rfl, hpre⟩
      · exact hpre.elim
    exact Nat.le_of_ble_eq_true rfl
  · intro a M hlen hcan hM hpre Ok hgo
    obtain ⟨th, rfl, hpre⟩ : ∃ th, a = [.inr (.inr (11, th))] ∧ (pz_ic M) := by
      have hpre : (match (generalizing := false) a with | [.inr (.inr (11, th))] => pz_ic M | _ => False) := hpre
      split at hpre
      · exact ⟨_, rfl, hpre⟩
      · exact hpre.elim
    obtain ⟨k_th, hc_th⟩ := pz_tlm hcan
    have k_th : pz_kd th = 11 ∧ th < 231 := k_th
    have R_th := pz_kd11 k_th.1
    subst R_th
    have hI : pz_ic M := hpre
    have I71 := hI.1 71 (by omega) (by omega)
    have L23 : ∀ (fu : Nat) (x1 : Int) (x2 : Int) (x3 : Int) (x4 : Int) (d5 : Option pz_V) (d6 : Option pz_V), (100 - x4).toNat < fu → (0 ≤ x4) → (x4 ≤ 100) → (2 ≤ M 71 3) → (pz_wlp (pz_grd M 8) (pz_nrd M 8) (M 71 3).toNat x1 x2 x3 x4) → Ok 23 [some (.inr (.inr (11, 0))), some (.inl x1), some (.inl x2), some (.inl x3), some (.inl x4), d5, d6] [] M := by
      intro fu
      induction fu with
      | zero => exact fun _ _ _ _ _ _ hn => absurd hn (Nat.not_lt_zero _)
      | succ fu ih23 =>
        intro x1 x2 x3 x4 d5 d6 hn23 g23_0 g23_1 g23_2 g23_3
        refine hgo (fun p => Nat.beq p 23) 54 23 _ _ _ ?_
        refine And.intro (fun h27 => ?_) (fun h27 => ?_)
        · skip
          refine And.intro rfl ?_
          refine ⟨⟨fun y => absurd y (by omega), fun _ rows => ?_⟩, rfl⟩
          have f := (g23_3 rows).2
          rcases f with f | f
          · omega
          · rw [f.2.1, show (x4 - 1).toNat = 99 by omega]
        · skip
          refine pz_nrc (c := 8) rfl ?_
          refine And.intro (hI) ?_
          intro v39 M39 a39 b39 q39
          obtain ⟨q39, z39⟩ := q39
          subst z39
          intro v42 e42 a42 b42
          refine pz_nrc (c := 71) rfl ?_
          refine And.intro (hI) ?_
          intro v49 M49 a49 b49 q49
          obtain ⟨q49, z49⟩ := q49
          subst z49
          intro v52 e52 a52 b52
          refine And.intro (True.intro) ?_
          intro v53 M53 a53 b53 q53
          obtain ⟨q53, z53⟩ := q53
          subst z53
          refine pz_nrc (c := 71) rfl ?_
          intro v64 e64 a64 b64
          have I64 := hI.1 71 (by omega) (by omega)
          intro v69 e69 a69 b69
          refine And.intro (True.intro) ?_
          intro v70 M70 a70 b70 q70
          obtain ⟨q70, z70⟩ := q70
          subst z70
          refine And.intro (fun h78 => ?_) (fun h78 => ?_)
          · skip
            intro v87 e87 a87 b87
            try rw [pz_wi (by omega) (by omega)] at e87
            have E69 : v69 = pz_w (((M 71 3).toNat : Int) - v53) := by
              rw [show ((M 71 3).toNat : Int) = v64 by omega]
              exact e69
            first
              | (have G87 : pz_wlp (pz_grd M 8) (pz_nrd M 8) (M 71 3).toNat x4 v70 v42 v87 := pz_wlp_s (by omega) g23_0 (by omega) g23_3 q39 e42 q49 e52 q53 E69 q70 (Or.inl ⟨by omega, rfl, rfl⟩))
              | (have G87 : pz_wlp (pz_grd M 8) (pz_nrd M 8) (M 71 3).toNat x1 x2 v42 v87 := pz_wlp_s (by omega) g23_0 (by omega) g23_3 q39 e42 q49 e52 q53 E69 q70 (Or.inr ⟨by omega, rfl, rfl⟩))
            exact ih23 _ _ _ _ _ _ (by omega) (by first | omega | assumption | exact pz_wlp_0) (by first | omega | assumption | exact pz_wlp_0) (by first | omega | assumption | exact pz_wlp_0) (by first | omega | assumption | exact pz_wlp_0)
          · skip
            intro v87 e87 a87 b87
            try rw [pz_wi (by omega) (by omega)] at e87
            have E69 : v69 = pz_w (((M 71 3).toNat : Int) - v53) := by
              rw [show ((M 71 3).toNat : Int) = v64 by omega]
              exact e69
            first
              | (have G87 : pz_wlp (pz_grd M 8) (pz_nrd M 8) (M 71 3).toNat x4 v70 v42 v87 := pz_wlp_s (by omega) g23_0 (by omega) g23_3 q39 e42 q49 e52 q53 E69 q70 (Or.inl ⟨by omega, rfl, rfl⟩))
              | (have G87 : pz_wlp (pz_grd M 8) (pz_nrd M 8) (M 71 3).toNat x1 x2 v42 v87 := pz_wlp_s (by omega) g23_0 (by omega) g23_3 q39 e42 q49 e52 q53 E69 q70 (Or.inr ⟨by omega, rfl, rfl⟩))
            exact ih23 _ _ _ _ _ _ (by omega) (by first | omega | assumption | exact pz_wlp_0) (by first | omega | assumption | exact pz_wlp_0) (by first | omega | assumption | exact pz_wlp_0) (by first | omega | assumption | exact pz_wlp_0)
    refine hgo (fun p => Nat.beq p 23) 54 0 _ [] M ?_
    refine pz_nrc (c := 71) rfl ?_
    intro v4 e4 a4 b4
    have I4 := hI.1 71 (by omega) (by omega)
    refine And.intro (fun h8 => ?_) (fun h8 => ?_)
    · skip
      exact L23 _ _ _ _ _ _ _ (Nat.lt_succ_self _) (by first | omega | assumption | exact pz_wlp_0) (by first | omega | assumption | exact pz_wlp_0) (by first | omega | assumption | exact pz_wlp_0) (by first | omega | assumption | exact pz_wlp_0)
    · skip
      refine And.intro rfl ?_
      exact ⟨⟨fun _ => rfl, fun y => absurd y (by omega)⟩, rfl⟩
theorem v_X11_wrote {fr lo i : Nat} {own : String} (h1 : 2 + 1 ≤ fr) (h2 : 8 + (7 + 11) + 47 ≤ lo) (h3 : .methodLink own i yX11_wrote ∈ lw_tbl) : pz_cV fr lo own i k_X11_wrote :=
  pz_cVk (maxL := 7) (fr' := 2) (lo' := 47) 0 11 h_X11_wrote rfl ⟨(pz_nhc_RX11 yX11_wrote rfl).1, (pz_nhc_RX11 yX11_wrote rfl).2, pz_ds1⟩ ⟨pz_wq1044, pz_wq1042, pz_wq1043, pz_wq1⟩ (Or.inl ⟨TX11, 14, rfl⟩) (fun a M _ h => by
    have h : (match (generalizing := false) a with | [.inr (.inr (11, th))] => pz_ic M | _ => False) := h
    split at h
    · exact ⟨_, _, rfl⟩
    · exact h.elim) h1 h2 h3

noncomputable def k_X11_heap : pz_C := (2, 1, fun a M => (match a with | [.inr (.inr (11, th)), .inl i] => pz_ic M | _ => False), fun a M r M' => (match a, r with | [.inr (.inr (11, th)), .inl i], some (.inl v) => (True) ∧ M = M' | _, _ => False))
noncomputable abbrev ct_X11_heap : List (Bool × Nat × pz_C) := [(true, 107, k_X0_at)]
set_option maxRecDepth 100000 in
set_option maxHeartbeats 4000000 in
theorem h_X11_heap : pz_H yX11_heap cX11_heap 3 (some .int) k_X11_heap 1 21 := by
  refine pz_mk (own := RX11) (tb := t_X11_heap) (fl := pz_flf fl_RX11) (ci := pz_cif ci_RX11) (ct := pz_ctf ct_X11_heap) (rz := false) (pz_pfc_RX11 yX11_heap rfl) rfl t_X11_heap_ok (pz_flk fl_RX11_ok) (pz_cik ci_RX11_ok) ?_ ?_ (Or.inl ⟨rfl, rfl⟩) ?_ ?_
  · exact fun i k' h => pz_ctk (l := ct_X11_heap) (P := fun b i k => b = true → pz_cV 1 21 RX11 i k) (List.forall_mem_cons.mpr ⟨(fun _ => v_X0_at (by decide) (by decide) pz_wq428), fun _ h => absurd h List.not_mem_nil⟩) true i k' h rfl
  · exact fun i k' h => pz_ctk (l := ct_X11_heap) (P := fun b i k => b = false → (pz_cS 1 21 RX11 i k ∨ (k = pz_kac ∧ 1 ≤ 1 ∧ 60 ≤ 21 ∧ Cond.methodLink RX11 i arraycopyName ∈ pz_tbl))) (List.forall_mem_cons.mpr ⟨((fun z => by cases z)), fun _ h => absurd h List.not_mem_nil⟩) false i k' h rfl
  · intro a M hlen hpre
    obtain ⟨th, i, rfl, hpre⟩ : ∃ th i, a = [.inr (.inr (11, th)), .inl i] ∧ (pz_ic M) := by
      have hpre : (match (generalizing := false) a with | [.inr (.inr (11, th)), .inl i] => pz_ic M | _ => False) := hpre
      split at hpre
      · exact ⟨_, _, rfl, hpre⟩
      · exact hpre.elim
    exact Nat.le_of_ble_eq_true rfl
  · intro a M hlen hcan hM hpre Ok hgo
    obtain ⟨th, i, rfl, hpre⟩ : ∃ th i, a = [.inr (.inr (11, th)), .inl i] ∧ (pz_ic M) := by
      have hpre : (match (generalizing := false) a with | [.inr (.inr (11, th)), .inl i] => pz_ic M | _ => False) := hpre
      split at hpre
      · exact ⟨_, _, rfl, hpre⟩
      · exact hpre.elim
    obtain ⟨k_th, hc_th⟩ := pz_tlm hcan
    have k_th : pz_kd th = 11 ∧ th < 231 := k_th
    have R_th := pz_kd11 k_th.1
    subst R_th
    obtain ⟨k_i, hc_i⟩ := pz_tlm hc_th
    have l_i : -2147483648 ≤ i := k_i.1
    have u_i : i ≤ 2147483647 := k_i.2
    have hI : pz_ic M := hpre
    refine hgo (fun _ => false) 16 0 _ [] M ?_
    intro r1 e1 k1
    have R1 := pz_kd0 k1
    refine And.intro (True.intro) ?_
    intro r5 M5 k5 q5
    have R5 := pz_kd5 k5
    obtain ⟨q5, z5⟩ := q5
    subst z5
    intro v10 e10 a10 b10
    refine And.intro (fun h14 => ?_) (fun h14 => ?_)
    · skip
      refine And.intro rfl ?_
      exact ⟨trivial, rfl⟩
    · skip
      intro v18 e18 a18 b18
      refine And.intro rfl ?_
      exact ⟨trivial, rfl⟩
theorem v_X11_heap {fr lo i : Nat} {own : String} (h1 : 1 + 1 ≤ fr) (h2 : 8 + (3 + 11) + 21 ≤ lo) (h3 : .methodLink own i yX11_heap ∈ lw_tbl) : pz_cV fr lo own i k_X11_heap :=
  pz_cVk (maxL := 3) (fr' := 1) (lo' := 21) 1 11 h_X11_heap rfl ⟨(pz_nhc_RX11 yX11_heap rfl).1, (pz_nhc_RX11 yX11_heap rfl).2, pz_ds5⟩ ⟨pz_wq1056, pz_wq1055, pz_ws3, pz_wq1⟩ (Or.inl ⟨TX11, 14, rfl⟩) (fun a M _ h => by
    have h : (match (generalizing := false) a with | [.inr (.inr (11, th)), .inl i] => pz_ic M | _ => False) := h
    split at h
    · exact ⟨_, _, rfl⟩
    · exact h.elim) h1 h2 h3
noncomputable def k_X11_game : pz_C := (2, 1, fun a M => (match a with | [.inr (.inr (11, th)), .inl w] => pz_ic M | _ => False), fun a M r M' => (match a, r with | [.inr (.inr (11, th)), .inl w], some (.inl v) => (True) ∧ M = M' | _, _ => False))
noncomputable abbrev ct_X11_game : List (Bool × Nat × pz_C) := [(false, 137, k_X11_within), (true, 328, k_X11_heap), (false, 292, k_J9_min_7cf53)]
set_option maxRecDepth 100000 in
set_option maxHeartbeats 4000000 in
theorem h_X11_game : pz_H yX11_game cX11_game 5 (some .int) k_X11_game 2 43 := by
  refine pz_mk (own := RX11) (tb := t_X11_game) (fl := pz_flf fl_RX11) (ci := pz_cif ci_RX11) (ct := pz_ctf ct_X11_game) (rz := false) (pz_pfc_RX11 yX11_game rfl) rfl t_X11_game_ok (pz_flk fl_RX11_ok) (pz_cik ci_RX11_ok) ?_ ?_ (Or.inl ⟨rfl, rfl⟩) ?_ ?_
  · exact fun i k' h => pz_ctk (l := ct_X11_game) (P := fun b i k => b = true → pz_cV 2 43 RX11 i k) (List.forall_mem_cons.mpr ⟨((fun z => by cases z)), List.forall_mem_cons.mpr ⟨(fun _ => v_X11_heap (by decide) (by decide) pz_wq1053), List.forall_mem_cons.mpr ⟨((fun z => by cases z)), fun _ h => absurd h List.not_mem_nil⟩⟩⟩) true i k' h rfl
  · exact fun i k' h => pz_ctk (l := ct_X11_game) (P := fun b i k => b = false → (pz_cS 2 43 RX11 i k ∨ (k = pz_kac ∧ 1 ≤ 2 ∧ 60 ≤ 43 ∧ Cond.methodLink RX11 i arraycopyName ∈ pz_tbl))) (List.forall_mem_cons.mpr ⟨(fun _ => Or.inl (s_X11_within (by decide) (by decide) (Or.inl pz_wq425))), List.forall_mem_cons.mpr ⟨((fun z => by cases z)), List.forall_mem_cons.mpr ⟨(fun _ => Or.inl (s_J9_min_7cf53 (by decide) (by decide) (Or.inl pz_wq979))), fun _ h => absurd h List.not_mem_nil⟩⟩⟩) false i k' h rfl
  · intro a M hlen hpre
    obtain ⟨th, w, rfl, hpre⟩ : ∃ th w, a = [.inr (.inr (11, th)), .inl w] ∧ (pz_ic M) := by
      have hpre : (match (generalizing := false) a with | [.inr (.inr (11, th)), .inl w] => pz_ic M | _ => False) := hpre
      split at hpre
      · exact ⟨_, _, rfl, hpre⟩
      · exact hpre.elim
    exact Nat.le_of_ble_eq_true rfl
  · intro a M hlen hcan hM hpre Ok hgo
    obtain ⟨th, w, rfl, hpre⟩ : ∃ th w, a = [.inr (.inr (11, th)), .inl w] ∧ (pz_ic M) := by
      have hpre : (match (generalizing := false) a with | [.inr (.inr (11, th)), .inl w] => pz_ic M | _ => False) := hpre
      split at hpre
      · exact ⟨_, _, rfl, hpre⟩
      · exact hpre.elim
    obtain ⟨k_th, hc_th⟩ := pz_tlm hcan
    have k_th : pz_kd th = 11 ∧ th < 231 := k_th
    have R_th := pz_kd11 k_th.1
    subst R_th
    obtain ⟨k_w, hc_w⟩ := pz_tlm hc_th
    have l_w : -2147483648 ≤ w := k_w.1
    have u_w : w ≤ 2147483647 := k_w.2
    have hI : pz_ic M := hpre
    have L44 : ∀ (fo : Nat) (x2 : Int) (x3 : Int) (d4 : Option pz_V), (12 - x3).toNat < fo → (0 ≤ x3) → Ok 44 [some (.inr (.inr (11, 0))), some (.inl w), some (.inl x2), some (.inl x3), d4] [] M := by
      intro fo
      induction fo with
      | zero => exact fun _ _ _ hn => absurd hn (Nat.not_lt_zero _)
      | succ fo ih44 =>
        intro x2 x3 d4 hn44 g44_0
        have L58 : ∀ (fu : Nat) (x2 : Int) (x3 : Int) (x4 : Int), (4 - x4).toNat < fu → (0 ≤ x4) → (0 ≤ x3) → (x3 < 12) → ((12 - x3).toNat < fo + 1) → Ok 58 [some (.inr (.inr (11, 0))), some (.inl w), some (.inl x2), some (.inl x3), some (.inl x4)] [] M := by
          intro fu
          induction fu with
          | zero => exact fun _ _ _ hn => absurd hn (Nat.not_lt_zero _)
          | succ fu ih58 =>
            intro x2 x3 x4 hn58 g58_0 g58_1 g58_2 g58_3
            refine hgo (fun p => Nat.beq p 15 || Nat.beq p 44 || Nat.beq p 58) 72 58 _ _ _ ?_
            refine And.intro (hI) ?_
            intro v63 M63 a63 b63 q63
            obtain ⟨q63, z63⟩ := q63
            subst z63
            refine And.intro (True.intro) ?_
            intro v66 M66 a66 b66 q66
            obtain ⟨q66, z66⟩ := q66
            subst z66
            refine And.intro (fun h69 => ?_) (fun h69 => ?_)
            · skip
              intro v112 e112 a112 b112
              try rw [pz_wi (by omega) (by omega)] at e112
              exact ih44 _ _ _ (by omega) (by omega)
            · skip
              refine And.intro (hI) ?_
              intro v75 M75 a75 b75 q75
              obtain ⟨q75, z75⟩ := q75
              subst z75
              intro v79 e79 a79 b79
              intro v80 e80 a80 b80
              refine And.intro (hI) ?_
              intro v83 M83 a83 b83 q83
              obtain ⟨q83, z83⟩ := q83
              subst z83
              intro v88 e88 a88 b88
              try rw [pz_wi (by omega) (by omega)] at e88
              intro v90 e90 a90 b90
              intro v91 e91 a91 b91
              refine And.intro (fun h92 => ?_) (fun h92 => ?_)
              · skip
                intro v106 e106 a106 b106
                try rw [pz_wi (by omega) (by omega)] at e106
                exact ih58 _ _ _ (by omega) (by omega) (by omega) (by omega) (by omega)
              · skip
                refine And.intro (fun h96 => ?_) (fun h96 => ?_)
                · skip
                  refine And.intro rfl ?_
                  exact ⟨trivial, rfl⟩
                · skip
                  refine And.intro rfl ?_
                  exact ⟨trivial, rfl⟩
        refine hgo (fun p => Nat.beq p 15 || Nat.beq p 44 || Nat.beq p 58) 72 44 _ _ _ ?_
        intro r46 e46 k46
        have R46 := pz_kd0 k46
        intro v49 e49 a49 b49
        have I49 := hI.1 r46 (by omega) (by omega)
        refine And.intro (fun h52 => ?_) (fun h52 => ?_)
        · skip
          refine And.intro rfl ?_
          exact ⟨trivial, rfl⟩
        · skip
          exact L58 _ _ _ _ (Nat.lt_succ_self _) (by omega) (by omega) (by omega) (by omega)
    have L15 : ∀ (fu : Nat) (x2 : Int) (x3 : Int) (d4 : Option pz_V), (12 - x3).toNat < fu → (0 ≤ x3) → Ok 15 [some (.inr (.inr (11, 0))), some (.inl w), some (.inl x2), some (.inl x3), d4] [] M := by
      intro fu
      induction fu with
      | zero => exact fun _ _ _ hn => absurd hn (Nat.not_lt_zero _)
      | succ fu ih15 =>
        intro x2 x3 d4 hn15 g15_0
        refine hgo (fun p => Nat.beq p 15 || Nat.beq p 44 || Nat.beq p 58) 72 15 _ _ _ ?_
        intro r17 e17 k17
        have R17 := pz_kd0 k17
        intro v20 e20 a20 b20
        have I20 := hI.1 r17 (by omega) (by omega)
        refine And.intro (fun h23 => ?_) (fun h23 => ?_)
        · skip
          exact L44 _ _ _ _ (Nat.lt_succ_self _) (by omega)
        · skip
          refine And.intro (hI) ?_
          intro v29 M29 a29 b29 q29
          obtain ⟨q29, z29⟩ := q29
          subst z29
          intro v33 e33 a33 b33
          intro v34 e34 a34 b34
          intro v36 e36 a36 b36
          try rw [pz_wi (by omega) (by omega)] at e36
          exact ih15 _ _ _ (by omega) (by omega)
    refine hgo (fun p => Nat.beq p 15 || Nat.beq p 44 || Nat.beq p 58) 72 0 _ [] M ?_
    refine And.intro (True.intro) ?_
    intro v3 M3 a3 b3 q3
    obtain ⟨q3, z3⟩ := q3
    subst z3
    refine And.intro (fun h6 => ?_) (fun h6 => ?_)
    · skip
      exact L15 _ _ _ _ (Nat.lt_succ_self _) (by omega)
    · skip
      refine And.intro rfl ?_
      exact ⟨trivial, rfl⟩
theorem v_X11_game {fr lo i : Nat} {own : String} (h1 : 2 + 1 ≤ fr) (h2 : 8 + (5 + 11) + 43 ≤ lo) (h3 : .methodLink own i yX11_game ∈ lw_tbl) : pz_cV fr lo own i k_X11_game :=
  pz_cVk (maxL := 5) (fr' := 2) (lo' := 43) 1 11 h_X11_game rfl ⟨(pz_nhc_RX11 yX11_game rfl).1, (pz_nhc_RX11 yX11_game rfl).2, pz_ds5⟩ ⟨pz_wq1052, pz_wq1050, pz_wq1051, pz_wq1⟩ (Or.inl ⟨TX11, 14, rfl⟩) (fun a M _ h => by
    have h : (match (generalizing := false) a with | [.inr (.inr (11, th)), .inl w] => pz_ic M | _ => False) := h
    split at h
    · exact ⟨_, _, rfl⟩
    · exact h.elim) h1 h2 h3





end
