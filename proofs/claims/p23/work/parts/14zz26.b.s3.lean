section
noncomputable def k3_X0_canGive : pz_C := (2, 1, fun a M => (match a with | [.inr (.inr (0, c)), .inl i] => True | _ => False), fun a M r M' => (match a, r with | [.inr (.inr (0, c)), .inl i], some (.inl v) => (0 ≤ v ∧ sd_q M c (fun F => 0 ≤ i → i < F 88 → v = sd_cg F i.toNat)) ∧ M = M' | _, _ => False))
noncomputable abbrev ct3_X0_canGive : List (Bool × Nat × pz_C) := [(true, 48, k_X0_at), (true, 71, k_X5_isIn), (false, 58, k_J9_max_7cf53)]
set_option maxRecDepth 100000 in
set_option maxHeartbeats 4000000 in
theorem h3_X0_canGive : pz_H yX0_canGive cX0_canGive 2 (some .int) k3_X0_canGive 1 21 := by
  refine pz_mk (own := RX0) (tb := t_X0_canGive) (fl := pz_flf fl_RX0) (ci := pz_cif ci_RX0) (ct := pz_ctf ct3_X0_canGive) (rz := false) (pz_pfc_RX0 yX0_canGive rfl) rfl t_X0_canGive_ok (pz_flk fl_RX0_ok) (pz_cik ci_RX0_ok) ?_ ?_ (Or.inl ⟨rfl, rfl⟩) ?_ ?_
  · exact fun i k' h => pz_ctk (l := ct3_X0_canGive) (P := fun b i k => b = true → pz_cV 1 21 RX0 i k) (List.forall_mem_cons.mpr ⟨(fun _ => v_X0_at (by decide) (by decide) pz_wq494), List.forall_mem_cons.mpr ⟨(fun _ => v_X5_isIn (by decide) (by decide) pz_wq529), List.forall_mem_cons.mpr ⟨((fun z => by cases z)), fun _ h => absurd h List.not_mem_nil⟩⟩⟩) true i k' h rfl
  · exact fun i k' h => pz_ctk (l := ct3_X0_canGive) (P := fun b i k => b = false → (pz_cS 1 21 RX0 i k ∨ (k = pz_kac ∧ 1 ≤ 1 ∧ 60 ≤ 21 ∧ Cond.methodLink RX0 i arraycopyName ∈ pz_tbl))) (List.forall_mem_cons.mpr ⟨((fun z => by cases z)), List.forall_mem_cons.mpr ⟨((fun z => by cases z)), List.forall_mem_cons.mpr ⟨(fun _ => Or.inl (s_J9_max_7cf53 (by decide) (by decide) (Or.inl pz_wq634))), fun _ h => absurd h List.not_mem_nil⟩⟩⟩) false i k' h rfl
  · intro a M hlen hpre
    obtain ⟨c, i, rfl, hpre⟩ : ∃ c i, a = [.inr (.inr (0, c)), .inl i] ∧ (True) := by
      have hpre : (match (generalizing := false) a with | [.inr (.inr (0, c)), .inl i] => True | _ => False) := hpre
      split at hpre
      · exact ⟨_, _, rfl, hpre⟩
      · exact hpre.elim
    exact Nat.le_of_ble_eq_true rfl
  · intro a M hlen hcan hM hpre Ok hgo
    obtain ⟨c, i, rfl, hpre⟩ : ∃ c i, a = [.inr (.inr (0, c)), .inl i] ∧ (True) := by
      have hpre : (match (generalizing := false) a with | [.inr (.inr (0, c)), .inl i] => True | _ => False) := hpre
      split at hpre
      · exact ⟨_, _, rfl, hpre⟩
      · exact hpre.elim
    obtain ⟨k_c, hc_c⟩ := pz_tlm hcan
    have k_c : pz_kd c = 0 ∧ c < 231 := k_c
    have R_c := pz_kd0 k_c.1
    obtain ⟨k_i, hc_i⟩ := pz_tlm hc_c
    have l_i : -2147483648 ≤ i := k_i.1
    have u_i : i ≤ 2147483647 := k_i.2
    refine hgo (fun _ => false) 16 0 _ [] M ?_
    refine And.intro (True.intro) ?_
    intro r2 M2 k2 q2
    have R2 := pz_kd5 k2
    obtain ⟨q2, z2⟩ := q2
    subst z2
    have A2 := pz_at_lk R_c q2
    have B2 : 89 + 13 * (c - 71) ≤ r2 ∧ r2 ≤ 89 + 13 * (c - 71) + 12 := by
      rw [A2]
      exact pz_lnk_c
    refine And.intro (True.intro) ?_
    intro v5 M5 a5 b5 q5
    obtain ⟨q5, z5⟩ := q5
    subst z5
    refine And.intro (fun h8 => ?_) (fun h8 => ?_)
    · skip
      refine And.intro rfl ?_
      refine ⟨⟨by omega, fun F hF hW h0 h1 => ?_⟩, rfl⟩
      have hn := hF.1
      have hm := hW.1
      have b := sd_at R_c hF hW h0 h1 A2
      have b5 := b.2.2.2.2.2.1
      have b7 := b.2.2.2.2.2.2.2
      have P := hW.2.2 i.toNat (by first | decide | omega)
      unfold sd_lw at P
      have q5 := q5
      rw [b5, b7] at q5
      unfold sd_cg
      first
        | (have b2 := (sd_at R_c hF hW h0 h1 A14).2.2.1
           rw [if_pos (by
            unfold sd_in
            split at q5 <;> omega)]
           omega)
        | (rw [if_neg (fun z => by
            unfold sd_in at z
            split at q5 <;> omega)]; done)
    · skip
      refine And.intro (True.intro) ?_
      intro r14 M14 k14 q14
      have R14 := pz_kd5 k14
      obtain ⟨q14, z14⟩ := q14
      subst z14
      have A14 := pz_at_lk R_c q14
      have B14 : 89 + 13 * (c - 71) ≤ r14 ∧ r14 ≤ 89 + 13 * (c - 71) + 12 := by
        rw [A14]
        exact pz_lnk_c
      intro v17 e17 a17 b17
      refine And.intro (True.intro) ?_
      intro v20 M20 a20 b20 q20
      obtain ⟨q20, z20⟩ := q20
      subst z20
      refine And.intro rfl ?_
      refine ⟨⟨by omega, fun F hF hW h0 h1 => ?_⟩, rfl⟩
      have hn := hF.1
      have hm := hW.1
      have b := sd_at R_c hF hW h0 h1 A2
      have b5 := b.2.2.2.2.2.1
      have b7 := b.2.2.2.2.2.2.2
      have P := hW.2.2 i.toNat (by first | decide | omega)
      unfold sd_lw at P
      have q5 := q5
      rw [b5, b7] at q5
      unfold sd_cg
      first
        | (have b2 := (sd_at R_c hF hW h0 h1 A14).2.2.1
           rw [if_pos (by
            unfold sd_in
            split at q5 <;> omega)]
           omega)
        | (rw [if_neg (fun z => by
            unfold sd_in at z
            split at q5 <;> omega)]; done)
theorem v3_X0_canGive {fr lo i : Nat} {own : String} (h1 : 1 + 1 ≤ fr) (h2 : 8 + (2 + 11) + 21 ≤ lo) (h3 : .methodLink own i yX0_canGive ∈ lw_tbl) : pz_cV fr lo own i k3_X0_canGive :=
  pz_cVk (maxL := 2) (fr' := 1) (lo' := 21) 1 0 h3_X0_canGive rfl ⟨(pz_nhc_RX0 yX0_canGive rfl).1, (pz_nhc_RX0 yX0_canGive rfl).2, pz_ds5⟩ ⟨pz_wq972, pz_wq970, pz_wq971, pz_wq2⟩ (Or.inl ⟨TX0, 8, rfl⟩) (fun a M _ h => by
    have h : (match (generalizing := false) a with | [.inr (.inr (0, c)), .inl i] => True | _ => False) := h
    split at h
    · exact ⟨_, _, rfl⟩
    · exact h.elim) h1 h2 h3
noncomputable def k3_X0_givenTo : pz_C := (2, 1, fun a M => (match a with | [.inr (.inr (0, c)), .inl i] => pz_ic M | _ => False), fun a M r M' => (match a, r with | [.inr (.inr (0, c)), .inl i], some (.inl v) => (sd_q M c (fun F => 0 ≤ i → v = sd_g F i)) ∧ M = M' | _, _ => False))
noncomputable abbrev ct3_X0_givenTo : List (Bool × Nat × pz_C) := [(true, 97, k3_X0_canGive), (false, 100, k_J9_min_7cf53)]
set_option maxRecDepth 100000 in
set_option maxHeartbeats 4000000 in
theorem h3_X0_givenTo : pz_H yX0_givenTo cX0_givenTo 4 (some .int) k3_X0_givenTo 2 42 := by
  refine pz_mk (own := RX0) (tb := t_X0_givenTo) (fl := pz_flf fl_RX0) (ci := pz_cif ci_RX0) (ct := pz_ctf ct3_X0_givenTo) (rz := false) (pz_pfc_RX0 yX0_givenTo rfl) rfl t_X0_givenTo_ok (pz_flk fl_RX0_ok) (pz_cik ci_RX0_ok) ?_ ?_ (Or.inl ⟨rfl, rfl⟩) ?_ ?_
  · exact fun i k' h => pz_ctk (l := ct3_X0_givenTo) (P := fun b i k => b = true → pz_cV 2 42 RX0 i k) (List.forall_mem_cons.mpr ⟨(fun _ => v3_X0_canGive (by decide) (by decide) pz_wq969), List.forall_mem_cons.mpr ⟨((fun z => by cases z)), fun _ h => absurd h List.not_mem_nil⟩⟩) true i k' h rfl
  · exact fun i k' h => pz_ctk (l := ct3_X0_givenTo) (P := fun b i k => b = false → (pz_cS 2 42 RX0 i k ∨ (k = pz_kac ∧ 1 ≤ 2 ∧ 60 ≤ 42 ∧ Cond.methodLink RX0 i arraycopyName ∈ pz_tbl))) (List.forall_mem_cons.mpr ⟨((fun z => by cases z)), List.forall_mem_cons.mpr ⟨(fun _ => Or.inl (s_J9_min_7cf53 (by decide) (by decide) (Or.inl pz_wq973))), fun _ h => absurd h List.not_mem_nil⟩⟩) false i k' h rfl
  · intro a M hlen hpre
    obtain ⟨c, i, rfl, hpre⟩ : ∃ c i, a = [.inr (.inr (0, c)), .inl i] ∧ (pz_ic M) := by
      have hpre : (match (generalizing := false) a with | [.inr (.inr (0, c)), .inl i] => pz_ic M | _ => False) := hpre
      split at hpre
      · exact ⟨_, _, rfl, hpre⟩
      · exact hpre.elim
    exact Nat.le_of_ble_eq_true rfl
  · intro a M hlen hcan hM hpre Ok hgo
    obtain ⟨c, i, rfl, hpre⟩ : ∃ c i, a = [.inr (.inr (0, c)), .inl i] ∧ (pz_ic M) := by
      have hpre : (match (generalizing := false) a with | [.inr (.inr (0, c)), .inl i] => pz_ic M | _ => False) := hpre
      split at hpre
      · exact ⟨_, _, rfl, hpre⟩
      · exact hpre.elim
    obtain ⟨k_c, hc_c⟩ := pz_tlm hcan
    have k_c : pz_kd c = 0 ∧ c < 231 := k_c
    have R_c := pz_kd0 k_c.1
    obtain ⟨k_i, hc_i⟩ := pz_tlm hc_c
    have l_i : -2147483648 ≤ i := k_i.1
    have u_i : i ≤ 2147483647 := k_i.2
    have hI : pz_ic M := hpre
    have L4 : ∀ (fu : Nat) (x2 : Int) (x3 : Int), (M c 3 - x3).toNat < fu → (0 ≤ x3) → (sd_q M c (fun F => 0 ≤ i → sd_gtE F i x2 x3)) → Ok 4 [some (.inr (.inr (0, c))), some (.inl i), some (.inl x2), some (.inl x3)] [] M := by
      intro fu
      induction fu with
      | zero => exact fun _ _ hn => absurd hn (Nat.not_lt_zero _)
      | succ fu ih4 =>
        intro x2 x3 hn4 g4_0 g4_1
        refine hgo (fun p => Nat.beq p 4) 22 4 _ _ _ ?_
        intro v6 e6 a6 b6
        have I6 := hI.1 c (by first | decide | omega) (by first | decide | omega)
        refine And.intro (fun h9 => ?_) (fun h9 => ?_)
        · skip
          refine And.intro rfl ?_
          refine ⟨fun F hF hW hi => ?_, rfl⟩
          have hn := hF.1
          exact sd_gtE_z ((by assumption : sd_q M c (fun F => 0 ≤ i → sd_gtE F i x2 x3)) F hF hW hi) hW (by first | decide | omega)
        · skip
          refine And.intro (True.intro) ?_
          intro v16 M16 a16 b16 q16
          obtain ⟨q16, z16⟩ := q16
          subst z16
          refine And.intro (True.intro) ?_
          intro v19 M19 a19 b19 q19
          obtain ⟨q19, z19⟩ := q19
          subst z19
          intro v22 e22 a22 b22
          intro v24 e24 a24 b24
          rw [pz_wi (by first | decide | omega) (by first | decide | omega)] at e24
          have G4 : sd_q M c (fun F => 0 ≤ i → sd_gtE F i v22 v24) := fun F hF hW hi => by
            have hn := hF.1
            have b := q16.2 F hF hW (by first | decide | omega) (by first | decide | omega)
            exact sd_gtE_s ((by assumption : sd_q M c (fun F => 0 ≤ i → sd_gtE F i x2 x3)) F hF hW hi) hW hi (by first | decide | omega) (by first | decide | omega) e24 (show v19 = min i (sd_cg F x3.toNat) by rw [q19, b]) e22
          exact ih4 _ _ (by first | decide | omega) (by first | omega | assumption | exact fun F hF hW hi => sd_gtE_0 hW) (by first | omega | assumption | exact fun F hF hW hi => sd_gtE_0 hW)
    refine hgo (fun p => Nat.beq p 4) 22 0 _ [] M ?_
    exact L4 _ _ _ (Nat.lt_succ_self _) (by first | omega | assumption | exact fun F hF hW hi => sd_gtE_0 hW) (by first | omega | assumption | exact fun F hF hW hi => sd_gtE_0 hW)
theorem v3_X0_givenTo {fr lo i : Nat} {own : String} (h1 : 2 + 1 ≤ fr) (h2 : 8 + (4 + 11) + 42 ≤ lo) (h3 : .methodLink own i yX0_givenTo ∈ lw_tbl) : pz_cV fr lo own i k3_X0_givenTo :=
  pz_cVk (maxL := 4) (fr' := 2) (lo' := 42) 1 0 h3_X0_givenTo rfl ⟨(pz_nhc_RX0 yX0_givenTo rfl).1, (pz_nhc_RX0 yX0_givenTo rfl).2, pz_ds5⟩ ⟨pz_wq968, pz_wq966, pz_wq967, pz_wq2⟩ (Or.inl ⟨TX0, 8, rfl⟩) (fun a M _ h => by
    have h : (match (generalizing := false) a with | [.inr (.inr (0, c)), .inl i] => pz_ic M | _ => False) := h
    split at h
    · exact ⟨_, _, rfl⟩
    · exact h.elim) h1 h2 h3
noncomputable def k3_X11_highestLevel : pz_C := (2, 1, fun a M => (match a with | [.inr (.inr (11, th)), .inl n] => pz_ic M | _ => False), fun a M r M' => (match a, r with | [.inr (.inr (11, th)), .inl n], some (.inl v) => ((0 ≤ v ∧ v ≤ 999) ∧ sd_q M 71 (fun F => 0 ≤ n → sd_lvl F n v)) ∧ M = M' | _, _ => False))
noncomputable abbrev ct3_X11_highestLevel : List (Bool × Nat × pz_C) := [(true, 283, k3_X0_givenTo)]
set_option maxRecDepth 100000 in
set_option maxHeartbeats 4000000 in
theorem h3_X11_highestLevel : pz_H yX11_highestLevel cX11_highestLevel 6 (some .int) k3_X11_highestLevel 3 65 := by
  refine pz_mk (own := RX11) (tb := t_X11_highestLevel) (fl := pz_flf fl_RX11) (ci := pz_cif ci_RX11) (ct := pz_ctf ct3_X11_highestLevel) (rz := false) (pz_pfc_RX11 yX11_highestLevel rfl) rfl t_X11_highestLevel_ok (pz_flk fl_RX11_ok) (pz_cik ci_RX11_ok) ?_ ?_ (Or.inl ⟨rfl, rfl⟩) ?_ ?_
  · exact fun i k' h => pz_ctk (l := ct3_X11_highestLevel) (P := fun b i k => b = true → pz_cV 3 65 RX11 i k) (List.forall_mem_cons.mpr ⟨(fun _ => v3_X0_givenTo (by decide) (by decide) pz_wq965), fun _ h => absurd h List.not_mem_nil⟩) true i k' h rfl
  · exact fun i k' h => pz_ctk (l := ct3_X11_highestLevel) (P := fun b i k => b = false → (pz_cS 3 65 RX11 i k ∨ (k = pz_kac ∧ 1 ≤ 3 ∧ 60 ≤ 65 ∧ Cond.methodLink RX11 i arraycopyName ∈ pz_tbl))) (List.forall_mem_cons.mpr ⟨((fun z => by cases z)), fun _ h => absurd h List.not_mem_nil⟩) false i k' h rfl
  · intro a M hlen hpre
    obtain ⟨th, n, rfl, hpre⟩ : ∃ th n, a = [.inr (.inr (11, th)), .inl n] ∧ (pz_ic M) := by
      have hpre : (match (generalizing := false) a with | [.inr (.inr (11, th)), .inl n] => pz_ic M | _ => False) := hpre
      split at hpre
      · exact ⟨_, _, rfl, hpre⟩
      · exact hpre.elim
    exact Nat.le_of_ble_eq_true rfl
  · intro a M hlen hcan hM hpre Ok hgo
    obtain ⟨th, n, rfl, hpre⟩ : ∃ th n, a = [.inr (.inr (11, th)), .inl n] ∧ (pz_ic M) := by
      have hpre : (match (generalizing := false) a with | [.inr (.inr (11, th)), .inl n] => pz_ic M | _ => False) := hpre
      split at hpre
      · exact ⟨_, _, rfl, hpre⟩
      · exact hpre.elim
    obtain ⟨k_th, hc_th⟩ := pz_tlm hcan
    have k_th : pz_kd th = 11 ∧ th < 231 := k_th
    have R_th := pz_kd11 k_th.1
    subst R_th
    obtain ⟨k_n, hc_n⟩ := pz_tlm hc_th
    have l_n : -2147483648 ≤ n := k_n.1
    have u_n : n ≤ 2147483647 := k_n.2
    have hI : pz_ic M := hpre
    have L9 : ∀ (fu : Nat) (x2 : Int) (x3 : Int) (x4 : Int) (d5 : Option pz_V), (999 - x4).toNat < fu → (0 ≤ x4) → (0 ≤ x2) → (x2 ≤ 999) → (0 ≤ x3) → (x3 ≤ 999) → (x2 ≤ x3) → (x3 ≤ x2 + 999 - x4) → (x4 ≤ 999) → (sd_q M 71 (fun F => 0 ≤ n → sd_g F x2 ≤ n ∧ (x3 = 999 ∨ n < sd_g F (x3 + 1)))) → Ok 9 [some (.inr (.inr (11, 0))), some (.inl n), some (.inl x2), some (.inl x3), some (.inl x4), d5] [] M := by
      intro fu
      induction fu with
      | zero => exact fun _ _ _ _ hn => absurd hn (Nat.not_lt_zero _)
      | succ fu ih9 =>
        intro x2 x3 x4 d5 hn9 g9_0 g9_1 g9_2 g9_3 g9_4 g9_5 g9_6 g9_7 g9_8
        refine hgo (fun p => Nat.beq p 9) 39 9 _ _ _ ?_
        refine And.intro (fun h14 => ?_) (fun h14 => ?_)
        · skip
          refine And.intro rfl ?_
          refine ⟨⟨by omega, fun F hF hW hn => ?_⟩, rfl⟩
          obtain ⟨a, b⟩ := (by assumption : sd_q M 71 (fun F => 0 ≤ n → sd_g F x2 ≤ n ∧ (x3 = 999 ∨ n < sd_g F (x3 + 1)))) F hF hW hn
          have e : x3 = x2 := by omega
          rw [e] at b
          exact ⟨by omega, a, b⟩
        · skip
          refine And.intro (fun h19 => ?_) (fun h19 => ?_)
          · skip
            refine And.intro rfl ?_
            refine ⟨⟨by omega, fun F hF hW hn => ?_⟩, rfl⟩
            obtain ⟨a, b⟩ := (by assumption : sd_q M 71 (fun F => 0 ≤ n → sd_g F x2 ≤ n ∧ (x3 = 999 ∨ n < sd_g F (x3 + 1)))) F hF hW hn
            have e : x3 = x2 := by omega
            rw [e] at b
            exact ⟨by omega, a, b⟩
          · skip
            intro v24 e24 a24 b24
            try rw [pz_wi (by first | decide | omega) (by first | decide | omega)] at e24
            intro v26 e26 a26 b26
            try rw [pz_wi (by first | decide | omega) (by first | decide | omega)] at e26
            refine And.intro (by first | decide | omega) ?_
            intro v28 e28 a28 b28
            rw [Int.tdiv_eq_ediv_of_nonneg (by first | decide | omega)] at e28
            rw [pz_wi (by first | decide | omega) (by first | decide | omega)] at e28
            refine pz_nrc (c := 71) rfl ?_
            refine And.intro (hI) ?_
            intro v37 M37 a37 b37 q37
            obtain ⟨q37, z37⟩ := q37
            subst z37
            refine And.intro (fun h41 => ?_) (fun h41 => ?_)
            · skip
              intro v53 e53 a53 b53
              try rw [pz_wi (by first | decide | omega) (by first | decide | omega)] at e53
              intro v55 e55 a55 b55
              rw [pz_wi (by first | decide | omega) (by first | decide | omega)] at e55
              have GI := (by assumption : sd_q M 71 (fun F => 0 ≤ n → sd_g F x2 ≤ n ∧ (x3 = 999 ∨ n < sd_g F (x3 + 1))))
              first
                | (have G9 : sd_q M 71 (fun F => 0 ≤ n → sd_g F v28 ≤ n ∧ (x3 = 999 ∨ n < sd_g F (x3 + 1))) := fun F hF hW hn => by
                    have c := q37 F hF hW (by first | decide | omega)
                    exact ⟨by omega, (GI F hF hW hn).2⟩)
                | (have G9 : sd_q M 71 (fun F => 0 ≤ n → sd_g F x2 ≤ n ∧ (v53 = 999 ∨ n < sd_g F (v53 + 1))) := fun F hF hW hn => by
                    have c := q37 F hF hW (by first | decide | omega)
                    exact ⟨(GI F hF hW hn).1, Or.inr (by rw [show v53 + 1 = v28 by omega]; omega)⟩)
              exact ih9 _ _ _ _ (by first | decide | omega) (by first | omega | assumption | exact fun F hF hW hn => ⟨by rw [sd_g_0 hW]; exact hn, Or.inl rfl⟩) (by first | omega | assumption | exact fun F hF hW hn => ⟨by rw [sd_g_0 hW]; exact hn, Or.inl rfl⟩) (by first | omega | assumption | exact fun F hF hW hn => ⟨by rw [sd_g_0 hW]; exact hn, Or.inl rfl⟩) (by first | omega | assumption | exact fun F hF hW hn => ⟨by rw [sd_g_0 hW]; exact hn, Or.inl rfl⟩) (by first | omega | assumption | exact fun F hF hW hn => ⟨by rw [sd_g_0 hW]; exact hn, Or.inl rfl⟩) (by first | omega | assumption | exact fun F hF hW hn => ⟨by rw [sd_g_0 hW]; exact hn, Or.inl rfl⟩) (by first | omega | assumption | exact fun F hF hW hn => ⟨by rw [sd_g_0 hW]; exact hn, Or.inl rfl⟩) (by first | omega | assumption | exact fun F hF hW hn => ⟨by rw [sd_g_0 hW]; exact hn, Or.inl rfl⟩) (by first | omega | assumption | exact fun F hF hW hn => ⟨by rw [sd_g_0 hW]; exact hn, Or.inl rfl⟩)
            · skip
              intro v55 e55 a55 b55
              rw [pz_wi (by first | decide | omega) (by first | decide | omega)] at e55
              have GI := (by assumption : sd_q M 71 (fun F => 0 ≤ n → sd_g F x2 ≤ n ∧ (x3 = 999 ∨ n < sd_g F (x3 + 1))))
              first
                | (have G9 : sd_q M 71 (fun F => 0 ≤ n → sd_g F v28 ≤ n ∧ (x3 = 999 ∨ n < sd_g F (x3 + 1))) := fun F hF hW hn => by
                    have c := q37 F hF hW (by first | decide | omega)
                    exact ⟨by omega, (GI F hF hW hn).2⟩)
                | (have G9 : sd_q M 71 (fun F => 0 ≤ n → sd_g F x2 ≤ n ∧ (v53 = 999 ∨ n < sd_g F (v53 + 1))) := fun F hF hW hn => by
                    have c := q37 F hF hW (by first | decide | omega)
                    exact ⟨(GI F hF hW hn).1, Or.inr (by rw [show v53 + 1 = v28 by omega]; omega)⟩)
              exact ih9 _ _ _ _ (by first | decide | omega) (by first | omega | assumption | exact fun F hF hW hn => ⟨by rw [sd_g_0 hW]; exact hn, Or.inl rfl⟩) (by first | omega | assumption | exact fun F hF hW hn => ⟨by rw [sd_g_0 hW]; exact hn, Or.inl rfl⟩) (by first | omega | assumption | exact fun F hF hW hn => ⟨by rw [sd_g_0 hW]; exact hn, Or.inl rfl⟩) (by first | omega | assumption | exact fun F hF hW hn => ⟨by rw [sd_g_0 hW]; exact hn, Or.inl rfl⟩) (by first | omega | assumption | exact fun F hF hW hn => ⟨by rw [sd_g_0 hW]; exact hn, Or.inl rfl⟩) (by first | omega | assumption | exact fun F hF hW hn => ⟨by rw [sd_g_0 hW]; exact hn, Or.inl rfl⟩) (by first | omega | assumption | exact fun F hF hW hn => ⟨by rw [sd_g_0 hW]; exact hn, Or.inl rfl⟩) (by first | omega | assumption | exact fun F hF hW hn => ⟨by rw [sd_g_0 hW]; exact hn, Or.inl rfl⟩) (by first | omega | assumption | exact fun F hF hW hn => ⟨by rw [sd_g_0 hW]; exact hn, Or.inl rfl⟩)
    refine hgo (fun p => Nat.beq p 9) 39 0 _ [] M ?_
    exact L9 _ _ _ _ _ (Nat.lt_succ_self _) (by first | omega | assumption | exact fun F hF hW hn => ⟨by rw [sd_g_0 hW]; exact hn, Or.inl rfl⟩) (by first | omega | assumption | exact fun F hF hW hn => ⟨by rw [sd_g_0 hW]; exact hn, Or.inl rfl⟩) (by first | omega | assumption | exact fun F hF hW hn => ⟨by rw [sd_g_0 hW]; exact hn, Or.inl rfl⟩) (by first | omega | assumption | exact fun F hF hW hn => ⟨by rw [sd_g_0 hW]; exact hn, Or.inl rfl⟩) (by first | omega | assumption | exact fun F hF hW hn => ⟨by rw [sd_g_0 hW]; exact hn, Or.inl rfl⟩) (by first | omega | assumption | exact fun F hF hW hn => ⟨by rw [sd_g_0 hW]; exact hn, Or.inl rfl⟩) (by first | omega | assumption | exact fun F hF hW hn => ⟨by rw [sd_g_0 hW]; exact hn, Or.inl rfl⟩) (by first | omega | assumption | exact fun F hF hW hn => ⟨by rw [sd_g_0 hW]; exact hn, Or.inl rfl⟩) (by first | omega | assumption | exact fun F hF hW hn => ⟨by rw [sd_g_0 hW]; exact hn, Or.inl rfl⟩)
theorem v3_X11_highestLevel {fr lo i : Nat} {own : String} (h1 : 3 + 1 ≤ fr) (h2 : 8 + (6 + 11) + 65 ≤ lo) (h3 : .methodLink own i yX11_highestLevel ∈ lw_tbl) : pz_cV fr lo own i k3_X11_highestLevel :=
  pz_cVk (maxL := 6) (fr' := 3) (lo' := 65) 1 11 h3_X11_highestLevel rfl ⟨(pz_nhc_RX11 yX11_highestLevel rfl).1, (pz_nhc_RX11 yX11_highestLevel rfl).2, pz_ds5⟩ ⟨pz_wq977, pz_wq976, pz_ws2, pz_wq1⟩ (Or.inl ⟨TX11, 14, rfl⟩) (fun a M _ h => by
    have h : (match (generalizing := false) a with | [.inr (.inr (11, th)), .inl n] => pz_ic M | _ => False) := h
    split at h
    · exact ⟨_, _, rfl⟩
    · exact h.elim) h1 h2 h3
noncomputable def k3_X11_share : pz_C := (3, 1, fun a M => (match a with | [.inr (.inr (11, th)), .inl n, .inl i] => pz_ic M | _ => False), fun a M r M' => (match a, r with | [.inr (.inr (11, th)), .inl n, .inl i], some (.inl v) => (sd_wc M v (fun _ F => sd_shv F n i)) ∧ M = M' | _, _ => False))
noncomputable abbrev ct3_X11_share : List (Bool × Nat × pz_C) := [(false, 137, k_X11_within), (true, 118, k_X0_has), (true, 283, k3_X0_givenTo), (true, 286, k3_X11_highestLevel), (true, 289, k3_X0_canGive), (false, 292, k_J9_min_7cf53)]
set_option maxRecDepth 100000 in
set_option maxHeartbeats 4000000 in
theorem h3_X11_share : pz_H yX11_share cX11_share 6 (some .int) k3_X11_share 4 90 := by
  refine pz_mk (own := RX11) (tb := t_X11_share) (fl := pz_flf fl_RX11) (ci := pz_cif ci_RX11) (ct := pz_ctf ct3_X11_share) (rz := false) (pz_pfc_RX11 yX11_share rfl) rfl t_X11_share_ok (pz_flk fl_RX11_ok) (pz_cik ci_RX11_ok) ?_ ?_ (Or.inl ⟨rfl, rfl⟩) ?_ ?_
  · exact fun i k' h => pz_ctk (l := ct3_X11_share) (P := fun b i k => b = true → pz_cV 4 90 RX11 i k) (List.forall_mem_cons.mpr ⟨((fun z => by cases z)), List.forall_mem_cons.mpr ⟨(fun _ => v_X0_has (by decide) (by decide) pz_wq444), List.forall_mem_cons.mpr ⟨(fun _ => v3_X0_givenTo (by decide) (by decide) pz_wq965), List.forall_mem_cons.mpr ⟨(fun _ => v3_X11_highestLevel (by decide) (by decide) pz_wq974), List.forall_mem_cons.mpr ⟨(fun _ => v3_X0_canGive (by decide) (by decide) pz_wq978), List.forall_mem_cons.mpr ⟨((fun z => by cases z)), fun _ h => absurd h List.not_mem_nil⟩⟩⟩⟩⟩⟩) true i k' h rfl
  · exact fun i k' h => pz_ctk (l := ct3_X11_share) (P := fun b i k => b = false → (pz_cS 4 90 RX11 i k ∨ (k = pz_kac ∧ 1 ≤ 4 ∧ 60 ≤ 90 ∧ Cond.methodLink RX11 i arraycopyName ∈ pz_tbl))) (List.forall_mem_cons.mpr ⟨(fun _ => Or.inl (s_X11_within (by decide) (by decide) (Or.inl pz_wq425))), List.forall_mem_cons.mpr ⟨((fun z => by cases z)), List.forall_mem_cons.mpr ⟨((fun z => by cases z)), List.forall_mem_cons.mpr ⟨((fun z => by cases z)), List.forall_mem_cons.mpr ⟨((fun z => by cases z)), List.forall_mem_cons.mpr ⟨(fun _ => Or.inl (s_J9_min_7cf53 (by decide) (by decide) (Or.inl pz_wq979))), fun _ h => absurd h List.not_mem_nil⟩⟩⟩⟩⟩⟩) false i k' h rfl
  · intro a M hlen hpre
    obtain ⟨th, n, i, rfl, hpre⟩ : ∃ th n i, a = [.inr (.inr (11, th)), .inl n, .inl i] ∧ (pz_ic M) := by
      have hpre : (match (generalizing := false) a with | [.inr (.inr (11, th)), .inl n, .inl i] => pz_ic M | _ => False) := hpre
      split at hpre
      · exact ⟨_, _, _, rfl, hpre⟩
      · exact hpre.elim
    exact Nat.le_of_ble_eq_true rfl
  · intro a M hlen hcan hM hpre Ok hgo
    obtain ⟨th, n, i, rfl, hpre⟩ : ∃ th n i, a = [.inr (.inr (11, th)), .inl n, .inl i] ∧ (pz_ic M) := by
      have hpre : (match (generalizing := false) a with | [.inr (.inr (11, th)), .inl n, .inl i] => pz_ic M | _ => False) := hpre
      split at hpre
      · exact ⟨_, _, _, rfl, hpre⟩
      · exact hpre.elim
    obtain ⟨k_th, hc_th⟩ := pz_tlm hcan
    have k_th : pz_kd th = 11 ∧ th < 231 := k_th
    have R_th := pz_kd11 k_th.1
    subst R_th
    obtain ⟨k_n, hc_n⟩ := pz_tlm hc_th
    have l_n : -2147483648 ≤ n := k_n.1
    have u_n : n ≤ 2147483647 := k_n.2
    obtain ⟨k_i, hc_i⟩ := pz_tlm hc_n
    have l_i : -2147483648 ≤ i := k_i.1
    have u_i : i ≤ 2147483647 := k_i.2
    have hI : pz_ic M := hpre
    have L59 : ∀ (fu : Nat) (x3 : Int) (x4 : Int) (x5 : Int), (i - x5).toNat < fu → (0 ≤ x5) → ((0 ≤ n ∧ n ≤ 9999) ∧ 0 ≤ i ∧ i < M 71 3) → (0 ≤ x3 ∧ x3 ≤ 999) → (x5 ≤ i) → (sd_q M 71 (fun F => n ≤ sd_g F 999 ∧ sd_shL F n x3 x4 x5)) → Ok 59 [some (.inr (.inr (11, 0))), some (.inl n), some (.inl i), some (.inl x3), some (.inl x4), some (.inl x5)] [] M := by
      intro fu
      induction fu with
      | zero => exact fun _ _ _ hn => absurd hn (Nat.not_lt_zero _)
      | succ fu ih59 =>
        intro x3 x4 x5 hn59 g59_0 g59_1 g59_2 g59_3 g59_4
        have L81 : ∀ (x3 : Int) (x4 : Int) (x5 : Int), (0 ≤ x5) → (x5 < i) → ((i - x5).toNat < fu + 1) → ((0 ≤ n ∧ n ≤ 9999) ∧ 0 ≤ i ∧ i < M 71 3) → (0 ≤ x3 ∧ x3 ≤ 999) → (sd_q M 71 (fun F => n ≤ sd_g F 999 ∧ sd_shL F n x3 x4 (x5 + 1))) → Ok 81 [some (.inr (.inr (11, 0))), some (.inl n), some (.inl i), some (.inl x3), some (.inl x4), some (.inl x5)] [] M := by
          intro x3 x4 x5 g81_0 g81_1 g81_2 g81_3 g81_4 g81_5
          refine hgo (fun p => Nat.beq p 59 || Nat.beq p 81) 63 81 _ _ _ ?_
          intro v81 e81 a81 b81
          rw [pz_wi (by first | decide | omega) (by first | decide | omega)] at e81
          have G59 : sd_q M 71 (fun F => n ≤ sd_g F 999 ∧ sd_shL F n x3 x4 v81) := by
            rw [e81]
            assumption
          exact ih59 _ _ _ (by first | decide | omega) (by first | omega | assumption) (by first | omega | assumption) (by first | omega | assumption) (by first | omega | assumption) (by first | omega | assumption)
        refine hgo (fun p => Nat.beq p 59 || Nat.beq p 81) 63 59 _ _ _ ?_
        refine And.intro (fun h62 => ?_) (fun h62 => ?_)
        · skip
          refine pz_nrc (c := 71) rfl ?_
          refine And.intro (True.intro) ?_
          intro v92 M92 a92 b92 q92
          obtain ⟨q92, z92⟩ := q92
          subst z92
          refine And.intro (fun h100 => ?_) (fun h100 => ?_)
          · skip
            refine And.intro (True.intro) ?_
            intro v117 M117 a117 b117 q117
            obtain ⟨q117, z117⟩ := q117
            subst z117
            refine And.intro rfl ?_
            refine ⟨fun ls l1 F hT hF hW => ?_, rfl⟩
            have hn := hF.1
            have hm := hW.1
            show _ = sd_shv F n i
            obtain ⟨a, l, l2, c⟩ := (by assumption : sd_q M 71 (fun F => n ≤ sd_g F 999 ∧ sd_shL F n x3 x4 x5)) F hF hW
            have x := sd_lev_u hW (by first | decide | omega) l2
            have d := q92.2 F hF hW (by first | decide | omega) (by first | decide | omega)
            unfold sd_shv
            rw [if_pos (by first | decide | omega), ← x]
            unfold sd_shw
            rw [show x5.toNat = i.toNat by omega] at c
            first
              | (rw [if_pos ⟨by omega, by omega⟩]
                 omega)
              | (rw [if_neg (fun z => by omega)]
                 omega)
          · skip
            refine And.intro (fun h105 => ?_) (fun h105 => ?_)
            · skip
              refine And.intro (True.intro) ?_
              intro v117 M117 a117 b117 q117
              obtain ⟨q117, z117⟩ := q117
              subst z117
              refine And.intro rfl ?_
              refine ⟨fun ls l1 F hT hF hW => ?_, rfl⟩
              have hn := hF.1
              have hm := hW.1
              show _ = sd_shv F n i
              obtain ⟨a, l, l2, c⟩ := (by assumption : sd_q M 71 (fun F => n ≤ sd_g F 999 ∧ sd_shL F n x3 x4 x5)) F hF hW
              have x := sd_lev_u hW (by first | decide | omega) l2
              have d := q92.2 F hF hW (by first | decide | omega) (by first | decide | omega)
              unfold sd_shv
              rw [if_pos (by first | decide | omega), ← x]
              unfold sd_shw
              rw [show x5.toNat = i.toNat by omega] at c
              first
                | (rw [if_pos ⟨by omega, by omega⟩]
                   omega)
                | (rw [if_neg (fun z => by omega)]
                   omega)
            · skip
              intro v110 e110 a110 b110
              try rw [pz_wi (by first | decide | omega) (by first | decide | omega)] at e110
              refine And.intro rfl ?_
              refine ⟨fun ls l1 F hT hF hW => ?_, rfl⟩
              have hn := hF.1
              have hm := hW.1
              show _ = sd_shv F n i
              obtain ⟨a, l, l2, c⟩ := (by assumption : sd_q M 71 (fun F => n ≤ sd_g F 999 ∧ sd_shL F n x3 x4 x5)) F hF hW
              have x := sd_lev_u hW (by first | decide | omega) l2
              have d := q92.2 F hF hW (by first | decide | omega) (by first | decide | omega)
              unfold sd_shv
              rw [if_pos (by first | decide | omega), ← x]
              unfold sd_shw
              rw [show x5.toNat = i.toNat by omega] at c
              first
                | (rw [if_pos ⟨by omega, by omega⟩]
                   omega)
                | (rw [if_neg (fun z => by omega)]
                   omega)
        · skip
          refine pz_nrc (c := 71) rfl ?_
          refine And.intro (True.intro) ?_
          intro v71 M71 a71 b71 q71
          obtain ⟨q71, z71⟩ := q71
          subst z71
          refine And.intro (fun h75 => ?_) (fun h75 => ?_)
          · skip
            have G81 : sd_q M 71 (fun F => n ≤ sd_g F 999 ∧ sd_shL F n x3 x4 (x5 + 1)) := fun F hF hW => by
              obtain ⟨a, g⟩ := (by assumption : sd_q M 71 (fun F => n ≤ sd_g F 999 ∧ sd_shL F n x3 x4 x5)) F hF hW
              have hn := hF.1
              have c := q71.2 F hF hW (by first | decide | omega) (by first | decide | omega)
              exact ⟨a, sd_shL_n g hW (by first | decide | omega) rfl (by first | decide | omega)⟩
            exact L81 _ _ _ (by first | omega | assumption) (by first | omega | assumption) (by first | omega | assumption) (by first | omega | assumption) (by first | omega | assumption) (by first | omega | assumption)
          · skip
            skip
            intro v78 e78 a78 b78
            have e78k := e78
            have G81 : sd_q M 71 (fun F => n ≤ sd_g F 999 ∧ sd_shL F n x3 v78 (x5 + 1)) := fun F hF hW => by
              obtain ⟨a, g⟩ := (by assumption : sd_q M 71 (fun F => n ≤ sd_g F 999 ∧ sd_shL F n x3 x4 x5)) F hF hW
              have hn := hF.1
              have c := q71.2 F hF hW (by first | decide | omega) (by first | decide | omega)
              exact ⟨a, sd_shL_s (d := 1) g hW (by first | decide | omega) (by first | decide | omega) rfl (by rw [if_pos (by first | decide | omega)]) (e78k.trans (by rw [show x4 + -1 = x4 - 1 by omega]))⟩
            clear e78k
            exact L81 _ _ _ (by first | omega | assumption) (by first | omega | assumption) (by first | omega | assumption) (by first | omega | assumption) (by first | omega | assumption) (by first | omega | assumption)
    refine hgo (fun p => Nat.beq p 59 || Nat.beq p 81) 63 0 _ [] M ?_
    refine And.intro (True.intro) ?_
    intro v5 M5 a5 b5 q5
    obtain ⟨q5, z5⟩ := q5
    subst z5
    refine And.intro (fun h8 => ?_) (fun h8 => ?_)
    · skip
      refine And.intro rfl ?_
      refine ⟨fun ls l1 F hT hF hW => ?_, rfl⟩
      have hn := hF.1
      have hm := hW.1
      show _ = sd_shv F n i
      unfold sd_shv
      rw [if_neg (fun z => by
        first
          | (split at q5 <;> omega)
          | (split at q5 <;> split at q16 <;> omega)
          | (have c := q29 F hF hW (by first | decide | omega)
             omega))]
    · skip
      refine pz_nrc (c := 71) rfl ?_
      refine And.intro (True.intro) ?_
      intro v16 M16 a16 b16 q16
      obtain ⟨q16, z16⟩ := q16
      subst z16
      refine And.intro (fun h19 => ?_) (fun h19 => ?_)
      · skip
        refine And.intro rfl ?_
        refine ⟨fun ls l1 F hT hF hW => ?_, rfl⟩
        have hn := hF.1
        have hm := hW.1
        show _ = sd_shv F n i
        unfold sd_shv
        rw [if_neg (fun z => by
          first
            | (split at q5 <;> omega)
            | (split at q5 <;> split at q16 <;> omega)
            | (have c := q29 F hF hW (by first | decide | omega)
               omega))]
      · skip
        refine pz_nrc (c := 71) rfl ?_
        refine And.intro (hI) ?_
        intro v29 M29 a29 b29 q29
        obtain ⟨q29, z29⟩ := q29
        subst z29
        refine And.intro (fun h33 => ?_) (fun h33 => ?_)
        · skip
          have GP : (0 ≤ n ∧ n ≤ 9999) ∧ 0 ≤ i ∧ i < M 71 3 := by
            split at q5 <;> split at q16 <;> omega
          refine And.intro (hI) ?_
          intro v40 M40 a40 b40 q40
          obtain ⟨q40, z40⟩ := q40
          subst z40
          refine pz_nrc (c := 71) rfl ?_
          refine And.intro (hI) ?_
          intro v50 M50 a50 b50 q50
          obtain ⟨q50, z50⟩ := q50
          subst z50
          intro v53 e53 a53 b53
          have e53k := e53
          have G59 : sd_q M 71 (fun F => n ≤ sd_g F 999 ∧ sd_shL F n v40 v53 0) := fun F hF hW => by
            have c9 := q29 F hF hW (by first | decide | omega)
            have l := q40.2 F hF hW (by first | decide | omega)
            have c := q50 F hF hW (by first | decide | omega)
            exact ⟨by omega, sd_shL_0 hW (by first | decide | omega) l c e53k⟩
          clear e53k
          exact L59 _ _ _ _ (Nat.lt_succ_self _) (by first | omega | assumption) (by first | omega | assumption) (by first | omega | assumption) (by first | omega | assumption) (by first | omega | assumption)
        · skip
          skip
          refine And.intro rfl ?_
          refine ⟨fun ls l1 F hT hF hW => ?_, rfl⟩
          have hn := hF.1
          have hm := hW.1
          show _ = sd_shv F n i
          unfold sd_shv
          rw [if_neg (fun z => by
            first
              | (split at q5 <;> omega)
              | (split at q5 <;> split at q16 <;> omega)
              | (have c := q29 F hF hW (by first | decide | omega)
                 omega))]
theorem v3_X11_share {fr lo i : Nat} {own : String} (h1 : 4 + 1 ≤ fr) (h2 : 8 + (6 + 11) + 90 ≤ lo) (h3 : .methodLink own i yX11_share ∈ lw_tbl) : pz_cV fr lo own i k3_X11_share :=
  pz_cVk (maxL := 6) (fr' := 4) (lo' := 90) 2 11 h3_X11_share rfl ⟨(pz_nhc_RX11 yX11_share rfl).1, (pz_nhc_RX11 yX11_share rfl).2, pz_ds10⟩ ⟨pz_wq964, pz_wq962, pz_wq963, pz_wq1⟩ (Or.inl ⟨TX11, 14, rfl⟩) (fun a M _ h => by
    have h : (match (generalizing := false) a with | [.inr (.inr (11, th)), .inl n, .inl i] => pz_ic M | _ => False) := h
    split at h
    · exact ⟨_, _, rfl⟩
    · exact h.elim) h1 h2 h3
end
section
noncomputable def k3_X12_isGiving : pz_C := (2, 1, fun a M => (match a with | [.inr (.inr (12, th)), .inl i] => pz_im M | _ => False), fun a M r M' => (match a, r with | [.inr (.inr (12, th)), .inl i], some (.inl v) => ((v = 1 ∧ (0 ≤ i ∧ i < M 60 88 ∧ M 60 88 ≤ 12 ∧ ¬ M 60 (52 + i).toNat = 1 ∧ M 60 (76 + i).toNat = -1) ∧ 0 < M 60 (28 + i).toNat) ∨ (v = 0 ∧ ¬ ((0 ≤ i ∧ i < M 60 88 ∧ M 60 88 ≤ 12 ∧ ¬ M 60 (52 + i).toNat = 1 ∧ M 60 (76 + i).toNat = -1) ∧ 0 < M 60 (28 + i).toNat))) ∧ M = M' | _, _ => False))
noncomputable abbrev ct3_X12_isGiving : List (Bool × Nat × pz_C) := [(true, 317, k3_X12_isThere)]
set_option maxRecDepth 100000 in
set_option maxHeartbeats 4000000 in
theorem h3_X12_isGiving : pz_H yX12_isGiving cX12_isGiving 2 (some .boolean) k3_X12_isGiving 3 64 := by
  refine pz_mk (own := RX12) (tb := t_X12_isGiving) (fl := pz_flf fl_RX12) (ci := pz_cif ci_RX12) (ct := pz_ctf ct3_X12_isGiving) (rz := true) (pz_pfc_RX12 yX12_isGiving rfl) rfl t_X12_isGiving_ok (pz_flk fl_RX12_ok) (pz_cik ci_RX12_ok) ?_ ?_ (Or.inr ⟨rfl, rfl⟩) ?_ ?_
  · exact fun i k' h => pz_ctk (l := ct3_X12_isGiving) (P := fun b i k => b = true → pz_cV 3 64 RX12 i k) (List.forall_mem_cons.mpr ⟨(fun _ => v3_X12_isThere (by decide) (by decide) pz_wq1415), fun _ h => absurd h List.not_mem_nil⟩) true i k' h rfl
  · exact fun i k' h => pz_ctk (l := ct3_X12_isGiving) (P := fun b i k => b = false → (pz_cS 3 64 RX12 i k ∨ (k = pz_kac ∧ 1 ≤ 3 ∧ 60 ≤ 64 ∧ Cond.methodLink RX12 i arraycopyName ∈ pz_tbl))) (List.forall_mem_cons.mpr ⟨((fun z => by cases z)), fun _ h => absurd h List.not_mem_nil⟩) false i k' h rfl
  · intro a M hlen hpre
    obtain ⟨th, i, rfl, hpre⟩ : ∃ th i, a = [.inr (.inr (12, th)), .inl i] ∧ (pz_im M) := by
      have hpre : (match (generalizing := false) a with | [.inr (.inr (12, th)), .inl i] => pz_im M | _ => False) := hpre
      split at hpre
      · exact ⟨_, _, rfl, hpre⟩
      · exact hpre.elim
    exact Nat.le_of_ble_eq_true rfl
  · intro a M hlen hcan hM hpre Ok hgo
    obtain ⟨th, i, rfl, hpre⟩ : ∃ th i, a = [.inr (.inr (12, th)), .inl i] ∧ (pz_im M) := by
      have hpre : (match (generalizing := false) a with | [.inr (.inr (12, th)), .inl i] => pz_im M | _ => False) := hpre
      split at hpre
      · exact ⟨_, _, rfl, hpre⟩
      · exact hpre.elim
    obtain ⟨k_th, hc_th⟩ := pz_tlm hcan
    have k_th : pz_kd th = 12 ∧ th < 231 := k_th
    have R_th := pz_kd12 k_th.1
    subst R_th
    clear k_th
    obtain ⟨k_i, hc_i⟩ := pz_tlm hc_th
    have l_i : -2147483648 ≤ i := k_i.1
    have u_i : i ≤ 2147483647 := k_i.2
    have hI : pz_im M := hpre
    refine hgo (fun _ => false) 17 0 _ [] M ?_
    refine And.intro (hI) ?_
    intro v2 M2 a2 b2 q2
    obtain ⟨q2, z2⟩ := q2
    subst z2
    clear a2 b2
    refine And.intro (fun h5 => ?_) (fun h5 => ?_)
    · skip
      replace q2 := q2.resolve_left (fun z => absurd (z.1.symm.trans h5) (by decide))
      clear h5
      refine And.intro (by first | decide | omega) ?_
      refine And.intro rfl ?_
      exact ⟨by omega, rfl⟩
    · skip
      replace q2 := q2.resolve_right (fun z => h5 z.1)
      clear h5
      refine pz_nrc (c := 60) rfl ?_
      intro v15 e15 a15 b15
      rw [pz_wi (by first | decide | omega) (by first | decide | omega)] at e15
      clear a15 b15
      have lo16 : (0 : Int) ≤ v15 := by omega
      have tn16 : (((v15).toNat : Nat) : Int) = v15 := Int.toNat_of_nonneg lo16
      refine And.intro (lo16) (And.intro (show _ < (1725 : Int) from by omega) ?_)
      intro v16 e16 a16 b16
      rw [show v15 = 28 + i by omega] at e16
      refine And.intro (fun h17 => ?_) (fun h17 => ?_)
      · skip
        refine And.intro (by first | decide | omega) ?_
        refine And.intro rfl ?_
        exact ⟨by omega, rfl⟩
      · skip
        refine And.intro (by first | decide | omega) ?_
        refine And.intro rfl ?_
        exact ⟨by omega, rfl⟩
theorem v3_X12_isGiving {fr lo i : Nat} {own : String} (h1 : 3 + 1 ≤ fr) (h2 : 8 + (2 + 11) + 64 ≤ lo) (h3 : .methodLink own i yX12_isGiving ∈ lw_tbl) : pz_cV fr lo own i k3_X12_isGiving :=
  pz_cVk (maxL := 2) (fr' := 3) (lo' := 64) 1 12 h3_X12_isGiving rfl ⟨(pz_nhc_RX12 yX12_isGiving rfl).1, (pz_nhc_RX12 yX12_isGiving rfl).2, pz_ds9⟩ ⟨pz_wq1684, pz_wq1683, pz_ws81, pz_wq13⟩ (Or.inl ⟨TX12, 28, rfl⟩) (fun a M _ h => by
    have h : (match (generalizing := false) a with | [.inr (.inr (12, th)), .inl i] => pz_im M | _ => False) := h
    split at h
    · exact ⟨_, _, rfl⟩
    · exact h.elim) h1 h2 h3
noncomputable def k3_X12_givenBy : pz_C := (2, 1, fun a M => (match a with | [.inr (.inr (12, th)), .inl x] => pz_im M | _ => False), fun a M r M' => (match a, r with | [.inr (.inr (12, th)), .inl x], some (.inl v) => (sd_wf (M 60) → 0 ≤ x → v = sd_g (M 60) x) ∧ M = M' | _, _ => False))
noncomputable abbrev ct3_X12_givenBy : List (Bool × Nat × pz_C) := [(true, 436, k3_X12_isGiving), (false, 47, k_X12_lesser)]
set_option maxRecDepth 100000 in
set_option maxHeartbeats 4000000 in
theorem h3_X12_givenBy : pz_H yX12_givenBy cX12_givenBy 4 (some .int) k3_X12_givenBy 4 85 := by
  refine pz_mk (own := RX12) (tb := t_X12_givenBy) (fl := pz_flf fl_RX12) (ci := pz_cif ci_RX12) (ct := pz_ctf ct3_X12_givenBy) (rz := false) (pz_pfc_RX12 yX12_givenBy rfl) rfl t_X12_givenBy_ok (pz_flk fl_RX12_ok) (pz_cik ci_RX12_ok) ?_ ?_ (Or.inl ⟨rfl, rfl⟩) ?_ ?_
  · exact fun i k' h => pz_ctk (l := ct3_X12_givenBy) (P := fun b i k => b = true → pz_cV 4 85 RX12 i k) (List.forall_mem_cons.mpr ⟨(fun _ => v3_X12_isGiving (by decide) (by decide) pz_wq1681), List.forall_mem_cons.mpr ⟨((fun z => by cases z)), fun _ h => absurd h List.not_mem_nil⟩⟩) true i k' h rfl
  · exact fun i k' h => pz_ctk (l := ct3_X12_givenBy) (P := fun b i k => b = false → (pz_cS 4 85 RX12 i k ∨ (k = pz_kac ∧ 1 ≤ 4 ∧ 60 ≤ 85 ∧ Cond.methodLink RX12 i arraycopyName ∈ pz_tbl))) (List.forall_mem_cons.mpr ⟨((fun z => by cases z)), List.forall_mem_cons.mpr ⟨(fun _ => Or.inl (s_X12_lesser (by decide) (by decide) (Or.inl pz_wq1462))), fun _ h => absurd h List.not_mem_nil⟩⟩) false i k' h rfl
  · intro a M hlen hpre
    obtain ⟨th, x, rfl, hpre⟩ : ∃ th x, a = [.inr (.inr (12, th)), .inl x] ∧ (pz_im M) := by
      have hpre : (match (generalizing := false) a with | [.inr (.inr (12, th)), .inl x] => pz_im M | _ => False) := hpre
      split at hpre
      · exact ⟨_, _, rfl, hpre⟩
      · exact hpre.elim
    exact Nat.le_of_ble_eq_true rfl
  · intro a M hlen hcan hM hpre Ok hgo
    obtain ⟨th, x, rfl, hpre⟩ : ∃ th x, a = [.inr (.inr (12, th)), .inl x] ∧ (pz_im M) := by
      have hpre : (match (generalizing := false) a with | [.inr (.inr (12, th)), .inl x] => pz_im M | _ => False) := hpre
      split at hpre
      · exact ⟨_, _, rfl, hpre⟩
      · exact hpre.elim
    obtain ⟨k_th, hc_th⟩ := pz_tlm hcan
    have k_th : pz_kd th = 12 ∧ th < 231 := k_th
    have R_th := pz_kd12 k_th.1
    subst R_th
    clear k_th
    obtain ⟨k_x, hc_x⟩ := pz_tlm hc_th
    have l_x : -2147483648 ≤ x := k_x.1
    have u_x : x ≤ 2147483647 := k_x.2
    have hI : pz_im M := hpre
    have I88 := hI.1.1
    have L4 : ∀ (fu : Nat) (x2 : Int) (x3 : Int), (12 - x3).toNat < fu → (0 ≤ x3) → (sd_wf (M 60) → 0 ≤ x → sd_gtE (M 60) x x2 x3) → Ok 4 [some (.inr (.inr (12, 1))), some (.inl x), some (.inl x2), some (.inl x3)] [] M := by
      intro fu
      induction fu with
      | zero => exact fun _ _ hn => absurd hn (Nat.not_lt_zero _)
      | succ fu ih4 =>
        intro x2 x3 hn4 g4_0 g4_1
        have L41 : ∀ (x2 : Int) (x3 : Int) (s0 : Int) (s1 : Int), (0 ≤ x3) → (x3 < 12) → ((12 - x3).toNat < fu + 1) → (x3 < M 60 88) → (s0 = x2) → (sd_wf (M 60) → 0 ≤ x → sd_gtE (M 60) x x2 x3 ∧ s1 = min x (sd_cg (M 60) x3.toNat)) → Ok 41 [some (.inr (.inr (12, 1))), some (.inl x), some (.inl x2), some (.inl x3)] [.inl s1, .inl s0] M := by
          intro x2 x3 s0 s1 g41_0 g41_1 g41_2 g41_3 g41_4 g41_5
          refine hgo (fun p => Nat.beq p 4 || Nat.beq p 41) 33 41 _ _ _ ?_
          intro v41 e41 a41 b41
          have e41k := e41
          intro v43 e43 a43 b43
          rw [pz_wi (by first | decide | omega) (by first | decide | omega)] at e43
          have G4 : sd_wf (M 60) → 0 ≤ x → sd_gtE (M 60) x v41 v43 := fun hW hx => by
            obtain ⟨a, b⟩ := (by assumption : sd_wf (M 60) → 0 ≤ x → sd_gtE (M 60) x x2 x3 ∧ s1 = min x (sd_cg (M 60) x3.toNat)) hW hx
            exact sd_gtE_s a hW hx (by first | decide | omega) (by first | decide | omega) e43 b (by rw [e41k, show s0 = x2 by omega])
          exact ih4 _ _ (by first | decide | omega) (by first | omega | assumption | exact fun hW hx => sd_gtE_0 hW) (by first | omega | assumption | exact fun hW hx => sd_gtE_0 hW)
        refine hgo (fun p => Nat.beq p 4 || Nat.beq p 41) 33 4 _ _ _ ?_
        refine pz_nrc (c := 60) rfl ?_
        refine And.intro (by first | decide | omega) (And.intro (show _ < (1725 : Int) from by omega) ?_)
        intro v11 e11 a11 b11
        replace e11 : v11 = M 60 88 := e11
        have I11 : 0 ≤ v11 ∧ v11 ≤ 12 := by
          rw [e11]
          exact hI.1.1
        clear a11 b11
        refine And.intro (fun h12 => ?_) (fun h12 => ?_)
        · skip
          refine And.intro rfl ?_
          exact ⟨fun hW hx => sd_gtE_z ((by assumption : sd_wf (M 60) → 0 ≤ x → sd_gtE (M 60) x x2 x3) hW hx) hW (by first | decide | omega), rfl⟩
        · skip
          refine And.intro (hI) ?_
          intro v18 M18 a18 b18 q18
          obtain ⟨q18, z18⟩ := q18
          subst z18
          clear a18 b18
          refine And.intro (fun h21 => ?_) (fun h21 => ?_)
          · skip
            have G41 : sd_wf (M 60) → 0 ≤ x → sd_gtE (M 60) x x2 x3 ∧ 0 = min x (sd_cg (M 60) x3.toNat) := fun hW hx => by
              refine ⟨(by assumption : sd_wf (M 60) → 0 ≤ x → sd_gtE (M 60) x x2 x3) hW hx, ?_⟩
              rw [show (52 + x3).toNat = 52 + x3.toNat by omega, show (76 + x3).toNat = 76 + x3.toNat by omega, show (28 + x3).toNat = 28 + x3.toNat by omega] at q18
              unfold sd_cg
              have d : Decidable (sd_in (M 60) x3.toNat) := inferInstance
              by_cases y : sd_in (M 60) x3.toNat
              · rw [if_pos y]
                unfold sd_in at y
                omega
              · rw [if_neg y]
                unfold sd_in at y
                omega
            replace q18 := q18.resolve_left (fun z => absurd (z.1.symm.trans h21) (by decide))
            exact L41 _ _ _ _ (by first | omega | assumption | rfl) (by first | omega | assumption | rfl) (by first | omega | assumption | rfl) (by first | omega | assumption | rfl) (by first | omega | assumption | rfl) (by first | omega | assumption | rfl)
          · skip
            skip
            replace q18 := q18.resolve_right (fun z => h21 z.1)
            refine pz_nrc (c := 60) rfl ?_
            intro v32 e32 a32 b32
            rw [pz_wi (by first | decide | omega) (by first | decide | omega)] at e32
            clear a32 b32
            have lo33 : (0 : Int) ≤ v32 := by omega
            have tn33 : (((v32).toNat : Nat) : Int) = v32 := Int.toNat_of_nonneg lo33
            refine And.intro (lo33) (And.intro (show _ < (1725 : Int) from by omega) ?_)
            intro v33 e33 a33 b33
            rw [show v32.toNat = 28 + x3.toNat by omega] at e33
            refine And.intro (True.intro) ?_
            intro v34 M34 a34 b34 q34
            obtain ⟨q34, z34⟩ := q34
            subst z34
            have G41 : sd_wf (M 60) → 0 ≤ x → sd_gtE (M 60) x x2 x3 ∧ v34 = min x (sd_cg (M 60) x3.toNat) := fun hW hx => by
              refine ⟨(by assumption : sd_wf (M 60) → 0 ≤ x → sd_gtE (M 60) x x2 x3) hW hx, ?_⟩
              rw [show (52 + x3).toNat = 52 + x3.toNat by omega, show (76 + x3).toNat = 76 + x3.toNat by omega, show (28 + x3).toNat = 28 + x3.toNat by omega] at q18
              unfold sd_cg
              have d : Decidable (sd_in (M 60) x3.toNat) := inferInstance
              by_cases y : sd_in (M 60) x3.toNat
              · rw [if_pos y]
                unfold sd_in at y
                omega
              · rw [if_neg y]
                unfold sd_in at y
                omega
            exact L41 _ _ _ _ (by first | omega | assumption | rfl) (by first | omega | assumption | rfl) (by first | omega | assumption | rfl) (by first | omega | assumption | rfl) (by first | omega | assumption | rfl) (by first | omega | assumption | rfl)
    refine hgo (fun p => Nat.beq p 4 || Nat.beq p 41) 33 0 _ [] M ?_
    exact L4 _ _ _ (Nat.lt_succ_self _) (by first | omega | assumption | exact fun hW hx => sd_gtE_0 hW) (by first | omega | assumption | exact fun hW hx => sd_gtE_0 hW)
theorem v3_X12_givenBy {fr lo i : Nat} {own : String} (h1 : 4 + 1 ≤ fr) (h2 : 8 + (4 + 11) + 85 ≤ lo) (h3 : .methodLink own i yX12_givenBy ∈ lw_tbl) : pz_cV fr lo own i k3_X12_givenBy :=
  pz_cVk (maxL := 4) (fr' := 4) (lo' := 85) 1 12 h3_X12_givenBy rfl ⟨(pz_nhc_RX12 yX12_givenBy rfl).1, (pz_nhc_RX12 yX12_givenBy rfl).2, pz_ds5⟩ ⟨pz_wq1680, pz_wq1679, pz_ws80, pz_wq13⟩ (Or.inl ⟨TX12, 28, rfl⟩) (fun a M _ h => by
    have h : (match (generalizing := false) a with | [.inr (.inr (12, th)), .inl x] => pz_im M | _ => False) := h
    split at h
    · exact ⟨_, _, rfl⟩
    · exact h.elim) h1 h2 h3
noncomputable def k3_X12_share : pz_C := (3, 1, fun a M => (match a with | [.inr (.inr (12, th)), .inl n, .inl i] => pz_im M | _ => False), fun a M r M' => (match a, r with | [.inr (.inr (12, th)), .inl n, .inl i], some (.inl v) => (sd_wm M v (fun _ F => sd_shv F n i)) ∧ M = M' | _, _ => False))
noncomputable abbrev ct3_X12_share : List (Bool × Nat × pz_C) := [(false, 54, k_X12_isIn), (true, 58, k_X12_isLink), (true, 439, k3_X12_givenBy), (true, 436, k3_X12_isGiving)]
set_option maxRecDepth 100000 in
set_option maxHeartbeats 4000000 in
theorem h3_X12_share : pz_H yX12_share cX12_share 6 (some .int) k3_X12_share 5 108 := by
  refine pz_mk (own := RX12) (tb := t_X12_share) (fl := pz_flf fl_RX12) (ci := pz_cif ci_RX12) (ct := pz_ctf ct3_X12_share) (rz := false) (pz_pfc_RX12 yX12_share rfl) rfl t_X12_share_ok (pz_flk fl_RX12_ok) (pz_cik ci_RX12_ok) ?_ ?_ (Or.inl ⟨rfl, rfl⟩) ?_ ?_
  · exact fun i k' h => pz_ctk (l := ct3_X12_share) (P := fun b i k => b = true → pz_cV 5 108 RX12 i k) (List.forall_mem_cons.mpr ⟨((fun z => by cases z)), List.forall_mem_cons.mpr ⟨(fun _ => v_X12_isLink (by decide) (by decide) pz_wq1224), List.forall_mem_cons.mpr ⟨(fun _ => v3_X12_givenBy (by decide) (by decide) pz_wq1677), List.forall_mem_cons.mpr ⟨(fun _ => v3_X12_isGiving (by decide) (by decide) pz_wq1681), fun _ h => absurd h List.not_mem_nil⟩⟩⟩⟩) true i k' h rfl
  · exact fun i k' h => pz_ctk (l := ct3_X12_share) (P := fun b i k => b = false → (pz_cS 5 108 RX12 i k ∨ (k = pz_kac ∧ 1 ≤ 5 ∧ 60 ≤ 108 ∧ Cond.methodLink RX12 i arraycopyName ∈ pz_tbl))) (List.forall_mem_cons.mpr ⟨(fun _ => Or.inl (s_X12_isIn (by decide) (by decide) (Or.inl pz_wq1217))), List.forall_mem_cons.mpr ⟨((fun z => by cases z)), List.forall_mem_cons.mpr ⟨((fun z => by cases z)), List.forall_mem_cons.mpr ⟨((fun z => by cases z)), fun _ h => absurd h List.not_mem_nil⟩⟩⟩⟩) false i k' h rfl
  · intro a M hlen hpre
    obtain ⟨th, n, i, rfl, hpre⟩ : ∃ th n i, a = [.inr (.inr (12, th)), .inl n, .inl i] ∧ (pz_im M) := by
      have hpre : (match (generalizing := false) a with | [.inr (.inr (12, th)), .inl n, .inl i] => pz_im M | _ => False) := hpre
      split at hpre
      · exact ⟨_, _, _, rfl, hpre⟩
      · exact hpre.elim
    exact Nat.le_of_ble_eq_true rfl
  · intro a M hlen hcan hM hpre Ok hgo
    obtain ⟨th, n, i, rfl, hpre⟩ : ∃ th n i, a = [.inr (.inr (12, th)), .inl n, .inl i] ∧ (pz_im M) := by
      have hpre : (match (generalizing := false) a with | [.inr (.inr (12, th)), .inl n, .inl i] => pz_im M | _ => False) := hpre
      split at hpre
      · exact ⟨_, _, _, rfl, hpre⟩
      · exact hpre.elim
    obtain ⟨k_th, hc_th⟩ := pz_tlm hcan
    have k_th : pz_kd th = 12 ∧ th < 231 := k_th
    have R_th := pz_kd12 k_th.1
    subst R_th
    clear k_th
    obtain ⟨k_n, hc_n⟩ := pz_tlm hc_th
    have l_n : -2147483648 ≤ n := k_n.1
    have u_n : n ≤ 2147483647 := k_n.2
    obtain ⟨k_i, hc_i⟩ := pz_tlm hc_n
    have l_i : -2147483648 ≤ i := k_i.1
    have u_i : i ≤ 2147483647 := k_i.2
    have hI : pz_im M := hpre
    have I88 := hI.1.1
    have L70 : ∀ (fu : Nat) (x3 : Int) (x4 : Int) (x5 : Int), (12 - x5).toNat < fu → (0 ≤ x5) → (i < 12) → (0 ≤ n ∧ n ≤ 9999 ∧ 0 ≤ i ∧ i < M 60 88) → (0 ≤ x3) → (x3 ≤ 999) → (x5 ≤ i) → (sd_wf (M 60) → sd_shL (M 60) n x3 x4 x5) → (sd_wf (M 60) → n ≤ sd_g (M 60) 999) → Ok 70 [some (.inr (.inr (12, 1))), some (.inl n), some (.inl i), some (.inl x3), some (.inl x4), some (.inl x5)] [] M := by
      intro fu
      induction fu with
      | zero => exact fun _ _ _ hn => absurd hn (Nat.not_lt_zero _)
      | succ fu ih70 =>
        intro x3 x4 x5 hn70 g70_0 g70_1 g70_2 g70_3 g70_4 g70_5 g70_6 g70_7
        have L106 : ∀ (x3 : Int) (x4 : Int) (x5 : Int) (s0 : Int) (s1 : Int), (0 ≤ x5) → (x5 < 12) → ((12 - x5).toNat < fu + 1) → (0 ≤ n ∧ n ≤ 9999 ∧ 0 ≤ i ∧ i < M 60 88) → (0 ≤ x3) → (x3 ≤ 999) → (x5 < i) → (0 ≤ s1) → (s1 ≤ 1) → (s0 = x4) → (sd_wf (M 60) → sd_shL (M 60) n x3 x4 x5 ∧ s1 = if x3 < sd_cg (M 60) x5.toNat then 1 else 0) → (sd_wf (M 60) → n ≤ sd_g (M 60) 999) → Ok 106 [some (.inr (.inr (12, 1))), some (.inl n), some (.inl i), some (.inl x3), some (.inl x4), some (.inl x5)] [.inl s1, .inl s0] M := by
          intro x3 x4 x5 s0 s1 g106_0 g106_1 g106_2 g106_3 g106_4 g106_5 g106_6 g106_7 g106_8 g106_9 g106_10 g106_11
          refine hgo (fun p => Nat.beq p 34 || Nat.beq p 58 || Nat.beq p 70 || Nat.beq p 106) 92 106 _ _ _ ?_
          intro v106 e106 a106 b106
          have e106k := e106
          intro v109 e109 a109 b109
          rw [pz_wi (by first | decide | omega) (by first | decide | omega)] at e109
          have G70 : sd_wf (M 60) → sd_shL (M 60) n x3 v106 v109 := fun hW => by
            obtain ⟨a, b⟩ := (by assumption : sd_wf (M 60) → sd_shL (M 60) n x3 x4 x5 ∧ s1 = if x3 < sd_cg (M 60) x5.toNat then 1 else 0) hW
            exact sd_shL_s a hW (by first | decide | omega) (by first | decide | omega) e109 b (by rw [e106k, show s0 = x4 by omega])
          exact ih70 _ _ _ (by first | decide | omega) (by first | omega | assumption) (by first | omega | assumption) (by first | omega | assumption) (by first | omega | assumption) (by first | omega | assumption) (by first | omega | assumption) (by first | omega | assumption) (by first | omega | assumption)
        refine hgo (fun p => Nat.beq p 34 || Nat.beq p 58 || Nat.beq p 70 || Nat.beq p 106) 92 70 _ _ _ ?_
        refine And.intro (fun h73 => ?_) (fun h73 => ?_)
        · skip
          refine And.intro (hI) ?_
          intro v117 M117 a117 b117 q117
          obtain ⟨q117, z117⟩ := q117
          subst z117
          clear a117 b117
          refine And.intro (fun h120 => ?_) (fun h120 => ?_)
          · skip
            replace q117 := q117.resolve_right (fun z => h120 z.1)
            refine pz_nrc (c := 60) rfl ?_
            intro v134 e134 a134 b134
            rw [pz_wi (by first | decide | omega) (by first | decide | omega)] at e134
            clear a134 b134
            have lo135 : (0 : Int) ≤ v134 := by omega
            have tn135 : (((v134).toNat : Nat) : Int) = v134 := Int.toNat_of_nonneg lo135
            refine And.intro (lo135) (And.intro (show _ < (1725 : Int) from by omega) ?_)
            intro v135 e135 a135 b135
            rw [show v134.toNat = 28 + i.toNat by omega] at e135
            refine And.intro (fun h137 => ?_) (fun h137 => ?_)
            · skip
              refine And.intro (fun h154 => ?_) (fun h154 => ?_)
              · skip
                refine And.intro rfl ?_
                refine ⟨fun ls hl hq hW => ?_, rfl⟩
                have hm := hW.1
                show _ = sd_shv (M 60) n i
                have a := (by assumption : sd_wf (M 60) → n ≤ sd_g (M 60) 999) hW
                obtain ⟨l, l2, c⟩ := (by assumption : sd_wf (M 60) → sd_shL (M 60) n x3 x4 x5) hW
                have x := sd_lev_u hW (by first | decide | omega) l2
                unfold sd_shv
                rw [if_pos (by first | decide | omega), ← x]
                unfold sd_shw
                rw [show x5.toNat = i.toNat by omega] at c
                rw [show (52 + i).toNat = 52 + i.toNat by omega, show (76 + i).toNat = 76 + i.toNat by omega, show (28 + i).toNat = 28 + i.toNat by omega] at q117
                have d : sd_cg (M 60) i.toNat = (if v117 = 1 then M 60 (28 + i.toNat) else 0) := by
                  unfold sd_cg
                  by_cases y : sd_in (M 60) i.toNat
                  · rw [if_pos y]
                    unfold sd_in at y
                    split <;> omega
                  · rw [if_neg y]
                    unfold sd_in at y
                    rw [if_neg (by first | decide | omega)]
                first
                  | (rw [if_neg (by first | decide | omega)] at d
                     rw [if_neg (fun z => by omega)]
                     omega)
                  | (rw [if_pos (by first | decide | omega)] at d
                     first
                       | (rw [if_neg (fun z => by omega)]
                          omega)
                       | (rw [if_pos ⟨by omega, by omega⟩]
                          omega))
              · skip
                intro v159 e159 a159 b159
                rw [pz_wi (by first | decide | omega) (by first | decide | omega)] at e159
                clear a159 b159
                refine And.intro rfl ?_
                refine ⟨fun ls hl hq hW => ?_, rfl⟩
                have hm := hW.1
                show _ = sd_shv (M 60) n i
                have a := (by assumption : sd_wf (M 60) → n ≤ sd_g (M 60) 999) hW
                obtain ⟨l, l2, c⟩ := (by assumption : sd_wf (M 60) → sd_shL (M 60) n x3 x4 x5) hW
                have x := sd_lev_u hW (by first | decide | omega) l2
                unfold sd_shv
                rw [if_pos (by first | decide | omega), ← x]
                unfold sd_shw
                rw [show x5.toNat = i.toNat by omega] at c
                rw [show (52 + i).toNat = 52 + i.toNat by omega, show (76 + i).toNat = 76 + i.toNat by omega, show (28 + i).toNat = 28 + i.toNat by omega] at q117
                have d : sd_cg (M 60) i.toNat = (if v117 = 1 then M 60 (28 + i.toNat) else 0) := by
                  unfold sd_cg
                  by_cases y : sd_in (M 60) i.toNat
                  · rw [if_pos y]
                    unfold sd_in at y
                    split <;> omega
                  · rw [if_neg y]
                    unfold sd_in at y
                    rw [if_neg (by first | decide | omega)]
                first
                  | (rw [if_neg (by first | decide | omega)] at d
                     rw [if_neg (fun z => by omega)]
                     omega)
                  | (rw [if_pos (by first | decide | omega)] at d
                     first
                       | (rw [if_neg (fun z => by omega)]
                          omega)
                       | (rw [if_pos ⟨by omega, by omega⟩]
                          omega))
            · skip
              refine pz_nrc (c := 60) rfl ?_
              intro v147 e147 a147 b147
              rw [pz_wi (by first | decide | omega) (by first | decide | omega)] at e147
              clear a147 b147
              have lo148 : (0 : Int) ≤ v147 := by omega
              have tn148 : (((v147).toNat : Nat) : Int) = v147 := Int.toNat_of_nonneg lo148
              refine And.intro (lo148) (And.intro (show _ < (1725 : Int) from by omega) ?_)
              intro v148 e148 a148 b148
              rw [show v147.toNat = 28 + i.toNat by omega] at e148
              refine And.intro rfl ?_
              refine ⟨fun ls hl hq hW => ?_, rfl⟩
              have hm := hW.1
              show _ = sd_shv (M 60) n i
              have a := (by assumption : sd_wf (M 60) → n ≤ sd_g (M 60) 999) hW
              obtain ⟨l, l2, c⟩ := (by assumption : sd_wf (M 60) → sd_shL (M 60) n x3 x4 x5) hW
              have x := sd_lev_u hW (by first | decide | omega) l2
              unfold sd_shv
              rw [if_pos (by first | decide | omega), ← x]
              unfold sd_shw
              rw [show x5.toNat = i.toNat by omega] at c
              rw [show (52 + i).toNat = 52 + i.toNat by omega, show (76 + i).toNat = 76 + i.toNat by omega, show (28 + i).toNat = 28 + i.toNat by omega] at q117
              have d : sd_cg (M 60) i.toNat = (if v117 = 1 then M 60 (28 + i.toNat) else 0) := by
                unfold sd_cg
                by_cases y : sd_in (M 60) i.toNat
                · rw [if_pos y]
                  unfold sd_in at y
                  split <;> omega
                · rw [if_neg y]
                  unfold sd_in at y
                  rw [if_neg (by first | decide | omega)]
              first
                | (rw [if_neg (by first | decide | omega)] at d
                   rw [if_neg (fun z => by omega)]
                   omega)
                | (rw [if_pos (by first | decide | omega)] at d
                   first
                     | (rw [if_neg (fun z => by omega)]
                        omega)
                     | (rw [if_pos ⟨by omega, by omega⟩]
                        omega))
          · skip
            replace q117 := q117.resolve_left (fun z => absurd (z.1.symm.trans h120) (by decide))
            refine And.intro rfl ?_
            refine ⟨fun ls hl hq hW => ?_, rfl⟩
            have hm := hW.1
            show _ = sd_shv (M 60) n i
            have a := (by assumption : sd_wf (M 60) → n ≤ sd_g (M 60) 999) hW
            obtain ⟨l, l2, c⟩ := (by assumption : sd_wf (M 60) → sd_shL (M 60) n x3 x4 x5) hW
            have x := sd_lev_u hW (by first | decide | omega) l2
            unfold sd_shv
            rw [if_pos (by first | decide | omega), ← x]
            unfold sd_shw
            rw [show x5.toNat = i.toNat by omega] at c
            rw [show (52 + i).toNat = 52 + i.toNat by omega, show (76 + i).toNat = 76 + i.toNat by omega, show (28 + i).toNat = 28 + i.toNat by omega] at q117
            have d : sd_cg (M 60) i.toNat = (if v117 = 1 then M 60 (28 + i.toNat) else 0) := by
              unfold sd_cg
              by_cases y : sd_in (M 60) i.toNat
              · rw [if_pos y]
                unfold sd_in at y
                split <;> omega
              · rw [if_neg y]
                unfold sd_in at y
                rw [if_neg (by first | decide | omega)]
            first
              | (rw [if_neg (by first | decide | omega)] at d
                 rw [if_neg (fun z => by omega)]
                 omega)
              | (rw [if_pos (by first | decide | omega)] at d
                 first
                   | (rw [if_neg (fun z => by omega)]
                      omega)
                   | (rw [if_pos ⟨by omega, by omega⟩]
                      omega))
        · skip
          refine And.intro (hI) ?_
          intro v81 M81 a81 b81 q81
          obtain ⟨q81, z81⟩ := q81
          subst z81
          clear a81 b81
          refine And.intro (fun h84 => ?_) (fun h84 => ?_)
          · skip
            have G106 : sd_wf (M 60) → sd_shL (M 60) n x3 x4 x5 ∧ (0 : Int) = if x3 < sd_cg (M 60) x5.toNat then 1 else 0 := fun hW => by
              refine ⟨(by assumption : sd_wf (M 60) → sd_shL (M 60) n x3 x4 x5) hW, ?_⟩
              rw [show (52 + x5).toNat = 52 + x5.toNat by omega, show (76 + x5).toNat = 76 + x5.toNat by omega, show (28 + x5).toNat = 28 + x5.toNat by omega] at q81
              have zz : ¬ x3 < sd_cg (M 60) x5.toNat := by
                unfold sd_cg
                by_cases y : sd_in (M 60) x5.toNat
                · rw [if_pos y]
                  unfold sd_in at y
                  omega
                · rw [if_neg y]
                  unfold sd_in at y
                  omega
              rw [if_neg zz]
            replace q81 := q81.resolve_left (fun z => absurd (z.1.symm.trans h84) (by decide))
            exact L106 _ _ _ _ _ (by first | omega | assumption) (by first | omega | assumption) (by first | omega | assumption) (by first | omega | assumption) (by first | omega | assumption) (by first | omega | assumption) (by first | omega | assumption) (by first | omega | assumption) (by first | omega | assumption) (by first | omega | assumption) (by first | omega | assumption) (by first | omega | assumption)
          · skip
            skip
            replace q81 := q81.resolve_right (fun z => h84 z.1)
            refine pz_nrc (c := 60) rfl ?_
            intro v95 e95 a95 b95
            rw [pz_wi (by first | decide | omega) (by first | decide | omega)] at e95
            clear a95 b95
            have lo96 : (0 : Int) ≤ v95 := by omega
            have tn96 : (((v95).toNat : Nat) : Int) = v95 := Int.toNat_of_nonneg lo96
            refine And.intro (lo96) (And.intro (show _ < (1725 : Int) from by omega) ?_)
            intro v96 e96 a96 b96
            rw [show v95.toNat = 28 + x5.toNat by omega] at e96
            refine And.intro (fun h98 => ?_) (fun h98 => ?_)
            · skip
              have G106 : sd_wf (M 60) → sd_shL (M 60) n x3 x4 x5 ∧ (0 : Int) = if x3 < sd_cg (M 60) x5.toNat then 1 else 0 := fun hW => by
                refine ⟨(by assumption : sd_wf (M 60) → sd_shL (M 60) n x3 x4 x5) hW, ?_⟩
                rw [show (52 + x5).toNat = 52 + x5.toNat by omega, show (76 + x5).toNat = 76 + x5.toNat by omega, show (28 + x5).toNat = 28 + x5.toNat by omega] at q81
                have zz : ¬ x3 < sd_cg (M 60) x5.toNat := by
                  unfold sd_cg
                  by_cases y : sd_in (M 60) x5.toNat
                  · rw [if_pos y]
                    unfold sd_in at y
                    omega
                  · rw [if_neg y]
                    unfold sd_in at y
                    omega
                rw [if_neg zz]
              exact L106 _ _ _ _ _ (by first | omega | assumption) (by first | omega | assumption) (by first | omega | assumption) (by first | omega | assumption) (by first | omega | assumption) (by first | omega | assumption) (by first | omega | assumption) (by first | omega | assumption) (by first | omega | assumption) (by first | omega | assumption) (by first | omega | assumption) (by first | omega | assumption)
            · skip
              have G106 : sd_wf (M 60) → sd_shL (M 60) n x3 x4 x5 ∧ (1 : Int) = if x3 < sd_cg (M 60) x5.toNat then 1 else 0 := fun hW => by
                refine ⟨(by assumption : sd_wf (M 60) → sd_shL (M 60) n x3 x4 x5) hW, ?_⟩
                rw [show (52 + x5).toNat = 52 + x5.toNat by omega, show (76 + x5).toNat = 76 + x5.toNat by omega, show (28 + x5).toNat = 28 + x5.toNat by omega] at q81
                have zz :  x3 < sd_cg (M 60) x5.toNat := by
                  unfold sd_cg
                  by_cases y : sd_in (M 60) x5.toNat
                  · rw [if_pos y]
                    unfold sd_in at y
                    omega
                  · rw [if_neg y]
                    unfold sd_in at y
                    omega
                rw [if_pos zz]
              exact L106 _ _ _ _ _ (by first | omega | assumption) (by first | omega | assumption) (by first | omega | assumption) (by first | omega | assumption) (by first | omega | assumption) (by first | omega | assumption) (by first | omega | assumption) (by first | omega | assumption) (by first | omega | assumption) (by first | omega | assumption) (by first | omega | assumption) (by first | omega | assumption)
    have L58 : ∀ (x3 : Int) (d4 : Option pz_V) (d5 : Option pz_V), (0 ≤ i) → (i < 12) → (0 ≤ n ∧ n ≤ 9999 ∧ 0 ≤ i ∧ i < M 60 88) → (0 ≤ x3) → (x3 ≤ 999) → (sd_wf (M 60) → x3 = sd_lvf (M 60) n 999 0) → (sd_wf (M 60) → n ≤ sd_g (M 60) 999) → Ok 58 [some (.inr (.inr (12, 1))), some (.inl n), some (.inl i), some (.inl x3), d4, d5] [] M := by
      intro x3 d4 d5 g58_0 g58_1 g58_2 g58_3 g58_4 g58_5 g58_6
      refine hgo (fun p => Nat.beq p 34 || Nat.beq p 58 || Nat.beq p 70 || Nat.beq p 106) 92 58 _ _ _ ?_
      refine And.intro (hI) ?_
      intro v61 M61 a61 b61 q61
      obtain ⟨q61, z61⟩ := q61
      subst z61
      intro v64 e64 a64 b64
      have e64k := e64
      have G70 : sd_wf (M 60) → sd_shL (M 60) n x3 v64 0 := fun hW => by
        have c9 := (by assumption : sd_wf (M 60) → n ≤ sd_g (M 60) 999) hW
        have x := (by assumption : sd_wf (M 60) → x3 = sd_lvf (M 60) n 999 0) hW
        have l : sd_lvl (M 60) n x3 := by
          rw [x]
          exact sd_lev_l 999 0 (by decide) (by decide) (by rw [sd_g_0 hW]; omega)
        exact sd_shL_0 hW (by first | decide | omega) l (q61 hW (by first | decide | omega)) e64k
      clear e64k
      exact L70 _ _ _ _ (Nat.lt_succ_self _) (by first | omega | assumption) (by first | omega | assumption) (by first | omega | assumption) (by first | omega | assumption) (by first | omega | assumption) (by first | omega | assumption) (by first | omega | assumption) (by first | omega | assumption)
    have L34 : ∀ (fu : Nat) (x3 : Int) (d4 : Option pz_V) (d5 : Option pz_V), (999 - x3).toNat < fu → (0 ≤ x3) → (0 ≤ i) → (i < 12) → (0 ≤ n ∧ n ≤ 9999 ∧ 0 ≤ i ∧ i < M 60 88) → (x3 ≤ 999) → (sd_wf (M 60) → sd_lvf (M 60) n (999 - x3).toNat x3 = sd_lvf (M 60) n 999 0) → (sd_wf (M 60) → n ≤ sd_g (M 60) 999) → Ok 34 [some (.inr (.inr (12, 1))), some (.inl n), some (.inl i), some (.inl x3), d4, d5] [] M := by
      intro fu
      induction fu with
      | zero => exact fun _ _ _ hn => absurd hn (Nat.not_lt_zero _)
      | succ fu ih34 =>
        intro x3 d4 d5 hn34 g34_0 g34_1 g34_2 g34_3 g34_4 g34_5 g34_6
        refine hgo (fun p => Nat.beq p 34 || Nat.beq p 58 || Nat.beq p 70 || Nat.beq p 106) 92 34 _ _ _ ?_
        refine And.intro (fun h38 => ?_) (fun h38 => ?_)
        · skip
          have G58 : sd_wf (M 60) → x3 = sd_lvf (M 60) n 999 0 := fun hW => by
            have g := (by assumption : sd_wf (M 60) → sd_lvf (M 60) n (999 - x3).toNat x3 = sd_lvf (M 60) n 999 0) hW
            rw [← g, show x3 = 999 by omega]
            rfl
          exact L58 _ _ _ (by first | omega | assumption) (by first | omega | assumption) (by first | omega | assumption) (by first | omega | assumption) (by first | omega | assumption) (by first | omega | assumption) (by first | omega | assumption)
        · skip
          skip
          intro v44 e44 a44 b44
          rw [pz_wi (by first | decide | omega) (by first | decide | omega)] at e44
          clear a44 b44
          refine And.intro (hI) ?_
          intro v45 M45 a45 b45 q45
          obtain ⟨q45, z45⟩ := q45
          subst z45
          refine And.intro (fun h49 => ?_) (fun h49 => ?_)
          · skip
            have G58 : sd_wf (M 60) → x3 = sd_lvf (M 60) n 999 0 := fun hW => by
              have g := (by assumption : sd_wf (M 60) → sd_lvf (M 60) n (999 - x3).toNat x3 = sd_lvf (M 60) n 999 0) hW
              have c := q45 hW (by first | decide | omega)
              rw [show v44 = x3 + 1 by omega] at c
              rw [← g, show (999 - x3).toNat = (999 - (x3 + 1)).toNat + 1 by omega]
              exact (if_neg (by first | decide | omega)).symm
            exact L58 _ _ _ (by first | omega | assumption) (by first | omega | assumption) (by first | omega | assumption) (by first | omega | assumption) (by first | omega | assumption) (by first | omega | assumption) (by first | omega | assumption)
          · skip
            skip
            intro v52 e52 a52 b52
            rw [pz_wi (by first | decide | omega) (by first | decide | omega)] at e52
            have G34 : sd_wf (M 60) → sd_lvf (M 60) n (999 - v52).toNat v52 = sd_lvf (M 60) n 999 0 := fun hW => by
              have g := (by assumption : sd_wf (M 60) → sd_lvf (M 60) n (999 - x3).toNat x3 = sd_lvf (M 60) n 999 0) hW
              have c := q45 hW (by first | decide | omega)
              rw [show v44 = x3 + 1 by omega] at c
              rw [← g, show (999 - x3).toNat = (999 - v52).toNat + 1 by omega, e52]
              exact (if_pos (by first | decide | omega)).symm
            exact ih34 _ _ _ (by first | decide | omega) (by first | omega | assumption | exact fun _ => rfl) (by first | omega | assumption | exact fun _ => rfl) (by first | omega | assumption | exact fun _ => rfl) (by first | omega | assumption | exact fun _ => rfl) (by first | omega | assumption | exact fun _ => rfl) (by first | omega | assumption | exact fun _ => rfl) (by first | omega | assumption | exact fun _ => rfl)
    refine hgo (fun p => Nat.beq p 34 || Nat.beq p 58 || Nat.beq p 70 || Nat.beq p 106) 92 0 _ [] M ?_
    refine And.intro (True.intro) ?_
    intro v5 M5 a5 b5 q5
    obtain ⟨q5, z5⟩ := q5
    subst z5
    clear a5 b5
    refine And.intro (fun h8 => ?_) (fun h8 => ?_)
    · skip
      replace q5 := q5.resolve_left (fun z => absurd (z.1.symm.trans h8) (by decide))
      clear h8
      refine And.intro rfl ?_
      refine ⟨fun ls hl hq hW => ?_, rfl⟩
      have hm := hW.1
      show _ = sd_shv (M 60) n i
      unfold sd_shv
      rw [if_neg (fun z => by
        first
          | omega
          | (have c := q23 hW (by first | decide | omega)
             omega))]
    · skip
      replace q5 := q5.resolve_right (fun z => h8 z.1)
      clear h8
      refine And.intro (hI) ?_
      intro v13 M13 a13 b13 q13
      obtain ⟨q13, z13⟩ := q13
      subst z13
      clear a13 b13
      refine And.intro (fun h16 => ?_) (fun h16 => ?_)
      · skip
        replace q13 := q13.resolve_left (fun z => absurd (z.1.symm.trans h16) (by decide))
        clear h16
        refine And.intro rfl ?_
        refine ⟨fun ls hl hq hW => ?_, rfl⟩
        have hm := hW.1
        show _ = sd_shv (M 60) n i
        unfold sd_shv
        rw [if_neg (fun z => by
          first
            | omega
            | (have c := q23 hW (by first | decide | omega)
               omega))]
      · skip
        replace q13 := q13.resolve_right (fun z => h16 z.1)
        clear h16
        refine And.intro (hI) ?_
        intro v23 M23 a23 b23 q23
        obtain ⟨q23, z23⟩ := q23
        subst z23
        refine And.intro (fun h27 => ?_) (fun h27 => ?_)
        · skip
          have GP : 0 ≤ n ∧ n ≤ 9999 ∧ 0 ≤ i ∧ i < M 60 88 := by omega
          have GM : sd_wf (M 60) → n ≤ sd_g (M 60) 999 := fun hW => by
            have c := q23 hW (by first | decide | omega)
            omega
          exact L34 _ _ _ _ (Nat.lt_succ_self _) (by first | omega | assumption | exact fun _ => rfl) (by first | omega | assumption | exact fun _ => rfl) (by first | omega | assumption | exact fun _ => rfl) (by first | omega | assumption | exact fun _ => rfl) (by first | omega | assumption | exact fun _ => rfl) (by first | omega | assumption | exact fun _ => rfl) (by first | omega | assumption | exact fun _ => rfl)
        · skip
          skip
          refine And.intro rfl ?_
          refine ⟨fun ls hl hq hW => ?_, rfl⟩
          have hm := hW.1
          show _ = sd_shv (M 60) n i
          unfold sd_shv
          rw [if_neg (fun z => by
            first
              | omega
              | (have c := q23 hW (by first | decide | omega)
                 omega))]
theorem v3_X12_share {fr lo i : Nat} {own : String} (h1 : 5 + 1 ≤ fr) (h2 : 8 + (6 + 11) + 108 ≤ lo) (h3 : .methodLink own i yX12_share ∈ lw_tbl) : pz_cV fr lo own i k3_X12_share :=
  pz_cVk (maxL := 6) (fr' := 5) (lo' := 108) 2 12 h3_X12_share rfl ⟨(pz_nhc_RX12 yX12_share rfl).1, (pz_nhc_RX12 yX12_share rfl).2, pz_ds10⟩ ⟨pz_wq1676, pz_wq1674, pz_wq1675, pz_wq13⟩ (Or.inl ⟨TX12, 28, rfl⟩) (fun a M _ h => by
    have h : (match (generalizing := false) a with | [.inr (.inr (12, th)), .inl n, .inl i] => pz_im M | _ => False) := h
    split at h
    · exact ⟨_, _, rfl⟩
    · exact h.elim) h1 h2 h3
end
