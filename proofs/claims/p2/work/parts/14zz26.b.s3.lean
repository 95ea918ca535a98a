def k3_X0_canGive : pz_C := (2, 1, fun a M => (match a with | [.inr (.inr (0, c)), .inl i] => True | _ => False), fun a M r M' => (match a, r with | [.inr (.inr (0, c)), .inl i], some (.inl v) => (0 ≤ v ∧ sd_q M c (fun F => 0 ≤ i → i < F 88 → v = sd_cg F i.toNat)) ∧ M = M' | _, _ => False))
abbrev ct3_X0_canGive : List (Bool × Nat × pz_C) := [(true, 48, k_X0_at), (true, 71, k_X5_isIn), (false, 58, k_J9_max_7cf53)]
set_option maxRecDepth 100000 in
set_option maxHeartbeats 4000000 in
theorem h3_X0_canGive : pz_H yX0_canGive cX0_canGive 2 (some .int) k3_X0_canGive 1 21 := by
  refine pz_mk (own := RX0) (tb := t_X0_canGive) (fl := pz_flf fl_RX0) (ci := pz_cif ci_RX0) (ct := pz_ctf ct3_X0_canGive) (rz := false) (by decide +kernel) rfl t_X0_canGive_ok (pz_flk fl_RX0_ok) (pz_cik ci_RX0_ok) ?_ ?_ (Or.inl ⟨rfl, rfl⟩) ?_ ?_
  · exact fun i k' h => pz_ctk (l := ct3_X0_canGive) (P := fun b i k => b = true → pz_cV 1 21 RX0 i k) (List.forall_mem_cons.mpr ⟨(fun _ => v_X0_at (by decide) (by decide) (pz_mt 494 (by decide +kernel))), List.forall_mem_cons.mpr ⟨(fun _ => v_X5_isIn (by decide) (by decide) (pz_mt 529 (by decide +kernel))), List.forall_mem_cons.mpr ⟨((fun z => by cases z)), fun _ h => absurd h List.not_mem_nil⟩⟩⟩) true i k' h rfl
  · exact fun i k' h => pz_ctk (l := ct3_X0_canGive) (P := fun b i k => b = false → (pz_cS 1 21 RX0 i k ∨ (k = pz_kac ∧ 1 ≤ 1 ∧ 60 ≤ 21 ∧ Cond.methodLink RX0 i arraycopyName ∈ pz_tbl))) (List.forall_mem_cons.mpr ⟨((fun z => by cases z)), List.forall_mem_cons.mpr ⟨((fun z => by cases z)), List.forall_mem_cons.mpr ⟨(fun _ => Or.inl (s_J9_max_7cf53 (by decide) (by decide) (Or.inl (pz_mt 634 (by decide +kernel))))), fun _ h => absurd h List.not_mem_nil⟩⟩⟩) false i k' h rfl
  · intro a M hlen hpre
    obtain ⟨c, i, rfl, hpre⟩ : ∃ c i, a = [.inr (.inr (0, c)), .inl i] ∧ (True) := by
      have hpre : (match (generalizing := false) a with | [.inr (.inr (0, c)), .inl i] => True | _ => False) := hpre
      split at hpre
      · exact ⟨_, _, rfl, hpre⟩
      · exact hpre.elim
    exact Nat.le_of_ble_eq_true rfl
  · intro a M hlen hcan hM hpre Ok hgo
    obtain ⟨c, i, rfl, hpre⟩ : ∃ c i, a = [.inr (.inr (0, c)), .inl i] ∧ (True) := by
      have hpre : (match (generalizing := false) a with | [.inr (.inr (0, c)), .inl i] => True | _ => False) := hpre
      split at hpre
      · exact ⟨_, _, rfl, hpre⟩
      · exact hpre.elim
    obtain ⟨k_c, hc_c⟩ := pz_tlm hcan
    have k_c : pz_kd c = 0 ∧ c < 231 := k_c
    have R_c := pz_kd0 k_c.1
    obtain ⟨k_i, hc_i⟩ := pz_tlm hc_c
    have l_i : -2147483648 ≤ i := k_i.1
    have u_i : i ≤ 2147483647 := k_i.2
    refine hgo (fun _ => false) 16 0 _ [] M ?_
    refine And.intro (True.intro) ?_
    intro r2 M2 k2 q2
    have R2 := pz_kd5 k2
    obtain ⟨q2, z2⟩ := q2
    subst z2
    have A2 := pz_at_lk R_c q2
    have B2 : 89 + 13 * (c - 71) ≤ r2 ∧ r2 ≤ 89 + 13 * (c - 71) + 12 := by
      rw [A2]
      exact pz_lnk_c
    refine And.intro (True.intro) ?_
    intro v5 M5 a5 b5 q5
    obtain ⟨q5, z5⟩ := q5
    subst z5
    refine And.intro (fun h8 => ?_) (fun h8 => ?_)
    · skip
      refine And.intro rfl ?_
      refine ⟨⟨by omega, fun F hF hW h0 h1 => ?_⟩, rfl⟩
      have hn := hF.1
      have hm := hW.1
      have b := sd_at R_c hF hW h0 h1 A2
      have b5 := b.2.2.2.2.2.1
      have b7 := b.2.2.2.2.2.2.2
      have P := hW.2.2 i.toNat (by omega)
      unfold sd_lw at P
      have q5 := q5
      rw [b5, b7] at q5
      unfold sd_cg
      first
        | (have b2 := (sd_at R_c hF hW h0 h1 A14).2.2.1
           rw [if_pos (by
            unfold sd_in
            split at q5 <;> omega)]
           omega)
        | (rw [if_neg (fun z => by
            unfold sd_in at z
            split at q5 <;> omega)]; done)
    · skip
      refine And.intro (True.intro) ?_
      intro r14 M14 k14 q14
      have R14 := pz_kd5 k14
      obtain ⟨q14, z14⟩ := q14
      subst z14
      have A14 := pz_at_lk R_c q14
      have B14 : 89 + 13 * (c - 71) ≤ r14 ∧ r14 ≤ 89 + 13 * (c - 71) + 12 := by
        rw [A14]
        exact pz_lnk_c
      intro v17 e17 a17 b17
      refine And.intro (True.intro) ?_
      intro v20 M20 a20 b20 q20
      obtain ⟨q20, z20⟩ := q20
      subst z20
      refine And.intro rfl ?_
      refine ⟨⟨by omega, fun F hF hW h0 h1 => ?_⟩, rfl⟩
      have hn := hF.1
      have hm := hW.1
      have b := sd_at R_c hF hW h0 h1 A2
      have b5 := b.2.2.2.2.2.1
      have b7 := b.2.2.2.2.2.2.2
      have P := hW.2.2 i.toNat (by omega)
      unfold sd_lw at P
      have q5 := q5
      rw [b5, b7] at q5
      unfold sd_cg
      first
        | (have b2 := (sd_at R_c hF hW h0 h1 A14).2.2.1
           rw [if_pos (by
            unfold sd_in
            split at q5 <;> omega)]
           omega)
        | (rw [if_neg (fun z => by
            unfold sd_in at z
            split at q5 <;> omega)]; done)
theorem v3_X0_canGive {fr lo i : Nat} {own : String} (h1 : 1 + 1 ≤ fr) (h2 : 8 + (2 + 11) + 21 ≤ lo) (h3 : .methodLink own i yX0_canGive ∈ lw_tbl) : pz_cV fr lo own i k3_X0_canGive :=
  pz_cVk (maxL := 2) (fr' := 1) (lo' := 21) 1 0 h3_X0_canGive rfl ⟨by decide +kernel, by decide +kernel, by decide +kernel⟩ ⟨(pz_mt 972 (by decide +kernel)), (pz_mt 970 (by decide +kernel)), (pz_mt 971 (by decide +kernel)), (pz_mt 2 (by decide +kernel))⟩ (Or.inl ⟨TX0, 8, rfl⟩) (fun a M _ h => by
    have h : (match (generalizing := false) a with | [.inr (.inr (0, c)), .inl i] => True | _ => False) := h
    split at h
    · exact ⟨_, _, rfl⟩
    · exact h.elim) h1 h2 h3
def k3_X0_givenTo : pz_C := (2, 1, fun a M => (match a with | [.inr (.inr (0, c)), .inl i] => pz_ic M | _ => False), fun a M r M' => (match a, r with | [.inr (.inr (0, c)), .inl i], some (.inl v) => (sd_q M c (fun F => 0 ≤ i → v = sd_g F i)) ∧ M = M' | _, _ => False))
abbrev ct3_X0_givenTo : List (Bool × Nat × pz_C) := [(true, 97, k3_X0_canGive), (false, 100, k_J9_min_7cf53)]
set_option maxRecDepth 100000 in
set_option maxHeartbeats 4000000 in
theorem h3_X0_givenTo : pz_H yX0_givenTo cX0_givenTo 4 (some .int) k3_X0_givenTo 2 42 := by
  refine pz_mk (own := RX0) (tb := t_X0_givenTo) (fl := pz_flf fl_RX0) (ci := pz_cif ci_RX0) (ct := pz_ctf ct3_X0_givenTo) (rz := false) (by decide +kernel) rfl t_X0_givenTo_ok (pz_flk fl_RX0_ok) (pz_cik ci_RX0_ok) ?_ ?_ (Or.inl ⟨rfl, rfl⟩) ?_ ?_
  · exact fun i k' h => pz_ctk (l := ct3_X0_givenTo) (P := fun b i k => b = true → pz_cV 2 42 RX0 i k) (List.forall_mem_cons.mpr ⟨(fun _ => v3_X0_canGive (by decide) (by decide) (pz_mt 969 (by decide +kernel))), List.forall_mem_cons.mpr ⟨((fun z => by cases z)), fun _ h => absurd h List.not_mem_nil⟩⟩) true i k' h rfl
  · exact fun i k' h => pz_ctk (l := ct3_X0_givenTo) (P := fun b i k => b = false → (pz_cS 2 42 RX0 i k ∨ (k = pz_kac ∧ 1 ≤ 2 ∧ 60 ≤ 42 ∧ Cond.methodLink RX0 i arraycopyName ∈ pz_tbl))) (List.forall_mem_cons.mpr ⟨((fun z => by cases z)), List.forall_mem_cons.mpr ⟨(fun _ => Or.inl (s_J9_min_7cf53 (by decide) (by decide) (Or.inl (pz_mt 973 (by decide +kernel))))), fun _ h => absurd h List.not_mem_nil⟩⟩) false i k' h rfl
  · intro a M hlen hpre
    obtain ⟨c, i, rfl, hpre⟩ : ∃ c i, a = [.inr (.inr (0, c)), .inl i] ∧ (pz_ic M) := by
      have hpre : (match (generalizing := false) a with | [.inr (.inr (0, c)), .inl i] => pz_ic M | _ => False) := hpre
      split at hpre
      · exact ⟨_, _, rfl, hpre⟩
      · exact hpre.elim
    exact Nat.le_of_ble_eq_true rfl
  · intro a M hlen hcan hM hpre Ok hgo
    obtain ⟨c, i, rfl, hpre⟩ : ∃ c i, a = [.inr (.inr (0, c)), .inl i] ∧ (pz_ic M) := by
      have hpre : (match (generalizing := false) a with | [.inr (.inr (0, c)), .inl i] => pz_ic M | _ => False) := hpre
      split at hpre
      · exact ⟨_, _, rfl, hpre⟩
      · exact hpre.elim
    obtain ⟨k_c, hc_c⟩ := pz_tlm hcan
    have k_c : pz_kd c = 0 ∧ c < 231 := k_c
    have R_c := pz_kd0 k_c.1
    obtain ⟨k_i, hc_i⟩ := pz_tlm hc_c
    have l_i : -2147483648 ≤ i := k_i.1
    have u_i : i ≤ 2147483647 := k_i.2
    have hI : pz_ic M := hpre
    have L4 : ∀ (fu : Nat) (x2 : Int) (x3 : Int), (M c 3 - x3).toNat < fu → (0 ≤ x3) → (sd_q M c (fun F => 0 ≤ i → sd_gtE F i x2 x3)) → Ok 4 [some (.inr (.inr (0, c))), some (.inl i), some (.inl x2), some (.inl x3)] [] M := by
      intro fu
      induction fu with
      | zero => exact fun _ _ hn => absurd hn (Nat.not_lt_zero _)
      | succ fu ih4 =>
        intro x2 x3 hn4 g4_0 g4_1
        refine hgo (fun p => Nat.beq p 4) 22 4 _ _ _ ?_
        intro v6 e6 a6 b6
        have I6 := hI.1 c (by omega) (by omega)
        refine And.intro (fun h9 => ?_) (fun h9 => ?_)
        · skip
          refine And.intro rfl ?_
          refine ⟨fun F hF hW hi => ?_, rfl⟩
          have hn := hF.1
          exact sd_gtE_z ((by assumption : sd_q M c (fun F => 0 ≤ i → sd_gtE F i x2 x3)) F hF hW hi) hW (by omega)
        · skip
          refine And.intro (True.intro) ?_
          intro v16 M16 a16 b16 q16
          obtain ⟨q16, z16⟩ := q16
          subst z16
          refine And.intro (True.intro) ?_
          intro v19 M19 a19 b19 q19
          obtain ⟨q19, z19⟩ := q19
          subst z19
          intro v22 e22 a22 b22
          intro v24 e24 a24 b24
          rw [pz_wi (by omega) (by omega)] at e24
          have G4 : sd_q M c (fun F => 0 ≤ i → sd_gtE F i v22 v24) := fun F hF hW hi => by
            have hn := hF.1
            have b := q16.2 F hF hW (by omega) (by omega)
            exact sd_gtE_s ((by assumption : sd_q M c (fun F => 0 ≤ i → sd_gtE F i x2 x3)) F hF hW hi) hW hi (by omega) (by omega) e24 (show v19 = min i (sd_cg F x3.toNat) by rw [q19, b]) e22
          exact ih4 _ _ (by omega) (by first | omega | assumption | exact fun F hF hW hi => sd_gtE_0 hW) (by first | omega | assumption | exact fun F hF hW hi => sd_gtE_0 hW)
    refine hgo (fun p => Nat.beq p 4) 22 0 _ [] M ?_
    exact L4 _ _ _ (Nat.lt_succ_self _) (by first | omega | assumption | exact fun F hF hW hi => sd_gtE_0 hW) (by first | omega | assumption | exact fun F hF hW hi => sd_gtE_0 hW)
theorem v3_X0_givenTo {fr lo i : Nat} {own : String} (h1 : 2 + 1 ≤ fr) (h2 : 8 + (4 + 11) + 42 ≤ lo) (h3 : .methodLink own i yX0_givenTo ∈ lw_tbl) : pz_cV fr lo own i k3_X0_givenTo :=
  pz_cVk (maxL := 4) (fr' := 2) (lo' := 42) 1 0 h3_X0_givenTo rfl ⟨by decide +kernel, by decide +kernel, by decide +kernel⟩ ⟨(pz_mt 968 (by decide +kernel)), (pz_mt 966 (by decide +kernel)), (pz_mt 967 (by decide +kernel)), (pz_mt 2 (by decide +kernel))⟩ (Or.inl ⟨TX0, 8, rfl⟩) (fun a M _ h => by
    have h : (match (generalizing := false) a with | [.inr (.inr (0, c)), .inl i] => pz_ic M | _ => False) := h
    split at h
    · exact ⟨_, _, rfl⟩
    · exact h.elim) h1 h2 h3
def k3_X11_highestLevel : pz_C := (2, 1, fun a M => (match a with | [.inr (.inr (11, th)), .inl n] => pz_ic M | _ => False), fun a M r M' => (match a, r with | [.inr (.inr (11, th)), .inl n], some (.inl v) => ((0 ≤ v ∧ v ≤ 999) ∧ sd_q M 71 (fun F => 0 ≤ n → sd_lvl F n v)) ∧ M = M' | _, _ => False))
abbrev ct3_X11_highestLevel : List (Bool × Nat × pz_C) := [(true, 283, k3_X0_givenTo)]
set_option maxRecDepth 100000 in
set_option maxHeartbeats 4000000 in
theorem h3_X11_highestLevel : pz_H yX11_highestLevel cX11_highestLevel 6 (some .int) k3_X11_highestLevel 3 65 := by
  refine pz_mk (own := RX11) (tb := t_X11_highestLevel) (fl := pz_flf fl_RX11) (ci := pz_cif ci_RX11) (ct := pz_ctf ct3_X11_highestLevel) (rz := false) (by decide +kernel) rfl t_X11_highestLevel_ok (pz_flk fl_RX11_ok) (pz_cik ci_RX11_ok) ?_ ?_ (Or.inl ⟨rfl, rfl⟩) ?_ ?_
  · exact fun i k' h => pz_ctk (l := ct3_X11_highestLevel) (P := fun b i k => b = true → pz_cV 3 65 RX11 i k) (List.forall_mem_cons.mpr ⟨(fun _ => v3_X0_givenTo (by decide) (by decide) (pz_mt 965 (by decide +kernel))), fun _ h => absurd h List.not_mem_nil⟩) true i k' h rfl
  · exact fun i k' h => pz_ctk (l := ct3_X11_highestLevel) (P := fun b i k => b = false → (pz_cS 3 65 RX11 i k ∨ (k = pz_kac ∧ 1 ≤ 3 ∧ 60 ≤ 65 ∧ Cond.methodLink RX11 i arraycopyName ∈ pz_tbl))) (List.forall_mem_cons.mpr ⟨((fun z => by cases z)), fun _ h => absurd h List.not_mem_nil⟩) false i k' h rfl
  · intro a M hlen hpre
    obtain ⟨th, n, rfl, hpre⟩ : ∃ th n, a = [.inr (.inr (11, th)), .inl n] ∧ (pz_ic M) := by
      have hpre : (match (generalizing := false) a with | [.inr (.inr (11, th)), .inl n] => pz_ic M | _ => False) := hpre
      split at hpre
      · exact ⟨_, _, rfl, hpre⟩
      · exact hpre.elim
    exact Nat.le_of_ble_eq_true rfl
  · intro a M hlen hcan hM hpre Ok hgo
    obtain ⟨th, n, rfl, hpre⟩ : ∃ th n, a = [.inr (.inr (11, th)), .inl n] ∧ (pz_ic M) := by
      have hpre : (match (generalizing := false) a with | [.inr (.inr (11, th)), .inl n] => pz_ic M | _ => False) := hpre
      split at hpre
      · exact ⟨_, _, rfl, hpre⟩
      · exact hpre.elim
    obtain ⟨k_th, hc_th⟩ := pz_tlm hcan
    have k_th : pz_kd th = 11 ∧ th < 231 := k_th
    have R_th := pz_kd11 k_th.1
    subst R_th
    obtain ⟨k_n, hc_n⟩ := pz_tlm hc_th
    have l_n : -2147483648 ≤ n := k_n.1
    have u_n : n ≤ 2147483647 := k_n.2
    have hI : pz_ic M := hpre
    have L9 : ∀ (fu : Nat) (x2 : Int) (x3 : Int) (x4 : Int) (d5 : Option pz_V), (999 - x4).toNat < fu → (0 ≤ x4) → (0 ≤ x2) → (x2 ≤ 999) → (0 ≤ x3) → (x3 ≤ 999) → (x2 ≤ x3) → (x3 ≤ x2 + 999 - x4) → (x4 ≤ 999) → (sd_q M 71 (fun F => 0 ≤ n → sd_g F x2 ≤ n ∧ (x3 = 999 ∨ n < sd_g F (x3 + 1)))) → Ok 9 [some (.inr (.inr (11, 0))), some (.inl n), some (.inl x2), some (.inl x3), some (.inl x4), d5] [] M := by
      intro fu
      induction fu with
      | zero => exact fun _ _ _ _ hn => absurd hn (Nat.not_lt_zero _)
      | succ fu ih9 =>
        intro x2 x3 x4 d5 hn9 g9_0 g9_1 g9_2 g9_3 g9_4 g9_5 g9_6 g9_7 g9_8
        refine hgo (fun p => Nat.beq p 9) 39 9 _ _ _ ?_
        refine And.intro (fun h14 => ?_) (fun h14 => ?_)
        · skip
          refine And.intro rfl ?_
          refine ⟨⟨by omega, fun F hF hW hn => ?_⟩, rfl⟩
          obtain ⟨a, b⟩ := (by assumption : sd_q M 71 (fun F => 0 ≤ n → sd_g F x2 ≤ n ∧ (x3 = 999 ∨ n < sd_g F (x3 + 1)))) F hF hW hn
          have e : x3 = x2 := by omega
          rw [e] at b
          exact ⟨by omega, a, b⟩
        · skip
          refine And.intro (fun h19 => ?_) (fun h19 => ?_)
          · skip
            refine And.intro rfl ?_
            refine ⟨⟨by omega, fun F hF hW hn => ?_⟩, rfl⟩
            obtain ⟨a, b⟩ := (by assumption : sd_q M 71 (fun F => 0 ≤ n → sd_g F x2 ≤ n ∧ (x3 = 999 ∨ n < sd_g F (x3 + 1)))) F hF hW hn
            have e : x3 = x2 := by omega
            rw [e] at b
            exact ⟨by omega, a, b⟩
          · skip
            intro v24 e24 a24 b24
            try rw [pz_wi (by omega) (by omega)] at e24
            intro v26 e26 a26 b26
            try rw [pz_wi (by omega) (by omega)] at e26
            refine And.intro (by omega) ?_
            intro v28 e28 a28 b28
            rw [Int.tdiv_eq_ediv_of_nonneg (by omega)] at e28
            rw [pz_wi (by omega) (by omega)] at e28
            refine pz_nrc (c := 71) rfl ?_
            refine And.intro (hI) ?_
            intro v37 M37 a37 b37 q37
            obtain ⟨q37, z37⟩ := q37
            subst z37
            refine And.intro (fun h41 => ?_) (fun h41 => ?_)
            · skip
              intro v53 e53 a53 b53
              try rw [pz_wi (by omega) (by omega)] at e53
              intro v55 e55 a55 b55
              rw [pz_wi (by omega) (by omega)] at e55
              have GI := (by assumption : sd_q M 71 (fun F => 0 ≤ n → sd_g F x2 ≤ n ∧ (x3 = 999 ∨ n < sd_g F (x3 + 1))))
              first
                | (have G9 : sd_q M 71 (fun F => 0 ≤ n → sd_g F v28 ≤ n ∧ (x3 = 999 ∨ n < sd_g F (x3 + 1))) := fun F hF hW hn => by
                    have c := q37 F hF hW (by omega)
                    exact ⟨by omega, (GI F hF hW hn).2⟩)
                | (have G9 : sd_q M 71 (fun F => 0 ≤ n → sd_g F x2 ≤ n ∧ (v53 = 999 ∨ n < sd_g F (v53 + 1))) := fun F hF hW hn => by
                    have c := q37 F hF hW (by omega)
                    exact ⟨(GI F hF hW hn).1, Or.inr (by rw [show v53 + 1 = v28 by omega]; omega)⟩)
              exact ih9 _ _ _ _ (by omega) (by first | omega | assumption | exact fun F hF hW hn => ⟨by rw [sd_g_0 hW]; exact hn, Or.inl rfl⟩) (by first | omega | assumption | exact fun F hF hW hn => ⟨by rw [sd_g_0 hW]; exact hn, Or.inl rfl⟩) (by first | omega | assumption | exact fun F hF hW hn => ⟨by rw [sd_g_0 hW]; exact hn, Or.inl rfl⟩) (by first | omega | assumption | exact fun F hF hW hn => ⟨by rw [sd_g_0 hW]; exact hn, Or.inl rfl⟩) (by first | omega | assumption | exact fun F hF hW hn => ⟨by rw [sd_g_0 hW]; exact hn, Or.inl rfl⟩) (by first | omega | assumption | exact fun F hF hW hn => ⟨by rw [sd_g_0 hW]; exact hn, Or.inl rfl⟩) (by first | omega | assumption | exact fun F hF hW hn => ⟨by rw [sd_g_0 hW]; exact hn, Or.inl rfl⟩) (by first | omega | assumption | exact fun F hF hW hn => ⟨by rw [sd_g_0 hW]; exact hn, Or.inl rfl⟩) (by first | omega | assumption | exact fun F hF hW hn => ⟨by rw [sd_g_0 hW]; exact hn, Or.inl rfl⟩)
            · skip
              intro v55 e55 a55 b55
              rw [pz_wi (by omega) (by omega)] at e55
              have GI := (by assumption : sd_q M 71 (fun F => 0 ≤ n → sd_g F x2 ≤ n ∧ (x3 = 999 ∨ n < sd_g F (x3 + 1))))
              first
                | (have G9 : sd_q M 71 (fun F => 0 ≤ n → sd_g F v28 ≤ n ∧ (x3 = 999 ∨ n < sd_g F (x3 + 1))) := fun F hF hW hn => by
                    have c := q37 F hF hW (by omega)
                    exact ⟨by omega, (GI F hF hW hn).2⟩)
                | (have G9 : sd_q M 71 (fun F => 0 ≤ n → sd_g F x2 ≤ n ∧ (v53 = 999 ∨ n < sd_g F (v53 + 1))) := fun F hF hW hn => by
                    have c := q37 F hF hW (by omega)
                    exact ⟨(GI F hF hW hn).1, Or.inr (by rw [show v53 + 1 = v28 by omega]; omega)⟩)
              exact ih9 _ _ _ _ (by omega) (by first | omega | assumption | exact fun F hF hW hn => ⟨by rw [sd_g_0 hW]; exact hn, Or.inl rfl⟩) (by first | omega | assumption | exact fun F hF hW hn => ⟨by rw [sd_g_0 hW]; exact hn, Or.inl rfl⟩) (by first | omega | assumption | exact fun F hF hW hn => ⟨by rw [sd_g_0 hW]; exact hn, Or.inl rfl⟩) (by first | omega | assumption | exact fun F hF hW hn => ⟨by rw [sd_g_0 hW]; exact hn, Or.inl rfl⟩) (by first | omega | assumption | exact fun F hF hW hn => ⟨by rw [sd_g_0 hW]; exact hn, Or.inl rfl⟩) (by first | omega | assumption | exact fun F hF hW hn => ⟨by rw [sd_g_0 hW]; exact hn, Or.inl rfl⟩) (by first | omega | assumption | exact fun F hF hW hn => ⟨by rw [sd_g_0 hW]; exact hn, Or.inl rfl⟩) (by first | omega | assumption | exact fun F hF hW hn => ⟨by rw [sd_g_0 hW]; exact hn, Or.inl rfl⟩) (by first | omega | assumption | exact fun F hF hW hn => ⟨by rw [sd_g_0 hW]; exact hn, Or.inl rfl⟩)
    refine hgo (fun p => Nat.beq p 9) 39 0 _ [] M ?_
    exact L9 _ _ _ _ _ (Nat.lt_succ_self _) (by first | omega | assumption | exact fun F hF hW hn => ⟨by rw [sd_g_0 hW]; exact hn, Or.inl rfl⟩) (by first | omega | assumption | exact fun F hF hW hn => ⟨by rw [sd_g_0 hW]; exact hn, Or.inl rfl⟩) (by first | omega | assumption | exact fun F hF hW hn => ⟨by rw [sd_g_0 hW]; exact hn, Or.inl rfl⟩) (by first | omega | assumption | exact fun F hF hW hn => ⟨by rw [sd_g_0 hW]; exact hn, Or.inl rfl⟩) (by first | omega | assumption | exact fun F hF hW hn => ⟨by rw [sd_g_0 hW]; exact hn, Or.inl rfl⟩) (by first | omega | assumption | exact fun F hF hW hn => ⟨by rw [sd_g_0 hW]; exact hn, Or.inl rfl⟩) (by first | omega | assumption | exact fun F hF hW hn => ⟨by rw [sd_g_0 hW]; exact hn, Or.inl rfl⟩) (by first | omega | assumption | exact fun F hF hW hn => ⟨by rw [sd_g_0 hW]; exact hn, Or.inl rfl⟩) (by first | omega | assumption | exact fun F hF hW hn => ⟨by rw [sd_g_0 hW]; exact hn, Or.inl rfl⟩)
theorem v3_X11_highestLevel {fr lo i : Nat} {own : String} (h1 : 3 + 1 ≤ fr) (h2 : 8 + (6 + 11) + 65 ≤ lo) (h3 : .methodLink own i yX11_highestLevel ∈ lw_tbl) : pz_cV fr lo own i k3_X11_highestLevel :=
  pz_cVk (maxL := 6) (fr' := 3) (lo' := 65) 1 11 h3_X11_highestLevel rfl ⟨by decide +kernel, by decide +kernel, by decide +kernel⟩ ⟨(pz_mt 977 (by decide +kernel)), (pz_mt 976 (by decide +kernel)), (pz_ms 2 (by decide +kernel)), (pz_mt 1 (by decide +kernel))⟩ (Or.inl ⟨TX11, 14, rfl⟩) (fun a M _ h => by
    have h : (match (generalizing := false) a with | [.inr (.inr (11, th)), .inl n] => pz_ic M | _ => False) := h
    split at h
    · exact ⟨_, _, rfl⟩
    · exact h.elim) h1 h2 h3
def k3_X11_share : pz_C := (3, 1, fun a M => (match a with | [.inr (.inr (11, th)), .inl n, .inl i] => pz_ic M | _ => False), fun a M r M' => (match a, r with | [.inr (.inr (11, th)), .inl n, .inl i], some (.inl v) => (sd_wc M v (fun _ F => sd_shv F n i)) ∧ M = M' | _, _ => False))
abbrev ct3_X11_share : List (Bool × Nat × pz_C) := [(false, 137, k_X11_within), (true, 118, k_X0_has), (true, 283, k3_X0_givenTo), (true, 286, k3_X11_highestLevel), (true, 289, k3_X0_canGive), (false, 292, k_J9_min_7cf53)]
set_option maxRecDepth 100000 in
set_option maxHeartbeats 4000000 in
theorem h3_X11_share : pz_H yX11_share cX11_share 6 (some .int) k3_X11_share 4 90 := by
  refine pz_mk (own := RX11) (tb := t_X11_share) (fl := pz_flf fl_RX11) (ci := pz_cif ci_RX11) (ct := pz_ctf ct3_X11_share) (rz := false) (by decide +kernel) rfl t_X11_share_ok (pz_flk fl_RX11_ok) (pz_cik ci_RX11_ok) ?_ ?_ (Or.inl ⟨rfl, rfl⟩) ?_ ?_
  · exact fun i k' h => pz_ctk (l := ct3_X11_share) (P := fun b i k => b = true → pz_cV 4 90 RX11 i k) (List.forall_mem_cons.mpr ⟨((fun z => by cases z)), List.forall_mem_cons.mpr ⟨(fun _ => v_X0_has (by decide) (by decide) (pz_mt 444 (by decide +kernel))), List.forall_mem_cons.mpr ⟨(fun _ => v3_X0_givenTo (by decide) (by decide) (pz_mt 965 (by decide +kernel))), List.forall_mem_cons.mpr ⟨(fun _ => v3_X11_highestLevel (by decide) (by decide) (pz_mt 974 (by decide +kernel))), List.forall_mem_cons.mpr ⟨(fun _ => v3_X0_canGive (by decide) (by decide) (pz_mt 978 (by decide +kernel))), List.forall_mem_cons.mpr ⟨((fun z => by cases z)), fun _ h => absurd h List.not_mem_nil⟩⟩⟩⟩⟩⟩) true i k' h rfl
  · exact fun i k' h => pz_ctk (l := ct3_X11_share) (P := fun b i k => b = false → (pz_cS 4 90 RX11 i k ∨ (k = pz_kac ∧ 1 ≤ 4 ∧ 60 ≤ 90 ∧ Cond.methodLink RX11 i arraycopyName ∈ pz_tbl))) (List.forall_mem_cons.mpr ⟨(fun _ => Or.inl (s_X11_within (by decide) (by decide) (Or.inl (pz_mt 425 (by decide +kernel))))), List.forall_mem_cons.mpr ⟨((fun z => by cases z)), List.forall_mem_cons.mpr ⟨((fun z => by cases z)), List.forall_mem_cons.mpr ⟨((fun z => by cases z)), List.forall_mem_cons.mpr ⟨((fun z => by cases z)), List.forall_mem_cons.mpr ⟨(fun _ => Or.inl (s_J9_min_7cf53 (by decide) (by decide) (Or.inl (pz_mt 979 (by decide +kernel))))), fun _ h => absurd h List.not_mem_nil⟩⟩⟩⟩⟩⟩) false i k' h rfl
  · intro a M hlen hpre
    obtain ⟨th, n, i, rfl, hpre⟩ : ∃ th n i, a = [.inr (.inr (11, th)), .inl n, .inl i] ∧ (pz_ic M) := by
      have hpre : (match (generalizing := false) a with | [.inr (.inr (11, th)), .inl n, .inl i] => pz_ic M | _ => False) := hpre
      split at hpre
      · exact ⟨_, _, _, rfl, hpre⟩
      · exact hpre.elim
    exact Nat.le_of_ble_eq_true rfl
  · intro a M hlen hcan hM hpre Ok hgo
    obtain ⟨th, n, i, rfl, hpre⟩ : ∃ th n i, a = [.inr (.inr (11, th)), .inl n, .inl i] ∧ (pz_ic M) := by
      have hpre : (match (generalizing := false) a with | [.inr (.inr (11, th)), .inl n, .inl i] => pz_ic M | _ => False) := hpre
      split at hpre
      · exact ⟨_, _, _, rfl, hpre⟩
      · exact hpre.elim
    obtain ⟨k_th, hc_th⟩ := pz_tlm hcan
    have k_th : pz_kd th = 11 ∧ th < 231 := k_th
    have R_th := pz_kd11 k_th.1
    subst R_th
    obtain ⟨k_n, hc_n⟩ := pz_tlm hc_th
    have l_n : -2147483648 ≤ n := k_n.1
    have u_n : n ≤ 2147483647 := k_n.2
    obtain ⟨k_i, hc_i⟩ := pz_tlm hc_n
    have l_i : -2147483648 ≤ i := k_i.1
    have u_i : i ≤ 2147483647 := k_i.2
    have hI : pz_ic M := hpre
    have L59 : ∀ (fu : Nat) (x3 : Int) (x4 : Int) (x5 : Int), (i - x5).toNat < fu → (0 ≤ x5) → ((0 ≤ n ∧ n ≤ 9999) ∧ 0 ≤ i ∧ i < M 71 3) → (0 ≤ x3 ∧ x3 ≤ 999) → (x5 ≤ i) → (sd_q M 71 (fun F => n ≤ sd_g F 999 ∧ sd_shL F n x3 x4 x5)) → Ok 59 [some (.inr (.inr (11, 0))), some (.inl n), some (.inl i), some (.inl x3), some (.inl x4), some (.inl x5)] [] M := by
      intro fu
      induction fu with
      | zero => exact fun _ _ _ hn => absurd hn (Nat.not_lt_zero _)
      | succ fu ih59 =>
        intro x3 x4 x5 hn59 g59_0 g59_1 g59_2 g59_3 g59_4
        have L81 : ∀ (x3 : Int) (x4 : Int) (x5 : Int), (0 ≤ x5) → (x5 < i) → ((i - x5).toNat < fu + 1) → ((0 ≤ n ∧ n ≤ 9999) ∧ 0 ≤ i ∧ i < M 71 3) → (0 ≤ x3 ∧ x3 ≤ 999) → (sd_q M 71 (fun F => n ≤ sd_g F 999 ∧ sd_shL F n x3 x4 (x5 + 1))) → Ok 81 [some (.inr (.inr (11, 0))), some (.inl n), some (.inl i), some (.inl x3), some (.inl x4), some (.inl x5)] [] M := by
          intro x3 x4 x5 g81_0 g81_1 g81_2 g81_3 g81_4 g81_5
          refine hgo (fun p => Nat.beq p 59 || Nat.beq p 81) 63 81 _ _ _ ?_
          intro v81 e81 a81 b81
          rw [pz_wi (by omega) (by omega)] at e81
          have G59 : sd_q M 71 (fun F => n ≤ sd_g F 999 ∧ sd_shL F n x3 x4 v81) := by
            rw [e81]
            assumption
          exact ih59 _ _ _ (by omega) (by first | omega | assumption) (by first | omega | assumption) (by first | omega | assumption) (by first | omega | assumption) (by first | omega | assumption)
        refine hgo (fun p => Nat.beq p 59 || Nat.beq p 81) 63 59 _ _ _ ?_
        refine And.intro (fun h62 => ?_) (fun h62 => ?_)
        · skip
          refine pz_nrc (c := 71) rfl ?_
          refine And.intro (True.intro) ?_
          intro v92 M92 a92 b92 q92
          obtain ⟨q92, z92⟩ := q92
          subst z92
          refine And.intro (fun h100 => ?_) (fun h100 => ?_)
          · skip
            refine And.intro (True.intro) ?_
            intro v117 M117 a117 b117 q117
            obtain ⟨q117, z117⟩ := q117
            subst z117
            refine And.intro rfl ?_
            refine ⟨fun ls l1 F hT hF hW => ?_, rfl⟩
            have hn := hF.1
            have hm := hW.1
            show _ = sd_shv F n i
            obtain ⟨a, l, l2, c⟩ := (by assumption : sd_q M 71 (fun F => n ≤ sd_g F 999 ∧ sd_shL F n x3 x4 x5)) F hF hW
            have x := sd_lev_u hW (by omega) l2
            have d := q92.2 F hF hW (by omega) (by omega)
            unfold sd_shv
            rw [if_pos (by omega), ← x]
            unfold sd_shw
            rw [show x5.toNat = i.toNat by omega] at c
            first
              | (rw [if_pos ⟨by omega, by omega⟩]
                 omega)
              | (rw [if_neg (fun z => by omega)]
                 omega)
          · skip
            refine And.intro (fun h105 => ?_) (fun h105 => ?_)
            · skip
              refine And.intro (True.intro) ?_
              intro v117 M117 a117 b117 q117
              obtain ⟨q117, z117⟩ := q117
              subst z117
              refine And.intro rfl ?_
              refine ⟨fun ls l1 F hT hF hW => ?_, rfl⟩
              have hn := hF.1
              have hm := hW.1
              show _ = sd_shv F n i
              obtain ⟨a, l, l2, c⟩ := (by assumption : sd_q M 71 (fun F => n ≤ sd_g F 999 ∧ sd_shL F n x3 x4 x5)) F hF hW
              have x := sd_lev_u hW (by omega) l2
              have d := q92.2 F hF hW (by omega) (by omega)
              unfold sd_shv
              rw [if_pos (by omega), ← x]
              unfold sd_shw
              rw [show x5.toNat = i.toNat by omega] at c
              first
                | (rw [if_pos ⟨by omega, by omega⟩]
                   omega)
                | (rw [if_neg (fun z => by omega)]
                   omega)
            · skip
              intro v110 e110 a110 b110
              try rw [pz_wi (by omega) (by omega)] at e110
              refine And.intro rfl ?_
              refine ⟨fun ls l1 F hT hF hW => ?_, rfl⟩
              have hn := hF.1
              have hm := hW.1
              show _ = sd_shv F n i
              obtain ⟨a, l, l2, c⟩ := (by assumption : sd_q M 71 (fun F => n ≤ sd_g F 999 ∧ sd_shL F n x3 x4 x5)) F hF hW
              have x := sd_lev_u hW (by omega) l2
              have d := q92.2 F hF hW (by omega) (by omega)
              unfold sd_shv
              rw [if_pos (by omega), ← x]
              unfold sd_shw
              rw [show x5.toNat = i.toNat by omega] at c
              first
                | (rw [if_pos ⟨by omega, by omega⟩]
                   omega)
                | (rw [if_neg (fun z => by omega)]
                   omega)
        · skip
          refine pz_nrc (c := 71) rfl ?_
          refine And.intro (True.intro) ?_
          intro v71 M71 a71 b71 q71
          obtain ⟨q71, z71⟩ := q71
          subst z71
          refine And.intro (fun h75 => ?_) (fun h75 => ?_)
          · skip
            have G81 : sd_q M 71 (fun F => n ≤ sd_g F 999 ∧ sd_shL F n x3 x4 (x5 + 1)) := fun F hF hW => by
              obtain ⟨a, g⟩ := (by assumption : sd_q M 71 (fun F => n ≤ sd_g F 999 ∧ sd_shL F n x3 x4 x5)) F hF hW
              have hn := hF.1
              have c := q71.2 F hF hW (by omega) (by omega)
              exact ⟨a, sd_shL_n g hW (by omega) rfl (by omega)⟩
            exact L81 _ _ _ (by first | omega | assumption) (by first | omega | assumption) (by first | omega | assumption) (by first | omega | assumption) (by first | omega | assumption) (by first | omega | assumption)
          · skip
            skip
            intro v78 e78 a78 b78
            have e78k := e78
            have G81 : sd_q M 71 (fun F => n ≤ sd_g F 999 ∧ sd_shL F n x3 v78 (x5 + 1)) := fun F hF hW => by
              obtain ⟨a, g⟩ := (by assumption : sd_q M 71 (fun F => n ≤ sd_g F 999 ∧ sd_shL F n x3 x4 x5)) F hF hW
              have hn := hF.1
              have c := q71.2 F hF hW (by omega) (by omega)
              exact ⟨a, sd_shL_s (d := 1) g hW (by omega) (by omega) rfl (by rw [if_pos (by omega)]) (e78k.trans (by rw [show x4 + -1 = x4 - 1 by omega]))⟩
            clear e78k
            exact L81 _ _ _ (by first | omega | assumption) (by first | omega | assumption) (by first | omega | assumption) (by first | omega | assumption) (by first | omega | assumption) (by first | omega | assumption)
    refine hgo (fun p => Nat.beq p 59 || Nat.beq p 81) 63 0 _ [] M ?_
    refine And.intro (True.intro) ?_
    intro v5 M5 a5 b5 q5
    obtain ⟨q5, z5⟩ := q5
    subst z5
    refine And.intro (fun h8 => ?_) (fun h8 => ?_)
    · skip
      refine And.intro rfl ?_
      refine ⟨fun ls l1 F hT hF hW => ?_, rfl⟩
      have hn := hF.1
      have hm := hW.1
      show _ = sd_shv F n i
      unfold sd_shv
      rw [if_neg (fun z => by
        first
          | (split at q5 <;> omega)
          | (split at q5 <;> split at q16 <;> omega)
          | (have c := q29 F hF hW (by omega)
             omega))]
    · skip
      refine pz_nrc (c := 71) rfl ?_
      refine And.intro (True.intro) ?_
      intro v16 M16 a16 b16 q16
      obtain ⟨q16, z16⟩ := q16
      subst z16
      refine And.intro (fun h19 => ?_) (fun h19 => ?_)
      · skip
        refine And.intro rfl ?_
        refine ⟨fun ls l1 F hT hF hW => ?_, rfl⟩
        have hn := hF.1
        have hm := hW.1
        show _ = sd_shv F n i
        unfold sd_shv
        rw [if_neg (fun z => by
          first
            | (split at q5 <;> omega)
            | (split at q5 <;> split at q16 <;> omega)
            | (have c := q29 F hF hW (by omega)
               omega))]
      · skip
        refine pz_nrc (c := 71) rfl ?_
        refine And.intro (hI) ?_
        intro v29 M29 a29 b29 q29
        obtain ⟨q29, z29⟩ := q29
        subst z29
        refine And.intro (fun h33 => ?_) (fun h33 => ?_)
        · skip
          have GP : (0 ≤ n ∧ n ≤ 9999) ∧ 0 ≤ i ∧ i < M 71 3 := by
            split at q5 <;> split at q16 <;> omega
          refine And.intro (hI) ?_
          intro v40 M40 a40 b40 q40
          obtain ⟨q40, z40⟩ := q40
          subst z40
          refine pz_nrc (c := 71) rfl ?_
          refine And.intro (hI) ?_
          intro v50 M50 a50 b50 q50
          obtain ⟨q50, z50⟩ := q50
          subst z50
          intro v53 e53 a53 b53
          have e53k := e53
          have G59 : sd_q M 71 (fun F => n ≤ sd_g F 999 ∧ sd_shL F n v40 v53 0) := fun F hF hW => by
            have c9 := q29 F hF hW (by omega)
            have l := q40.2 F hF hW (by omega)
            have c := q50 F hF hW (by omega)
            exact ⟨by omega, sd_shL_0 hW (by omega) l c e53k⟩
          clear e53k
          exact L59 _ _ _ _ (Nat.lt_succ_self _) (by first | omega | assumption) (by first | omega | assumption) (by first | omega | assumption) (by first | omega | assumption) (by first | omega | assumption)
        · skip
          skip
          refine And.intro rfl ?_
          refine ⟨fun ls l1 F hT hF hW => ?_, rfl⟩
          have hn := hF.1
          have hm := hW.1
          show _ = sd_shv F n i
          unfold sd_shv
          rw [if_neg (fun z => by
            first
              | (split at q5 <;> omega)
              | (split at q5 <;> split at q16 <;> omega)
              | (have c := q29 F hF hW (by omega)
                 omega))]
theorem v3_X11_share {fr lo i : Nat} {own : String} (h1 : 4 + 1 ≤ fr) (h2 : 8 + (6 + 11) + 90 ≤ lo) (h3 : .methodLink own i yX11_share ∈ lw_tbl) : pz_cV fr lo own i k3_X11_share :=
  pz_cVk (maxL := 6) (fr' := 4) (lo' := 90) 2 11 h3_X11_share rfl ⟨by decide +kernel, by decide +kernel, by decide +kernel⟩ ⟨(pz_mt 964 (by decide +kernel)), (pz_mt 962 (by decide +kernel)), (pz_mt 963 (by decide +kernel)), (pz_mt 1 (by decide +kernel))⟩ (Or.inl ⟨TX11, 14, rfl⟩) (fun a M _ h => by
    have h : (match (generalizing := false) a with | [.inr (.inr (11, th)), .inl n, .inl i] => pz_ic M | _ => False) := h
    split at h
    · exact ⟨_, _, rfl⟩
    · exact h.elim) h1 h2 h3
