noncomputable def k_X0_take : pz_C := (2, 0, fun a M => (match a with | [.inr (.inr (0, c)), .inr (.inr (0, o))] => pz_ic M | _ => False), fun a M r M' => (match a, r with | [.inr (.inr (0, c)), .inr (.inr (0, o))], none => (M' = pz_tf c o M) ∧ pz_rt M M' | _, _ => False))
noncomputable abbrev ct_X0_take : List (Bool × Nat × pz_C) := [(true, 26, k_X5_take)]
set_option maxRecDepth 100000 in
set_option maxHeartbeats 4000000 in
theorem h_X0_take : pz_H yX0_take cX0_take 3 none k_X0_take 1 21 := by
  refine pz_mk (own := RX0) (tb := t_X0_take) (fl := pz_flf fl_RX0) (ci := pz_cif ci_RX0) (ct := pz_ctf ct_X0_take) (rz := false) (pz_pfc_RX0 yX0_take rfl) rfl t_X0_take_ok (pz_flk fl_RX0_ok) (pz_cik ci_RX0_ok) ?_ ?_ (rfl) ?_ ?_
  · exact fun i k' h => pz_ctk (l := ct_X0_take) (P := fun b i k => b = true → pz_cV 1 21 RX0 i k) (List.forall_mem_cons.mpr ⟨(fun _ => v_X5_take (by decide) (by decide) pz_wq470), fun _ h => absurd h List.not_mem_nil⟩) true i k' h rfl
  · exact fun i k' h => pz_ctk (l := ct_X0_take) (P := fun b i k => b = false → (pz_cS 1 21 RX0 i k ∨ (k = pz_kac ∧ 1 ≤ 1 ∧ 60 ≤ 21 ∧ Cond.methodLink RX0 i arraycopyName ∈ pz_tbl))) (List.forall_mem_cons.mpr ⟨((fun z => by cases z)), fun _ h => absurd h List.not_mem_nil⟩) false i k' h rfl
  · intro a M hlen hpre
    obtain ⟨c, o, rfl, hpre⟩ : ∃ c o, a = [.inr (.inr (0, c)), .inr (.inr (0, o))] ∧ (pz_ic M) := by
      have hpre : (match (generalizing := false) a with | [.inr (.inr (0, c)), .inr (.inr (0, o))] => pz_ic M | _ => False) := hpre
      split at hpre
      · exact ⟨_, _, rfl, hpre⟩
      · exact hpre.elim
    exact Nat.le_of_ble_eq_true rfl
  · intro a M hlen hcan hM hpre Ok hgo
    obtain ⟨c, o, rfl, hpre⟩ : ∃ c o, a = [.inr (.inr (0, c)), .inr (.inr (0, o))] ∧ (pz_ic M) := by
      have hpre : (match (generalizing := false) a with | [.inr (.inr (0, c)), .inr (.inr (0, o))] => pz_ic M | _ => False) := hpre
      split at hpre
      · exact ⟨_, _, rfl, hpre⟩
      · exact hpre.elim
    obtain ⟨k_c, hc_c⟩ := pz_tlm hcan
    have k_c : pz_kd c = 0 ∧ c < 231 := k_c
    have R_c := pz_kd0 k_c.1
    obtain ⟨k_o, hc_o⟩ := pz_tlm hc_c
    have k_o : pz_kd o = 0 ∧ o < 231 := k_o
    have R_o := pz_kd0 k_o.1
    have hI : pz_ic M := hpre
    have hI0 := hI
    have hS : pz_rt M M := pz_rt.rf
    have L2 : ∀ (fu : Nat) (x2 : Int) (N2 : pz_M), (12 - x2).toNat < fu → (pz_rt M N2) → (0 ≤ x2) → (x2 ≤ 12) → (N2 = pz_tn c o M x2.toNat 3) → Ok 2 [some (.inr (.inr (0, c))), some (.inr (.inr (0, o))), some (.inl x2)] [] N2 := by
      intro fu
      induction fu with
      | zero => exact fun _ _ hn => absurd hn (Nat.not_lt_zero _)
      | succ fu ih2 =>
        intro x2 N2 hn2 hS g2_1 g2_2 g2_3
        have hI : pz_ic N2 := hS hI0
        refine hgo (fun p => Nat.beq p 2) 39 2 _ _ _ ?_
        refine And.intro (fun h5 => ?_) (fun h5 => ?_)
        · skip
          intro v31 e31 a31 b31
          have I31 := hI.1 o (by first | decide | omega) (by first | decide | omega)
          have G26 : N2 = pz_tn c o M 12 3 := by
            rw [show (12 : Nat) = x2.toNat by omega]
            exact g2_3
          intro M34 e34
          have hS : pz_rt M M34 := by
            rw [e34]
            exact pz_rt_u hS (by unfold pz_iok; first | decide | omega)
          have hI : pz_ic M34 := hS hI0
          have G34 := pz_tn_s (m := 3) R_c R_o (by first | decide | omega) G26 e31 e34
          intro v39 e39 a39 b39
          intro M42 e42
          have hS : pz_rt M M42 := by
            rw [e42]
            exact pz_rt_u hS (by unfold pz_iok; first | decide | omega)
          have hI : pz_ic M42 := hS hI0
          have G42 := pz_tn_s (m := 4) R_c R_o (by first | decide | omega) G34 e39 e42
          intro v47 e47 a47 b47
          intro M50 e50
          have hS : pz_rt M M50 := by
            rw [e50]
            exact pz_rt_u hS (by unfold pz_iok; first | decide | omega)
          have hI : pz_ic M50 := hS hI0
          have G50 := pz_tn_s (m := 5) R_c R_o (by first | decide | omega) G42 e47 e50
          intro v55 e55 a55 b55
          intro M58 e58
          have hS : pz_rt M M58 := by
            rw [e58]
            exact pz_rt_u hS (by unfold pz_iok; first | decide | omega)
          have hI : pz_ic M58 := hS hI0
          have G58 := pz_tn_s (m := 6) R_c R_o (by first | decide | omega) G50 e55 e58
          intro v63 e63 a63 b63
          have I63 := hI.1 o (by first | decide | omega) (by first | decide | omega)
          intro M66 e66
          have hS : pz_rt M M66 := by
            rw [e66]
            exact pz_rt_u hS (by unfold pz_iok; first | decide | omega)
          have hI : pz_ic M66 := hS hI0
          have G66 := pz_tn_s (m := 7) R_c R_o (by first | decide | omega) G58 e63 e66
          refine And.intro rfl ?_
          exact ⟨G66, hS⟩
        · skip
          intro r9 e9 k9
          have lo13 : (0 : Int) ≤ x2 := by omega
          have tn13 : (((x2).toNat : Nat) : Int) = x2 := Int.toNat_of_nonneg lo13
          refine And.intro (lo13) (And.intro (show _ < (12 : Int) from by omega) ?_)
          intro r13 e13 k13
          have R13 := pz_kd5 k13
          intro r15 e15 k15
          refine And.intro (lo13) (And.intro (show _ < (12 : Int) from by omega) ?_)
          intro r19 e19 k19
          have R19 := pz_kd5 k19
          refine And.intro (hI) ?_
          intro M20 q20
          obtain ⟨q20, z20⟩ := q20
          have hS : pz_rt M M20 := hS.tr z20
          have hI : pz_ic M20 := hS hI0
          have G20 : M20 = pz_tn c o M (x2.toNat + 1) 3 := by
            rw [q20]
            exact pz_tn_l R_c R_o (by first | decide | omega) g2_3 (by rw [e13, e9]; exact pz_rf_l R_c.1 R_c.2) (by rw [e19, e15]; exact pz_rf_l R_o.1 R_o.2)
          intro v23 e23 a23 b23
          try rw [pz_wi (by first | decide | omega) (by first | decide | omega)] at e23
          exact ih2 _ _ (by first | decide | omega) hS (by first | omega | exact pz_tn_0 | (rw [show v23.toNat = x2.toNat + 1 by omega]; exact G20)) (by first | omega | exact pz_tn_0 | (rw [show v23.toNat = x2.toNat + 1 by omega]; exact G20)) (by first | omega | exact pz_tn_0 | (rw [show v23.toNat = x2.toNat + 1 by omega]; exact G20))
    refine hgo (fun p => Nat.beq p 2) 39 0 _ [] M ?_
    exact L2 _ _ _ (Nat.lt_succ_self _) hS (by first | omega | exact pz_tn_0 | (rw [show v23.toNat = x2.toNat + 1 by omega]; exact G20)) (by first | omega | exact pz_tn_0 | (rw [show v23.toNat = x2.toNat + 1 by omega]; exact G20)) (by first | omega | exact pz_tn_0 | (rw [show v23.toNat = x2.toNat + 1 by omega]; exact G20))
theorem v_X0_take {fr lo i : Nat} {own : String} (h1 : 1 + 1 ≤ fr) (h2 : 8 + (3 + 11) + 21 ≤ lo) (h3 : .methodLink own i yX0_take ∈ lw_tbl) : pz_cV fr lo own i k_X0_take :=
  pz_cVk (maxL := 3) (fr' := 1) (lo' := 21) 1 0 h_X0_take rfl ⟨(pz_nhc_RX0 yX0_take rfl).1, (pz_nhc_RX0 yX0_take rfl).2, pz_ds31⟩ ⟨pz_wq469, pz_wq467, pz_wq468, pz_wq2⟩ (Or.inl ⟨TX0, 8, rfl⟩) (fun a M _ h => by
    have h : (match (generalizing := false) a with | [.inr (.inr (0, c)), .inr (.inr (0, o))] => pz_ic M | _ => False) := h
    split at h
    · exact ⟨_, _, rfl⟩
    · exact h.elim) h1 h2 h3
noncomputable def k_X2_forgetAll : pz_C := (1, 0, fun a M => (match a with | [.inr (.inr (2, h))] => pz_ic M | _ => False), fun a M r M' => (match a, r with | [.inr (.inr (2, h))], none => (M' = pz_u M 3 2 0) ∧ pz_sW M M' | _, _ => False))
noncomputable abbrev ct_X2_forgetAll : List (Bool × Nat × pz_C) := []
set_option maxRecDepth 100000 in
set_option maxHeartbeats 4000000 in
theorem h_X2_forgetAll : pz_H yX2_forgetAll cX2_forgetAll 1 none k_X2_forgetAll 0 0 := by
  refine pz_mk (own := RX2) (tb := t_X2_forgetAll) (fl := pz_flf fl_RX2) (ci := fun _ => none) (ct := pz_ctf ct_X2_forgetAll) (rz := false) (pz_pfc_RX2 yX2_forgetAll rfl) rfl t_X2_forgetAll_ok (pz_flk fl_RX2_ok) (fun i v h => by cases h) ?_ ?_ (rfl) ?_ ?_
  · exact fun i k' h => pz_ctk (l := ct_X2_forgetAll) (P := fun b i k => b = true → pz_cV 0 0 RX2 i k) (fun _ h => absurd h List.not_mem_nil) true i k' h rfl
  · exact fun i k' h => pz_ctk (l := ct_X2_forgetAll) (P := fun b i k => b = false → (pz_cS 0 0 RX2 i k ∨ (k = pz_kac ∧ 1 ≤ 0 ∧ 60 ≤ 0 ∧ Cond.methodLink RX2 i arraycopyName ∈ pz_tbl))) (fun _ h => absurd h List.not_mem_nil) false i k' h rfl
  · intro a M hlen hpre
    obtain ⟨h, rfl, hpre⟩ : ∃ h, a = [.inr (.inr (2, h))] ∧ (pz_ic M) := by
      have hpre : (match (generalizing := false) a with | [.inr (.inr (2, h))] => pz_ic M | _ => False) := hpre
      split at hpre
      · exact ⟨_, rfl, hpre⟩
      · exact hpre.elim
    exact Nat.le_of_ble_eq_true rfl
  · intro a M hlen hcan hM hpre Ok hgo
    obtain ⟨h, rfl, hpre⟩ : ∃ h, a = [.inr (.inr (2, h))] ∧ (pz_ic M) := by
      have hpre : (match (generalizing := false) a with | [.inr (.inr (2, h))] => pz_ic M | _ => False) := hpre
      split at hpre
      · exact ⟨_, rfl, hpre⟩
      · exact hpre.elim
    obtain ⟨k_h, hc_h⟩ := pz_tlm hcan
    have k_h : pz_kd h = 2 ∧ h < 231 := k_h
    have R_h := pz_kd2 k_h.1
    subst R_h
    have hI : pz_ic M := hpre
    have hI0 := hI
    have hS : pz_rt M M := pz_rt.rf
    refine hgo (fun _ => false) 6 0 _ [] M ?_
    intro M2 e2
    have hS : pz_rt M M2 := by
      rw [e2]
      exact pz_rt_u hS (by unfold pz_iok; first | decide | omega)
    have hI : pz_ic M2 := hS hI0
    refine And.intro rfl ?_
    exact ⟨e2, by
      rw [e2] at hS ⊢
      exact pz_fg_sW hS⟩
theorem v_X2_forgetAll {fr lo i : Nat} {own : String} (h1 : 0 + 1 ≤ fr) (h2 : 8 + (1 + 11) + 0 ≤ lo) (h3 : .methodLink own i yX2_forgetAll ∈ lw_tbl) : pz_cV fr lo own i k_X2_forgetAll :=
  pz_cVk (maxL := 1) (fr' := 0) (lo' := 0) 0 2 h_X2_forgetAll rfl ⟨(pz_nhc_RX2 yX2_forgetAll rfl).1, (pz_nhc_RX2 yX2_forgetAll rfl).2, pz_ds2⟩ ⟨pz_wq417, pz_wq415, pz_wq416, pz_wq8⟩ (Or.inl ⟨TX2, 3, rfl⟩) (fun a M _ h => by
    have h : (match (generalizing := false) a with | [.inr (.inr (2, h))] => pz_ic M | _ => False) := h
    split at h
    · exact ⟨_, _, rfl⟩
    · exact h.elim) h1 h2 h3
noncomputable def k_X2_keep : pz_C := (2, 0, fun a M => (match a with | [.inr (.inr (2, h)), .inr (.inr (0, c))] => pz_ic M ∧ c = 71 | _ => False), fun a M r M' => (match a, r with | [.inr (.inr (2, h)), .inr (.inr (0, c))], none => (M' = pz_kf M) ∧ pz_sW M M' | _, _ => False))
noncomputable abbrev ct_X2_keep : List (Bool × Nat × pz_C) := [(true, 27, k_X0_take), (false, 31, k_J9_min_7cf53)]
set_option maxRecDepth 100000 in
set_option maxHeartbeats 4000000 in
theorem h_X2_keep : pz_H yX2_keep cX2_keep 2 none k_X2_keep 2 43 := by
  refine pz_mk (own := RX2) (tb := t_X2_keep) (fl := pz_flf fl_RX2) (ci := fun _ => none) (ct := pz_ctf ct_X2_keep) (rz := false) (pz_pfc_RX2 yX2_keep rfl) rfl t_X2_keep_ok (pz_flk fl_RX2_ok) (fun i v h => by cases h) ?_ ?_ (rfl) ?_ ?_
  · exact fun i k' h => pz_ctk (l := ct_X2_keep) (P := fun b i k => b = true → pz_cV 2 43 RX2 i k) (List.forall_mem_cons.mpr ⟨(fun _ => v_X0_take (by decide) (by decide) pz_wq466), List.forall_mem_cons.mpr ⟨((fun z => by cases z)), fun _ h => absurd h List.not_mem_nil⟩⟩) true i k' h rfl
  · exact fun i k' h => pz_ctk (l := ct_X2_keep) (P := fun b i k => b = false → (pz_cS 2 43 RX2 i k ∨ (k = pz_kac ∧ 1 ≤ 2 ∧ 60 ≤ 43 ∧ Cond.methodLink RX2 i arraycopyName ∈ pz_tbl))) (List.forall_mem_cons.mpr ⟨((fun z => by cases z)), List.forall_mem_cons.mpr ⟨(fun _ => Or.inl (s_J9_min_7cf53 (by decide) (by decide) (Or.inl pz_wq474))), fun _ h => absurd h List.not_mem_nil⟩⟩) false i k' h rfl
  · intro a M hlen hpre
    obtain ⟨h, c, rfl, hpre⟩ : ∃ h c, a = [.inr (.inr (2, h)), .inr (.inr (0, c))] ∧ (pz_ic M ∧ c = 71) := by
      have hpre : (match (generalizing := false) a with | [.inr (.inr (2, h)), .inr (.inr (0, c))] => pz_ic M ∧ c = 71 | _ => False) := hpre
      split at hpre
      · exact ⟨_, _, rfl, hpre⟩
      · exact hpre.elim
    exact Nat.le_of_ble_eq_true rfl
  · intro a M hlen hcan hM hpre Ok hgo
    obtain ⟨h, c, rfl, hpre⟩ : ∃ h c, a = [.inr (.inr (2, h)), .inr (.inr (0, c))] ∧ (pz_ic M ∧ c = 71) := by
      have hpre : (match (generalizing := false) a with | [.inr (.inr (2, h)), .inr (.inr (0, c))] => pz_ic M ∧ c = 71 | _ => False) := hpre
      split at hpre
      · exact ⟨_, _, rfl, hpre⟩
      · exact hpre.elim
    obtain ⟨k_h, hc_h⟩ := pz_tlm hcan
    have k_h : pz_kd h = 2 ∧ h < 231 := k_h
    have R_h := pz_kd2 k_h.1
    subst R_h
    obtain ⟨k_c, hc_c⟩ := pz_tlm hc_h
    have k_c : pz_kd c = 0 ∧ c < 231 := k_c
    have R_c := pz_kd0 k_c.1
    have hI : pz_ic M := hpre.1
    have hI0 := hI
    have hS : pz_rt M M := pz_rt.rf
    refine hgo (fun _ => false) 26 0 _ [] M ?_
    refine pz_nrc (c := 47) rfl ?_
    intro v5 e5 a5 b5
    have I5 := hI.2.1
    have lo8 : (0 : Int) ≤ v5 := by omega
    have tn8 : (((v5).toNat : Nat) : Int) = v5 := Int.toNat_of_nonneg lo8
    refine And.intro (lo8) (And.intro (show _ < (6 : Int) from by omega) ?_)
    intro r8 e8 k8
    have R8 := pz_kd0 k8
    refine And.intro (hI) ?_
    intro M10 q10
    obtain ⟨q10, z10⟩ := q10
    have hS : pz_rt M M10 := hS.tr z10
    have hI : pz_ic M10 := hS hI0
    intro v15 e15 a15 b15
    have I15 := hI.2.1
    intro v19 e19 a19 b19
    try rw [pz_wi (by first | decide | omega) (by first | decide | omega)] at e19
    refine And.intro (by first | decide | omega) ?_
    intro v22 e22 a22 b22
    rw [Int.tmod_eq_emod_of_nonneg (by first | decide | omega)] at e22
    rw [pz_wi (by first | decide | omega) (by first | decide | omega)] at e22
    intro M23 e23
    have hS : pz_rt M M23 := by
      rw [e23]
      exact pz_rt_u hS (by unfold pz_iok; first | decide | omega)
    have hI : pz_ic M23 := hS hI0
    intro v28 e28 a28 b28
    intro v32 e32 a32 b32
    try rw [pz_wi (by first | decide | omega) (by first | decide | omega)] at e32
    refine And.intro (True.intro) ?_
    intro v35 M35 a35 b35 q35
    obtain ⟨q35, z35⟩ := q35
    subst z35
    intro M38 e38
    have hS : pz_rt M M38 := by
      rw [e38]
      exact pz_rt_u hS (by unfold pz_iok; first | decide | omega)
    have hI : pz_ic M38 := hS hI0
    refine And.intro rfl ?_
    have Z1 : v15 = M 3 1 := by
      rw [e15, q10]
      exact pz_tf_o (by first | decide | omega) (by unfold pz_lb; first | decide | omega)
    have Z2 : v28 = M 3 2 := by
      rw [e28, e23, pz_unk (by decide), q10]
      exact pz_tf_o (by first | decide | omega) (by unfold pz_lb; first | decide | omega)
    have Z4 : v22 = (M 3 1 + 1) % 6 := by omega
    have Z5 : r8 = 74 + (M 3 1).toNat := by
      rw [e8, e5]
      rfl
    have Z6 : v35 = min (pz_w (M 3 2 + 1)) 6 := by
      rw [q35, e32, Z2]
    have F9 : M38 = pz_kf M := by
      rw [e38, e23, q10, Z4, Z5, Z6, hpre.2]
      rfl
    refine ⟨F9, ?_⟩
    rw [F9] at hS ⊢
    exact pz_kf_sW hI0 hS
theorem v_X2_keep {fr lo i : Nat} {own : String} (h1 : 2 + 1 ≤ fr) (h2 : 8 + (2 + 11) + 43 ≤ lo) (h3 : .methodLink own i yX2_keep ∈ lw_tbl) : pz_cV fr lo own i k_X2_keep :=
  pz_cVk (maxL := 2) (fr' := 2) (lo' := 43) 1 2 h_X2_keep rfl ⟨(pz_nhc_RX2 yX2_keep rfl).1, (pz_nhc_RX2 yX2_keep rfl).2, pz_ds31⟩ ⟨pz_wq465, pz_wq463, pz_wq464, pz_wq8⟩ (Or.inl ⟨TX2, 3, rfl⟩) (fun a M _ h => by
    have h : (match (generalizing := false) a with | [.inr (.inr (2, h)), .inr (.inr (0, c))] => pz_ic M ∧ c = 71 | _ => False) := h
    split at h
    · exact ⟨_, _, rfl⟩
    · exact h.elim) h1 h2 h3
noncomputable def k_X2_goBack : pz_C := (2, 1, fun a M => (match a with | [.inr (.inr (2, h)), .inr (.inr (0, c))] => pz_ic M ∧ c = 71 | _ => False), fun a M r M' => (match a, r with | [.inr (.inr (2, h)), .inr (.inr (0, c))], some (.inl v) => ((M 3 2 = 0 ∧ v = 0 ∧ M' = M) ∨ (M 3 2 ≠ 0 ∧ v = 1 ∧ M' = pz_bf M)) ∧ pz_sW M M' | _, _ => False))
noncomputable abbrev ct_X2_goBack : List (Bool × Nat × pz_C) := [(true, 27, k_X0_take)]
set_option maxRecDepth 100000 in
set_option maxHeartbeats 4000000 in
theorem h_X2_goBack : pz_H yX2_goBack cX2_goBack 2 (some .boolean) k_X2_goBack 2 43 := by
  refine pz_mk (own := RX2) (tb := t_X2_goBack) (fl := pz_flf fl_RX2) (ci := fun _ => none) (ct := pz_ctf ct_X2_goBack) (rz := true) (pz_pfc_RX2 yX2_goBack rfl) rfl t_X2_goBack_ok (pz_flk fl_RX2_ok) (fun i v h => by cases h) ?_ ?_ (Or.inr ⟨rfl, rfl⟩) ?_ ?_
  · exact fun i k' h => pz_ctk (l := ct_X2_goBack) (P := fun b i k => b = true → pz_cV 2 43 RX2 i k) (List.forall_mem_cons.mpr ⟨(fun _ => v_X0_take (by decide) (by decide) pz_wq466), fun _ h => absurd h List.not_mem_nil⟩) true i k' h rfl
  · exact fun i k' h => pz_ctk (l := ct_X2_goBack) (P := fun b i k => b = false → (pz_cS 2 43 RX2 i k ∨ (k = pz_kac ∧ 1 ≤ 2 ∧ 60 ≤ 43 ∧ Cond.methodLink RX2 i arraycopyName ∈ pz_tbl))) (List.forall_mem_cons.mpr ⟨((fun z => by cases z)), fun _ h => absurd h List.not_mem_nil⟩) false i k' h rfl
  · intro a M hlen hpre
    obtain ⟨h, c, rfl, hpre⟩ : ∃ h c, a = [.inr (.inr (2, h)), .inr (.inr (0, c))] ∧ (pz_ic M ∧ c = 71) := by
      have hpre : (match (generalizing := false) a with | [.inr (.inr (2, h)), .inr (.inr (0, c))] => pz_ic M ∧ c = 71 | _ => False) := hpre
      split at hpre
      · exact ⟨_, _, rfl, hpre⟩
      · exact hpre.elim
    exact Nat.le_of_ble_eq_true rfl
  · intro a M hlen hcan hM hpre Ok hgo
    obtain ⟨h, c, rfl, hpre⟩ : ∃ h c, a = [.inr (.inr (2, h)), .inr (.inr (0, c))] ∧ (pz_ic M ∧ c = 71) := by
      have hpre : (match (generalizing := false) a with | [.inr (.inr (2, h)), .inr (.inr (0, c))] => pz_ic M ∧ c = 71 | _ => False) := hpre
      split at hpre
      · exact ⟨_, _, rfl, hpre⟩
      · exact hpre.elim
    obtain ⟨k_h, hc_h⟩ := pz_tlm hcan
    have k_h : pz_kd h = 2 ∧ h < 231 := k_h
    have R_h := pz_kd2 k_h.1
    subst R_h
    obtain ⟨k_c, hc_c⟩ := pz_tlm hc_h
    have k_c : pz_kd c = 0 ∧ c < 231 := k_c
    have R_c := pz_kd0 k_c.1
    have hI : pz_ic M := hpre.1
    have hI0 := hI
    have hS : pz_rt M M := pz_rt.rf
    refine hgo (fun _ => false) 32 0 _ [] M ?_
    intro v1 e1 a1 b1
    refine And.intro (fun h4 => ?_) (fun h4 => ?_)
    · skip
      intro v11 e11 a11 b11
      intro v15 e15 a15 b15
      try rw [pz_wi (by first | decide | omega) (by first | decide | omega)] at e15
      intro M16 e16
      have hS : pz_rt M M16 := by
        rw [e16]
        exact pz_rt_u hS (by unfold pz_iok; first | decide | omega)
      have hI : pz_ic M16 := hS hI0
      intro v21 e21 a21 b21
      have I21 := hI.2.1
      intro v26 e26 a26 b26
      try rw [pz_wi (by first | decide | omega) (by first | decide | omega)] at e26
      intro v28 e28 a28 b28
      try rw [pz_wi (by first | decide | omega) (by first | decide | omega)] at e28
      refine And.intro (by first | decide | omega) ?_
      intro v31 e31 a31 b31
      rw [Int.tmod_eq_emod_of_nonneg (by first | decide | omega)] at e31
      rw [pz_wi (by first | decide | omega) (by first | decide | omega)] at e31
      intro M32 e32
      have hS : pz_rt M M32 := by
        rw [e32]
        exact pz_rt_u hS (by unfold pz_iok; first | decide | omega)
      have hI : pz_ic M32 := hS hI0
      refine pz_nrc (c := 47) rfl ?_
      intro v41 e41 a41 b41
      have I41 := hI.2.1
      have lo44 : (0 : Int) ≤ v41 := by omega
      have tn44 : (((v41).toNat : Nat) : Int) = v41 := Int.toNat_of_nonneg lo44
      refine And.intro (lo44) (And.intro (show _ < (6 : Int) from by omega) ?_)
      intro r44 e44 k44
      have R44 := pz_kd0 k44
      refine And.intro (hI) ?_
      intro M45 q45
      obtain ⟨q45, z45⟩ := q45
      have hS : pz_rt M M45 := hS.tr z45
      have hI : pz_ic M45 := hS hI0
      refine And.intro (by first | decide | omega) ?_
      refine And.intro rfl ?_
      have Z1 : v21 = M 3 1 := by
        rw [e21, e16]
        exact pz_unk (by decide)
      have Z4 : v31 = pz_bn M := by
        unfold pz_bn
        omega
      have Z5 : r44 = 74 + (pz_bn M).toNat := by
        rw [e44, e41, e32, pz_uu, Z4]
        rfl
      have F9 : M45 = pz_bf M := by
        rw [q45, Z5, e32, Z4, e16, e15, e11, hpre.2]
        rfl
      refine ⟨Or.inr ⟨by omega, rfl, F9⟩, ?_⟩
      rw [F9] at hS ⊢
      exact pz_bf_sW hI0 (by first | decide | omega) hS
    · skip
      refine And.intro (by first | decide | omega) ?_
      refine And.intro rfl ?_
      exact ⟨Or.inl ⟨by omega, rfl, rfl⟩, pz_sW.rf⟩
theorem v_X2_goBack {fr lo i : Nat} {own : String} (h1 : 2 + 1 ≤ fr) (h2 : 8 + (2 + 11) + 43 ≤ lo) (h3 : .methodLink own i yX2_goBack ∈ lw_tbl) : pz_cV fr lo own i k_X2_goBack :=
  pz_cVk (maxL := 2) (fr' := 2) (lo' := 43) 1 2 h_X2_goBack rfl ⟨(pz_nhc_RX2 yX2_goBack rfl).1, (pz_nhc_RX2 yX2_goBack rfl).2, pz_ds32⟩ ⟨pz_wq1097, pz_wq1095, pz_wq1096, pz_wq8⟩ (Or.inl ⟨TX2, 3, rfl⟩) (fun a M _ h => by
    have h : (match (generalizing := false) a with | [.inr (.inr (2, h)), .inr (.inr (0, c))] => pz_ic M ∧ c = 71 | _ => False) := h
    split at h
    · exact ⟨_, _, rfl⟩
    · exact h.elim) h1 h2 h3

















noncomputable def k_X10_rows : pz_C := (2, 9, fun a M => (match a with | [.inr (.inr (10, t)), .inl k] => t = 8 ∧ 1 ≤ k ∧ k ≤ 3 | _ => False), fun a M r M' => (match a, r with | [.inr (.inr (10, t)), .inl k], some (.inr (.inr (6, v))) => ((v : Int) = 12 + k) ∧ M = M' | _, _ => False))
noncomputable abbrev ct_X10_rows : List (Bool × Nat × pz_C) := []
set_option maxRecDepth 100000 in
set_option maxHeartbeats 4000000 in
theorem h_X10_rows : pz_H yX10_rows cX10_rows 2 (some (.object "TwelveChain$Rows")) k_X10_rows 0 0 := by
  refine pz_mk (own := RX10) (tb := t_X10_rows) (fl := pz_flf fl_RX10) (ci := fun _ => none) (ct := pz_ctf ct_X10_rows) (rz := false) (pz_pfc_RX10 yX10_rows rfl) rfl t_X10_rows_ok (pz_flk fl_RX10_ok) (fun i v h => by cases h) ?_ ?_ (⟨_, TX6, 2, rfl, rfl⟩) ?_ ?_
  · exact fun i k' h => pz_ctk (l := ct_X10_rows) (P := fun b i k => b = true → pz_cV 0 0 RX10 i k) (fun _ h => absurd h List.not_mem_nil) true i k' h rfl
  · exact fun i k' h => pz_ctk (l := ct_X10_rows) (P := fun b i k => b = false → (pz_cS 0 0 RX10 i k ∨ (k = pz_kac ∧ 1 ≤ 0 ∧ 60 ≤ 0 ∧ Cond.methodLink RX10 i arraycopyName ∈ pz_tbl))) (fun _ h => absurd h List.not_mem_nil) false i k' h rfl
  · intro a M hlen hpre
    obtain ⟨t, k, rfl, hpre⟩ : ∃ t k, a = [.inr (.inr (10, t)), .inl k] ∧ (t = 8 ∧ 1 ≤ k ∧ k ≤ 3) := by
      have hpre : (match (generalizing := false) a with | [.inr (.inr (10, t)), .inl k] => t = 8 ∧ 1 ≤ k ∧ k ≤ 3 | _ => False) := hpre
      split at hpre
      · exact ⟨_, _, rfl, hpre⟩
      · exact hpre.elim
    exact Nat.le_of_ble_eq_true rfl
  · intro a M hlen hcan hM hpre Ok hgo
    obtain ⟨t, k, rfl, hpre⟩ : ∃ t k, a = [.inr (.inr (10, t)), .inl k] ∧ (t = 8 ∧ 1 ≤ k ∧ k ≤ 3) := by
      have hpre : (match (generalizing := false) a with | [.inr (.inr (10, t)), .inl k] => t = 8 ∧ 1 ≤ k ∧ k ≤ 3 | _ => False) := hpre
      split at hpre
      · exact ⟨_, _, rfl, hpre⟩
      · exact hpre.elim
    obtain ⟨k_t, hc_t⟩ := pz_tlm hcan
    have k_t : pz_kd t = 10 ∧ t < 231 := k_t
    have R_t := pz_kd10 k_t.1
    obtain ⟨k_k, hc_k⟩ := pz_tlm hc_t
    have l_k : -2147483648 ≤ k := k_k.1
    have u_k : k ≤ 2147483647 := k_k.2
    have T8 := pz_rf10 (Or.inl hpre.1)
    refine hgo (fun _ => false) 17 0 _ [] M ?_
    refine And.intro (fun h2 => ?_) (fun h2 => ?_)
    · skip
      refine And.intro (fun h14 => ?_) (fun h14 => ?_)
      · skip
        intro r25 e25 k25
        have R25 := pz_kd6 k25
        have L25 := e25.trans T8.2.2.2
        refine And.intro rfl ?_
        exact ⟨by omega, rfl⟩
      · skip
        intro r18 e18 k18
        have R18 := pz_kd6 k18
        have L18 := e18.trans T8.2.2.1
        refine And.intro rfl ?_
        exact ⟨by omega, rfl⟩
    · skip
      intro r6 e6 k6
      have R6 := pz_kd6 k6
      have L6 := e6.trans T8.2.1
      refine And.intro rfl ?_
      exact ⟨by omega, rfl⟩
theorem v_X10_rows {fr lo i : Nat} {own : String} (h1 : 0 + 1 ≤ fr) (h2 : 8 + (2 + 11) + 0 ≤ lo) (h3 : .methodLink own i yX10_rows ∈ lw_tbl) : pz_cV fr lo own i k_X10_rows :=
  pz_cVk (maxL := 2) (fr' := 0) (lo' := 0) 1 10 h_X10_rows rfl ⟨(pz_nhc_RX10 yX10_rows rfl).1, (pz_nhc_RX10 yX10_rows rfl).2, pz_ds7⟩ ⟨pz_wq823, pz_wq821, pz_wq822, pz_wq4⟩ (Or.inl ⟨TX10, 4, rfl⟩) (fun a M _ h => by
    have h : (match (generalizing := false) a with | [.inr (.inr (10, t)), .inl k] => t = 8 ∧ 1 ≤ k ∧ k ≤ 3 | _ => False) := h
    split at h
    · exact ⟨_, _, rfl⟩
    · exact h.elim) h1 h2 h3
noncomputable def k_X10_take : pz_C := (2, 0, fun a M => (match a with | [.inr (.inr (10, t)), .inr (.inr (10, o))] => pz_ic M ∧ ((t = 8 ∧ o = 9) ∨ (t = 9 ∧ o = 8)) | _ => False), fun a M r M' => (match a, r with | [.inr (.inr (10, t)), .inr (.inr (10, o))], none => (pz_Tc t o M M') ∧ pz_rt M M' | _, _ => False))
noncomputable abbrev ct_X10_take : List (Bool × Nat × pz_C) := [(true, 31, k_X3_take), (true, 35, k_X6_take)]
set_option maxRecDepth 100000 in
set_option maxHeartbeats 4000000 in
theorem h_X10_take : pz_H yX10_take cX10_take 2 none k_X10_take 2 81 := by
  refine pz_mk (own := RX10) (tb := t_X10_take) (fl := pz_flf fl_RX10) (ci := fun _ => none) (ct := pz_ctf ct_X10_take) (rz := false) (pz_pfc_RX10 yX10_take rfl) rfl t_X10_take_ok (pz_flk fl_RX10_ok) (fun i v h => by cases h) ?_ ?_ (rfl) ?_ ?_
  · exact fun i k' h => pz_ctk (l := ct_X10_take) (P := fun b i k => b = true → pz_cV 2 81 RX10 i k) (List.forall_mem_cons.mpr ⟨(fun _ => v_X3_take (by decide) (by decide) pz_wq1106), List.forall_mem_cons.mpr ⟨(fun _ => v_X6_take (by decide) (by decide) pz_wq1107), fun _ h => absurd h List.not_mem_nil⟩⟩) true i k' h rfl
  · exact fun i k' h => pz_ctk (l := ct_X10_take) (P := fun b i k => b = false → (pz_cS 2 81 RX10 i k ∨ (k = pz_kac ∧ 1 ≤ 2 ∧ 60 ≤ 81 ∧ Cond.methodLink RX10 i arraycopyName ∈ pz_tbl))) (List.forall_mem_cons.mpr ⟨((fun z => by cases z)), List.forall_mem_cons.mpr ⟨((fun z => by cases z)), fun _ h => absurd h List.not_mem_nil⟩⟩) false i k' h rfl
  · intro a M hlen hpre
    obtain ⟨t, o, rfl, hpre⟩ : ∃ t o, a = [.inr (.inr (10, t)), .inr (.inr (10, o))] ∧ (pz_ic M ∧ ((t = 8 ∧ o = 9) ∨ (t = 9 ∧ o = 8))) := by
      have hpre : (match (generalizing := false) a with | [.inr (.inr (10, t)), .inr (.inr (10, o))] => pz_ic M ∧ ((t = 8 ∧ o = 9) ∨ (t = 9 ∧ o = 8)) | _ => False) := hpre
      split at hpre
      · exact ⟨_, _, rfl, hpre⟩
      · exact hpre.elim
    exact Nat.le_of_ble_eq_true rfl
  · intro a M hlen hcan hM hpre Ok hgo
    obtain ⟨t, o, rfl, hpre⟩ : ∃ t o, a = [.inr (.inr (10, t)), .inr (.inr (10, o))] ∧ (pz_ic M ∧ ((t = 8 ∧ o = 9) ∨ (t = 9 ∧ o = 8))) := by
      have hpre : (match (generalizing := false) a with | [.inr (.inr (10, t)), .inr (.inr (10, o))] => pz_ic M ∧ ((t = 8 ∧ o = 9) ∨ (t = 9 ∧ o = 8)) | _ => False) := hpre
      split at hpre
      · exact ⟨_, _, rfl, hpre⟩
      · exact hpre.elim
    obtain ⟨k_t, hc_t⟩ := pz_tlm hcan
    have k_t : pz_kd t = 10 ∧ t < 231 := k_t
    have R_t := pz_kd10 k_t.1
    obtain ⟨k_o, hc_o⟩ := pz_tlm hc_t
    have k_o : pz_kd o = 10 ∧ o < 231 := k_o
    have R_o := pz_kd10 k_o.1
    have hI : pz_ic M := hpre.1
    have hI0 := hI
    have hS : pz_rt M M := pz_rt.rf
    have T_t := pz_rf10 (t := t) (by first | decide | omega)
    have T_o := pz_rf10 (t := o) (by first | decide | omega)
    refine hgo (fun _ => false) 23 0 _ [] M ?_
    intro r1 e1 k1
    have R1 := pz_kd3 k1
    have L1 := e1.trans T_t.1
    intro r5 e5 k5
    have R5 := pz_kd3 k5
    have L5 := e5.trans T_o.1
    refine And.intro (And.intro hI (by first | decide | omega)) ?_
    intro M8 q8
    obtain ⟨q8, z8⟩ := q8
    have hS : pz_rt M M8 := hS.tr z8
    have hI : pz_ic M8 := hS hI0
    intro r12 e12 k12
    have R12 := pz_kd6 k12
    have L12 := e12.trans T_t.2.1
    intro r16 e16 k16
    have R16 := pz_kd6 k16
    have L16 := e16.trans T_o.2.1
    refine And.intro (hI) ?_
    intro M19 q19
    obtain ⟨q19, z19⟩ := q19
    have hS : pz_rt M M19 := hS.tr z19
    have hI : pz_ic M19 := hS hI0
    intro r23 e23 k23
    have R23 := pz_kd6 k23
    have L23 := e23.trans T_t.2.2.1
    intro r27 e27 k27
    have R27 := pz_kd6 k27
    have L27 := e27.trans T_o.2.2.1
    refine And.intro (hI) ?_
    intro M30 q30
    obtain ⟨q30, z30⟩ := q30
    have hS : pz_rt M M30 := hS.tr z30
    have hI : pz_ic M30 := hS hI0
    intro r34 e34 k34
    have R34 := pz_kd6 k34
    have L34 := e34.trans T_t.2.2.2
    intro r38 e38 k38
    have R38 := pz_kd6 k38
    have L38 := e38.trans T_o.2.2.2
    refine And.intro (hI) ?_
    intro M41 q41
    obtain ⟨q41, z41⟩ := q41
    have hS : pz_rt M M41 := hS.tr z41
    have hI : pz_ic M41 := hS hI0
    refine And.intro rfl ?_
    exact ⟨pz_Tc_of hpre.2 L1 L5 L12 L16 L23 L27 L34 L38 q8 q19 q30 q41, hS⟩
theorem v_X10_take {fr lo i : Nat} {own : String} (h1 : 2 + 1 ≤ fr) (h2 : 8 + (2 + 11) + 81 ≤ lo) (h3 : .methodLink own i yX10_take ∈ lw_tbl) : pz_cV fr lo own i k_X10_take :=
  pz_cVk (maxL := 2) (fr' := 2) (lo' := 81) 1 10 h_X10_take rfl ⟨(pz_nhc_RX10 yX10_take rfl).1, (pz_nhc_RX10 yX10_take rfl).2, pz_ds44⟩ ⟨pz_wq1105, pz_wq1103, pz_wq1104, pz_wq4⟩ (Or.inl ⟨TX10, 4, rfl⟩) (fun a M _ h => by
    have h : (match (generalizing := false) a with | [.inr (.inr (10, t)), .inr (.inr (10, o))] => pz_ic M ∧ ((t = 8 ∧ o = 9) ∨ (t = 9 ∧ o = 8)) | _ => False) := h
    split at h
    · exact ⟨_, _, rfl⟩
    · exact h.elim) h1 h2 h3
noncomputable def k_X10_phoneLine : pz_C := (2, 1, fun a M => (match a with | [.inr (.inr (10, t)), .inl i] => pz_ic M | _ => False), fun a M r M' => (match a, r with | [.inr (.inr (10, t)), .inl i], some (.inl v) => (pz_phl (pz_gph M t) (pz_nph M t) i v) ∧ M = M' | _, _ => False))
noncomputable abbrev ct_X10_phoneLine : List (Bool × Nat × pz_C) := [(true, 42, k_X6_cell)]
set_option maxRecDepth 100000 in
set_option maxHeartbeats 4000000 in
theorem h_X10_phoneLine : pz_H yX10_phoneLine cX10_phoneLine 3 (some .int) k_X10_phoneLine 1 22 := by
  refine pz_mk (own := RX10) (tb := t_X10_phoneLine) (fl := pz_flf fl_RX10) (ci := fun _ => none) (ct := pz_ctf ct_X10_phoneLine) (rz := false) (pz_pfc_RX10 yX10_phoneLine rfl) rfl t_X10_phoneLine_ok (pz_flk fl_RX10_ok) (fun i v h => by cases h) ?_ ?_ (Or.inl ⟨rfl, rfl⟩) ?_ ?_
  · exact fun i k' h => pz_ctk (l := ct_X10_phoneLine) (P := fun b i k => b = true → pz_cV 1 22 RX10 i k) (List.forall_mem_cons.mpr ⟨(fun _ => v_X6_cell (by decide) (by decide) pz_wq853), fun _ h => absurd h List.not_mem_nil⟩) true i k' h rfl
  · exact fun i k' h => pz_ctk (l := ct_X10_phoneLine) (P := fun b i k => b = false → (pz_cS 1 22 RX10 i k ∨ (k = pz_kac ∧ 1 ≤ 1 ∧ 60 ≤ 22 ∧ Cond.methodLink RX10 i arraycopyName ∈ pz_tbl))) (List.forall_mem_cons.mpr ⟨((fun z => by cases z)), fun _ h => absurd h List.not_mem_nil⟩) false i k' h rfl
  · intro a M hlen hpre
    obtain ⟨t, i, rfl, hpre⟩ : ∃ t i, a = [.inr (.inr (10, t)), .inl i] ∧ (pz_ic M) := by
      have hpre : (match (generalizing := false) a with | [.inr (.inr (10, t)), .inl i] => pz_ic M | _ => False) := hpre
      split at hpre
      · exact ⟨_, _, rfl, hpre⟩
      · exact hpre.elim
    exact Nat.le_of_ble_eq_true rfl
  · intro a M hlen hcan hM hpre Ok hgo
    obtain ⟨t, i, rfl, hpre⟩ : ∃ t i, a = [.inr (.inr (10, t)), .inl i] ∧ (pz_ic M) := by
      have hpre : (match (generalizing := false) a with | [.inr (.inr (10, t)), .inl i] => pz_ic M | _ => False) := hpre
      split at hpre
      · exact ⟨_, _, rfl, hpre⟩
      · exact hpre.elim
    obtain ⟨k_t, hc_t⟩ := pz_tlm hcan
    have k_t : pz_kd t = 10 ∧ t < 231 := k_t
    have R_t := pz_kd10 k_t.1
    obtain ⟨k_i, hc_i⟩ := pz_tlm hc_t
    have l_i : -2147483648 ≤ i := k_i.1
    have u_i : i ≤ 2147483647 := k_i.2
    have hI : pz_ic M := hpre
    have T8 := pz_rf10 (t := t) (by first | decide | omega)
    have I0 := hI.2.2.1 (14 + 3 * (t - 8)) (by first | decide | omega) (by first | decide | omega)
    have L10 : ∀ (fu : Nat) (x2 : Int), (x2 + 1).toNat < fu → (-1 ≤ x2) → (x2 < M (14 + 3 * (t - 8)) 0) → (∀ r : Nat, x2 < (r : Int) → (r : Int) < M (14 + 3 * (t - 8)) 0 → pz_gph M t r 0 ≠ i) → Ok 10 [some (.inr (.inr (10, t))), some (.inl i), some (.inl x2)] [] M := by
      intro fu
      induction fu with
      | zero => exact fun _ hn => absurd hn (Nat.not_lt_zero _)
      | succ fu ih10 =>
        intro x2 hn10 g10_0 g10_1 g10_2
        refine hgo (fun p => Nat.beq p 10) 23 10 _ _ _ ?_
        refine And.intro (fun h11 => ?_) (fun h11 => ?_)
        · skip
          refine And.intro rfl ?_
          exact ⟨Or.inl ⟨rfl, fun r h1 => g10_2 r (by first | decide | omega) (by unfold pz_nph at h1; first | decide | omega)⟩, rfl⟩
        · skip
          intro r15 e15 k15
          have R15 := pz_kd6 k15
          have L15 := e15.trans T8.2.2.1
          refine And.intro (hI) ?_
          intro v20 M20 a20 b20 q20
          obtain ⟨q20, z20⟩ := q20
          subst z20
          have Q20 : v20 = pz_gph M t x2.toNat 0 := pz_cel_g (c := 0) q20 ⟨by omega, by rw [L15]; omega⟩ rfl (by first | decide | omega) (by rw [L15]; omega)
          refine And.intro (fun h24 => ?_) (fun h24 => ?_)
          · skip
            intro v29 e29 a29 b29
            try rw [pz_wi (by first | decide | omega) (by first | decide | omega)] at e29
            have G29 : ∀ r : Nat, v29 < (r : Int) → (r : Int) < M (14 + 3 * (t - 8)) 0 → pz_gph M t r 0 ≠ i := fun r h1 h2 => by
              by_cases h3 : x2 < (r : Int)
              · exact g10_2 r h3 h2
              · rw [show r = x2.toNat by omega, ← Q20]
                exact h24
            exact ih10 _ (by first | decide | omega) (by first | omega | assumption) (by first | omega | assumption) (by first | omega | assumption)
          · skip
            refine And.intro rfl ?_
            exact ⟨Or.inr ⟨by omega, by unfold pz_nph; omega, by omega, fun r h1 h2 => g10_2 r (by first | decide | omega) (by unfold pz_nph at h2; first | decide | omega)⟩, rfl⟩
    refine hgo (fun p => Nat.beq p 10) 23 0 _ [] M ?_
    intro r1 e1 k1
    have R1 := pz_kd6 k1
    have L1 := e1.trans T8.2.2.1
    intro v4 e4 a4 b4
    have I4 := hI.2.2.1 r1 (by first | decide | omega) (by first | decide | omega)
    rw [L1] at e4
    intro v8 e8 a8 b8
    try rw [pz_wi (by first | decide | omega) (by first | decide | omega)] at e8
    have G8 : ∀ r : Nat, v8 < (r : Int) → (r : Int) < M (14 + 3 * (t - 8)) 0 → pz_gph M t r 0 ≠ i := fun r h1 h2 => absurd h1 (by first | decide | omega)
    exact L10 _ _ (Nat.lt_succ_self _) (by first | omega | assumption) (by first | omega | assumption) (by first | omega | assumption)
theorem v_X10_phoneLine {fr lo i : Nat} {own : String} (h1 : 1 + 1 ≤ fr) (h2 : 8 + (3 + 11) + 22 ≤ lo) (h3 : .methodLink own i yX10_phoneLine ∈ lw_tbl) : pz_cV fr lo own i k_X10_phoneLine :=
  pz_cVk (maxL := 3) (fr' := 1) (lo' := 22) 1 10 h_X10_phoneLine rfl ⟨(pz_nhc_RX10 yX10_phoneLine rfl).1, (pz_nhc_RX10 yX10_phoneLine rfl).2, pz_ds5⟩ ⟨pz_wq852, pz_wq850, pz_wq851, pz_wq4⟩ (Or.inl ⟨TX10, 4, rfl⟩) (fun a M _ h => by
    have h : (match (generalizing := false) a with | [.inr (.inr (10, t)), .inl i] => pz_ic M | _ => False) := h
    split at h
    · exact ⟨_, _, rfl⟩
    · exact h.elim) h1 h2 h3
noncomputable def k_X10_phoneFrom : pz_C := (2, 1, fun a M => (match a with | [.inr (.inr (10, t)), .inl i] => pz_ic M | _ => False), fun a M r M' => (match a, r with | [.inr (.inr (10, t)), .inl i], some (.inl v) => (v = pz_ph (pz_gph M t) i 0 1 (pz_nph M t)) ∧ M = M' | _, _ => False))
noncomputable abbrev ct_X10_phoneFrom : List (Bool × Nat × pz_C) := [(true, 46, k_X10_phoneLine), (true, 42, k_X6_cell)]
set_option maxRecDepth 100000 in
set_option maxHeartbeats 4000000 in
theorem h_X10_phoneFrom : pz_H yX10_phoneFrom cX10_phoneFrom 3 (some .int) k_X10_phoneFrom 2 44 := by
  refine pz_mk (own := RX10) (tb := t_X10_phoneFrom) (fl := pz_flf fl_RX10) (ci := fun _ => none) (ct := pz_ctf ct_X10_phoneFrom) (rz := false) (pz_pfc_RX10 yX10_phoneFrom rfl) rfl t_X10_phoneFrom_ok (pz_flk fl_RX10_ok) (fun i v h => by cases h) ?_ ?_ (Or.inl ⟨rfl, rfl⟩) ?_ ?_
  · exact fun i k' h => pz_ctk (l := ct_X10_phoneFrom) (P := fun b i k => b = true → pz_cV 2 44 RX10 i k) (List.forall_mem_cons.mpr ⟨(fun _ => v_X10_phoneLine (by decide) (by decide) pz_wq849), List.forall_mem_cons.mpr ⟨(fun _ => v_X6_cell (by decide) (by decide) pz_wq853), fun _ h => absurd h List.not_mem_nil⟩⟩) true i k' h rfl
  · exact fun i k' h => pz_ctk (l := ct_X10_phoneFrom) (P := fun b i k => b = false → (pz_cS 2 44 RX10 i k ∨ (k = pz_kac ∧ 1 ≤ 2 ∧ 60 ≤ 44 ∧ Cond.methodLink RX10 i arraycopyName ∈ pz_tbl))) (List.forall_mem_cons.mpr ⟨((fun z => by cases z)), List.forall_mem_cons.mpr ⟨((fun z => by cases z)), fun _ h => absurd h List.not_mem_nil⟩⟩) false i k' h rfl
  · intro a M hlen hpre
    obtain ⟨t, i, rfl, hpre⟩ : ∃ t i, a = [.inr (.inr (10, t)), .inl i] ∧ (pz_ic M) := by
      have hpre : (match (generalizing := false) a with | [.inr (.inr (10, t)), .inl i] => pz_ic M | _ => False) := hpre
      split at hpre
      · exact ⟨_, _, rfl, hpre⟩
      · exact hpre.elim
    exact Nat.le_of_ble_eq_true rfl
  · intro a M hlen hcan hM hpre Ok hgo
    obtain ⟨t, i, rfl, hpre⟩ : ∃ t i, a = [.inr (.inr (10, t)), .inl i] ∧ (pz_ic M) := by
      have hpre : (match (generalizing := false) a with | [.inr (.inr (10, t)), .inl i] => pz_ic M | _ => False) := hpre
      split at hpre
      · exact ⟨_, _, rfl, hpre⟩
      · exact hpre.elim
    obtain ⟨k_t, hc_t⟩ := pz_tlm hcan
    have k_t : pz_kd t = 10 ∧ t < 231 := k_t
    have R_t := pz_kd10 k_t.1
    obtain ⟨k_i, hc_i⟩ := pz_tlm hc_t
    have l_i : -2147483648 ≤ i := k_i.1
    have u_i : i ≤ 2147483647 := k_i.2
    have hI : pz_ic M := hpre
    have T8 := pz_rf10 (t := t) (by first | decide | omega)
    refine hgo (fun _ => false) 17 0 _ [] M ?_
    refine And.intro (hI) ?_
    intro v2 M2 a2 b2 q2
    obtain ⟨q2, z2⟩ := q2
    subst z2
    have F2 := pz_phl_ph (d := 0) (c := 1) q2
    refine And.intro (fun h8 => ?_) (fun h8 => ?_)
    · skip
      intro r16 e16 k16
      have R16 := pz_kd6 k16
      have L16 := e16.trans T8.2.2.1
      refine And.intro (hI) ?_
      intro v21 M21 a21 b21 q21
      obtain ⟨q21, z21⟩ := q21
      subst z21
      refine And.intro rfl ?_
      first
        | (have f := F2.2 (by first | decide | omega)
           exact ⟨(pz_cel_g (c := 1) q21 ⟨by omega, by rw [L16]; unfold pz_nph at f; omega⟩ rfl (by first | decide | omega) (by rw [L16]; omega)).trans f.2.2.symm, rfl⟩)
        | exact ⟨(F2.1 (by first | decide | omega)).symm, rfl⟩
    · skip
      refine And.intro rfl ?_
      first
        | (have f := F2.2 (by first | decide | omega)
           exact ⟨(pz_cel_g (c := 1) q21 ⟨by omega, by rw [L16]; unfold pz_nph at f; omega⟩ rfl (by first | decide | omega) (by rw [L16]; omega)).trans f.2.2.symm, rfl⟩)
        | exact ⟨(F2.1 (by first | decide | omega)).symm, rfl⟩
theorem v_X10_phoneFrom {fr lo i : Nat} {own : String} (h1 : 2 + 1 ≤ fr) (h2 : 8 + (3 + 11) + 44 ≤ lo) (h3 : .methodLink own i yX10_phoneFrom ∈ lw_tbl) : pz_cV fr lo own i k_X10_phoneFrom :=
  pz_cVk (maxL := 3) (fr' := 2) (lo' := 44) 1 10 h_X10_phoneFrom rfl ⟨(pz_nhc_RX10 yX10_phoneFrom rfl).1, (pz_nhc_RX10 yX10_phoneFrom rfl).2, pz_ds5⟩ ⟨pz_wq848, pz_wq846, pz_wq847, pz_wq4⟩ (Or.inl ⟨TX10, 4, rfl⟩) (fun a M _ h => by
    have h : (match (generalizing := false) a with | [.inr (.inr (10, t)), .inl i] => pz_ic M | _ => False) := h
    split at h
    · exact ⟨_, _, rfl⟩
    · exact h.elim) h1 h2 h3
noncomputable def k_X10_phoneTo : pz_C := (2, 1, fun a M => (match a with | [.inr (.inr (10, t)), .inl i] => pz_ic M | _ => False), fun a M r M' => (match a, r with | [.inr (.inr (10, t)), .inl i], some (.inl v) => (v = pz_ph (pz_gph M t) i 240 2 (pz_nph M t)) ∧ M = M' | _, _ => False))
noncomputable abbrev ct_X10_phoneTo : List (Bool × Nat × pz_C) := [(true, 46, k_X10_phoneLine), (true, 42, k_X6_cell)]
set_option maxRecDepth 100000 in
set_option maxHeartbeats 4000000 in
theorem h_X10_phoneTo : pz_H yX10_phoneTo cX10_phoneTo 3 (some .int) k_X10_phoneTo 2 44 := by
  refine pz_mk (own := RX10) (tb := t_X10_phoneTo) (fl := pz_flf fl_RX10) (ci := fun _ => none) (ct := pz_ctf ct_X10_phoneTo) (rz := false) (pz_pfc_RX10 yX10_phoneTo rfl) rfl t_X10_phoneTo_ok (pz_flk fl_RX10_ok) (fun i v h => by cases h) ?_ ?_ (Or.inl ⟨rfl, rfl⟩) ?_ ?_
  · exact fun i k' h => pz_ctk (l := ct_X10_phoneTo) (P := fun b i k => b = true → pz_cV 2 44 RX10 i k) (List.forall_mem_cons.mpr ⟨(fun _ => v_X10_phoneLine (by decide) (by decide) pz_wq849), List.forall_mem_cons.mpr ⟨(fun _ => v_X6_cell (by decide) (by decide) pz_wq853), fun _ h => absurd h List.not_mem_nil⟩⟩) true i k' h rfl
  · exact fun i k' h => pz_ctk (l := ct_X10_phoneTo) (P := fun b i k => b = false → (pz_cS 2 44 RX10 i k ∨ (k = pz_kac ∧ 1 ≤ 2 ∧ 60 ≤ 44 ∧ Cond.methodLink RX10 i arraycopyName ∈ pz_tbl))) (List.forall_mem_cons.mpr ⟨((fun z => by cases z)), List.forall_mem_cons.mpr ⟨((fun z => by cases z)), fun _ h => absurd h List.not_mem_nil⟩⟩) false i k' h rfl
  · intro a M hlen hpre
    obtain ⟨t, i, rfl, hpre⟩ : ∃ t i, a = [.inr (.inr (10, t)), .inl i] ∧ (pz_ic M) := by
      have hpre : (match (generalizing := false) a with | [.inr (.inr (10, t)), .inl i] => pz_ic M | _ => False) := hpre
      split at hpre
      · exact ⟨_, _, rfl, hpre⟩
      · exact hpre.elim
    exact Nat.le_of_ble_eq_true rfl
  · intro a M hlen hcan hM hpre Ok hgo
    obtain ⟨t, i, rfl, hpre⟩ : ∃ t i, a = [.inr (.inr (10, t)), .inl i] ∧ (pz_ic M) := by
      have hpre : (match (generalizing := false) a with | [.inr (.inr (10, t)), .inl i] => pz_ic M | _ => False) := hpre
      split at hpre
      · exact ⟨_, _, rfl, hpre⟩
      · exact hpre.elim
    obtain ⟨k_t, hc_t⟩ := pz_tlm hcan
    have k_t : pz_kd t = 10 ∧ t < 231 := k_t
    have R_t := pz_kd10 k_t.1
    obtain ⟨k_i, hc_i⟩ := pz_tlm hc_t
    have l_i : -2147483648 ≤ i := k_i.1
    have u_i : i ≤ 2147483647 := k_i.2
    have hI : pz_ic M := hpre
    have T8 := pz_rf10 (t := t) (by first | decide | omega)
    refine hgo (fun _ => false) 17 0 _ [] M ?_
    refine And.intro (hI) ?_
    intro v2 M2 a2 b2 q2
    obtain ⟨q2, z2⟩ := q2
    subst z2
    have F2 := pz_phl_ph (d := 240) (c := 2) q2
    refine And.intro (fun h8 => ?_) (fun h8 => ?_)
    · skip
      intro r18 e18 k18
      have R18 := pz_kd6 k18
      have L18 := e18.trans T8.2.2.1
      refine And.intro (hI) ?_
      intro v23 M23 a23 b23 q23
      obtain ⟨q23, z23⟩ := q23
      subst z23
      refine And.intro rfl ?_
      first
        | (have f := F2.2 (by first | decide | omega)
           exact ⟨(pz_cel_g (c := 2) q23 ⟨by omega, by rw [L18]; unfold pz_nph at f; omega⟩ rfl (by first | decide | omega) (by rw [L18]; omega)).trans f.2.2.symm, rfl⟩)
        | exact ⟨(F2.1 (by first | decide | omega)).symm, rfl⟩
    · skip
      refine And.intro rfl ?_
      first
        | (have f := F2.2 (by first | decide | omega)
           exact ⟨(pz_cel_g (c := 2) q23 ⟨by omega, by rw [L18]; unfold pz_nph at f; omega⟩ rfl (by first | decide | omega) (by rw [L18]; omega)).trans f.2.2.symm, rfl⟩)
        | exact ⟨(F2.1 (by first | decide | omega)).symm, rfl⟩
theorem v_X10_phoneTo {fr lo i : Nat} {own : String} (h1 : 2 + 1 ≤ fr) (h2 : 8 + (3 + 11) + 44 ≤ lo) (h3 : .methodLink own i yX10_phoneTo ∈ lw_tbl) : pz_cV fr lo own i k_X10_phoneTo :=
  pz_cVk (maxL := 3) (fr' := 2) (lo' := 44) 1 10 h_X10_phoneTo rfl ⟨(pz_nhc_RX10 yX10_phoneTo rfl).1, (pz_nhc_RX10 yX10_phoneTo rfl).2, pz_ds5⟩ ⟨pz_wq857, pz_wq855, pz_wq856, pz_wq4⟩ (Or.inl ⟨TX10, 4, rfl⟩) (fun a M _ h => by
    have h : (match (generalizing := false) a with | [.inr (.inr (10, t)), .inl i] => pz_ic M | _ => False) := h
    split at h
    · exact ⟨_, _, rfl⟩
    · exact h.elim) h1 h2 h3
noncomputable def k_X10_recordsOf : pz_C := (2, 1, fun a M => (match a with | [.inr (.inr (10, t)), .inl i] => pz_ic M | _ => False), fun a M r M' => (match a, r with | [.inr (.inr (10, t)), .inl i], some (.inl v) => (v = pz_rc0 (pz_grd M t) i (pz_nrd M t)) ∧ M = M' | _, _ => False))
noncomputable abbrev ct_X10_recordsOf : List (Bool × Nat × pz_C) := [(true, 42, k_X6_cell)]
set_option maxRecDepth 100000 in
set_option maxHeartbeats 4000000 in
theorem h_X10_recordsOf : pz_H yX10_recordsOf cX10_recordsOf 4 (some .int) k_X10_recordsOf 1 22 := by
  refine pz_mk (own := RX10) (tb := t_X10_recordsOf) (fl := pz_flf fl_RX10) (ci := fun _ => none) (ct := pz_ctf ct_X10_recordsOf) (rz := false) (pz_pfc_RX10 yX10_recordsOf rfl) rfl t_X10_recordsOf_ok (pz_flk fl_RX10_ok) (fun i v h => by cases h) ?_ ?_ (Or.inl ⟨rfl, rfl⟩) ?_ ?_
  · exact fun i k' h => pz_ctk (l := ct_X10_recordsOf) (P := fun b i k => b = true → pz_cV 1 22 RX10 i k) (List.forall_mem_cons.mpr ⟨(fun _ => v_X6_cell (by decide) (by decide) pz_wq853), fun _ h => absurd h List.not_mem_nil⟩) true i k' h rfl
  · exact fun i k' h => pz_ctk (l := ct_X10_recordsOf) (P := fun b i k => b = false → (pz_cS 1 22 RX10 i k ∨ (k = pz_kac ∧ 1 ≤ 1 ∧ 60 ≤ 22 ∧ Cond.methodLink RX10 i arraycopyName ∈ pz_tbl))) (List.forall_mem_cons.mpr ⟨((fun z => by cases z)), fun _ h => absurd h List.not_mem_nil⟩) false i k' h rfl
  · intro a M hlen hpre
    obtain ⟨t, i, rfl, hpre⟩ : ∃ t i, a = [.inr (.inr (10, t)), .inl i] ∧ (pz_ic M) := by
      have hpre : (match (generalizing := false) a with | [.inr (.inr (10, t)), .inl i] => pz_ic M | _ => False) := hpre
      split at hpre
      · exact ⟨_, _, rfl, hpre⟩
      · exact hpre.elim
    exact Nat.le_of_ble_eq_true rfl
  · intro a M hlen hcan hM hpre Ok hgo
    obtain ⟨t, i, rfl, hpre⟩ : ∃ t i, a = [.inr (.inr (10, t)), .inl i] ∧ (pz_ic M) := by
      have hpre : (match (generalizing := false) a with | [.inr (.inr (10, t)), .inl i] => pz_ic M | _ => False) := hpre
      split at hpre
      · exact ⟨_, _, rfl, hpre⟩
      · exact hpre.elim
    obtain ⟨k_t, hc_t⟩ := pz_tlm hcan
    have k_t : pz_kd t = 10 ∧ t < 231 := k_t
    have R_t := pz_kd10 k_t.1
    obtain ⟨k_i, hc_i⟩ := pz_tlm hc_t
    have l_i : -2147483648 ≤ i := k_i.1
    have u_i : i ≤ 2147483647 := k_i.2
    have hI : pz_ic M := hpre
    have T8 := pz_rf10 (t := t) (by first | decide | omega)
    have I0 := hI.2.2.1 (15 + 3 * (t - 8)) (by first | decide | omega) (by first | decide | omega)
    have L4 : ∀ (fu : Nat) (x2 : Int) (x3 : Int), (16 - x3).toNat < fu → (0 ≤ x3) → (x3 ≤ M (15 + 3 * (t - 8)) 0) → (0 ≤ x2) → (x2 ≤ x3) → (x2 = pz_rc0 (pz_grd M t) i x3.toNat) → Ok 4 [some (.inr (.inr (10, t))), some (.inl i), some (.inl x2), some (.inl x3)] [] M := by
      intro fu
      induction fu with
      | zero => exact fun _ _ hn => absurd hn (Nat.not_lt_zero _)
      | succ fu ih4 =>
        intro x2 x3 hn4 g4_0 g4_1 g4_2 g4_3 g4_4
        refine hgo (fun p => Nat.beq p 4) 28 4 _ _ _ ?_
        intro r6 e6 k6
        have R6 := pz_kd6 k6
        have L6 := e6.trans T8.2.2.2
        intro v9 e9 a9 b9
        have I9 := hI.2.2.1 r6 (by first | decide | omega) (by first | decide | omega)
        rw [L6] at e9
        refine And.intro (fun h12 => ?_) (fun h12 => ?_)
        · skip
          refine And.intro rfl ?_
          exact ⟨by rw [show pz_nrd M t = x3.toNat by unfold pz_nrd; omega]; exact g4_4, rfl⟩
        · skip
          intro r17 e17 k17
          have R17 := pz_kd6 k17
          have L17 := e17.trans T8.2.2.2
          refine And.intro (hI) ?_
          intro v22 M22 a22 b22 q22
          obtain ⟨q22, z22⟩ := q22
          subst z22
          have Q22 : v22 = pz_grd M t x3.toNat 1 := pz_cel_g (c := 1) q22 ⟨by omega, by rw [L17]; omega⟩ rfl (by first | decide | omega) (by rw [L17]; omega)
          refine And.intro (fun h26 => ?_) (fun h26 => ?_)
          · skip
            intro v34 e34 a34 b34
            try rw [pz_wi (by first | decide | omega) (by first | decide | omega)] at e34
            intro v36 e36 a36 b36
            try rw [pz_wi (by first | decide | omega) (by first | decide | omega)] at e36
            have G36 : v34 = pz_rc0 (pz_grd M t) i v36.toNat := by
              rw [show v36.toNat = x3.toNat + 1 by omega]
              show v34 = pz_rc0 (pz_grd M t) i x3.toNat + (if pz_grd M t x3.toNat 1 = i then 1 else 0)
              rw [← Q22, ← g4_4]
              first
                | (rw [if_pos (by first | decide | omega)]; omega)
                | (rw [if_neg (by first | decide | omega)]; omega)
            exact ih4 _ _ (by first | decide | omega) (by first | omega | assumption | rfl) (by first | omega | assumption | rfl) (by first | omega | assumption | rfl) (by first | omega | assumption | rfl) (by first | omega | assumption | rfl)
          · skip
            intro v34 e34 a34 b34
            try rw [pz_wi (by first | decide | omega) (by first | decide | omega)] at e34
            intro v36 e36 a36 b36
            try rw [pz_wi (by first | decide | omega) (by first | decide | omega)] at e36
            have G36 : v34 = pz_rc0 (pz_grd M t) i v36.toNat := by
              rw [show v36.toNat = x3.toNat + 1 by omega]
              show v34 = pz_rc0 (pz_grd M t) i x3.toNat + (if pz_grd M t x3.toNat 1 = i then 1 else 0)
              rw [← Q22, ← g4_4]
              first
                | (rw [if_pos (by first | decide | omega)]; omega)
                | (rw [if_neg (by first | decide | omega)]; omega)
            exact ih4 _ _ (by first | decide | omega) (by first | omega | assumption | rfl) (by first | omega | assumption | rfl) (by first | omega | assumption | rfl) (by first | omega | assumption | rfl) (by first | omega | assumption | rfl)
    refine hgo (fun p => Nat.beq p 4) 28 0 _ [] M ?_
    exact L4 _ _ _ (Nat.lt_succ_self _) (by first | omega | assumption | rfl) (by first | omega | assumption | rfl) (by first | omega | assumption | rfl) (by first | omega | assumption | rfl) (by first | omega | assumption | rfl)
theorem v_X10_recordsOf {fr lo i : Nat} {own : String} (h1 : 1 + 1 ≤ fr) (h2 : 8 + (4 + 11) + 22 ≤ lo) (h3 : .methodLink own i yX10_recordsOf ∈ lw_tbl) : pz_cV fr lo own i k_X10_recordsOf :=
  pz_cVk (maxL := 4) (fr' := 1) (lo' := 22) 1 10 h_X10_recordsOf rfl ⟨(pz_nhc_RX10 yX10_recordsOf rfl).1, (pz_nhc_RX10 yX10_recordsOf rfl).2, pz_ds5⟩ ⟨pz_wq861, pz_wq859, pz_wq860, pz_wq4⟩ (Or.inl ⟨TX10, 4, rfl⟩) (fun a M _ h => by
    have h : (match (generalizing := false) a with | [.inr (.inr (10, t)), .inl i] => pz_ic M | _ => False) := h
    split at h
    · exact ⟨_, _, rfl⟩
    · exact h.elim) h1 h2 h3
noncomputable def k_X10_writers : pz_C := (3, 1, fun a M => (match a with | [.inr (.inr (10, t)), .inl i, .inl j] => pz_ic M | _ => False), fun a M r M' => (match a, r with | [.inr (.inr (10, t)), .inl i, .inl j], some (.inl v) => (pz_wrs (pz_grd M t) (pz_nrd M t) i j v) ∧ M = M' | _, _ => False))
noncomputable abbrev ct_X10_writers : List (Bool × Nat × pz_C) := [(true, 42, k_X6_cell)]
set_option maxRecDepth 100000 in
set_option maxHeartbeats 4000000 in
theorem h_X10_writers : pz_H yX10_writers cX10_writers 6 (some .int) k_X10_writers 1 22 := by
  refine pz_mk (own := RX10) (tb := t_X10_writers) (fl := pz_flf fl_RX10) (ci := fun _ => none) (ct := pz_ctf ct_X10_writers) (rz := false) (pz_pfc_RX10 yX10_writers rfl) rfl t_X10_writers_ok (pz_flk fl_RX10_ok) (fun i v h => by cases h) ?_ ?_ (Or.inl ⟨rfl, rfl⟩) ?_ ?_
  · exact fun i k' h => pz_ctk (l := ct_X10_writers) (P := fun b i k => b = true → pz_cV 1 22 RX10 i k) (List.forall_mem_cons.mpr ⟨(fun _ => v_X6_cell (by decide) (by decide) pz_wq853), fun _ h => absurd h List.not_mem_nil⟩) true i k' h rfl
  · exact fun i k' h => pz_ctk (l := ct_X10_writers) (P := fun b i k => b = false → (pz_cS 1 22 RX10 i k ∨ (k = pz_kac ∧ 1 ≤ 1 ∧ 60 ≤ 22 ∧ Cond.methodLink RX10 i arraycopyName ∈ pz_tbl))) (List.forall_mem_cons.mpr ⟨((fun z => by cases z)), fun _ h => absurd h List.not_mem_nil⟩) false i k' h rfl
  · intro a M hlen hpre
    obtain ⟨t, i, j, rfl, hpre⟩ : ∃ t i j, a = [.inr (.inr (10, t)), .inl i, .inl j] ∧ (pz_ic M) := by
      have hpre : (match (generalizing := false) a with | [.inr (.inr (10, t)), .inl i, .inl j] => pz_ic M | _ => False) := hpre
      split at hpre
      · exact ⟨_, _, _, rfl, hpre⟩
      · exact hpre.elim
    exact Nat.le_of_ble_eq_true rfl
  · intro a M hlen hcan hM hpre Ok hgo
    obtain ⟨t, i, j, rfl, hpre⟩ : ∃ t i j, a = [.inr (.inr (10, t)), .inl i, .inl j] ∧ (pz_ic M) := by
      have hpre : (match (generalizing := false) a with | [.inr (.inr (10, t)), .inl i, .inl j] => pz_ic M | _ => False) := hpre
      split at hpre
      · exact ⟨_, _, _, rfl, hpre⟩
      · exact hpre.elim
    obtain ⟨k_t, hc_t⟩ := pz_tlm hcan
    have k_t : pz_kd t = 10 ∧ t < 231 := k_t
    have R_t := pz_kd10 k_t.1
    obtain ⟨k_i, hc_i⟩ := pz_tlm hc_t
    have l_i : -2147483648 ≤ i := k_i.1
    have u_i : i ≤ 2147483647 := k_i.2
    obtain ⟨k_j, hc_j⟩ := pz_tlm hc_i
    have l_j : -2147483648 ≤ j := k_j.1
    have u_j : j ≤ 2147483647 := k_j.2
    have hI : pz_ic M := hpre
    have T8 := pz_rf10 (t := t) (by first | decide | omega)
    have I0 := hI.2.2.1 (15 + 3 * (t - 8)) (by first | decide | omega) (by first | decide | omega)
    have L5 : ∀ (fu : Nat) (x3 : Int) (x4 : Int) (d5 : Option pz_V), (16 - x4).toNat < fu → (0 ≤ x4) → (x4 ≤ M (15 + 3 * (t - 8)) 0) → (pz_wrs (pz_grd M t) x4.toNat i j x3) → Ok 5 [some (.inr (.inr (10, t))), some (.inl i), some (.inl j), some (.inl x3), some (.inl x4), d5] [] M := by
      intro fu
      induction fu with
      | zero => exact fun _ _ _ hn => absurd hn (Nat.not_lt_zero _)
      | succ fu ih5 =>
        intro x3 x4 d5 hn5 g5_0 g5_1 g5_2
        refine hgo (fun p => Nat.beq p 5) 37 5 _ _ _ ?_
        intro r8 e8 k8
        have R8 := pz_kd6 k8
        have L8 := e8.trans T8.2.2.2
        intro v11 e11 a11 b11
        have I11 := hI.2.2.1 r8 (by first | decide | omega) (by first | decide | omega)
        rw [L8] at e11
        refine And.intro (fun h14 => ?_) (fun h14 => ?_)
        · skip
          refine And.intro rfl ?_
          exact ⟨by rw [show pz_nrd M t = x4.toNat by unfold pz_nrd; omega]; exact g5_2, rfl⟩
        · skip
          intro r18 e18 k18
          have R18 := pz_kd6 k18
          have L18 := e18.trans T8.2.2.2
          refine And.intro (hI) ?_
          intro v24 M24 a24 b24 q24
          obtain ⟨q24, z24⟩ := q24
          subst z24
          have Q24 : v24 = pz_grd M t x4.toNat 0 := pz_cel_g (c := 0) q24 ⟨by omega, by rw [L18]; omega⟩ rfl (by first | decide | omega) (by rw [L18]; omega)
          refine And.intro (fun h32 => ?_) (fun h32 => ?_)
          · skip
            intro v56 e56 a56 b56
            try rw [pz_wi (by first | decide | omega) (by first | decide | omega)] at e56
            first
              | (have G56 : pz_wrs (pz_grd M t) v56.toNat i j v54 := pz_wrs_y (n := x4.toNat) (by first | decide | omega) Q24 ⟨by omega, by omega⟩ Q50 e53 e54 g5_2)
              | (have G56 : pz_wrs (pz_grd M t) v56.toNat i j x3 := pz_wrs_n (n := x4.toNat) (by first | decide | omega) Q24 (by first | decide | omega) g5_2)
            exact ih5 _ _ _ (by first | decide | omega) (by first | omega | assumption | exact pz_wrs_0) (by first | omega | assumption | exact pz_wrs_0) (by first | omega | assumption | exact pz_wrs_0)
          · skip
            refine And.intro (fun h38 => ?_) (fun h38 => ?_)
            · skip
              intro v56 e56 a56 b56
              try rw [pz_wi (by first | decide | omega) (by first | decide | omega)] at e56
              first
                | (have G56 : pz_wrs (pz_grd M t) v56.toNat i j v54 := pz_wrs_y (n := x4.toNat) (by first | decide | omega) Q24 ⟨by omega, by omega⟩ Q50 e53 e54 g5_2)
                | (have G56 : pz_wrs (pz_grd M t) v56.toNat i j x3 := pz_wrs_n (n := x4.toNat) (by first | decide | omega) Q24 (by first | decide | omega) g5_2)
              exact ih5 _ _ _ (by first | decide | omega) (by first | omega | assumption | exact pz_wrs_0) (by first | omega | assumption | exact pz_wrs_0) (by first | omega | assumption | exact pz_wrs_0)
            · skip
              intro r44 e44 k44
              have R44 := pz_kd6 k44
              have L44 := e44.trans T8.2.2.2
              refine And.intro (hI) ?_
              intro v50 M50 a50 b50 q50
              obtain ⟨q50, z50⟩ := q50
              subst z50
              have Q50 : v50 = pz_grd M t x4.toNat 1 := pz_cel_g (c := 1) q50 ⟨by omega, by rw [L44]; omega⟩ rfl (by first | decide | omega) (by rw [L44]; omega)
              intro v53 e53 a53 b53
              intro v54 e54 a54 b54
              intro v56 e56 a56 b56
              try rw [pz_wi (by first | decide | omega) (by first | decide | omega)] at e56
              first
                | (have G56 : pz_wrs (pz_grd M t) v56.toNat i j v54 := pz_wrs_y (n := x4.toNat) (by first | decide | omega) Q24 ⟨by omega, by omega⟩ Q50 e53 e54 g5_2)
                | (have G56 : pz_wrs (pz_grd M t) v56.toNat i j x3 := pz_wrs_n (n := x4.toNat) (by first | decide | omega) Q24 (by first | decide | omega) g5_2)
              exact ih5 _ _ _ (by first | decide | omega) (by first | omega | assumption | exact pz_wrs_0) (by first | omega | assumption | exact pz_wrs_0) (by first | omega | assumption | exact pz_wrs_0)
    refine hgo (fun p => Nat.beq p 5) 37 0 _ [] M ?_
    exact L5 _ _ _ _ (Nat.lt_succ_self _) (by first | omega | assumption | exact pz_wrs_0) (by first | omega | assumption | exact pz_wrs_0) (by first | omega | assumption | exact pz_wrs_0)
theorem v_X10_writers {fr lo i : Nat} {own : String} (h1 : 1 + 1 ≤ fr) (h2 : 8 + (6 + 11) + 22 ≤ lo) (h3 : .methodLink own i yX10_writers ∈ lw_tbl) : pz_cV fr lo own i k_X10_writers :=
  pz_cVk (maxL := 6) (fr' := 1) (lo' := 22) 2 10 h_X10_writers rfl ⟨(pz_nhc_RX10 yX10_writers rfl).1, (pz_nhc_RX10 yX10_writers rfl).2, pz_ds10⟩ ⟨pz_wq1040, pz_wq1038, pz_wq1039, pz_wq4⟩ (Or.inl ⟨TX10, 4, rfl⟩) (fun a M _ h => by
    have h : (match (generalizing := false) a with | [.inr (.inr (10, t)), .inl i, .inl j] => pz_ic M | _ => False) := h
    split at h
    · exact ⟨_, _, rfl⟩
    · exact h.elim) h1 h2 h3
noncomputable def k_X4_leftNext : pz_C := (2, 1, fun a M => (match a with | [.inl x, .inl y] => True | _ => False), fun a M r M' => (match a, r with | [.inl x, .inl y], some (.inl v) => (pz_lnx x y v) ∧ M = M' | _, _ => False))
noncomputable abbrev ct_X4_leftNext : List (Bool × Nat × pz_C) := []
set_option maxRecDepth 100000 in
set_option maxHeartbeats 4000000 in
theorem h_X4_leftNext : pz_H yX4_leftNext cX4_leftNext 2 (some .int) k_X4_leftNext 0 0 := by
  refine pz_mk (own := RX4) (tb := t_X4_leftNext) (fl := pz_flf fl_RX4) (ci := pz_cif ci_RX4) (ct := pz_ctf ct_X4_leftNext) (rz := false) (pz_pfc_RX4 yX4_leftNext rfl) rfl t_X4_leftNext_ok (pz_flk fl_RX4_ok) (pz_cik ci_RX4_ok) ?_ ?_ (Or.inl ⟨rfl, rfl⟩) ?_ ?_
  · exact fun i k' h => pz_ctk (l := ct_X4_leftNext) (P := fun b i k => b = true → pz_cV 0 0 RX4 i k) (fun _ h => absurd h List.not_mem_nil) true i k' h rfl
  · exact fun i k' h => pz_ctk (l := ct_X4_leftNext) (P := fun b i k => b = false → (pz_cS 0 0 RX4 i k ∨ (k = pz_kac ∧ 1 ≤ 0 ∧ 60 ≤ 0 ∧ Cond.methodLink RX4 i arraycopyName ∈ pz_tbl))) (fun _ h => absurd h List.not_mem_nil) false i k' h rfl
  · intro a M hlen hpre
    obtain ⟨x, y, rfl, hpre⟩ : ∃ x y, a = [.inl x, .inl y] ∧ (True) := by
      have hpre : (match (generalizing := false) a with | [.inl x, .inl y] => True | _ => False) := hpre
      split at hpre
      · exact ⟨_, _, rfl, hpre⟩
      · exact hpre.elim
    exact Nat.le_of_ble_eq_true rfl
  · intro a M hlen hcan hM hpre Ok hgo
    obtain ⟨x, y, rfl, hpre⟩ : ∃ x y, a = [.inl x, .inl y] ∧ (True) := by
      have hpre : (match (generalizing := false) a with | [.inl x, .inl y] => True | _ => False) := hpre
      split at hpre
      · exact ⟨_, _, rfl, hpre⟩
      · exact hpre.elim
    obtain ⟨k_x, hc_x⟩ := pz_tlm hcan
    have l_x : -2147483648 ≤ x := k_x.1
    have u_x : x ≤ 2147483647 := k_x.2
    obtain ⟨k_y, hc_y⟩ := pz_tlm hc_x
    have l_y : -2147483648 ≤ y := k_y.1
    have u_y : y ≤ 2147483647 := k_y.2
    refine hgo (fun _ => false) 10 0 _ [] M ?_
    intro v5 e5 a5 b5
    intro v6 e6 a6 b6
    refine And.intro (by first | decide | omega) ?_
    intro v10 e10 a10 b10
    refine And.intro rfl ?_
    refine ⟨fun h0 h1 h2 h3 => ?_, rfl⟩
    have B := pz_m9 (x := x) (y := 1000 - y) (a := 1000000) (b := 1000) h0 h1 (by first | decide | omega) (by first | decide | omega)
    try rw [pz_wi (by first | decide | omega) (by first | decide | omega)] at e5
    rw [e5] at e6
    rw [pz_wi (by first | decide | omega) (by first | decide | omega)] at e6
    rw [e6, Int.tdiv_eq_ediv_of_nonneg (by first | decide | omega), pz_wi (by first | decide | omega) (by first | decide | omega)] at e10
    exact e10
theorem s_X4_leftNext {fr lo i : Nat} {own : String} (h1 : 0 + 1 ≤ fr) (h2 : 8 + (2 + 11) + 0 ≤ lo) (h3 : .methodLink own i yX4_leftNext ∈ lw_tbl ∨ (own = RX1 ∧ i = 35 ∧ yX4_leftNext = yX11_within)) : pz_cS fr lo own i k_X4_leftNext := pz_cSk (maxL := 2) (fr' := 0) (lo' := 0) 2 h_X4_leftNext rfl ⟨(pz_nhc_RX4 yX4_leftNext rfl).1, (pz_nhc_RX4 yX4_leftNext rfl).2, pz_ds10⟩ ⟨pz_wq895, pz_wq894, pz_wq11⟩ h1 h2 h3
noncomputable def k_X4_leftAfter : pz_C := (2, 1, fun a M => (match a with | [.inl x, .inl y] => True | _ => False), fun a M r M' => (match a, r with | [.inl x, .inl y], some (.inl v) => (pz_lax x y v) ∧ M = M' | _, _ => False))
noncomputable abbrev ct_X4_leftAfter : List (Bool × Nat × pz_C) := [(false, 29, k_X4_leftNext)]
set_option maxRecDepth 100000 in
set_option maxHeartbeats 4000000 in
theorem h_X4_leftAfter : pz_H yX4_leftAfter cX4_leftAfter 4 (some .int) k_X4_leftAfter 1 21 := by
  refine pz_mk (own := RX4) (tb := t_X4_leftAfter) (fl := pz_flf fl_RX4) (ci := pz_cif ci_RX4) (ct := pz_ctf ct_X4_leftAfter) (rz := false) (pz_pfc_RX4 yX4_leftAfter rfl) rfl t_X4_leftAfter_ok (pz_flk fl_RX4_ok) (pz_cik ci_RX4_ok) ?_ ?_ (Or.inl ⟨rfl, rfl⟩) ?_ ?_
  · exact fun i k' h => pz_ctk (l := ct_X4_leftAfter) (P := fun b i k => b = true → pz_cV 1 21 RX4 i k) (List.forall_mem_cons.mpr ⟨((fun z => by cases z)), fun _ h => absurd h List.not_mem_nil⟩) true i k' h rfl
  · exact fun i k' h => pz_ctk (l := ct_X4_leftAfter) (P := fun b i k => b = false → (pz_cS 1 21 RX4 i k ∨ (k = pz_kac ∧ 1 ≤ 1 ∧ 60 ≤ 21 ∧ Cond.methodLink RX4 i arraycopyName ∈ pz_tbl))) (List.forall_mem_cons.mpr ⟨(fun _ => Or.inl (s_X4_leftNext (by decide) (by decide) (Or.inl pz_wq893))), fun _ h => absurd h List.not_mem_nil⟩) false i k' h rfl
  · intro a M hlen hpre
    obtain ⟨x, y, rfl, hpre⟩ : ∃ x y, a = [.inl x, .inl y] ∧ (True) := by
      have hpre : (match (generalizing := false) a with | [.inl x, .inl y] => True | _ => False) := hpre
      split at hpre
      · exact ⟨_, _, rfl, hpre⟩
      · exact hpre.elim
    exact Nat.le_of_ble_eq_true rfl
  · intro a M hlen hcan hM hpre Ok hgo
    obtain ⟨x, y, rfl, hpre⟩ : ∃ x y, a = [.inl x, .inl y] ∧ (True) := by
      have hpre : (match (generalizing := false) a with | [.inl x, .inl y] => True | _ => False) := hpre
      split at hpre
      · exact ⟨_, _, rfl, hpre⟩
      · exact hpre.elim
    obtain ⟨k_x, hc_x⟩ := pz_tlm hcan
    have l_x : -2147483648 ≤ x := k_x.1
    have u_x : x ≤ 2147483647 := k_x.2
    obtain ⟨k_y, hc_y⟩ := pz_tlm hc_x
    have l_y : -2147483648 ≤ y := k_y.1
    have u_y : y ≤ 2147483647 := k_y.2
    have G0 : pz_lax x 0 1000000 := fun _ _ _ => rfl
    have L5 : ∀ (fu : Nat) (x2 : Int) (x3 : Int), (y - x3).toNat < fu → (0 ≤ x3) → (0 ≤ y → x3 ≤ y) → (pz_lax x x3 x2) → Ok 5 [some (.inl x), some (.inl y), some (.inl x2), some (.inl x3)] [] M := by
      intro fu
      induction fu with
      | zero => exact fun _ _ hn => absurd hn (Nat.not_lt_zero _)
      | succ fu ih5 =>
        intro x2 x3 hn5 g5_0 g5_1 g5_2
        refine hgo (fun p => Nat.beq p 5) 17 5 _ _ _ ?_
        refine And.intro (fun h7 => ?_) (fun h7 => ?_)
        · skip
          refine And.intro rfl ?_
          exact ⟨fun h0 h1 h2 => by
            have a := g5_2 h0 h1 (by first | decide | omega)
            rw [a, show x3 = y by omega], rfl⟩
        · skip
          refine And.intro (True.intro) ?_
          intro v12 M12 a12 b12 q12
          obtain ⟨q12, z12⟩ := q12
          subst z12
          intro v16 e16 a16 b16
          try rw [pz_wi (by first | decide | omega) (by first | decide | omega)] at e16
          have G16 : pz_lax x v16 v12 := fun h0 h1 h2 => by
            have a := g5_2 h0 h1 (by first | decide | omega)
            have b := pz_lf_b h0 h1 x3.toNat
            have c := q12 (by first | decide | omega) (by first | decide | omega) h0 h1
            rw [c, a, show v16.toNat = x3.toNat + 1 by omega]
            rfl
          exact ih5 _ _ (by first | decide | omega) (by first | omega | assumption) (by first | omega | assumption) (by first | omega | assumption)
    refine hgo (fun p => Nat.beq p 5) 17 0 _ [] M ?_
    exact L5 _ _ _ (Nat.lt_succ_self _) (by first | omega | assumption) (by first | omega | assumption) (by first | omega | assumption)
theorem s_X4_leftAfter {fr lo i : Nat} {own : String} (h1 : 1 + 1 ≤ fr) (h2 : 8 + (4 + 11) + 21 ≤ lo) (h3 : .methodLink own i yX4_leftAfter ∈ lw_tbl ∨ (own = RX1 ∧ i = 35 ∧ yX4_leftAfter = yX11_within)) : pz_cS fr lo own i k_X4_leftAfter := pz_cSk (maxL := 4) (fr' := 1) (lo' := 21) 2 h_X4_leftAfter rfl ⟨(pz_nhc_RX4 yX4_leftAfter rfl).1, (pz_nhc_RX4 yX4_leftAfter rfl).2, pz_ds10⟩ ⟨pz_wq891, pz_wq890, pz_wq11⟩ h1 h2 h3
noncomputable def k_X4_chance : pz_C := (2, 1, fun a M => (match a with | [.inl x, .inl y] => True | _ => False), fun a M r M' => (match a, r with | [.inl x, .inl y], some (.inl v) => (pz_chx x y v) ∧ M = M' | _, _ => False))
noncomputable abbrev ct_X4_chance : List (Bool × Nat × pz_C) := [(false, 33, k_X4_leftAfter)]
set_option maxRecDepth 100000 in
set_option maxHeartbeats 4000000 in
theorem h_X4_chance : pz_H yX4_chance cX4_chance 2 (some .int) k_X4_chance 2 44 := by
  refine pz_mk (own := RX4) (tb := t_X4_chance) (fl := pz_flf fl_RX4) (ci := pz_cif ci_RX4) (ct := pz_ctf ct_X4_chance) (rz := false) (pz_pfc_RX4 yX4_chance rfl) rfl t_X4_chance_ok (pz_flk fl_RX4_ok) (pz_cik ci_RX4_ok) ?_ ?_ (Or.inl ⟨rfl, rfl⟩) ?_ ?_
  · exact fun i k' h => pz_ctk (l := ct_X4_chance) (P := fun b i k => b = true → pz_cV 2 44 RX4 i k) (List.forall_mem_cons.mpr ⟨((fun z => by cases z)), fun _ h => absurd h List.not_mem_nil⟩) true i k' h rfl
  · exact fun i k' h => pz_ctk (l := ct_X4_chance) (P := fun b i k => b = false → (pz_cS 2 44 RX4 i k ∨ (k = pz_kac ∧ 1 ≤ 2 ∧ 60 ≤ 44 ∧ Cond.methodLink RX4 i arraycopyName ∈ pz_tbl))) (List.forall_mem_cons.mpr ⟨(fun _ => Or.inl (s_X4_leftAfter (by decide) (by decide) (Or.inl pz_wq889))), fun _ h => absurd h List.not_mem_nil⟩) false i k' h rfl
  · intro a M hlen hpre
    obtain ⟨x, y, rfl, hpre⟩ : ∃ x y, a = [.inl x, .inl y] ∧ (True) := by
      have hpre : (match (generalizing := false) a with | [.inl x, .inl y] => True | _ => False) := hpre
      split at hpre
      · exact ⟨_, _, rfl, hpre⟩
      · exact hpre.elim
    exact Nat.le_of_ble_eq_true rfl
  · intro a M hlen hcan hM hpre Ok hgo
    obtain ⟨x, y, rfl, hpre⟩ : ∃ x y, a = [.inl x, .inl y] ∧ (True) := by
      have hpre : (match (generalizing := false) a with | [.inl x, .inl y] => True | _ => False) := hpre
      split at hpre
      · exact ⟨_, _, rfl, hpre⟩
      · exact hpre.elim
    obtain ⟨k_x, hc_x⟩ := pz_tlm hcan
    have l_x : -2147483648 ≤ x := k_x.1
    have u_x : x ≤ 2147483647 := k_x.2
    obtain ⟨k_y, hc_y⟩ := pz_tlm hc_x
    have l_y : -2147483648 ≤ y := k_y.1
    have u_y : y ≤ 2147483647 := k_y.2
    refine hgo (fun _ => false) 8 0 _ [] M ?_
    refine And.intro (True.intro) ?_
    intro v4 M4 a4 b4 q4
    obtain ⟨q4, z4⟩ := q4
    subst z4
    intro v7 e7 a7 b7
    refine And.intro rfl ?_
    exact ⟨fun h0 h1 h2 => by
      have a := q4 h0 h1 h2
      have b := pz_lf_b h0 h1 y.toNat
      rw [pz_wi (by first | decide | omega) (by first | decide | omega)] at e7
      rw [e7, a], rfl⟩
theorem s_X4_chance {fr lo i : Nat} {own : String} (h1 : 2 + 1 ≤ fr) (h2 : 8 + (2 + 11) + 44 ≤ lo) (h3 : .methodLink own i yX4_chance ∈ lw_tbl ∨ (own = RX1 ∧ i = 35 ∧ yX4_chance = yX11_within)) : pz_cS fr lo own i k_X4_chance := pz_cSk (maxL := 2) (fr' := 2) (lo' := 44) 2 h_X4_chance rfl ⟨(pz_nhc_RX4 yX4_chance rfl).1, (pz_nhc_RX4 yX4_chance rfl).2, pz_ds10⟩ ⟨pz_wq928, pz_wq927, pz_wq11⟩ h1 h2 h3
noncomputable def k_X4_times : pz_C := (2, 1, fun a M => (match a with | [.inl x, .inl y] => True | _ => False), fun a M r M' => (match a, r with | [.inl x, .inl y], some (.inl v) => (pz_tmx x y v) ∧ M = M' | _, _ => False))
noncomputable abbrev ct_X4_times : List (Bool × Nat × pz_C) := []
set_option maxRecDepth 100000 in
set_option maxHeartbeats 4000000 in
theorem h_X4_times : pz_H yX4_times cX4_times 2 (some .int) k_X4_times 0 0 := by
  refine pz_mk (own := RX4) (tb := t_X4_times) (fl := pz_flf fl_RX4) (ci := pz_cif ci_RX4) (ct := pz_ctf ct_X4_times) (rz := false) (pz_pfc_RX4 yX4_times rfl) rfl t_X4_times_ok (pz_flk fl_RX4_ok) (pz_cik ci_RX4_ok) ?_ ?_ (Or.inl ⟨rfl, rfl⟩) ?_ ?_
  · exact fun i k' h => pz_ctk (l := ct_X4_times) (P := fun b i k => b = true → pz_cV 0 0 RX4 i k) (fun _ h => absurd h List.not_mem_nil) true i k' h rfl
  · exact fun i k' h => pz_ctk (l := ct_X4_times) (P := fun b i k => b = false → (pz_cS 0 0 RX4 i k ∨ (k = pz_kac ∧ 1 ≤ 0 ∧ 60 ≤ 0 ∧ Cond.methodLink RX4 i arraycopyName ∈ pz_tbl))) (fun _ h => absurd h List.not_mem_nil) false i k' h rfl
  · intro a M hlen hpre
    obtain ⟨x, y, rfl, hpre⟩ : ∃ x y, a = [.inl x, .inl y] ∧ (True) := by
      have hpre : (match (generalizing := false) a with | [.inl x, .inl y] => True | _ => False) := hpre
      split at hpre
      · exact ⟨_, _, rfl, hpre⟩
      · exact hpre.elim
    exact Nat.le_of_ble_eq_true rfl
  · intro a M hlen hcan hM hpre Ok hgo
    obtain ⟨x, y, rfl, hpre⟩ : ∃ x y, a = [.inl x, .inl y] ∧ (True) := by
      have hpre : (match (generalizing := false) a with | [.inl x, .inl y] => True | _ => False) := hpre
      split at hpre
      · exact ⟨_, _, rfl, hpre⟩
      · exact hpre.elim
    obtain ⟨k_x, hc_x⟩ := pz_tlm hcan
    have l_x : -2147483648 ≤ x := k_x.1
    have u_x : x ≤ 2147483647 := k_x.2
    obtain ⟨k_y, hc_y⟩ := pz_tlm hc_x
    have l_y : -2147483648 ≤ y := k_y.1
    have u_y : y ≤ 2147483647 := k_y.2
    refine hgo (fun _ => false) 11 0 _ [] M ?_
    intro v4 e4 a4 b4
    refine And.intro (by first | decide | omega) ?_
    intro v8 e8 a8 b8
    intro v9 e9 a9 b9
    refine And.intro rfl ?_
    refine ⟨fun h0 h1 h2 h3 => ?_, rfl⟩
    have B := pz_m9 (x := x) (y := y) (a := 1000000) (b := 1000000) h0 h1 h2 h3
    rw [pz_wli (by first | decide | omega) (by first | decide | omega)] at e4
    rw [e4, Int.tdiv_eq_ediv_of_nonneg (by first | decide | omega), pz_wli (by first | decide | omega) (by first | decide | omega)] at e8
    rw [e8, pz_wi (by first | decide | omega) (by first | decide | omega)] at e9
    exact e9
theorem s_X4_times {fr lo i : Nat} {own : String} (h1 : 0 + 1 ≤ fr) (h2 : 8 + (2 + 11) + 0 ≤ lo) (h3 : .methodLink own i yX4_times ∈ lw_tbl ∨ (own = RX1 ∧ i = 35 ∧ yX4_times = yX11_within)) : pz_cS fr lo own i k_X4_times := pz_cSk (maxL := 2) (fr' := 0) (lo' := 0) 2 h_X4_times rfl ⟨(pz_nhc_RX4 yX4_times rfl).1, (pz_nhc_RX4 yX4_times rfl).2, pz_ds10⟩ ⟨pz_wq911, pz_wq910, pz_wq11⟩ h1 h2 h3


noncomputable def k_X4_chanceOf : pz_C := (2, 1, fun a M => (match a with | [.inr (.inr (4, k)), .inl i] => True | _ => False), fun a M r M' => (match a, r with | [.inr (.inr (4, k)), .inl i], some (.inl v) => (True) ∧ M = M' | _, _ => False))
noncomputable abbrev ct_X4_chanceOf : List (Bool × Nat × pz_C) := []
set_option maxRecDepth 100000 in
set_option maxHeartbeats 4000000 in
theorem h_X4_chanceOf : pz_H yX4_chanceOf cX4_chanceOf 2 (some .int) k_X4_chanceOf 0 0 := by
  refine pz_mk (own := RX4) (tb := t_X4_chanceOf) (fl := pz_flf fl_RX4) (ci := pz_cif ci_RX4) (ct := pz_ctf ct_X4_chanceOf) (rz := false) (pz_pfc_RX4 yX4_chanceOf rfl) rfl t_X4_chanceOf_ok (pz_flk fl_RX4_ok) (pz_cik ci_RX4_ok) ?_ ?_ (Or.inl ⟨rfl, rfl⟩) ?_ ?_
  · exact fun i k' h => pz_ctk (l := ct_X4_chanceOf) (P := fun b i k => b = true → pz_cV 0 0 RX4 i k) (fun _ h => absurd h List.not_mem_nil) true i k' h rfl
  · exact fun i k' h => pz_ctk (l := ct_X4_chanceOf) (P := fun b i k => b = false → (pz_cS 0 0 RX4 i k ∨ (k = pz_kac ∧ 1 ≤ 0 ∧ 60 ≤ 0 ∧ Cond.methodLink RX4 i arraycopyName ∈ pz_tbl))) (fun _ h => absurd h List.not_mem_nil) false i k' h rfl
  · intro a M hlen hpre
    obtain ⟨k, i, rfl, hpre⟩ : ∃ k i, a = [.inr (.inr (4, k)), .inl i] ∧ (True) := by
      have hpre : (match (generalizing := false) a with | [.inr (.inr (4, k)), .inl i] => True | _ => False) := hpre
      split at hpre
      · exact ⟨_, _, rfl, hpre⟩
      · exact hpre.elim
    exact Nat.le_of_ble_eq_true rfl
  · intro a M hlen hcan hM hpre Ok hgo
    obtain ⟨k, i, rfl, hpre⟩ : ∃ k i, a = [.inr (.inr (4, k)), .inl i] ∧ (True) := by
      have hpre : (match (generalizing := false) a with | [.inr (.inr (4, k)), .inl i] => True | _ => False) := hpre
      split at hpre
      · exact ⟨_, _, rfl, hpre⟩
      · exact hpre.elim
    obtain ⟨k_k, hc_k⟩ := pz_tlm hcan
    have k_k : pz_kd k = 4 ∧ k < 231 := k_k
    have R_k := pz_kd4 k_k.1
    subst R_k
    obtain ⟨k_i, hc_i⟩ := pz_tlm hc_k
    have l_i : -2147483648 ≤ i := k_i.1
    have u_i : i ≤ 2147483647 := k_i.2
    refine hgo (fun _ => false) 16 0 _ [] M ?_
    refine And.intro (fun h1 => ?_) (fun h1 => ?_)
    · skip
      refine And.intro rfl ?_
      exact ⟨trivial, rfl⟩
    · skip
      refine And.intro (fun h7 => ?_) (fun h7 => ?_)
      · skip
        refine And.intro rfl ?_
        exact ⟨trivial, rfl⟩
      · skip
        intro r13 e13 k13
        have R13 := pz_kdA k13 (by decide) (by decide)
        have lo17 : (0 : Int) ≤ i := by omega
        have tn17 : (((i).toNat : Nat) : Int) = i := Int.toNat_of_nonneg lo17
        refine And.intro (lo17) (And.intro (show _ < (12 : Int) from by omega) ?_)
        intro v17 e17 a17 b17
        intro v18 e18 a18 b18
        try rw [pz_wi (by first | decide | omega) (by first | decide | omega)] at e18
        refine And.intro rfl ?_
        exact ⟨trivial, rfl⟩
theorem v_X4_chanceOf {fr lo i : Nat} {own : String} (h1 : 0 + 1 ≤ fr) (h2 : 8 + (2 + 11) + 0 ≤ lo) (h3 : .methodLink own i yX4_chanceOf ∈ lw_tbl) : pz_cV fr lo own i k_X4_chanceOf :=
  pz_cVk (maxL := 2) (fr' := 0) (lo' := 0) 1 4 h_X4_chanceOf rfl ⟨(pz_nhc_RX4 yX4_chanceOf rfl).1, (pz_nhc_RX4 yX4_chanceOf rfl).2, pz_ds5⟩ ⟨pz_wq908, pz_wq906, pz_wq907, pz_wq11⟩ (Or.inl ⟨TX4, 5, rfl⟩) (fun a M _ h => by
    have h : (match (generalizing := false) a with | [.inr (.inr (4, k)), .inl i] => True | _ => False) := h
    split at h
    · exact ⟨_, _, rfl⟩
    · exact h.elim) h1 h2 h3
noncomputable def k_X4_oddsWith : pz_C := (4, 1, fun a M => (match a with | [.inr (.inr (4, k)), .inr (.inr (0, c)), .inl o, .inl i] => True | _ => False), fun a M r M' => (match a, r with | [.inr (.inr (4, k)), .inr (.inr (0, c)), .inl o, .inl i], some (.inl v) => (True) ∧ M = M' | _, _ => False))
noncomputable abbrev ct_X4_oddsWith : List (Bool × Nat × pz_C) := [(true, 50, k_X0_at), (true, 61, k_X4_chanceOf), (false, 65, k_X4_times)]
set_option maxRecDepth 100000 in
set_option maxHeartbeats 4000000 in
theorem h_X4_oddsWith : pz_H yX4_oddsWith cX4_oddsWith 5 (some .int) k_X4_oddsWith 1 21 := by
  refine pz_mk (own := RX4) (tb := t_X4_oddsWith) (fl := pz_flf fl_RX4) (ci := pz_cif ci_RX4) (ct := pz_ctf ct_X4_oddsWith) (rz := false) (pz_pfc_RX4 yX4_oddsWith rfl) rfl t_X4_oddsWith_ok (pz_flk fl_RX4_ok) (pz_cik ci_RX4_ok) ?_ ?_ (Or.inl ⟨rfl, rfl⟩) ?_ ?_
  · exact fun i k' h => pz_ctk (l := ct_X4_oddsWith) (P := fun b i k => b = true → pz_cV 1 21 RX4 i k) (List.forall_mem_cons.mpr ⟨(fun _ => v_X0_at (by decide) (by decide) pz_wq904), List.forall_mem_cons.mpr ⟨(fun _ => v_X4_chanceOf (by decide) (by decide) pz_wq905), List.forall_mem_cons.mpr ⟨((fun z => by cases z)), fun _ h => absurd h List.not_mem_nil⟩⟩⟩) true i k' h rfl
  · exact fun i k' h => pz_ctk (l := ct_X4_oddsWith) (P := fun b i k => b = false → (pz_cS 1 21 RX4 i k ∨ (k = pz_kac ∧ 1 ≤ 1 ∧ 60 ≤ 21 ∧ Cond.methodLink RX4 i arraycopyName ∈ pz_tbl))) (List.forall_mem_cons.mpr ⟨((fun z => by cases z)), List.forall_mem_cons.mpr ⟨((fun z => by cases z)), List.forall_mem_cons.mpr ⟨(fun _ => Or.inl (s_X4_times (by decide) (by decide) (Or.inl pz_wq909))), fun _ h => absurd h List.not_mem_nil⟩⟩⟩) false i k' h rfl
  · intro a M hlen hpre
    obtain ⟨k, c, o, i, rfl, hpre⟩ : ∃ k c o i, a = [.inr (.inr (4, k)), .inr (.inr (0, c)), .inl o, .inl i] ∧ (True) := by
      have hpre : (match (generalizing := false) a with | [.inr (.inr (4, k)), .inr (.inr (0, c)), .inl o, .inl i] => True | _ => False) := hpre
      split at hpre
      · exact ⟨_, _, _, _, rfl, hpre⟩
      · exact hpre.elim
    exact Nat.le_of_ble_eq_true rfl
  · intro a M hlen hcan hM hpre Ok hgo
    obtain ⟨k, c, o, i, rfl, hpre⟩ : ∃ k c o i, a = [.inr (.inr (4, k)), .inr (.inr (0, c)), .inl o, .inl i] ∧ (True) := by
      have hpre : (match (generalizing := false) a with | [.inr (.inr (4, k)), .inr (.inr (0, c)), .inl o, .inl i] => True | _ => False) := hpre
      split at hpre
      · exact ⟨_, _, _, _, rfl, hpre⟩
      · exact hpre.elim
    obtain ⟨k_k, hc_k⟩ := pz_tlm hcan
    have k_k : pz_kd k = 4 ∧ k < 231 := k_k
    have R_k := pz_kd4 k_k.1
    subst R_k
    obtain ⟨k_c, hc_c⟩ := pz_tlm hc_k
    have k_c : pz_kd c = 0 ∧ c < 231 := k_c
    have R_c := pz_kd0 k_c.1
    obtain ⟨k_o, hc_o⟩ := pz_tlm hc_c
    have l_o : -2147483648 ≤ o := k_o.1
    have u_o : o ≤ 2147483647 := k_o.2
    obtain ⟨k_i, hc_i⟩ := pz_tlm hc_o
    have l_i : -2147483648 ≤ i := k_i.1
    have u_i : i ≤ 2147483647 := k_i.2
    refine hgo (fun _ => false) 22 0 _ [] M ?_
    refine And.intro (True.intro) ?_
    intro r2 M2 k2 q2
    have R2 := pz_kd5 k2
    obtain ⟨q2, z2⟩ := q2
    subst z2
    intro v9 e9 a9 b9
    refine And.intro (fun h12 => ?_) (fun h12 => ?_)
    · skip
      intro v19 e19 a19 b19
      refine And.intro (fun h22 => ?_) (fun h22 => ?_)
      · skip
        refine And.intro (True.intro) ?_
        intro v32 M32 a32 b32 q32
        obtain ⟨q32, z32⟩ := q32
        subst z32
        refine And.intro (True.intro) ?_
        intro v35 M35 a35 b35 q35
        obtain ⟨q35, z35⟩ := q35
        subst z35
        refine And.intro rfl ?_
        exact ⟨trivial, rfl⟩
      · skip
        refine And.intro rfl ?_
        exact ⟨trivial, rfl⟩
    · skip
      refine And.intro rfl ?_
      exact ⟨trivial, rfl⟩
theorem v_X4_oddsWith {fr lo i : Nat} {own : String} (h1 : 1 + 1 ≤ fr) (h2 : 8 + (5 + 11) + 21 ≤ lo) (h3 : .methodLink own i yX4_oddsWith ∈ lw_tbl) : pz_cV fr lo own i k_X4_oddsWith :=
  pz_cVk (maxL := 5) (fr' := 1) (lo' := 21) 3 4 h_X4_oddsWith rfl ⟨(pz_nhc_RX4 yX4_oddsWith rfl).1, (pz_nhc_RX4 yX4_oddsWith rfl).2, pz_ds36⟩ ⟨pz_wq903, pz_wq901, pz_wq902, pz_wq11⟩ (Or.inl ⟨TX4, 5, rfl⟩) (fun a M _ h => by
    have h : (match (generalizing := false) a with | [.inr (.inr (4, k)), .inr (.inr (0, c)), .inl o, .inl i] => True | _ => False) := h
    split at h
    · exact ⟨_, _, rfl⟩
    · exact h.elim) h1 h2 h3
noncomputable def k_X4_oddsOf : pz_C := (4, 1, fun a M => (match a with | [.inr (.inr (4, k)), .inr (.inr (0, c)), .inl i, .inl j] => pz_ic M ∧ j ≤ 1000 | _ => False), fun a M r M' => (match a, r with | [.inr (.inr (4, k)), .inr (.inr (0, c)), .inl i, .inl j], some (.inl v) => (True) ∧ M = M' | _, _ => False))
noncomputable abbrev ct_X4_oddsOf : List (Bool × Nat × pz_C) := [(true, 68, k_X4_oddsWith)]
set_option maxRecDepth 100000 in
set_option maxHeartbeats 4000000 in
theorem h_X4_oddsOf : pz_H yX4_oddsOf cX4_oddsOf 6 (some .int) k_X4_oddsOf 2 45 := by
  refine pz_mk (own := RX4) (tb := t_X4_oddsOf) (fl := pz_flf fl_RX4) (ci := pz_cif ci_RX4) (ct := pz_ctf ct_X4_oddsOf) (rz := false) (pz_pfc_RX4 yX4_oddsOf rfl) rfl t_X4_oddsOf_ok (pz_flk fl_RX4_ok) (pz_cik ci_RX4_ok) ?_ ?_ (Or.inl ⟨rfl, rfl⟩) ?_ ?_
  · exact fun i k' h => pz_ctk (l := ct_X4_oddsOf) (P := fun b i k => b = true → pz_cV 2 45 RX4 i k) (List.forall_mem_cons.mpr ⟨(fun _ => v_X4_oddsWith (by decide) (by decide) pz_wq900), fun _ h => absurd h List.not_mem_nil⟩) true i k' h rfl
  · exact fun i k' h => pz_ctk (l := ct_X4_oddsOf) (P := fun b i k => b = false → (pz_cS 2 45 RX4 i k ∨ (k = pz_kac ∧ 1 ≤ 2 ∧ 60 ≤ 45 ∧ Cond.methodLink RX4 i arraycopyName ∈ pz_tbl))) (List.forall_mem_cons.mpr ⟨((fun z => by cases z)), fun _ h => absurd h List.not_mem_nil⟩) false i k' h rfl
  · intro a M hlen hpre
    obtain ⟨k, c, i, j, rfl, hpre⟩ : ∃ k c i j, a = [.inr (.inr (4, k)), .inr (.inr (0, c)), .inl i, .inl j] ∧ (pz_ic M ∧ j ≤ 1000) := by
      have hpre : (match (generalizing := false) a with | [.inr (.inr (4, k)), .inr (.inr (0, c)), .inl i, .inl j] => pz_ic M ∧ j ≤ 1000 | _ => False) := hpre
      split at hpre
      · exact ⟨_, _, _, _, rfl, hpre⟩
      · exact hpre.elim
    exact Nat.le_of_ble_eq_true rfl
  · intro a M hlen hcan hM hpre Ok hgo
    obtain ⟨k, c, i, j, rfl, hpre⟩ : ∃ k c i j, a = [.inr (.inr (4, k)), .inr (.inr (0, c)), .inl i, .inl j] ∧ (pz_ic M ∧ j ≤ 1000) := by
      have hpre : (match (generalizing := false) a with | [.inr (.inr (4, k)), .inr (.inr (0, c)), .inl i, .inl j] => pz_ic M ∧ j ≤ 1000 | _ => False) := hpre
      split at hpre
      · exact ⟨_, _, _, _, rfl, hpre⟩
      · exact hpre.elim
    obtain ⟨k_k, hc_k⟩ := pz_tlm hcan
    have k_k : pz_kd k = 4 ∧ k < 231 := k_k
    have R_k := pz_kd4 k_k.1
    subst R_k
    obtain ⟨k_c, hc_c⟩ := pz_tlm hc_k
    have k_c : pz_kd c = 0 ∧ c < 231 := k_c
    have R_c := pz_kd0 k_c.1
    obtain ⟨k_i, hc_i⟩ := pz_tlm hc_c
    have l_i : -2147483648 ≤ i := k_i.1
    have u_i : i ≤ 2147483647 := k_i.2
    obtain ⟨k_j, hc_j⟩ := pz_tlm hc_i
    have l_j : -2147483648 ≤ j := k_j.1
    have u_j : j ≤ 2147483647 := k_j.2
    have hI : pz_ic M := hpre.1
    have L7 : ∀ (fu : Nat) (x4 : Int) (x5 : Int), (j + 1 - x5).toNat < fu → (-2147483648 ≤ x5) → Ok 7 [some (.inr (.inr (4, 6))), some (.inr (.inr (0, c))), some (.inl i), some (.inl j), some (.inl x4), some (.inl x5)] [] M := by
      intro fu
      induction fu with
      | zero => exact fun _ _ hn => absurd hn (Nat.not_lt_zero _)
      | succ fu ih7 =>
        intro x4 x5 hn7 g7_0
        refine hgo (fun p => Nat.beq p 7) 19 7 _ _ _ ?_
        refine And.intro (fun h10 => ?_) (fun h10 => ?_)
        · skip
          refine And.intro rfl ?_
          exact ⟨trivial, rfl⟩
        · skip
          refine And.intro (True.intro) ?_
          intro v19 M19 a19 b19 q19
          obtain ⟨q19, z19⟩ := q19
          subst z19
          intro v24 e24 a24 b24
          try rw [pz_wi (by first | decide | omega) (by first | decide | omega)] at e24
          exact ih7 _ _ (by first | decide | omega) (by first | decide | omega)
    refine hgo (fun p => Nat.beq p 7) 19 0 _ [] M ?_
    exact L7 _ _ _ (Nat.lt_succ_self _) (by first | decide | omega)
theorem v_X4_oddsOf {fr lo i : Nat} {own : String} (h1 : 2 + 1 ≤ fr) (h2 : 8 + (6 + 11) + 45 ≤ lo) (h3 : .methodLink own i yX4_oddsOf ∈ lw_tbl) : pz_cV fr lo own i k_X4_oddsOf :=
  pz_cVk (maxL := 6) (fr' := 2) (lo' := 45) 3 4 h_X4_oddsOf rfl ⟨(pz_nhc_RX4 yX4_oddsOf rfl).1, (pz_nhc_RX4 yX4_oddsOf rfl).2, pz_ds36⟩ ⟨pz_wq899, pz_wq897, pz_wq898, pz_wq11⟩ (Or.inl ⟨TX4, 5, rfl⟩) (fun a M _ h => by
    have h : (match (generalizing := false) a with | [.inr (.inr (4, k)), .inr (.inr (0, c)), .inl i, .inl j] => pz_ic M ∧ j ≤ 1000 | _ => False) := h
    split at h
    · exact ⟨_, _, rfl⟩
    · exact h.elim) h1 h2 h3
noncomputable def k_X4_holder : pz_C := (2, 1, fun a M => (match a with | [.inr (.inr (4, k)), .inr (.inr (0, c))] => pz_ic M | _ => False), fun a M r M' => (match a, r with | [.inr (.inr (4, k)), .inr (.inr (0, c))], some (.inl v) => (True) ∧ M = M' | _, _ => False))
noncomputable abbrev ct_X4_holder : List (Bool × Nat × pz_C) := [(true, 50, k_X0_at), (true, 61, k_X4_chanceOf)]
set_option maxRecDepth 100000 in
set_option maxHeartbeats 4000000 in
theorem h_X4_holder : pz_H yX4_holder cX4_holder 4 (some .int) k_X4_holder 1 21 := by
  refine pz_mk (own := RX4) (tb := t_X4_holder) (fl := pz_flf fl_RX4) (ci := pz_cif ci_RX4) (ct := pz_ctf ct_X4_holder) (rz := false) (pz_pfc_RX4 yX4_holder rfl) rfl t_X4_holder_ok (pz_flk fl_RX4_ok) (pz_cik ci_RX4_ok) ?_ ?_ (Or.inl ⟨rfl, rfl⟩) ?_ ?_
  · exact fun i k' h => pz_ctk (l := ct_X4_holder) (P := fun b i k => b = true → pz_cV 1 21 RX4 i k) (List.forall_mem_cons.mpr ⟨(fun _ => v_X0_at (by decide) (by decide) pz_wq904), List.forall_mem_cons.mpr ⟨(fun _ => v_X4_chanceOf (by decide) (by decide) pz_wq905), fun _ h => absurd h List.not_mem_nil⟩⟩) true i k' h rfl
  · exact fun i k' h => pz_ctk (l := ct_X4_holder) (P := fun b i k => b = false → (pz_cS 1 21 RX4 i k ∨ (k = pz_kac ∧ 1 ≤ 1 ∧ 60 ≤ 21 ∧ Cond.methodLink RX4 i arraycopyName ∈ pz_tbl))) (List.forall_mem_cons.mpr ⟨((fun z => by cases z)), List.forall_mem_cons.mpr ⟨((fun z => by cases z)), fun _ h => absurd h List.not_mem_nil⟩⟩) false i k' h rfl
  · intro a M hlen hpre
    obtain ⟨k, c, rfl, hpre⟩ : ∃ k c, a = [.inr (.inr (4, k)), .inr (.inr (0, c))] ∧ (pz_ic M) := by
      have hpre : (match (generalizing := false) a with | [.inr (.inr (4, k)), .inr (.inr (0, c))] => pz_ic M | _ => False) := hpre
      split at hpre
      · exact ⟨_, _, rfl, hpre⟩
      · exact hpre.elim
    exact Nat.le_of_ble_eq_true rfl
  · intro a M hlen hcan hM hpre Ok hgo
    obtain ⟨k, c, rfl, hpre⟩ : ∃ k c, a = [.inr (.inr (4, k)), .inr (.inr (0, c))] ∧ (pz_ic M) := by
      have hpre : (match (generalizing := false) a with | [.inr (.inr (4, k)), .inr (.inr (0, c))] => pz_ic M | _ => False) := hpre
      split at hpre
      · exact ⟨_, _, rfl, hpre⟩
      · exact hpre.elim
    obtain ⟨k_k, hc_k⟩ := pz_tlm hcan
    have k_k : pz_kd k = 4 ∧ k < 231 := k_k
    have R_k := pz_kd4 k_k.1
    subst R_k
    obtain ⟨k_c, hc_c⟩ := pz_tlm hc_k
    have k_c : pz_kd c = 0 ∧ c < 231 := k_c
    have R_c := pz_kd0 k_c.1
    have hI : pz_ic M := hpre
    have L4 : ∀ (fu : Nat) (x2 : Int) (x3 : Int), (12 - x3).toNat < fu → (0 ≤ x3) → Ok 4 [some (.inr (.inr (4, 6))), some (.inr (.inr (0, c))), some (.inl x2), some (.inl x3)] [] M := by
      intro fu
      induction fu with
      | zero => exact fun _ _ hn => absurd hn (Nat.not_lt_zero _)
      | succ fu ih4 =>
        intro x2 x3 hn4 g4_0
        refine hgo (fun p => Nat.beq p 4) 31 4 _ _ _ ?_
        intro v6 e6 a6 b6
        have I6 := hI.1 c (by first | decide | omega) (by first | decide | omega)
        refine And.intro (fun h9 => ?_) (fun h9 => ?_)
        · skip
          refine And.intro rfl ?_
          exact ⟨trivial, rfl⟩
        · skip
          refine And.intro (True.intro) ?_
          intro r14 M14 k14 q14
          have R14 := pz_kd5 k14
          obtain ⟨q14, z14⟩ := q14
          subst z14
          intro v17 e17 a17 b17
          refine And.intro (fun h20 => ?_) (fun h20 => ?_)
          · skip
            intro v43 e43 a43 b43
            try rw [pz_wi (by first | decide | omega) (by first | decide | omega)] at e43
            exact ih4 _ _ (by first | decide | omega) (by first | decide | omega)
          · skip
            refine And.intro (fun h25 => ?_) (fun h25 => ?_)
            · skip
              intro v43 e43 a43 b43
              try rw [pz_wi (by first | decide | omega) (by first | decide | omega)] at e43
              exact ih4 _ _ (by first | decide | omega) (by first | decide | omega)
            · skip
              refine And.intro (True.intro) ?_
              intro v30 M30 a30 b30 q30
              obtain ⟨q30, z30⟩ := q30
              subst z30
              refine And.intro (True.intro) ?_
              intro v35 M35 a35 b35 q35
              obtain ⟨q35, z35⟩ := q35
              subst z35
              refine And.intro (fun h38 => ?_) (fun h38 => ?_)
              · skip
                intro v43 e43 a43 b43
                try rw [pz_wi (by first | decide | omega) (by first | decide | omega)] at e43
                exact ih4 _ _ (by first | decide | omega) (by first | decide | omega)
              · skip
                intro v43 e43 a43 b43
                try rw [pz_wi (by first | decide | omega) (by first | decide | omega)] at e43
                exact ih4 _ _ (by first | decide | omega) (by first | decide | omega)
    refine hgo (fun p => Nat.beq p 4) 31 0 _ [] M ?_
    exact L4 _ _ _ (Nat.lt_succ_self _) (by first | decide | omega)
theorem v_X4_holder {fr lo i : Nat} {own : String} (h1 : 1 + 1 ≤ fr) (h2 : 8 + (4 + 11) + 21 ≤ lo) (h3 : .methodLink own i yX4_holder ∈ lw_tbl) : pz_cV fr lo own i k_X4_holder :=
  pz_cVk (maxL := 4) (fr' := 1) (lo' := 21) 1 4 h_X4_holder rfl ⟨(pz_nhc_RX4 yX4_holder rfl).1, (pz_nhc_RX4 yX4_holder rfl).2, pz_ds30⟩ ⟨pz_wq920, pz_wq918, pz_wq919, pz_wq11⟩ (Or.inl ⟨TX4, 5, rfl⟩) (fun a M _ h => by
    have h : (match (generalizing := false) a with | [.inr (.inr (4, k)), .inr (.inr (0, c))] => pz_ic M | _ => False) := h
    split at h
    · exact ⟨_, _, rfl⟩
    · exact h.elim) h1 h2 h3


noncomputable def k_X4_leastOdds : pz_C := (3, 1, fun a M => (match a with | [.inr (.inr (4, k)), .inr (.inr (0, c)), .inl i] => pz_ic M | _ => False), fun a M r M' => (match a, r with | [.inr (.inr (4, k)), .inr (.inr (0, c)), .inl i], some (.inl v) => (True) ∧ M = M' | _, _ => False))
noncomputable abbrev ct_X4_leastOdds : List (Bool × Nat × pz_C) := [(false, 78, k_J9_min_7cf53)]
set_option maxRecDepth 100000 in
set_option maxHeartbeats 4000000 in
theorem h_X4_leastOdds : pz_H yX4_leastOdds cX4_leastOdds 8 (some .int) k_X4_leastOdds 1 21 := by
  refine pz_mk (own := RX4) (tb := t_X4_leastOdds) (fl := pz_flf fl_RX4) (ci := pz_cif ci_RX4) (ct := pz_ctf ct_X4_leastOdds) (rz := false) (pz_pfc_RX4 yX4_leastOdds rfl) rfl t_X4_leastOdds_ok (pz_flk fl_RX4_ok) (pz_cik ci_RX4_ok) ?_ ?_ (Or.inl ⟨rfl, rfl⟩) ?_ ?_
  · exact fun i k' h => pz_ctk (l := ct_X4_leastOdds) (P := fun b i k => b = true → pz_cV 1 21 RX4 i k) (List.forall_mem_cons.mpr ⟨((fun z => by cases z)), fun _ h => absurd h List.not_mem_nil⟩) true i k' h rfl
  · exact fun i k' h => pz_ctk (l := ct_X4_leastOdds) (P := fun b i k => b = false → (pz_cS 1 21 RX4 i k ∨ (k = pz_kac ∧ 1 ≤ 1 ∧ 60 ≤ 21 ∧ Cond.methodLink RX4 i arraycopyName ∈ pz_tbl))) (List.forall_mem_cons.mpr ⟨(fun _ => Or.inl (s_J9_min_7cf53 (by decide) (by decide) (Or.inl pz_wq955))), fun _ h => absurd h List.not_mem_nil⟩) false i k' h rfl
  · intro a M hlen hpre
    obtain ⟨k, c, i, rfl, hpre⟩ : ∃ k c i, a = [.inr (.inr (4, k)), .inr (.inr (0, c)), .inl i] ∧ (pz_ic M) := by
      have hpre : (match (generalizing := false) a with | [.inr (.inr (4, k)), .inr (.inr (0, c)), .inl i] => pz_ic M | _ => False) := hpre
      split at hpre
      · exact ⟨_, _, _, rfl, hpre⟩
      · exact hpre.elim
    exact Nat.le_of_ble_eq_true rfl
  · intro a M hlen hcan hM hpre Ok hgo
    obtain ⟨k, c, i, rfl, hpre⟩ : ∃ k c i, a = [.inr (.inr (4, k)), .inr (.inr (0, c)), .inl i] ∧ (pz_ic M) := by
      have hpre : (match (generalizing := false) a with | [.inr (.inr (4, k)), .inr (.inr (0, c)), .inl i] => pz_ic M | _ => False) := hpre
      split at hpre
      · exact ⟨_, _, _, rfl, hpre⟩
      · exact hpre.elim
    obtain ⟨k_k, hc_k⟩ := pz_tlm hcan
    have k_k : pz_kd k = 4 ∧ k < 231 := k_k
    have R_k := pz_kd4 k_k.1
    subst R_k
    obtain ⟨k_c, hc_c⟩ := pz_tlm hc_k
    have k_c : pz_kd c = 0 ∧ c < 231 := k_c
    have R_c := pz_kd0 k_c.1
    obtain ⟨k_i, hc_i⟩ := pz_tlm hc_c
    have l_i : -2147483648 ≤ i := k_i.1
    have u_i : i ≤ 2147483647 := k_i.2
    have hI : pz_ic M := hpre
    have L9 : ∀ (fu : Nat) (x3 : Int) (x4 : Int) (x5 : Int) (d6 : Option pz_V) (d7 : Option pz_V), (12 - x5).toNat < fu → (0 ≤ x5) → (0 ≤ x4) → (x4 < 12) → Ok 9 [some (.inr (.inr (4, 6))), some (.inr (.inr (0, c))), some (.inl i), some (.inl x3), some (.inl x4), some (.inl x5), d6, d7] [] M := by
      intro fu
      induction fu with
      | zero => exact fun _ _ _ _ _ hn => absurd hn (Nat.not_lt_zero _)
      | succ fu ih9 =>
        intro x3 x4 x5 d6 d7 hn9 g9_0 g9_1 g9_2
        refine hgo (fun p => Nat.beq p 9) 54 9 _ _ _ ?_
        intro v12 e12 a12 b12
        have I12 := hI.1 c (by first | decide | omega) (by first | decide | omega)
        refine And.intro (fun h15 => ?_) (fun h15 => ?_)
        · skip
          refine And.intro rfl ?_
          exact ⟨trivial, rfl⟩
        · skip
          intro v22 e22 a22 b22
          try rw [pz_wi (by first | decide | omega) (by first | decide | omega)] at e22
          intro v25 e25 a25 b25
          try rw [pz_wi (by first | decide | omega) (by first | decide | omega)] at e25
          intro v31 e31 a31 b31
          have I31 := hI.1 c (by first | decide | omega) (by first | decide | omega)
          intro v35 e35 a35 b35
          try rw [pz_wi (by first | decide | omega) (by first | decide | omega)] at e35
          refine And.intro (fun h36 => ?_) (fun h36 => ?_)
          · skip
            refine And.intro (fun h57 => ?_) (fun h57 => ?_)
            · skip
              exact absurd h57 (by decide)
            · skip
              intro r63 e63 k63
              have R63 := pz_kdA k63 (by decide) (by decide)
              have Z66 : (((pz_ak 21).2 : Nat) : Int) = 144 := rfl
              refine And.intro (fun h67 => ?_) (fun h67 => ?_)
              · skip
                intro v86 e86 a86 b86
                try rw [pz_wi (by first | decide | omega) (by first | decide | omega)] at e86
                exact ih9 _ _ _ _ _ (by first | decide | omega) (by first | decide | omega) (by first | decide | omega) (by first | decide | omega)
              · skip
                intro r72 e72 k72
                have R72 := pz_kdA k72 (by decide) (by decide)
                have lo77 : (0 : Int) ≤ v25 := by omega
                have tn77 : (((v25).toNat : Nat) : Int) = v25 := Int.toNat_of_nonneg lo77
                refine And.intro (lo77) (And.intro (show _ < (144 : Int) from by omega) ?_)
                intro v77 e77 a77 b77
                refine And.intro (True.intro) ?_
                intro v78 M78 a78 b78 q78
                obtain ⟨q78, z78⟩ := q78
                subst z78
                intro v86 e86 a86 b86
                try rw [pz_wi (by first | decide | omega) (by first | decide | omega)] at e86
                exact ih9 _ _ _ _ _ (by first | decide | omega) (by first | decide | omega) (by first | decide | omega) (by first | decide | omega)
          · skip
            intro v42 e42 a42 b42
            intro v44 e44 a44 b44
            refine And.intro (fun h45 => ?_) (fun h45 => ?_)
            · skip
              refine And.intro (fun h57 => ?_) (fun h57 => ?_)
              · skip
                intro v86 e86 a86 b86
                try rw [pz_wi (by first | decide | omega) (by first | decide | omega)] at e86
                exact ih9 _ _ _ _ _ (by first | decide | omega) (by first | decide | omega) (by first | decide | omega) (by first | decide | omega)
              · skip
                exact absurd h57 (by decide)
            · skip
              refine And.intro (fun h57 => ?_) (fun h57 => ?_)
              · skip
                exact absurd h57 (by decide)
              · skip
                intro r63 e63 k63
                have R63 := pz_kdA k63 (by decide) (by decide)
                have Z66 : (((pz_ak 21).2 : Nat) : Int) = 144 := rfl
                refine And.intro (fun h67 => ?_) (fun h67 => ?_)
                · skip
                  intro v86 e86 a86 b86
                  try rw [pz_wi (by first | decide | omega) (by first | decide | omega)] at e86
                  exact ih9 _ _ _ _ _ (by first | decide | omega) (by first | decide | omega) (by first | decide | omega) (by first | decide | omega)
                · skip
                  intro r72 e72 k72
                  have R72 := pz_kdA k72 (by decide) (by decide)
                  have lo77 : (0 : Int) ≤ v25 := by omega
                  have tn77 : (((v25).toNat : Nat) : Int) = v25 := Int.toNat_of_nonneg lo77
                  refine And.intro (lo77) (And.intro (show _ < (144 : Int) from by omega) ?_)
                  intro v77 e77 a77 b77
                  refine And.intro (True.intro) ?_
                  intro v78 M78 a78 b78 q78
                  obtain ⟨q78, z78⟩ := q78
                  subst z78
                  intro v86 e86 a86 b86
                  try rw [pz_wi (by first | decide | omega) (by first | decide | omega)] at e86
                  exact ih9 _ _ _ _ _ (by first | decide | omega) (by first | decide | omega) (by first | decide | omega) (by first | decide | omega)
    refine hgo (fun p => Nat.beq p 9) 54 0 _ [] M ?_
    exact L9 _ _ _ _ _ _ (Nat.lt_succ_self _) (by first | decide | omega) (by first | decide | omega) (by first | decide | omega)
theorem v_X4_leastOdds {fr lo i : Nat} {own : String} (h1 : 1 + 1 ≤ fr) (h2 : 8 + (8 + 11) + 21 ≤ lo) (h3 : .methodLink own i yX4_leastOdds ∈ lw_tbl) : pz_cV fr lo own i k_X4_leastOdds :=
  pz_cVk (maxL := 8) (fr' := 1) (lo' := 21) 2 4 h_X4_leastOdds rfl ⟨(pz_nhc_RX4 yX4_leastOdds rfl).1, (pz_nhc_RX4 yX4_leastOdds rfl).2, pz_ds33⟩ ⟨pz_wq954, pz_wq952, pz_wq953, pz_wq11⟩ (Or.inl ⟨TX4, 5, rfl⟩) (fun a M _ h => by
    have h : (match (generalizing := false) a with | [.inr (.inr (4, k)), .inr (.inr (0, c)), .inl i] => pz_ic M | _ => False) := h
    split at h
    · exact ⟨_, _, rfl⟩
    · exact h.elim) h1 h2 h3
noncomputable def k_X4_costOf : pz_C := (3, 1, fun a M => (match a with | [.inr (.inr (4, k)), .inr (.inr (0, c)), .inl i] => pz_ic M | _ => False), fun a M r M' => (match a, r with | [.inr (.inr (4, k)), .inr (.inr (0, c)), .inl i], some (.inl v) => (True) ∧ M = M' | _, _ => False))
noncomputable abbrev ct_X4_costOf : List (Bool × Nat × pz_C) := []
set_option maxRecDepth 100000 in
set_option maxHeartbeats 4000000 in
theorem h_X4_costOf : pz_H yX4_costOf cX4_costOf 5 (some .int) k_X4_costOf 0 0 := by
  refine pz_mk (own := RX4) (tb := t_X4_costOf) (fl := pz_flf fl_RX4) (ci := pz_cif ci_RX4) (ct := pz_ctf ct_X4_costOf) (rz := false) (pz_pfc_RX4 yX4_costOf rfl) rfl t_X4_costOf_ok (pz_flk fl_RX4_ok) (pz_cik ci_RX4_ok) ?_ ?_ (Or.inl ⟨rfl, rfl⟩) ?_ ?_
  · exact fun i k' h => pz_ctk (l := ct_X4_costOf) (P := fun b i k => b = true → pz_cV 0 0 RX4 i k) (fun _ h => absurd h List.not_mem_nil) true i k' h rfl
  · exact fun i k' h => pz_ctk (l := ct_X4_costOf) (P := fun b i k => b = false → (pz_cS 0 0 RX4 i k ∨ (k = pz_kac ∧ 1 ≤ 0 ∧ 60 ≤ 0 ∧ Cond.methodLink RX4 i arraycopyName ∈ pz_tbl))) (fun _ h => absurd h List.not_mem_nil) false i k' h rfl
  · intro a M hlen hpre
    obtain ⟨k, c, i, rfl, hpre⟩ : ∃ k c i, a = [.inr (.inr (4, k)), .inr (.inr (0, c)), .inl i] ∧ (pz_ic M) := by
      have hpre : (match (generalizing := false) a with | [.inr (.inr (4, k)), .inr (.inr (0, c)), .inl i] => pz_ic M | _ => False) := hpre
      split at hpre
      · exact ⟨_, _, _, rfl, hpre⟩
      · exact hpre.elim
    exact Nat.le_of_ble_eq_true rfl
  · intro a M hlen hcan hM hpre Ok hgo
    obtain ⟨k, c, i, rfl, hpre⟩ : ∃ k c i, a = [.inr (.inr (4, k)), .inr (.inr (0, c)), .inl i] ∧ (pz_ic M) := by
      have hpre : (match (generalizing := false) a with | [.inr (.inr (4, k)), .inr (.inr (0, c)), .inl i] => pz_ic M | _ => False) := hpre
      split at hpre
      · exact ⟨_, _, _, rfl, hpre⟩
      · exact hpre.elim
    obtain ⟨k_k, hc_k⟩ := pz_tlm hcan
    have k_k : pz_kd k = 4 ∧ k < 231 := k_k
    have R_k := pz_kd4 k_k.1
    subst R_k
    obtain ⟨k_c, hc_c⟩ := pz_tlm hc_k
    have k_c : pz_kd c = 0 ∧ c < 231 := k_c
    have R_c := pz_kd0 k_c.1
    obtain ⟨k_i, hc_i⟩ := pz_tlm hc_c
    have l_i : -2147483648 ≤ i := k_i.1
    have u_i : i ≤ 2147483647 := k_i.2
    have hI : pz_ic M := hpre
    have L5 : ∀ (fu : Nat) (x3 : Int) (x4 : Int), (12 - x4).toNat < fu → (0 ≤ x4) → Ok 5 [some (.inr (.inr (4, 6))), some (.inr (.inr (0, c))), some (.inl i), some (.inl x3), some (.inl x4)] [] M := by
      intro fu
      induction fu with
      | zero => exact fun _ _ hn => absurd hn (Nat.not_lt_zero _)
      | succ fu ih5 =>
        intro x3 x4 hn5 g5_0
        refine hgo (fun p => Nat.beq p 5) 32 5 _ _ _ ?_
        intro v8 e8 a8 b8
        have I8 := hI.1 c (by first | decide | omega) (by first | decide | omega)
        refine And.intro (fun h11 => ?_) (fun h11 => ?_)
        · skip
          refine And.intro rfl ?_
          exact ⟨trivial, rfl⟩
        · skip
          refine And.intro (fun h18 => ?_) (fun h18 => ?_)
          · skip
            refine And.intro rfl ?_
            exact ⟨trivial, rfl⟩
          · skip
            intro v25 e25 a25 b25
            intro v27 e27 a27 b27
            refine And.intro (fun h28 => ?_) (fun h28 => ?_)
            · skip
              intro v42 e42 a42 b42
              try rw [pz_wi (by first | decide | omega) (by first | decide | omega)] at e42
              intro v44 e44 a44 b44
              try rw [pz_wi (by first | decide | omega) (by first | decide | omega)] at e44
              exact ih5 _ _ (by first | decide | omega) (by first | decide | omega)
            · skip
              intro r32 e32 k32
              have R32 := pz_kdA k32 (by decide) (by decide)
              have lo37 : (0 : Int) ≤ x4 := by omega
              have tn37 : (((x4).toNat : Nat) : Int) = x4 := Int.toNat_of_nonneg lo37
              refine And.intro (lo37) (And.intro (show _ < (12 : Int) from by omega) ?_)
              intro v37 e37 a37 b37
              intro v42 e42 a42 b42
              try rw [pz_wi (by first | decide | omega) (by first | decide | omega)] at e42
              intro v44 e44 a44 b44
              try rw [pz_wi (by first | decide | omega) (by first | decide | omega)] at e44
              exact ih5 _ _ (by first | decide | omega) (by first | decide | omega)
    refine hgo (fun p => Nat.beq p 5) 32 0 _ [] M ?_
    exact L5 _ _ _ (Nat.lt_succ_self _) (by first | decide | omega)
theorem v_X4_costOf {fr lo i : Nat} {own : String} (h1 : 0 + 1 ≤ fr) (h2 : 8 + (5 + 11) + 0 ≤ lo) (h3 : .methodLink own i yX4_costOf ∈ lw_tbl) : pz_cV fr lo own i k_X4_costOf :=
  pz_cVk (maxL := 5) (fr' := 0) (lo' := 0) 2 4 h_X4_costOf rfl ⟨(pz_nhc_RX4 yX4_costOf rfl).1, (pz_nhc_RX4 yX4_costOf rfl).2, pz_ds33⟩ ⟨pz_wq959, pz_wq957, pz_wq958, pz_wq11⟩ (Or.inl ⟨TX4, 5, rfl⟩) (fun a M _ h => by
    have h : (match (generalizing := false) a with | [.inr (.inr (4, k)), .inr (.inr (0, c)), .inl i] => pz_ic M | _ => False) := h
    split at h
    · exact ⟨_, _, rfl⟩
    · exact h.elim) h1 h2 h3

