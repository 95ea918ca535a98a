def k_X0_take : pz_C := (2, 0, fun a M => (match a with | [.inr (.inr (0, c)), .inr (.inr (0, o))] => pz_ic M | _ => False), fun a M r M' => (match a, r with | [.inr (.inr (0, c)), .inr (.inr (0, o))], none => (M' = pz_tf c o M) ∧ pz_rt M M' | _, _ => False))
abbrev ct_X0_take : List (Bool × Nat × pz_C) := [(true, 26, k_X5_take)]
set_option maxRecDepth 100000 in
set_option maxHeartbeats 4000000 in
theorem h_X0_take : pz_H yX0_take cX0_take 3 none k_X0_take 1 21 := by
  refine pz_mk (own := RX0) (tb := t_X0_take) (fl := pz_flf fl_RX0) (ci := pz_cif ci_RX0) (ct := pz_ctf ct_X0_take) (rz := false) (by decide +kernel) rfl t_X0_take_ok (pz_flk fl_RX0_ok) (pz_cik ci_RX0_ok) ?_ ?_ (rfl) ?_ ?_
  · exact fun i k' h => pz_ctk (l := ct_X0_take) (P := fun b i k => b = true → pz_cV 1 21 RX0 i k) (List.forall_mem_cons.mpr ⟨(fun _ => v_X5_take (by decide) (by decide) (pz_mt 470 (by decide +kernel))), fun _ h => absurd h List.not_mem_nil⟩) true i k' h rfl
  · exact fun i k' h => pz_ctk (l := ct_X0_take) (P := fun b i k => b = false → (pz_cS 1 21 RX0 i k ∨ (k = pz_kac ∧ 1 ≤ 1 ∧ 60 ≤ 21 ∧ Cond.methodLink RX0 i arraycopyName ∈ pz_tbl))) (List.forall_mem_cons.mpr ⟨((fun z => by cases z)), fun _ h => absurd h List.not_mem_nil⟩) false i k' h rfl
  · intro a M hlen hpre
    obtain ⟨c, o, rfl, hpre⟩ : ∃ c o, a = [.inr (.inr (0, c)), .inr (.inr (0, o))] ∧ (pz_ic M) := by
      have hpre : (match (generalizing := false) a with | [.inr (.inr (0, c)), .inr (.inr (0, o))] => pz_ic M | _ => False) := hpre
      split at hpre
      · exact ⟨_, _, rfl, hpre⟩
      · exact hpre.elim
    exact Nat.le_of_ble_eq_true rfl
  · intro a M hlen hcan hM hpre Ok hgo
    obtain ⟨c, o, rfl, hpre⟩ : ∃ c o, a = [.inr (.inr (0, c)), .inr (.inr (0, o))] ∧ (pz_ic M) := by
      have hpre : (match (generalizing := false) a with | [.inr (.inr (0, c)), .inr (.inr (0, o))] => pz_ic M | _ => False) := hpre
      split at hpre
      · exact ⟨_, _, rfl, hpre⟩
      · exact hpre.elim
    obtain ⟨k_c, hc_c⟩ := pz_tlm hcan
    have k_c : pz_kd c = 0 ∧ c < 231 := k_c
    have R_c := pz_kd0 k_c.1
    obtain ⟨k_o, hc_o⟩ := pz_tlm hc_c
    have k_o : pz_kd o = 0 ∧ o < 231 := k_o
    have R_o := pz_kd0 k_o.1
    have hI : pz_ic M := hpre
    have hI0 := hI
    have hS : pz_rt M M := pz_rt.rf
    have L2 : ∀ (fu : Nat) (x2 : Int) (N2 : pz_M), (12 - x2).toNat < fu → (pz_rt M N2) → (0 ≤ x2) → (x2 ≤ 12) → (N2 = pz_tn c o M x2.toNat 3) → Ok 2 [some (.inr (.inr (0, c))), some (.inr (.inr (0, o))), some (.inl x2)] [] N2 := by
      intro fu
      induction fu with
      | zero => exact fun _ _ hn => absurd hn (Nat.not_lt_zero _)
      | succ fu ih2 =>
        intro x2 N2 hn2 hS g2_1 g2_2 g2_3
        have hI : pz_ic N2 := hS hI0
        refine hgo (fun p => Nat.beq p 2) 39 2 _ _ _ ?_
        refine And.intro (fun h5 => ?_) (fun h5 => ?_)
        · skip
          intro v31 e31 a31 b31
          have I31 := hI.1 o (by omega) (by omega)
          have G26 : N2 = pz_tn c o M 12 3 := by
            rw [show (12 : Nat) = x2.toNat by omega]
            exact g2_3
          intro M34 e34
          have hS : pz_rt M M34 := by
            rw [e34]
            exact pz_rt_u hS (by unfold pz_iok; omega)
          have hI : pz_ic M34 := hS hI0
          have G34 := pz_tn_s (m := 3) R_c R_o (by omega) G26 e31 e34
          intro v39 e39 a39 b39
          intro M42 e42
          have hS : pz_rt M M42 := by
            rw [e42]
            exact pz_rt_u hS (by unfold pz_iok; omega)
          have hI : pz_ic M42 := hS hI0
          have G42 := pz_tn_s (m := 4) R_c R_o (by omega) G34 e39 e42
          intro v47 e47 a47 b47
          intro M50 e50
          have hS : pz_rt M M50 := by
            rw [e50]
            exact pz_rt_u hS (by unfold pz_iok; omega)
          have hI : pz_ic M50 := hS hI0
          have G50 := pz_tn_s (m := 5) R_c R_o (by omega) G42 e47 e50
          intro v55 e55 a55 b55
          intro M58 e58
          have hS : pz_rt M M58 := by
            rw [e58]
            exact pz_rt_u hS (by unfold pz_iok; omega)
          have hI : pz_ic M58 := hS hI0
          have G58 := pz_tn_s (m := 6) R_c R_o (by omega) G50 e55 e58
          intro v63 e63 a63 b63
          have I63 := hI.1 o (by omega) (by omega)
          intro M66 e66
          have hS : pz_rt M M66 := by
            rw [e66]
            exact pz_rt_u hS (by unfold pz_iok; omega)
          have hI : pz_ic M66 := hS hI0
          have G66 := pz_tn_s (m := 7) R_c R_o (by omega) G58 e63 e66
          refine And.intro rfl ?_
          exact ⟨G66, hS⟩
        · skip
          intro r9 e9 k9
          refine And.intro (by omega) (And.intro (show _ < (12 : Int) from by omega) ?_)
          intro r13 e13 k13
          have R13 := pz_kd5 k13
          intro r15 e15 k15
          refine And.intro (by omega) (And.intro (show _ < (12 : Int) from by omega) ?_)
          intro r19 e19 k19
          have R19 := pz_kd5 k19
          refine And.intro (hI) ?_
          intro M20 q20
          obtain ⟨q20, z20⟩ := q20
          have hS : pz_rt M M20 := hS.tr z20
          have hI : pz_ic M20 := hS hI0
          have G20 : M20 = pz_tn c o M (x2.toNat + 1) 3 := by
            rw [q20]
            exact pz_tn_l R_c R_o (by omega) g2_3 (by rw [e13, e9]; exact pz_rf_l R_c.1 R_c.2) (by rw [e19, e15]; exact pz_rf_l R_o.1 R_o.2)
          intro v23 e23 a23 b23
          try rw [pz_wi (by omega) (by omega)] at e23
          exact ih2 _ _ (by omega) hS (by first | omega | exact pz_tn_0 | (rw [show v23.toNat = x2.toNat + 1 by omega]; exact G20)) (by first | omega | exact pz_tn_0 | (rw [show v23.toNat = x2.toNat + 1 by omega]; exact G20)) (by first | omega | exact pz_tn_0 | (rw [show v23.toNat = x2.toNat + 1 by omega]; exact G20))
    refine hgo (fun p => Nat.beq p 2) 39 0 _ [] M ?_
    exact L2 _ _ _ (Nat.lt_succ_self _) hS (by first | omega | exact pz_tn_0 | (rw [show v23.toNat = x2.toNat + 1 by omega]; exact G20)) (by first | omega | exact pz_tn_0 | (rw [show v23.toNat = x2.toNat + 1 by omega]; exact G20)) (by first | omega | exact pz_tn_0 | (rw [show v23.toNat = x2.toNat + 1 by omega]; exact G20))
theorem v_X0_take {fr lo i : Nat} {own : String} (h1 : 1 + 1 ≤ fr) (h2 : 8 + (3 + 11) + 21 ≤ lo) (h3 : .methodLink own i yX0_take ∈ lw_tbl) : pz_cV fr lo own i k_X0_take :=
  pz_cVk (maxL := 3) (fr' := 1) (lo' := 21) 1 0 h_X0_take rfl ⟨by decide +kernel, by decide +kernel, by decide +kernel⟩ ⟨(pz_mt 469 (by decide +kernel)), (pz_mt 467 (by decide +kernel)), (pz_mt 468 (by decide +kernel)), (pz_mt 2 (by decide +kernel))⟩ (Or.inl ⟨TX0, 8, rfl⟩) (fun a M _ h => by
    have h : (match (generalizing := false) a with | [.inr (.inr (0, c)), .inr (.inr (0, o))] => pz_ic M | _ => False) := h
    split at h
    · exact ⟨_, _, rfl⟩
    · exact h.elim) h1 h2 h3
def k_X2_forgetAll : pz_C := (1, 0, fun a M => (match a with | [.inr (.inr (2, h))] => pz_ic M | _ => False), fun a M r M' => (match a, r with | [.inr (.inr (2, h))], none => (M' = pz_u M 3 2 0) ∧ pz_sW M M' | _, _ => False))
abbrev ct_X2_forgetAll : List (Bool × Nat × pz_C) := []
set_option maxRecDepth 100000 in
set_option maxHeartbeats 4000000 in
theorem h_X2_forgetAll : pz_H yX2_forgetAll cX2_forgetAll 1 none k_X2_forgetAll 0 0 := by
  refine pz_mk (own := RX2) (tb := t_X2_forgetAll) (fl := pz_flf fl_RX2) (ci := fun _ => none) (ct := pz_ctf ct_X2_forgetAll) (rz := false) (by decide +kernel) rfl t_X2_forgetAll_ok (pz_flk fl_RX2_ok) (fun i v h => by cases h) ?_ ?_ (rfl) ?_ ?_
  · exact fun i k' h => pz_ctk (l := ct_X2_forgetAll) (P := fun b i k => b = true → pz_cV 0 0 RX2 i k) (fun _ h => absurd h List.not_mem_nil) true i k' h rfl
  · exact fun i k' h => pz_ctk (l := ct_X2_forgetAll) (P := fun b i k => b = false → (pz_cS 0 0 RX2 i k ∨ (k = pz_kac ∧ 1 ≤ 0 ∧ 60 ≤ 0 ∧ Cond.methodLink RX2 i arraycopyName ∈ pz_tbl))) (fun _ h => absurd h List.not_mem_nil) false i k' h rfl
  · intro a M hlen hpre
    obtain ⟨h, rfl, hpre⟩ : ∃ h, a = [.inr (.inr (2, h))] ∧ (pz_ic M) := by
      have hpre : (match (generalizing := false) a with | [.inr (.inr (2, h))] => pz_ic M | _ => False) := hpre
      split at hpre
      · exact ⟨_, rfl, hpre⟩
      · exact hpre.elim
    exact Nat.le_of_ble_eq_true rfl
  · intro a M hlen hcan hM hpre Ok hgo
    obtain ⟨h, rfl, hpre⟩ : ∃ h, a = [.inr (.inr (2, h))] ∧ (pz_ic M) := by
      have hpre : (match (generalizing := false) a with | [.inr (.inr (2, h))] => pz_ic M | _ => False) := hpre
      split at hpre
      · exact ⟨_, rfl, hpre⟩
      · exact hpre.elim
    obtain ⟨k_h, hc_h⟩ := pz_tlm hcan
    have k_h : pz_kd h = 2 ∧ h < 231 := k_h
    have R_h := pz_kd2 k_h.1
    subst R_h
    have hI : pz_ic M := hpre
    have hI0 := hI
    have hS : pz_rt M M := pz_rt.rf
    refine hgo (fun _ => false) 6 0 _ [] M ?_
    intro M2 e2
    have hS : pz_rt M M2 := by
      rw [e2]
      exact pz_rt_u hS (by unfold pz_iok; omega)
    have hI : pz_ic M2 := hS hI0
    refine And.intro rfl ?_
    exact ⟨e2, by
      rw [e2] at hS ⊢
      exact pz_fg_sW hS⟩
theorem v_X2_forgetAll {fr lo i : Nat} {own : String} (h1 : 0 + 1 ≤ fr) (h2 : 8 + (1 + 11) + 0 ≤ lo) (h3 : .methodLink own i yX2_forgetAll ∈ lw_tbl) : pz_cV fr lo own i k_X2_forgetAll :=
  pz_cVk (maxL := 1) (fr' := 0) (lo' := 0) 0 2 h_X2_forgetAll rfl ⟨by decide +kernel, by decide +kernel, by decide +kernel⟩ ⟨(pz_mt 417 (by decide +kernel)), (pz_mt 415 (by decide +kernel)), (pz_mt 416 (by decide +kernel)), (pz_mt 8 (by decide +kernel))⟩ (Or.inl ⟨TX2, 3, rfl⟩) (fun a M _ h => by
    have h : (match (generalizing := false) a with | [.inr (.inr (2, h))] => pz_ic M | _ => False) := h
    split at h
    · exact ⟨_, _, rfl⟩
    · exact h.elim) h1 h2 h3
def k_X2_keep : pz_C := (2, 0, fun a M => (match a with | [.inr (.inr (2, h)), .inr (.inr (0, c))] => pz_ic M ∧ c = 71 | _ => False), fun a M r M' => (match a, r with | [.inr (.inr (2, h)), .inr (.inr (0, c))], none => (M' = pz_kf M) ∧ pz_sW M M' | _, _ => False))
abbrev ct_X2_keep : List (Bool × Nat × pz_C) := [(true, 27, k_X0_take), (false, 31, k_J9_min_7cf53)]
set_option maxRecDepth 100000 in
set_option maxHeartbeats 4000000 in
theorem h_X2_keep : pz_H yX2_keep cX2_keep 2 none k_X2_keep 2 43 := by
  refine pz_mk (own := RX2) (tb := t_X2_keep) (fl := pz_flf fl_RX2) (ci := fun _ => none) (ct := pz_ctf ct_X2_keep) (rz := false) (by decide +kernel) rfl t_X2_keep_ok (pz_flk fl_RX2_ok) (fun i v h => by cases h) ?_ ?_ (rfl) ?_ ?_
  · exact fun i k' h => pz_ctk (l := ct_X2_keep) (P := fun b i k => b = true → pz_cV 2 43 RX2 i k) (List.forall_mem_cons.mpr ⟨(fun _ => v_X0_take (by decide) (by decide) (pz_mt 466 (by decide +kernel))), List.forall_mem_cons.mpr ⟨((fun z => by cases z)), fun _ h => absurd h List.not_mem_nil⟩⟩) true i k' h rfl
  · exact fun i k' h => pz_ctk (l := ct_X2_keep) (P := fun b i k => b = false → (pz_cS 2 43 RX2 i k ∨ (k = pz_kac ∧ 1 ≤ 2 ∧ 60 ≤ 43 ∧ Cond.methodLink RX2 i arraycopyName ∈ pz_tbl))) (List.forall_mem_cons.mpr ⟨((fun z => by cases z)), List.forall_mem_cons.mpr ⟨(fun _ => Or.inl (s_J9_min_7cf53 (by decide) (by decide) (Or.inl (pz_mt 474 (by decide +kernel))))), fun _ h => absurd h List.not_mem_nil⟩⟩) false i k' h rfl
  · intro a M hlen hpre
    obtain ⟨h, c, rfl, hpre⟩ : ∃ h c, a = [.inr (.inr (2, h)), .inr (.inr (0, c))] ∧ (pz_ic M ∧ c = 71) := by
      have hpre : (match (generalizing := false) a with | [.inr (.inr (2, h)), .inr (.inr (0, c))] => pz_ic M ∧ c = 71 | _ => False) := hpre
      split at hpre
      · exact ⟨_, _, rfl, hpre⟩
      · exact hpre.elim
    exact Nat.le_of_ble_eq_true rfl
  · intro a M hlen hcan hM hpre Ok hgo
    obtain ⟨h, c, rfl, hpre⟩ : ∃ h c, a = [.inr (.inr (2, h)), .inr (.inr (0, c))] ∧ (pz_ic M ∧ c = 71) := by
      have hpre : (match (generalizing := false) a with | [.inr (.inr (2, h)), .inr (.inr (0, c))] => pz_ic M ∧ c = 71 | _ => False) := hpre
      split at hpre
      · exact ⟨_, _, rfl, hpre⟩
      · exact hpre.elim
    obtain ⟨k_h, hc_h⟩ := pz_tlm hcan
    have k_h : pz_kd h = 2 ∧ h < 231 := k_h
    have R_h := pz_kd2 k_h.1
    subst R_h
    obtain ⟨k_c, hc_c⟩ := pz_tlm hc_h
    have k_c : pz_kd c = 0 ∧ c < 231 := k_c
    have R_c := pz_kd0 k_c.1
    have hI : pz_ic M := hpre.1
    have hI0 := hI
    have hS : pz_rt M M := pz_rt.rf
    refine hgo (fun _ => false) 26 0 _ [] M ?_
    refine pz_nrc (c := 47) rfl ?_
    intro v5 e5 a5 b5
    have I5 := hI.2.1
    refine And.intro (by omega) (And.intro (show _ < (6 : Int) from by omega) ?_)
    intro r8 e8 k8
    have R8 := pz_kd0 k8
    refine And.intro (hI) ?_
    intro M10 q10
    obtain ⟨q10, z10⟩ := q10
    have hS : pz_rt M M10 := hS.tr z10
    have hI : pz_ic M10 := hS hI0
    intro v15 e15 a15 b15
    have I15 := hI.2.1
    intro v19 e19 a19 b19
    try rw [pz_wi (by omega) (by omega)] at e19
    refine And.intro (by omega) ?_
    intro v22 e22 a22 b22
    rw [Int.tmod_eq_emod_of_nonneg (by omega)] at e22
    rw [pz_wi (by omega) (by omega)] at e22
    intro M23 e23
    have hS : pz_rt M M23 := by
      rw [e23]
      exact pz_rt_u hS (by unfold pz_iok; omega)
    have hI : pz_ic M23 := hS hI0
    intro v28 e28 a28 b28
    intro v32 e32 a32 b32
    try rw [pz_wi (by omega) (by omega)] at e32
    refine And.intro (True.intro) ?_
    intro v35 M35 a35 b35 q35
    obtain ⟨q35, z35⟩ := q35
    subst z35
    intro M38 e38
    have hS : pz_rt M M38 := by
      rw [e38]
      exact pz_rt_u hS (by unfold pz_iok; omega)
    have hI : pz_ic M38 := hS hI0
    refine And.intro rfl ?_
    have Z1 : v15 = M 3 1 := by
      rw [e15, q10]
      exact pz_tf_o (by omega) (by unfold pz_lb; omega)
    have Z2 : v28 = M 3 2 := by
      rw [e28, e23, pz_unk (by decide), q10]
      exact pz_tf_o (by omega) (by unfold pz_lb; omega)
    have Z4 : v22 = (M 3 1 + 1) % 6 := by omega
    have Z5 : r8 = 74 + (M 3 1).toNat := by
      rw [e8, e5]
      rfl
    have Z6 : v35 = min (pz_w (M 3 2 + 1)) 6 := by
      rw [q35, e32, Z2]
    have F9 : M38 = pz_kf M := by
      rw [e38, e23, q10, Z4, Z5, Z6, hpre.2]
      rfl
    refine ⟨F9, ?_⟩
    rw [F9] at hS ⊢
    exact pz_kf_sW hI0 hS
theorem v_X2_keep {fr lo i : Nat} {own : String} (h1 : 2 + 1 ≤ fr) (h2 : 8 + (2 + 11) + 43 ≤ lo) (h3 : .methodLink own i yX2_keep ∈ lw_tbl) : pz_cV fr lo own i k_X2_keep :=
  pz_cVk (maxL := 2) (fr' := 2) (lo' := 43) 1 2 h_X2_keep rfl ⟨by decide +kernel, by decide +kernel, by decide +kernel⟩ ⟨(pz_mt 465 (by decide +kernel)), (pz_mt 463 (by decide +kernel)), (pz_mt 464 (by decide +kernel)), (pz_mt 8 (by decide +kernel))⟩ (Or.inl ⟨TX2, 3, rfl⟩) (fun a M _ h => by
    have h : (match (generalizing := false) a with | [.inr (.inr (2, h)), .inr (.inr (0, c))] => pz_ic M ∧ c = 71 | _ => False) := h
    split at h
    · exact ⟨_, _, rfl⟩
    · exact h.elim) h1 h2 h3
def k_X2_goBack : pz_C := (2, 1, fun a M => (match a with | [.inr (.inr (2, h)), .inr (.inr (0, c))] => pz_ic M ∧ c = 71 | _ => False), fun a M r M' => (match a, r with | [.inr (.inr (2, h)), .inr (.inr (0, c))], some (.inl v) => ((M 3 2 = 0 ∧ v = 0 ∧ M' = M) ∨ (M 3 2 ≠ 0 ∧ v = 1 ∧ M' = pz_bf M)) ∧ pz_sW M M' | _, _ => False))
abbrev ct_X2_goBack : List (Bool × Nat × pz_C) := [(true, 27, k_X0_take)]
set_option maxRecDepth 100000 in
set_option maxHeartbeats 4000000 in
theorem h_X2_goBack : pz_H yX2_goBack cX2_goBack 2 (some .boolean) k_X2_goBack 2 43 := by
  refine pz_mk (own := RX2) (tb := t_X2_goBack) (fl := pz_flf fl_RX2) (ci := fun _ => none) (ct := pz_ctf ct_X2_goBack) (rz := true) (by decide +kernel) rfl t_X2_goBack_ok (pz_flk fl_RX2_ok) (fun i v h => by cases h) ?_ ?_ (Or.inr ⟨rfl, rfl⟩) ?_ ?_
  · exact fun i k' h => pz_ctk (l := ct_X2_goBack) (P := fun b i k => b = true → pz_cV 2 43 RX2 i k) (List.forall_mem_cons.mpr ⟨(fun _ => v_X0_take (by decide) (by decide) (pz_mt 466 (by decide +kernel))), fun _ h => absurd h List.not_mem_nil⟩) true i k' h rfl
  · exact fun i k' h => pz_ctk (l := ct_X2_goBack) (P := fun b i k => b = false → (pz_cS 2 43 RX2 i k ∨ (k = pz_kac ∧ 1 ≤ 2 ∧ 60 ≤ 43 ∧ Cond.methodLink RX2 i arraycopyName ∈ pz_tbl))) (List.forall_mem_cons.mpr ⟨((fun z => by cases z)), fun _ h => absurd h List.not_mem_nil⟩) false i k' h rfl
  · intro a M hlen hpre
    obtain ⟨h, c, rfl, hpre⟩ : ∃ h c, a = [.inr (.inr (2, h)), .inr (.inr (0, c))] ∧ (pz_ic M ∧ c = 71) := by
      have hpre : (match (generalizing := false) a with | [.inr (.inr (2, h)), .inr (.inr (0, c))] => pz_ic M ∧ c = 71 | _ => False) := hpre
      split at hpre
      · exact ⟨_, _, rfl, hpre⟩
      · exact hpre.elim
    exact Nat.le_of_ble_eq_true rfl
  · intro a M hlen hcan hM hpre Ok hgo
    obtain ⟨h, c, rfl, hpre⟩ : ∃ h c, a = [.inr (.inr (2, h)), .inr (.inr (0, c))] ∧ (pz_ic M ∧ c = 71) := by
      have hpre : (match (generalizing := false) a with | [.inr (.inr (2, h)), .inr (.inr (0, c))] => pz_ic M ∧ c = 71 | _ => False) := hpre
      split at hpre
      · exact ⟨_, _, rfl, hpre⟩
      · exact hpre.elim
    obtain ⟨k_h, hc_h⟩ := pz_tlm hcan
    have k_h : pz_kd h = 2 ∧ h < 231 := k_h
    have R_h := pz_kd2 k_h.1
    subst R_h
    obtain ⟨k_c, hc_c⟩ := pz_tlm hc_h
    have k_c : pz_kd c = 0 ∧ c < 231 := k_c
    have R_c := pz_kd0 k_c.1
    have hI : pz_ic M := hpre.1
    have hI0 := hI
    have hS : pz_rt M M := pz_rt.rf
    refine hgo (fun _ => false) 32 0 _ [] M ?_
    intro v1 e1 a1 b1
    refine And.intro (fun h4 => ?_) (fun h4 => ?_)
    · skip
      intro v11 e11 a11 b11
      intro v15 e15 a15 b15
      try rw [pz_wi (by omega) (by omega)] at e15
      intro M16 e16
      have hS : pz_rt M M16 := by
        rw [e16]
        exact pz_rt_u hS (by unfold pz_iok; omega)
      have hI : pz_ic M16 := hS hI0
      intro v21 e21 a21 b21
      have I21 := hI.2.1
      intro v26 e26 a26 b26
      try rw [pz_wi (by omega) (by omega)] at e26
      intro v28 e28 a28 b28
      try rw [pz_wi (by omega) (by omega)] at e28
      refine And.intro (by omega) ?_
      intro v31 e31 a31 b31
      rw [Int.tmod_eq_emod_of_nonneg (by omega)] at e31
      rw [pz_wi (by omega) (by omega)] at e31
      intro M32 e32
      have hS : pz_rt M M32 := by
        rw [e32]
        exact pz_rt_u hS (by unfold pz_iok; omega)
      have hI : pz_ic M32 := hS hI0
      refine pz_nrc (c := 47) rfl ?_
      intro v41 e41 a41 b41
      have I41 := hI.2.1
      refine And.intro (by omega) (And.intro (show _ < (6 : Int) from by omega) ?_)
      intro r44 e44 k44
      have R44 := pz_kd0 k44
      refine And.intro (hI) ?_
      intro M45 q45
      obtain ⟨q45, z45⟩ := q45
      have hS : pz_rt M M45 := hS.tr z45
      have hI : pz_ic M45 := hS hI0
      refine And.intro (by omega) ?_
      refine And.intro rfl ?_
      have Z1 : v21 = M 3 1 := by
        rw [e21, e16]
        exact pz_unk (by decide)
      have Z4 : v31 = pz_bn M := by
        unfold pz_bn
        omega
      have Z5 : r44 = 74 + (pz_bn M).toNat := by
        rw [e44, e41, e32, pz_uu, Z4]
        rfl
      have F9 : M45 = pz_bf M := by
        rw [q45, Z5, e32, Z4, e16, e15, e11, hpre.2]
        rfl
      refine ⟨Or.inr ⟨by omega, rfl, F9⟩, ?_⟩
      rw [F9] at hS ⊢
      exact pz_bf_sW hI0 (by omega) hS
    · skip
      refine And.intro (by omega) ?_
      refine And.intro rfl ?_
      exact ⟨Or.inl ⟨by omega, rfl, rfl⟩, pz_sW.rf⟩
theorem v_X2_goBack {fr lo i : Nat} {own : String} (h1 : 2 + 1 ≤ fr) (h2 : 8 + (2 + 11) + 43 ≤ lo) (h3 : .methodLink own i yX2_goBack ∈ lw_tbl) : pz_cV fr lo own i k_X2_goBack :=
  pz_cVk (maxL := 2) (fr' := 2) (lo' := 43) 1 2 h_X2_goBack rfl ⟨by decide +kernel, by decide +kernel, by decide +kernel⟩ ⟨(pz_mt 1097 (by decide +kernel)), (pz_mt 1095 (by decide +kernel)), (pz_mt 1096 (by decide +kernel)), (pz_mt 8 (by decide +kernel))⟩ (Or.inl ⟨TX2, 3, rfl⟩) (fun a M _ h => by
    have h : (match (generalizing := false) a with | [.inr (.inr (2, h)), .inr (.inr (0, c))] => pz_ic M ∧ c = 71 | _ => False) := h
    split at h
    · exact ⟨_, _, rfl⟩
    · exact h.elim) h1 h2 h3
def k_X1_write : pz_C := (5, 0, fun a M => (match a with | [.inr (.inr (1, d)), .inr (.inr (0, c)), .inl w, .inl i, .inl n] => pz_ic M | _ => False), fun a M r M' => (match a, r with | [.inr (.inr (1, d)), .inr (.inr (0, c)), .inl w, .inl i, .inl n], none => (True) ∧ pz_st M M' | _, _ => False))
abbrev ct_X1_write : List (Bool × Nat × pz_C) := []
set_option maxRecDepth 100000 in
set_option maxHeartbeats 4000000 in
theorem h_X1_write : pz_H yX1_write cX1_write 6 none k_X1_write 0 0 := by
  refine pz_mk (own := RX1) (tb := t_X1_write) (fl := pz_flf fl_RX1) (ci := fun _ => none) (ct := pz_ctf ct_X1_write) (rz := false) (by decide +kernel) rfl t_X1_write_ok (pz_flk fl_RX1_ok) (fun i v h => by cases h) ?_ ?_ (rfl) ?_ ?_
  · exact fun i k' h => pz_ctk (l := ct_X1_write) (P := fun b i k => b = true → pz_cV 0 0 RX1 i k) (fun _ h => absurd h List.not_mem_nil) true i k' h rfl
  · exact fun i k' h => pz_ctk (l := ct_X1_write) (P := fun b i k => b = false → (pz_cS 0 0 RX1 i k ∨ (k = pz_kac ∧ 1 ≤ 0 ∧ 60 ≤ 0 ∧ Cond.methodLink RX1 i arraycopyName ∈ pz_tbl))) (fun _ h => absurd h List.not_mem_nil) false i k' h rfl
  · intro a M hlen hpre
    obtain ⟨d, c, w, i, n, rfl, hpre⟩ : ∃ d c w i n, a = [.inr (.inr (1, d)), .inr (.inr (0, c)), .inl w, .inl i, .inl n] ∧ (pz_ic M) := by
      have hpre : (match (generalizing := false) a with | [.inr (.inr (1, d)), .inr (.inr (0, c)), .inl w, .inl i, .inl n] => pz_ic M | _ => False) := hpre
      split at hpre
      · exact ⟨_, _, _, _, _, rfl, hpre⟩
      · exact hpre.elim
    exact Nat.le_of_ble_eq_true rfl
  · intro a M hlen hcan hM hpre Ok hgo
    obtain ⟨d, c, w, i, n, rfl, hpre⟩ : ∃ d c w i n, a = [.inr (.inr (1, d)), .inr (.inr (0, c)), .inl w, .inl i, .inl n] ∧ (pz_ic M) := by
      have hpre : (match (generalizing := false) a with | [.inr (.inr (1, d)), .inr (.inr (0, c)), .inl w, .inl i, .inl n] => pz_ic M | _ => False) := hpre
      split at hpre
      · exact ⟨_, _, _, _, _, rfl, hpre⟩
      · exact hpre.elim
    obtain ⟨k_d, hc_d⟩ := pz_tlm hcan
    have k_d : pz_kd d = 1 ∧ d < 231 := k_d
    have R_d := pz_kd1 k_d.1
    subst R_d
    obtain ⟨k_c, hc_c⟩ := pz_tlm hc_d
    have k_c : pz_kd c = 0 ∧ c < 231 := k_c
    have R_c := pz_kd0 k_c.1
    obtain ⟨k_w, hc_w⟩ := pz_tlm hc_c
    have l_w : -2147483648 ≤ w := k_w.1
    have u_w : w ≤ 2147483647 := k_w.2
    obtain ⟨k_i, hc_i⟩ := pz_tlm hc_w
    have l_i : -2147483648 ≤ i := k_i.1
    have u_i : i ≤ 2147483647 := k_i.2
    obtain ⟨k_n, hc_n⟩ := pz_tlm hc_i
    have l_n : -2147483648 ≤ n := k_n.1
    have u_n : n ≤ 2147483647 := k_n.2
    have hI : pz_ic M := hpre
    have hI0 := hI
    have hS : pz_st M M := pz_st.rf
    refine hgo (fun _ => false) 54 0 _ [] M ?_
    intro v1 e1 a1 b1
    have I1 := hI.1 c (by omega) (by omega)
    intro v5 e5 a5 b5
    try rw [pz_wi (by omega) (by omega)] at e5
    intro v9 e9 a9 b9
    refine And.intro (fun h12 => ?_) (fun h12 => ?_)
    · skip
      refine And.intro rfl ?_
      exact ⟨trivial, hS⟩
    · skip
      refine And.intro (fun h17 => ?_) (fun h17 => ?_)
      · skip
        refine And.intro rfl ?_
        exact ⟨trivial, hS⟩
      · skip
        intro v23 e23 a23 b23
        try rw [pz_wi (by omega) (by omega)] at e23
        intro r25 e25 k25
        have R25 := pz_kdA k25 (by decide) (by decide)
        have Q25 := pz_nm e25 k_d.1 (by decide) (by decide) rfl
        have W25 : r25 = 45 := e25
        have Z28 : (((pz_ak 13).2 : Nat) : Int) = 600 := rfl
        refine And.intro (fun h29 => ?_) (fun h29 => ?_)
        · skip
          intro r34 e34 k34
          have R34 := pz_kdA k34 (by decide) (by decide)
          have Q34 := pz_nm e34 k_d.1 (by decide) (by decide) rfl
          have W34 : r34 = 45 := e34
          intro v40 e40 a40 b40
          refine And.intro (by omega) (And.intro (show _ < (600 : Int) from by omega) ?_)
          intro M43 e43
          have hS : pz_st M M43 := by
            rw [e43]
            exact pz_st_u hS (by unfold pz_md pz_kx pz_mid; omega) (by omega) (by unfold pz_iok; omega)
          have hI : pz_ic M43 := hS.1.1 hI0
          have T43_0 := pz_uve e43 c 7
          intro r45 e45 k45
          have R45 := pz_kdA k45 (by decide) (by decide)
          have Q45 := pz_nm e45 k_d.1 (by decide) (by decide) rfl
          have W45 : r45 = 45 := e45
          intro v51 e51 a51 b51
          try rw [pz_wi (by omega) (by omega)] at e51
          refine And.intro (by omega) (And.intro (show _ < (600 : Int) from by omega) ?_)
          intro M53 e53
          have hS : pz_st M M53 := by
            rw [e53]
            exact pz_st_u hS (by unfold pz_md pz_kx pz_mid; omega) (by omega) (by unfold pz_iok; omega)
          have hI : pz_ic M53 := hS.1.1 hI0
          have T53_0 := pz_uve e53 c 7
          intro r55 e55 k55
          have R55 := pz_kdA k55 (by decide) (by decide)
          have Q55 := pz_nm e55 k_d.1 (by decide) (by decide) rfl
          have W55 : r55 = 45 := e55
          intro v61 e61 a61 b61
          try rw [pz_wi (by omega) (by omega)] at e61
          refine And.intro (by omega) (And.intro (show _ < (600 : Int) from by omega) ?_)
          intro M63 e63
          have hS : pz_st M M63 := by
            rw [e63]
            exact pz_st_u hS (by unfold pz_md pz_kx pz_mid; omega) (by omega) (by unfold pz_iok; omega)
          have hI : pz_ic M63 := hS.1.1 hI0
          have T63_0 := pz_uve e63 c 7
          intro r65 e65 k65
          have R65 := pz_kdA k65 (by decide) (by decide)
          have Q65 := pz_nm e65 k_d.1 (by decide) (by decide) rfl
          have W65 : r65 = 45 := e65
          intro v71 e71 a71 b71
          try rw [pz_wi (by omega) (by omega)] at e71
          refine And.intro (by omega) (And.intro (show _ < (600 : Int) from by omega) ?_)
          intro M74 e74
          have hS : pz_st M M74 := by
            rw [e74]
            exact pz_st_u hS (by unfold pz_md pz_kx pz_mid; omega) (by omega) (by unfold pz_iok; omega)
          have hI : pz_ic M74 := hS.1.1 hI0
          have T74_0 := pz_uve e74 c 7
          intro v77 e77 a77 b77
          have I77 := hI.1 c (by omega) (by omega)
          intro v81 e81 a81 b81
          try rw [pz_wi (by omega) (by omega)] at e81
          intro M82 e82
          have hS : pz_st M M82 := by
            rw [e82]
            exact pz_st_u hS (by unfold pz_md pz_kx pz_mid; omega) (by omega) (by unfold pz_iok; omega)
          have hI : pz_ic M82 := hS.1.1 hI0
          have T82_0 := pz_uve e82 c 7
          refine And.intro rfl ?_
          exact ⟨trivial, hS⟩
        · skip
          refine And.intro rfl ?_
          exact ⟨trivial, hS⟩
theorem v_X1_write {fr lo i : Nat} {own : String} (h1 : 0 + 1 ≤ fr) (h2 : 8 + (6 + 11) + 0 ≤ lo) (h3 : .methodLink own i yX1_write ∈ lw_tbl) : pz_cV fr lo own i k_X1_write :=
  pz_cVk (maxL := 6) (fr' := 0) (lo' := 0) 4 1 h_X1_write rfl ⟨by decide +kernel, by decide +kernel, by decide +kernel⟩ ⟨(pz_mt 520 (by decide +kernel)), (pz_mt 518 (by decide +kernel)), (pz_mt 519 (by decide +kernel)), (pz_mt 7 (by decide +kernel))⟩ (Or.inl ⟨TX1, 2, rfl⟩) (fun a M _ h => by
    have h : (match (generalizing := false) a with | [.inr (.inr (1, d)), .inr (.inr (0, c)), .inl w, .inl i, .inl n] => pz_ic M | _ => False) := h
    split at h
    · exact ⟨_, _, rfl⟩
    · exact h.elim) h1 h2 h3
def k_X1_canAsk : pz_C := (4, 1, fun a M => (match a with | [.inr (.inr (1, d)), .inr (.inr (0, c)), .inl i, .inl n] => pz_ic M | _ => False), fun a M r M' => (match a, r with | [.inr (.inr (1, d)), .inr (.inr (0, c)), .inl i, .inl n], some (.inl v) => (v = 0 ∨ v = 1) ∧ M = M' | _, _ => False))
abbrev ct_X1_canAsk : List (Bool × Nat × pz_C) := [(false, 35, k_X11_within), (true, 39, k_X0_at), (true, 43, k_X5_isIn)]
set_option maxRecDepth 100000 in
set_option maxHeartbeats 4000000 in
theorem h_X1_canAsk : pz_H yX1_canAsk cX1_canAsk 4 (some .boolean) k_X1_canAsk 1 22 := by
  refine pz_mk (own := RX1) (tb := t_X1_canAsk) (fl := pz_flf fl_RX1) (ci := fun _ => none) (ct := pz_ctf ct_X1_canAsk) (rz := true) (by decide +kernel) rfl t_X1_canAsk_ok (pz_flk fl_RX1_ok) (fun i v h => by cases h) ?_ ?_ (Or.inr ⟨rfl, rfl⟩) ?_ ?_
  · exact fun i k' h => pz_ctk (l := ct_X1_canAsk) (P := fun b i k => b = true → pz_cV 1 22 RX1 i k) (List.forall_mem_cons.mpr ⟨((fun z => by cases z)), List.forall_mem_cons.mpr ⟨(fun _ => v_X0_at (by decide) (by decide) (pz_mt 457 (by decide +kernel))), List.forall_mem_cons.mpr ⟨(fun _ => v_X5_isIn (by decide) (by decide) (pz_mt 458 (by decide +kernel))), fun _ h => absurd h List.not_mem_nil⟩⟩⟩) true i k' h rfl
  · exact fun i k' h => pz_ctk (l := ct_X1_canAsk) (P := fun b i k => b = false → (pz_cS 1 22 RX1 i k ∨ (k = pz_kac ∧ 1 ≤ 1 ∧ 60 ≤ 22 ∧ Cond.methodLink RX1 i arraycopyName ∈ pz_tbl))) (List.forall_mem_cons.mpr ⟨(fun _ => Or.inl (s_X11_within (by decide) (by decide) (Or.inr ⟨rfl, rfl, rfl⟩))), List.forall_mem_cons.mpr ⟨((fun z => by cases z)), List.forall_mem_cons.mpr ⟨((fun z => by cases z)), fun _ h => absurd h List.not_mem_nil⟩⟩⟩) false i k' h rfl
  · intro a M hlen hpre
    obtain ⟨d, c, i, n, rfl, hpre⟩ : ∃ d c i n, a = [.inr (.inr (1, d)), .inr (.inr (0, c)), .inl i, .inl n] ∧ (pz_ic M) := by
      have hpre : (match (generalizing := false) a with | [.inr (.inr (1, d)), .inr (.inr (0, c)), .inl i, .inl n] => pz_ic M | _ => False) := hpre
      split at hpre
      · exact ⟨_, _, _, _, rfl, hpre⟩
      · exact hpre.elim
    exact Nat.le_of_ble_eq_true rfl
  · intro a M hlen hcan hM hpre Ok hgo
    obtain ⟨d, c, i, n, rfl, hpre⟩ : ∃ d c i n, a = [.inr (.inr (1, d)), .inr (.inr (0, c)), .inl i, .inl n] ∧ (pz_ic M) := by
      have hpre : (match (generalizing := false) a with | [.inr (.inr (1, d)), .inr (.inr (0, c)), .inl i, .inl n] => pz_ic M | _ => False) := hpre
      split at hpre
      · exact ⟨_, _, _, _, rfl, hpre⟩
      · exact hpre.elim
    obtain ⟨k_d, hc_d⟩ := pz_tlm hcan
    have k_d : pz_kd d = 1 ∧ d < 231 := k_d
    have R_d := pz_kd1 k_d.1
    subst R_d
    obtain ⟨k_c, hc_c⟩ := pz_tlm hc_d
    have k_c : pz_kd c = 0 ∧ c < 231 := k_c
    have R_c := pz_kd0 k_c.1
    obtain ⟨k_i, hc_i⟩ := pz_tlm hc_c
    have l_i : -2147483648 ≤ i := k_i.1
    have u_i : i ≤ 2147483647 := k_i.2
    obtain ⟨k_n, hc_n⟩ := pz_tlm hc_i
    have l_n : -2147483648 ≤ n := k_n.1
    have u_n : n ≤ 2147483647 := k_n.2
    have hI : pz_ic M := hpre
    refine hgo (fun _ => false) 26 0 _ [] M ?_
    refine And.intro (fun h1 => ?_) (fun h1 => ?_)
    · skip
      refine And.intro (by omega) ?_
      refine And.intro rfl ?_
      exact ⟨by omega, rfl⟩
    · skip
      intro v6 e6 a6 b6
      have I6 := hI.1 c (by omega) (by omega)
      intro v10 e10 a10 b10
      try rw [pz_wi (by omega) (by omega)] at e10
      refine And.intro (fun h11 => ?_) (fun h11 => ?_)
      · skip
        refine And.intro (by omega) ?_
        refine And.intro rfl ?_
        exact ⟨by omega, rfl⟩
      · skip
        refine And.intro (True.intro) ?_
        intro v18 M18 a18 b18 q18
        obtain ⟨q18, z18⟩ := q18
        subst z18
        refine And.intro (fun h21 => ?_) (fun h21 => ?_)
        · skip
          refine And.intro (by omega) ?_
          refine And.intro rfl ?_
          exact ⟨by omega, rfl⟩
        · skip
          intro v27 e27 a27 b27
          try rw [pz_wi (by omega) (by omega)] at e27
          refine And.intro (True.intro) ?_
          intro r28 M28 k28 q28
          have R28 := pz_kd5 k28
          obtain ⟨q28, z28⟩ := q28
          subst z28
          refine And.intro (True.intro) ?_
          intro v31 M31 a31 b31 q31
          obtain ⟨q31, z31⟩ := q31
          subst z31
          refine And.intro (fun h34 => ?_) (fun h34 => ?_)
          · skip
            refine And.intro (by omega) ?_
            refine And.intro rfl ?_
            exact ⟨by omega, rfl⟩
          · skip
            refine And.intro (by omega) ?_
            refine And.intro rfl ?_
            exact ⟨by omega, rfl⟩
theorem v_X1_canAsk {fr lo i : Nat} {own : String} (h1 : 1 + 1 ≤ fr) (h2 : 8 + (4 + 11) + 22 ≤ lo) (h3 : .methodLink own i yX1_canAsk ∈ lw_tbl) : pz_cV fr lo own i k_X1_canAsk :=
  pz_cVk (maxL := 4) (fr' := 1) (lo' := 22) 3 1 h_X1_canAsk rfl ⟨by decide +kernel, by decide +kernel, by decide +kernel⟩ ⟨(pz_mt 455 (by decide +kernel)), (pz_mt 453 (by decide +kernel)), (pz_mt 454 (by decide +kernel)), (pz_mt 7 (by decide +kernel))⟩ (Or.inl ⟨TX1, 2, rfl⟩) (fun a M _ h => by
    have h : (match (generalizing := false) a with | [.inr (.inr (1, d)), .inr (.inr (0, c)), .inl i, .inl n] => pz_ic M | _ => False) := h
    split at h
    · exact ⟨_, _, rfl⟩
    · exact h.elim) h1 h2 h3
def k_X0_happens : pz_C := (2, 1, fun a M => (match a with | [.inr (.inr (0, c)), .inl ch] => pz_ic M | _ => False), fun a M r M' => (match a, r with | [.inr (.inr (0, c)), .inl ch], some (.inl v) => (v = 0 ∨ v = 1) ∧ pz_st M M' | _, _ => False))
abbrev ct_X0_happens : List (Bool × Nat × pz_C) := []
set_option maxRecDepth 100000 in
set_option maxHeartbeats 4000000 in
theorem h_X0_happens : pz_H yX0_happens cX0_happens 2 (some .boolean) k_X0_happens 0 0 := by
  refine pz_mk (own := RX0) (tb := t_X0_happens) (fl := pz_flf fl_RX0) (ci := pz_cif ci_RX0) (ct := pz_ctf ct_X0_happens) (rz := true) (by decide +kernel) rfl t_X0_happens_ok (pz_flk fl_RX0_ok) (pz_cik ci_RX0_ok) ?_ ?_ (Or.inr ⟨rfl, rfl⟩) ?_ ?_
  · exact fun i k' h => pz_ctk (l := ct_X0_happens) (P := fun b i k => b = true → pz_cV 0 0 RX0 i k) (fun _ h => absurd h List.not_mem_nil) true i k' h rfl
  · exact fun i k' h => pz_ctk (l := ct_X0_happens) (P := fun b i k => b = false → (pz_cS 0 0 RX0 i k ∨ (k = pz_kac ∧ 1 ≤ 0 ∧ 60 ≤ 0 ∧ Cond.methodLink RX0 i arraycopyName ∈ pz_tbl))) (fun _ h => absurd h List.not_mem_nil) false i k' h rfl
  · intro a M hlen hpre
    obtain ⟨c, ch, rfl, hpre⟩ : ∃ c ch, a = [.inr (.inr (0, c)), .inl ch] ∧ (pz_ic M) := by
      have hpre : (match (generalizing := false) a with | [.inr (.inr (0, c)), .inl ch] => pz_ic M | _ => False) := hpre
      split at hpre
      · exact ⟨_, _, rfl, hpre⟩
      · exact hpre.elim
    exact Nat.le_of_ble_eq_true rfl
  · intro a M hlen hcan hM hpre Ok hgo
    obtain ⟨c, ch, rfl, hpre⟩ : ∃ c ch, a = [.inr (.inr (0, c)), .inl ch] ∧ (pz_ic M) := by
      have hpre : (match (generalizing := false) a with | [.inr (.inr (0, c)), .inl ch] => pz_ic M | _ => False) := hpre
      split at hpre
      · exact ⟨_, _, rfl, hpre⟩
      · exact hpre.elim
    obtain ⟨k_c, hc_c⟩ := pz_tlm hcan
    have k_c : pz_kd c = 0 ∧ c < 231 := k_c
    have R_c := pz_kd0 k_c.1
    obtain ⟨k_ch, hc_ch⟩ := pz_tlm hc_c
    have l_ch : -2147483648 ≤ ch := k_ch.1
    have u_ch : ch ≤ 2147483647 := k_ch.2
    have hI : pz_ic M := hpre
    have hI0 := hI
    have hS : pz_st M M := pz_st.rf
    refine hgo (fun _ => false) 32 0 _ [] M ?_
    intro v1 e1 a1 b1
    refine And.intro (fun h4 => ?_) (fun h4 => ?_)
    · skip
      intro v22 e22 a22 b22
      intro v27 e27 a27 b27
      try rw [pz_wi (by omega) (by omega)] at e27
      intro v30 e30 a30 b30
      try rw [pz_wi (by omega) (by omega)] at e30
      intro M31 e31
      have hS : pz_st M M31 := by
        rw [e31]
        exact pz_st_u hS (by unfold pz_md pz_kx pz_mid; omega) (by omega) (by unfold pz_iok; omega)
      have hI : pz_ic M31 := hS.1.1 hI0
      intro v35 e35 a35 b35
      intro v40 e40 a40 b40
      refine And.intro (by omega) ?_
      intro v44 e44 a44 b44
      refine And.intro (fun h46 => ?_) (fun h46 => ?_)
      · skip
        refine And.intro (by omega) ?_
        refine And.intro rfl ?_
        exact ⟨by omega, hS⟩
      · skip
        refine And.intro (by omega) ?_
        refine And.intro rfl ?_
        exact ⟨by omega, hS⟩
    · skip
      refine And.intro (fun h11 => ?_) (fun h11 => ?_)
      · skip
        refine And.intro (by omega) ?_
        refine And.intro rfl ?_
        exact ⟨by omega, hS⟩
      · skip
        refine And.intro (by omega) ?_
        refine And.intro rfl ?_
        exact ⟨by omega, hS⟩
theorem v_X0_happens {fr lo i : Nat} {own : String} (h1 : 0 + 1 ≤ fr) (h2 : 8 + (2 + 11) + 0 ≤ lo) (h3 : .methodLink own i yX0_happens ∈ lw_tbl) : pz_cV fr lo own i k_X0_happens :=
  pz_cVk (maxL := 2) (fr' := 0) (lo' := 0) 1 0 h_X0_happens rfl ⟨by decide +kernel, by decide +kernel, by decide +kernel⟩ ⟨(pz_mt 594 (by decide +kernel)), (pz_mt 592 (by decide +kernel)), (pz_mt 593 (by decide +kernel)), (pz_mt 2 (by decide +kernel))⟩ (Or.inl ⟨TX0, 8, rfl⟩) (fun a M _ h => by
    have h : (match (generalizing := false) a with | [.inr (.inr (0, c)), .inl ch] => pz_ic M | _ => False) := h
    split at h
    · exact ⟨_, _, rfl⟩
    · exact h.elim) h1 h2 h3
def k_X1_askFor : pz_C := (4, 1, fun a M => (match a with | [.inr (.inr (1, d)), .inr (.inr (0, c)), .inl i, .inl n] => pz_ic M | _ => False), fun a M r M' => (match a, r with | [.inr (.inr (1, d)), .inr (.inr (0, c)), .inl i, .inl n], some (.inl v) => (True) ∧ pz_st M M' | _, _ => False))
abbrev ct_X1_askFor : List (Bool × Nat × pz_C) := [(true, 39, k_X0_at), (false, 52, k_J9_min_7cf53), (true, 64, k_X3_tells), (false, 73, k_J9_max_7cf53), (true, 76, k_X1_write)]
set_option maxRecDepth 100000 in
set_option maxHeartbeats 4000000 in
theorem h_X1_askFor : pz_H yX1_askFor cX1_askFor 6 (some .int) k_X1_askFor 4 97 := by
  refine pz_mk (own := RX1) (tb := t_X1_askFor) (fl := pz_flf fl_RX1) (ci := fun _ => none) (ct := pz_ctf ct_X1_askFor) (rz := false) (by decide +kernel) rfl t_X1_askFor_ok (pz_flk fl_RX1_ok) (fun i v h => by cases h) ?_ ?_ (Or.inl ⟨rfl, rfl⟩) ?_ ?_
  · exact fun i k' h => pz_ctk (l := ct_X1_askFor) (P := fun b i k => b = true → pz_cV 4 97 RX1 i k) (List.forall_mem_cons.mpr ⟨(fun _ => v_X0_at (by decide) (by decide) (pz_mt 457 (by decide +kernel))), List.forall_mem_cons.mpr ⟨((fun z => by cases z)), List.forall_mem_cons.mpr ⟨(fun _ => v_X3_tells (by decide) (by decide) (pz_mt 482 (by decide +kernel))), List.forall_mem_cons.mpr ⟨((fun z => by cases z)), List.forall_mem_cons.mpr ⟨(fun _ => v_X1_write (by decide) (by decide) (pz_mt 517 (by decide +kernel))), fun _ h => absurd h List.not_mem_nil⟩⟩⟩⟩⟩) true i k' h rfl
  · exact fun i k' h => pz_ctk (l := ct_X1_askFor) (P := fun b i k => b = false → (pz_cS 4 97 RX1 i k ∨ (k = pz_kac ∧ 1 ≤ 4 ∧ 60 ≤ 97 ∧ Cond.methodLink RX1 i arraycopyName ∈ pz_tbl))) (List.forall_mem_cons.mpr ⟨((fun z => by cases z)), List.forall_mem_cons.mpr ⟨(fun _ => Or.inl (s_J9_min_7cf53 (by decide) (by decide) (Or.inl (pz_mt 481 (by decide +kernel))))), List.forall_mem_cons.mpr ⟨((fun z => by cases z)), List.forall_mem_cons.mpr ⟨(fun _ => Or.inl (s_J9_max_7cf53 (by decide) (by decide) (Or.inl (pz_mt 516 (by decide +kernel))))), List.forall_mem_cons.mpr ⟨((fun z => by cases z)), fun _ h => absurd h List.not_mem_nil⟩⟩⟩⟩⟩) false i k' h rfl
  · intro a M hlen hpre
    obtain ⟨d, c, i, n, rfl, hpre⟩ : ∃ d c i n, a = [.inr (.inr (1, d)), .inr (.inr (0, c)), .inl i, .inl n] ∧ (pz_ic M) := by
      have hpre : (match (generalizing := false) a with | [.inr (.inr (1, d)), .inr (.inr (0, c)), .inl i, .inl n] => pz_ic M | _ => False) := hpre
      split at hpre
      · exact ⟨_, _, _, _, rfl, hpre⟩
      · exact hpre.elim
    exact Nat.le_of_ble_eq_true rfl
  · intro a M hlen hcan hM hpre Ok hgo
    obtain ⟨d, c, i, n, rfl, hpre⟩ : ∃ d c i n, a = [.inr (.inr (1, d)), .inr (.inr (0, c)), .inl i, .inl n] ∧ (pz_ic M) := by
      have hpre : (match (generalizing := false) a with | [.inr (.inr (1, d)), .inr (.inr (0, c)), .inl i, .inl n] => pz_ic M | _ => False) := hpre
      split at hpre
      · exact ⟨_, _, _, _, rfl, hpre⟩
      · exact hpre.elim
    obtain ⟨k_d, hc_d⟩ := pz_tlm hcan
    have k_d : pz_kd d = 1 ∧ d < 231 := k_d
    have R_d := pz_kd1 k_d.1
    subst R_d
    obtain ⟨k_c, hc_c⟩ := pz_tlm hc_d
    have k_c : pz_kd c = 0 ∧ c < 231 := k_c
    have R_c := pz_kd0 k_c.1
    obtain ⟨k_i, hc_i⟩ := pz_tlm hc_c
    have l_i : -2147483648 ≤ i := k_i.1
    have u_i : i ≤ 2147483647 := k_i.2
    obtain ⟨k_n, hc_n⟩ := pz_tlm hc_i
    have l_n : -2147483648 ≤ n := k_n.1
    have u_n : n ≤ 2147483647 := k_n.2
    have hI : pz_ic M := hpre
    have hI0 := hI
    have hS : pz_st M M := pz_st.rf
    refine hgo (fun _ => false) 49 0 _ [] M ?_
    intro v3 e3 a3 b3
    try rw [pz_wi (by omega) (by omega)] at e3
    refine And.intro (True.intro) ?_
    intro r4 M4 k4 q4
    have R4 := pz_kd5 k4
    obtain ⟨q4, z4⟩ := q4
    subst z4
    intro v12 e12 a12 b12
    intro v16 e16 a16 b16
    try rw [pz_wi (by omega) (by omega)] at e16
    refine And.intro (True.intro) ?_
    intro v17 M17 a17 b17 q17
    obtain ⟨q17, z17⟩ := q17
    subst z17
    intro r21 e21 k21
    have R21 := pz_kd10 k21
    intro r24 e24 k24
    have R24 := pz_kd3 k24
    intro v31 e31 a31 b31
    try rw [pz_wi (by omega) (by omega)] at e31
    refine And.intro (hI) ?_
    intro v32 M32 a32 b32 q32
    obtain ⟨q32, z32⟩ := q32
    have hS : pz_st M M32 := hS.tr z32
    have hI : pz_ic M32 := hS.1.1 hI0
    refine And.intro (True.intro) ?_
    intro v35 M35 a35 b35 q35
    obtain ⟨q35, z35⟩ := q35
    subst z35
    intro v43 e43 a43 b43
    intro v48 e48 a48 b48
    try rw [pz_wi (by omega) (by omega)] at e48
    intro M49 e49
    have hS : pz_st M M49 := by
      rw [e49]
      exact pz_st_u hS (by unfold pz_md pz_kx pz_mid; omega) (by omega) (by unfold pz_iok; omega)
    have hI : pz_ic M49 := hS.1.1 hI0
    intro v59 e59 a59 b59
    intro v64 e64 a64 b64
    try rw [pz_wi (by omega) (by omega)] at e64
    refine And.intro (True.intro) ?_
    intro v65 M65 a65 b65 q65
    obtain ⟨q65, z65⟩ := q65
    subst z65
    intro M68 e68
    have hS : pz_st M M68 := by
      rw [e68]
      exact pz_st_u hS (by unfold pz_md pz_kx pz_mid; omega) (by omega) (by unfold pz_iok; omega)
    have hI : pz_ic M68 := hS.1.1 hI0
    intro v76 e76 a76 b76
    try rw [pz_wi (by omega) (by omega)] at e76
    refine And.intro (hI) ?_
    intro M79 q79
    obtain ⟨q79, z79⟩ := q79
    have hS : pz_st M M79 := hS.tr z79
    have hI : pz_ic M79 := hS.1.1 hI0
    refine And.intro rfl ?_
    exact ⟨trivial, hS⟩
theorem v_X1_askFor {fr lo i : Nat} {own : String} (h1 : 4 + 1 ≤ fr) (h2 : 8 + (6 + 11) + 97 ≤ lo) (h3 : .methodLink own i yX1_askFor ∈ lw_tbl) : pz_cV fr lo own i k_X1_askFor :=
  pz_cVk (maxL := 6) (fr' := 4) (lo' := 97) 3 1 h_X1_askFor rfl ⟨by decide +kernel, by decide +kernel, by decide +kernel⟩ ⟨(pz_mt 480 (by decide +kernel)), (pz_mt 478 (by decide +kernel)), (pz_mt 479 (by decide +kernel)), (pz_mt 7 (by decide +kernel))⟩ (Or.inl ⟨TX1, 2, rfl⟩) (fun a M _ h => by
    have h : (match (generalizing := false) a with | [.inr (.inr (1, d)), .inr (.inr (0, c)), .inl i, .inl n] => pz_ic M | _ => False) := h
    split at h
    · exact ⟨_, _, rfl⟩
    · exact h.elim) h1 h2 h3
def k_X1_putBridge : pz_C := (3, 0, fun a M => (match a with | [.inr (.inr (1, d)), .inr (.inr (0, c)), .inl i] => pz_ic M | _ => False), fun a M r M' => (match a, r with | [.inr (.inr (1, d)), .inr (.inr (0, c)), .inl i], none => (True) ∧ pz_st M M' | _, _ => False))
abbrev ct_X1_putBridge : List (Bool × Nat × pz_C) := [(true, 39, k_X0_at), (true, 76, k_X1_write)]
set_option maxRecDepth 100000 in
set_option maxHeartbeats 4000000 in
theorem h_X1_putBridge : pz_H yX1_putBridge cX1_putBridge 3 none k_X1_putBridge 1 25 := by
  refine pz_mk (own := RX1) (tb := t_X1_putBridge) (fl := pz_flf fl_RX1) (ci := fun _ => none) (ct := pz_ctf ct_X1_putBridge) (rz := false) (by decide +kernel) rfl t_X1_putBridge_ok (pz_flk fl_RX1_ok) (fun i v h => by cases h) ?_ ?_ (rfl) ?_ ?_
  · exact fun i k' h => pz_ctk (l := ct_X1_putBridge) (P := fun b i k => b = true → pz_cV 1 25 RX1 i k) (List.forall_mem_cons.mpr ⟨(fun _ => v_X0_at (by decide) (by decide) (pz_mt 457 (by decide +kernel))), List.forall_mem_cons.mpr ⟨(fun _ => v_X1_write (by decide) (by decide) (pz_mt 517 (by decide +kernel))), fun _ h => absurd h List.not_mem_nil⟩⟩) true i k' h rfl
  · exact fun i k' h => pz_ctk (l := ct_X1_putBridge) (P := fun b i k => b = false → (pz_cS 1 25 RX1 i k ∨ (k = pz_kac ∧ 1 ≤ 1 ∧ 60 ≤ 25 ∧ Cond.methodLink RX1 i arraycopyName ∈ pz_tbl))) (List.forall_mem_cons.mpr ⟨((fun z => by cases z)), List.forall_mem_cons.mpr ⟨((fun z => by cases z)), fun _ h => absurd h List.not_mem_nil⟩⟩) false i k' h rfl
  · intro a M hlen hpre
    obtain ⟨d, c, i, rfl, hpre⟩ : ∃ d c i, a = [.inr (.inr (1, d)), .inr (.inr (0, c)), .inl i] ∧ (pz_ic M) := by
      have hpre : (match (generalizing := false) a with | [.inr (.inr (1, d)), .inr (.inr (0, c)), .inl i] => pz_ic M | _ => False) := hpre
      split at hpre
      · exact ⟨_, _, _, rfl, hpre⟩
      · exact hpre.elim
    exact Nat.le_of_ble_eq_true rfl
  · intro a M hlen hcan hM hpre Ok hgo
    obtain ⟨d, c, i, rfl, hpre⟩ : ∃ d c i, a = [.inr (.inr (1, d)), .inr (.inr (0, c)), .inl i] ∧ (pz_ic M) := by
      have hpre : (match (generalizing := false) a with | [.inr (.inr (1, d)), .inr (.inr (0, c)), .inl i] => pz_ic M | _ => False) := hpre
      split at hpre
      · exact ⟨_, _, _, rfl, hpre⟩
      · exact hpre.elim
    obtain ⟨k_d, hc_d⟩ := pz_tlm hcan
    have k_d : pz_kd d = 1 ∧ d < 231 := k_d
    have R_d := pz_kd1 k_d.1
    subst R_d
    obtain ⟨k_c, hc_c⟩ := pz_tlm hc_d
    have k_c : pz_kd c = 0 ∧ c < 231 := k_c
    have R_c := pz_kd0 k_c.1
    obtain ⟨k_i, hc_i⟩ := pz_tlm hc_c
    have l_i : -2147483648 ≤ i := k_i.1
    have u_i : i ≤ 2147483647 := k_i.2
    have hI : pz_ic M := hpre
    have hI0 := hI
    have hS : pz_st M M := pz_st.rf
    refine hgo (fun _ => false) 14 0 _ [] M ?_
    refine And.intro (True.intro) ?_
    intro r2 M2 k2 q2
    have R2 := pz_kd5 k2
    obtain ⟨q2, z2⟩ := q2
    subst z2
    intro M6 e6
    have hS : pz_st M M6 := by
      rw [e6]
      exact pz_st_u hS (by unfold pz_md pz_kx pz_mid; omega) (by omega) (by unfold pz_iok; omega)
    have hI : pz_ic M6 := hS.1.1 hI0
    refine And.intro (hI) ?_
    intro M14 q14
    obtain ⟨q14, z14⟩ := q14
    have hS : pz_st M M14 := hS.tr z14
    have hI : pz_ic M14 := hS.1.1 hI0
    refine And.intro rfl ?_
    exact ⟨trivial, hS⟩
theorem v_X1_putBridge {fr lo i : Nat} {own : String} (h1 : 1 + 1 ≤ fr) (h2 : 8 + (3 + 11) + 25 ≤ lo) (h3 : .methodLink own i yX1_putBridge ∈ lw_tbl) : pz_cV fr lo own i k_X1_putBridge :=
  pz_cVk (maxL := 3) (fr' := 1) (lo' := 25) 2 1 h_X1_putBridge rfl ⟨by decide +kernel, by decide +kernel, by decide +kernel⟩ ⟨(pz_mt 533 (by decide +kernel)), (pz_mt 531 (by decide +kernel)), (pz_mt 532 (by decide +kernel)), (pz_mt 7 (by decide +kernel))⟩ (Or.inl ⟨TX1, 2, rfl⟩) (fun a M _ h => by
    have h : (match (generalizing := false) a with | [.inr (.inr (1, d)), .inr (.inr (0, c)), .inl i] => pz_ic M | _ => False) := h
    split at h
    · exact ⟨_, _, rfl⟩
    · exact h.elim) h1 h2 h3
def k_X1_canHandOver : pz_C := (5, 1, fun a M => (match a with | [.inr (.inr (1, d)), .inr (.inr (0, c)), .inl i, .inl j, .inl n] => pz_ic M | _ => False), fun a M r M' => (match a, r with | [.inr (.inr (1, d)), .inr (.inr (0, c)), .inl i, .inl j, .inl n], some (.inl v) => (v = 0 ∨ v = 1) ∧ M = M' | _, _ => False))
abbrev ct_X1_canHandOver : List (Bool × Nat × pz_C) := [(true, 83, k_X0_has), (false, 35, k_X11_within), (true, 39, k_X0_at)]
set_option maxRecDepth 100000 in
set_option maxHeartbeats 4000000 in
theorem h_X1_canHandOver : pz_H yX1_canHandOver cX1_canHandOver 5 (some .boolean) k_X1_canHandOver 1 22 := by
  refine pz_mk (own := RX1) (tb := t_X1_canHandOver) (fl := pz_flf fl_RX1) (ci := fun _ => none) (ct := pz_ctf ct_X1_canHandOver) (rz := true) (by decide +kernel) rfl t_X1_canHandOver_ok (pz_flk fl_RX1_ok) (fun i v h => by cases h) ?_ ?_ (Or.inr ⟨rfl, rfl⟩) ?_ ?_
  · exact fun i k' h => pz_ctk (l := ct_X1_canHandOver) (P := fun b i k => b = true → pz_cV 1 22 RX1 i k) (List.forall_mem_cons.mpr ⟨(fun _ => v_X0_has (by decide) (by decide) (pz_mt 542 (by decide +kernel))), List.forall_mem_cons.mpr ⟨((fun z => by cases z)), List.forall_mem_cons.mpr ⟨(fun _ => v_X0_at (by decide) (by decide) (pz_mt 457 (by decide +kernel))), fun _ h => absurd h List.not_mem_nil⟩⟩⟩) true i k' h rfl
  · exact fun i k' h => pz_ctk (l := ct_X1_canHandOver) (P := fun b i k => b = false → (pz_cS 1 22 RX1 i k ∨ (k = pz_kac ∧ 1 ≤ 1 ∧ 60 ≤ 22 ∧ Cond.methodLink RX1 i arraycopyName ∈ pz_tbl))) (List.forall_mem_cons.mpr ⟨((fun z => by cases z)), List.forall_mem_cons.mpr ⟨(fun _ => Or.inl (s_X11_within (by decide) (by decide) (Or.inr ⟨rfl, rfl, rfl⟩))), List.forall_mem_cons.mpr ⟨((fun z => by cases z)), fun _ h => absurd h List.not_mem_nil⟩⟩⟩) false i k' h rfl
  · intro a M hlen hpre
    obtain ⟨d, c, i, j, n, rfl, hpre⟩ : ∃ d c i j n, a = [.inr (.inr (1, d)), .inr (.inr (0, c)), .inl i, .inl j, .inl n] ∧ (pz_ic M) := by
      have hpre : (match (generalizing := false) a with | [.inr (.inr (1, d)), .inr (.inr (0, c)), .inl i, .inl j, .inl n] => pz_ic M | _ => False) := hpre
      split at hpre
      · exact ⟨_, _, _, _, _, rfl, hpre⟩
      · exact hpre.elim
    exact Nat.le_of_ble_eq_true rfl
  · intro a M hlen hcan hM hpre Ok hgo
    obtain ⟨d, c, i, j, n, rfl, hpre⟩ : ∃ d c i j n, a = [.inr (.inr (1, d)), .inr (.inr (0, c)), .inl i, .inl j, .inl n] ∧ (pz_ic M) := by
      have hpre : (match (generalizing := false) a with | [.inr (.inr (1, d)), .inr (.inr (0, c)), .inl i, .inl j, .inl n] => pz_ic M | _ => False) := hpre
      split at hpre
      · exact ⟨_, _, _, _, _, rfl, hpre⟩
      · exact hpre.elim
    obtain ⟨k_d, hc_d⟩ := pz_tlm hcan
    have k_d : pz_kd d = 1 ∧ d < 231 := k_d
    have R_d := pz_kd1 k_d.1
    subst R_d
    obtain ⟨k_c, hc_c⟩ := pz_tlm hc_d
    have k_c : pz_kd c = 0 ∧ c < 231 := k_c
    have R_c := pz_kd0 k_c.1
    obtain ⟨k_i, hc_i⟩ := pz_tlm hc_c
    have l_i : -2147483648 ≤ i := k_i.1
    have u_i : i ≤ 2147483647 := k_i.2
    obtain ⟨k_j, hc_j⟩ := pz_tlm hc_i
    have l_j : -2147483648 ≤ j := k_j.1
    have u_j : j ≤ 2147483647 := k_j.2
    obtain ⟨k_n, hc_n⟩ := pz_tlm hc_j
    have l_n : -2147483648 ≤ n := k_n.1
    have u_n : n ≤ 2147483647 := k_n.2
    have hI : pz_ic M := hpre
    refine hgo (fun _ => false) 38 0 _ [] M ?_
    refine And.intro (True.intro) ?_
    intro v2 M2 a2 b2 q2
    obtain ⟨q2, z2⟩ := q2
    subst z2
    refine And.intro (fun h5 => ?_) (fun h5 => ?_)
    · skip
      refine And.intro (by omega) ?_
      refine And.intro rfl ?_
      exact ⟨by omega, rfl⟩
    · skip
      refine And.intro (True.intro) ?_
      intro v10 M10 a10 b10 q10
      obtain ⟨q10, z10⟩ := q10
      subst z10
      refine And.intro (fun h13 => ?_) (fun h13 => ?_)
      · skip
        refine And.intro (by omega) ?_
        refine And.intro rfl ?_
        exact ⟨by omega, rfl⟩
      · skip
        refine And.intro (fun h18 => ?_) (fun h18 => ?_)
        · skip
          refine And.intro (by omega) ?_
          refine And.intro rfl ?_
          exact ⟨by omega, rfl⟩
        · skip
          refine And.intro (True.intro) ?_
          intro v26 M26 a26 b26 q26
          obtain ⟨q26, z26⟩ := q26
          subst z26
          refine And.intro (fun h29 => ?_) (fun h29 => ?_)
          · skip
            refine And.intro (by omega) ?_
            refine And.intro rfl ?_
            exact ⟨by omega, rfl⟩
          · skip
            refine And.intro (True.intro) ?_
            intro r34 M34 k34 q34
            have R34 := pz_kd5 k34
            obtain ⟨q34, z34⟩ := q34
            subst z34
            intro v37 e37 a37 b37
            intro v42 e42 a42 b42
            try rw [pz_wi (by omega) (by omega)] at e42
            refine And.intro (fun h46 => ?_) (fun h46 => ?_)
            · skip
              refine And.intro (by omega) ?_
              refine And.intro rfl ?_
              exact ⟨by omega, rfl⟩
            · skip
              refine And.intro (True.intro) ?_
              intro r51 M51 k51 q51
              have R51 := pz_kd5 k51
              obtain ⟨q51, z51⟩ := q51
              subst z51
              intro v54 e54 a54 b54
              intro v59 e59 a59 b59
              try rw [pz_wi (by omega) (by omega)] at e59
              refine And.intro (fun h63 => ?_) (fun h63 => ?_)
              · skip
                refine And.intro (by omega) ?_
                refine And.intro rfl ?_
                exact ⟨by omega, rfl⟩
              · skip
                refine And.intro (by omega) ?_
                refine And.intro rfl ?_
                exact ⟨by omega, rfl⟩
theorem v_X1_canHandOver {fr lo i : Nat} {own : String} (h1 : 1 + 1 ≤ fr) (h2 : 8 + (5 + 11) + 22 ≤ lo) (h3 : .methodLink own i yX1_canHandOver ∈ lw_tbl) : pz_cV fr lo own i k_X1_canHandOver :=
  pz_cVk (maxL := 5) (fr' := 1) (lo' := 22) 4 1 h_X1_canHandOver rfl ⟨by decide +kernel, by decide +kernel, by decide +kernel⟩ ⟨(pz_mt 541 (by decide +kernel)), (pz_mt 539 (by decide +kernel)), (pz_mt 540 (by decide +kernel)), (pz_mt 7 (by decide +kernel))⟩ (Or.inl ⟨TX1, 2, rfl⟩) (fun a M _ h => by
    have h : (match (generalizing := false) a with | [.inr (.inr (1, d)), .inr (.inr (0, c)), .inl i, .inl j, .inl n] => pz_ic M | _ => False) := h
    split at h
    · exact ⟨_, _, rfl⟩
    · exact h.elim) h1 h2 h3
def k_X1_handOver : pz_C := (5, 0, fun a M => (match a with | [.inr (.inr (1, d)), .inr (.inr (0, c)), .inl i, .inl j, .inl n] => pz_ic M | _ => False), fun a M r M' => (match a, r with | [.inr (.inr (1, d)), .inr (.inr (0, c)), .inl i, .inl j, .inl n], none => (True) ∧ pz_st M M' | _, _ => False))
abbrev ct_X1_handOver : List (Bool × Nat × pz_C) := [(true, 39, k_X0_at), (true, 76, k_X1_write)]
set_option maxRecDepth 100000 in
set_option maxHeartbeats 4000000 in
theorem h_X1_handOver : pz_H yX1_handOver cX1_handOver 5 none k_X1_handOver 1 25 := by
  refine pz_mk (own := RX1) (tb := t_X1_handOver) (fl := pz_flf fl_RX1) (ci := fun _ => none) (ct := pz_ctf ct_X1_handOver) (rz := false) (by decide +kernel) rfl t_X1_handOver_ok (pz_flk fl_RX1_ok) (fun i v h => by cases h) ?_ ?_ (rfl) ?_ ?_
  · exact fun i k' h => pz_ctk (l := ct_X1_handOver) (P := fun b i k => b = true → pz_cV 1 25 RX1 i k) (List.forall_mem_cons.mpr ⟨(fun _ => v_X0_at (by decide) (by decide) (pz_mt 457 (by decide +kernel))), List.forall_mem_cons.mpr ⟨(fun _ => v_X1_write (by decide) (by decide) (pz_mt 517 (by decide +kernel))), fun _ h => absurd h List.not_mem_nil⟩⟩) true i k' h rfl
  · exact fun i k' h => pz_ctk (l := ct_X1_handOver) (P := fun b i k => b = false → (pz_cS 1 25 RX1 i k ∨ (k = pz_kac ∧ 1 ≤ 1 ∧ 60 ≤ 25 ∧ Cond.methodLink RX1 i arraycopyName ∈ pz_tbl))) (List.forall_mem_cons.mpr ⟨((fun z => by cases z)), List.forall_mem_cons.mpr ⟨((fun z => by cases z)), fun _ h => absurd h List.not_mem_nil⟩⟩) false i k' h rfl
  · intro a M hlen hpre
    obtain ⟨d, c, i, j, n, rfl, hpre⟩ : ∃ d c i j n, a = [.inr (.inr (1, d)), .inr (.inr (0, c)), .inl i, .inl j, .inl n] ∧ (pz_ic M) := by
      have hpre : (match (generalizing := false) a with | [.inr (.inr (1, d)), .inr (.inr (0, c)), .inl i, .inl j, .inl n] => pz_ic M | _ => False) := hpre
      split at hpre
      · exact ⟨_, _, _, _, _, rfl, hpre⟩
      · exact hpre.elim
    exact Nat.le_of_ble_eq_true rfl
  · intro a M hlen hcan hM hpre Ok hgo
    obtain ⟨d, c, i, j, n, rfl, hpre⟩ : ∃ d c i j n, a = [.inr (.inr (1, d)), .inr (.inr (0, c)), .inl i, .inl j, .inl n] ∧ (pz_ic M) := by
      have hpre : (match (generalizing := false) a with | [.inr (.inr (1, d)), .inr (.inr (0, c)), .inl i, .inl j, .inl n] => pz_ic M | _ => False) := hpre
      split at hpre
      · exact ⟨_, _, _, _, _, rfl, hpre⟩
      · exact hpre.elim
    obtain ⟨k_d, hc_d⟩ := pz_tlm hcan
    have k_d : pz_kd d = 1 ∧ d < 231 := k_d
    have R_d := pz_kd1 k_d.1
    subst R_d
    obtain ⟨k_c, hc_c⟩ := pz_tlm hc_d
    have k_c : pz_kd c = 0 ∧ c < 231 := k_c
    have R_c := pz_kd0 k_c.1
    obtain ⟨k_i, hc_i⟩ := pz_tlm hc_c
    have l_i : -2147483648 ≤ i := k_i.1
    have u_i : i ≤ 2147483647 := k_i.2
    obtain ⟨k_j, hc_j⟩ := pz_tlm hc_i
    have l_j : -2147483648 ≤ j := k_j.1
    have u_j : j ≤ 2147483647 := k_j.2
    obtain ⟨k_n, hc_n⟩ := pz_tlm hc_j
    have l_n : -2147483648 ≤ n := k_n.1
    have u_n : n ≤ 2147483647 := k_n.2
    have hI : pz_ic M := hpre
    have hI0 := hI
    have hS : pz_st M M := pz_st.rf
    refine hgo (fun _ => false) 25 0 _ [] M ?_
    refine And.intro (True.intro) ?_
    intro r2 M2 k2 q2
    have R2 := pz_kd5 k2
    obtain ⟨q2, z2⟩ := q2
    subst z2
    intro v6 e6 a6 b6
    intro v11 e11 a11 b11
    try rw [pz_wi (by omega) (by omega)] at e11
    intro M12 e12
    have hS : pz_st M M12 := by
      rw [e12]
      exact pz_st_u hS (by unfold pz_md pz_kx pz_mid; omega) (by omega) (by unfold pz_iok; omega)
    have hI : pz_ic M12 := hS.1.1 hI0
    refine And.intro (True.intro) ?_
    intro r17 M17 k17 q17
    have R17 := pz_kd5 k17
    obtain ⟨q17, z17⟩ := q17
    subst z17
    intro v21 e21 a21 b21
    intro v26 e26 a26 b26
    try rw [pz_wi (by omega) (by omega)] at e26
    intro M27 e27
    have hS : pz_st M M27 := by
      rw [e27]
      exact pz_st_u hS (by unfold pz_md pz_kx pz_mid; omega) (by omega) (by unfold pz_iok; omega)
    have hI : pz_ic M27 := hS.1.1 hI0
    refine And.intro (hI) ?_
    intro M36 q36
    obtain ⟨q36, z36⟩ := q36
    have hS : pz_st M M36 := hS.tr z36
    have hI : pz_ic M36 := hS.1.1 hI0
    refine And.intro rfl ?_
    exact ⟨trivial, hS⟩
theorem v_X1_handOver {fr lo i : Nat} {own : String} (h1 : 1 + 1 ≤ fr) (h2 : 8 + (5 + 11) + 25 ≤ lo) (h3 : .methodLink own i yX1_handOver ∈ lw_tbl) : pz_cV fr lo own i k_X1_handOver :=
  pz_cVk (maxL := 5) (fr' := 1) (lo' := 25) 4 1 h_X1_handOver rfl ⟨by decide +kernel, by decide +kernel, by decide +kernel⟩ ⟨(pz_mt 546 (by decide +kernel)), (pz_mt 544 (by decide +kernel)), (pz_mt 545 (by decide +kernel)), (pz_mt 7 (by decide +kernel))⟩ (Or.inl ⟨TX1, 2, rfl⟩) (fun a M _ h => by
    have h : (match (generalizing := false) a with | [.inr (.inr (1, d)), .inr (.inr (0, c)), .inl i, .inl j, .inl n] => pz_ic M | _ => False) := h
    split at h
    · exact ⟨_, _, rfl⟩
    · exact h.elim) h1 h2 h3
def k_X1_canGetReady : pz_C := (3, 1, fun a M => (match a with | [.inr (.inr (1, d)), .inr (.inr (0, c)), .inl i] => pz_ic M | _ => False), fun a M r M' => (match a, r with | [.inr (.inr (1, d)), .inr (.inr (0, c)), .inl i], some (.inl v) => (v = 0 ∨ v = 1) ∧ M = M' | _, _ => False))
abbrev ct_X1_canGetReady : List (Bool × Nat × pz_C) := [(true, 83, k_X0_has), (true, 39, k_X0_at), (true, 43, k_X5_isIn)]
set_option maxRecDepth 100000 in
set_option maxHeartbeats 4000000 in
theorem h_X1_canGetReady : pz_H yX1_canGetReady cX1_canGetReady 3 (some .boolean) k_X1_canGetReady 1 21 := by
  refine pz_mk (own := RX1) (tb := t_X1_canGetReady) (fl := pz_flf fl_RX1) (ci := fun _ => none) (ct := pz_ctf ct_X1_canGetReady) (rz := true) (by decide +kernel) rfl t_X1_canGetReady_ok (pz_flk fl_RX1_ok) (fun i v h => by cases h) ?_ ?_ (Or.inr ⟨rfl, rfl⟩) ?_ ?_
  · exact fun i k' h => pz_ctk (l := ct_X1_canGetReady) (P := fun b i k => b = true → pz_cV 1 21 RX1 i k) (List.forall_mem_cons.mpr ⟨(fun _ => v_X0_has (by decide) (by decide) (pz_mt 542 (by decide +kernel))), List.forall_mem_cons.mpr ⟨(fun _ => v_X0_at (by decide) (by decide) (pz_mt 457 (by decide +kernel))), List.forall_mem_cons.mpr ⟨(fun _ => v_X5_isIn (by decide) (by decide) (pz_mt 458 (by decide +kernel))), fun _ h => absurd h List.not_mem_nil⟩⟩⟩) true i k' h rfl
  · exact fun i k' h => pz_ctk (l := ct_X1_canGetReady) (P := fun b i k => b = false → (pz_cS 1 21 RX1 i k ∨ (k = pz_kac ∧ 1 ≤ 1 ∧ 60 ≤ 21 ∧ Cond.methodLink RX1 i arraycopyName ∈ pz_tbl))) (List.forall_mem_cons.mpr ⟨((fun z => by cases z)), List.forall_mem_cons.mpr ⟨((fun z => by cases z)), List.forall_mem_cons.mpr ⟨((fun z => by cases z)), fun _ h => absurd h List.not_mem_nil⟩⟩⟩) false i k' h rfl
  · intro a M hlen hpre
    obtain ⟨d, c, i, rfl, hpre⟩ : ∃ d c i, a = [.inr (.inr (1, d)), .inr (.inr (0, c)), .inl i] ∧ (pz_ic M) := by
      have hpre : (match (generalizing := false) a with | [.inr (.inr (1, d)), .inr (.inr (0, c)), .inl i] => pz_ic M | _ => False) := hpre
      split at hpre
      · exact ⟨_, _, _, rfl, hpre⟩
      · exact hpre.elim
    exact Nat.le_of_ble_eq_true rfl
  · intro a M hlen hcan hM hpre Ok hgo
    obtain ⟨d, c, i, rfl, hpre⟩ : ∃ d c i, a = [.inr (.inr (1, d)), .inr (.inr (0, c)), .inl i] ∧ (pz_ic M) := by
      have hpre : (match (generalizing := false) a with | [.inr (.inr (1, d)), .inr (.inr (0, c)), .inl i] => pz_ic M | _ => False) := hpre
      split at hpre
      · exact ⟨_, _, _, rfl, hpre⟩
      · exact hpre.elim
    obtain ⟨k_d, hc_d⟩ := pz_tlm hcan
    have k_d : pz_kd d = 1 ∧ d < 231 := k_d
    have R_d := pz_kd1 k_d.1
    subst R_d
    obtain ⟨k_c, hc_c⟩ := pz_tlm hc_d
    have k_c : pz_kd c = 0 ∧ c < 231 := k_c
    have R_c := pz_kd0 k_c.1
    obtain ⟨k_i, hc_i⟩ := pz_tlm hc_c
    have l_i : -2147483648 ≤ i := k_i.1
    have u_i : i ≤ 2147483647 := k_i.2
    have hI : pz_ic M := hpre
    refine hgo (fun _ => false) 20 0 _ [] M ?_
    refine And.intro (True.intro) ?_
    intro v2 M2 a2 b2 q2
    obtain ⟨q2, z2⟩ := q2
    subst z2
    refine And.intro (fun h5 => ?_) (fun h5 => ?_)
    · skip
      refine And.intro (by omega) ?_
      refine And.intro rfl ?_
      exact ⟨by omega, rfl⟩
    · skip
      refine And.intro (True.intro) ?_
      intro r10 M10 k10 q10
      have R10 := pz_kd5 k10
      obtain ⟨q10, z10⟩ := q10
      subst z10
      intro v13 e13 a13 b13
      refine And.intro (fun h16 => ?_) (fun h16 => ?_)
      · skip
        refine And.intro (by omega) ?_
        refine And.intro rfl ?_
        exact ⟨by omega, rfl⟩
      · skip
        refine And.intro (True.intro) ?_
        intro r21 M21 k21 q21
        have R21 := pz_kd5 k21
        obtain ⟨q21, z21⟩ := q21
        subst z21
        refine And.intro (True.intro) ?_
        intro v24 M24 a24 b24 q24
        obtain ⟨q24, z24⟩ := q24
        subst z24
        refine And.intro (fun h27 => ?_) (fun h27 => ?_)
        · skip
          refine And.intro (by omega) ?_
          refine And.intro rfl ?_
          exact ⟨by omega, rfl⟩
        · skip
          refine And.intro (by omega) ?_
          refine And.intro rfl ?_
          exact ⟨by omega, rfl⟩
theorem v_X1_canGetReady {fr lo i : Nat} {own : String} (h1 : 1 + 1 ≤ fr) (h2 : 8 + (3 + 11) + 21 ≤ lo) (h3 : .methodLink own i yX1_canGetReady ∈ lw_tbl) : pz_cV fr lo own i k_X1_canGetReady :=
  pz_cVk (maxL := 3) (fr' := 1) (lo' := 21) 2 1 h_X1_canGetReady rfl ⟨by decide +kernel, by decide +kernel, by decide +kernel⟩ ⟨(pz_mt 554 (by decide +kernel)), (pz_mt 552 (by decide +kernel)), (pz_mt 553 (by decide +kernel)), (pz_mt 7 (by decide +kernel))⟩ (Or.inl ⟨TX1, 2, rfl⟩) (fun a M _ h => by
    have h : (match (generalizing := false) a with | [.inr (.inr (1, d)), .inr (.inr (0, c)), .inl i] => pz_ic M | _ => False) := h
    split at h
    · exact ⟨_, _, rfl⟩
    · exact h.elim) h1 h2 h3
def k_X1_getReady : pz_C := (3, 0, fun a M => (match a with | [.inr (.inr (1, d)), .inr (.inr (0, c)), .inl i] => pz_ic M | _ => False), fun a M r M' => (match a, r with | [.inr (.inr (1, d)), .inr (.inr (0, c)), .inl i], none => (True) ∧ pz_st M M' | _, _ => False))
abbrev ct_X1_getReady : List (Bool × Nat × pz_C) := [(true, 39, k_X0_at), (true, 76, k_X1_write)]
set_option maxRecDepth 100000 in
set_option maxHeartbeats 4000000 in
theorem h_X1_getReady : pz_H yX1_getReady cX1_getReady 3 none k_X1_getReady 1 25 := by
  refine pz_mk (own := RX1) (tb := t_X1_getReady) (fl := pz_flf fl_RX1) (ci := fun _ => none) (ct := pz_ctf ct_X1_getReady) (rz := false) (by decide +kernel) rfl t_X1_getReady_ok (pz_flk fl_RX1_ok) (fun i v h => by cases h) ?_ ?_ (rfl) ?_ ?_
  · exact fun i k' h => pz_ctk (l := ct_X1_getReady) (P := fun b i k => b = true → pz_cV 1 25 RX1 i k) (List.forall_mem_cons.mpr ⟨(fun _ => v_X0_at (by decide) (by decide) (pz_mt 457 (by decide +kernel))), List.forall_mem_cons.mpr ⟨(fun _ => v_X1_write (by decide) (by decide) (pz_mt 517 (by decide +kernel))), fun _ h => absurd h List.not_mem_nil⟩⟩) true i k' h rfl
  · exact fun i k' h => pz_ctk (l := ct_X1_getReady) (P := fun b i k => b = false → (pz_cS 1 25 RX1 i k ∨ (k = pz_kac ∧ 1 ≤ 1 ∧ 60 ≤ 25 ∧ Cond.methodLink RX1 i arraycopyName ∈ pz_tbl))) (List.forall_mem_cons.mpr ⟨((fun z => by cases z)), List.forall_mem_cons.mpr ⟨((fun z => by cases z)), fun _ h => absurd h List.not_mem_nil⟩⟩) false i k' h rfl
  · intro a M hlen hpre
    obtain ⟨d, c, i, rfl, hpre⟩ : ∃ d c i, a = [.inr (.inr (1, d)), .inr (.inr (0, c)), .inl i] ∧ (pz_ic M) := by
      have hpre : (match (generalizing := false) a with | [.inr (.inr (1, d)), .inr (.inr (0, c)), .inl i] => pz_ic M | _ => False) := hpre
      split at hpre
      · exact ⟨_, _, _, rfl, hpre⟩
      · exact hpre.elim
    exact Nat.le_of_ble_eq_true rfl
  · intro a M hlen hcan hM hpre Ok hgo
    obtain ⟨d, c, i, rfl, hpre⟩ : ∃ d c i, a = [.inr (.inr (1, d)), .inr (.inr (0, c)), .inl i] ∧ (pz_ic M) := by
      have hpre : (match (generalizing := false) a with | [.inr (.inr (1, d)), .inr (.inr (0, c)), .inl i] => pz_ic M | _ => False) := hpre
      split at hpre
      · exact ⟨_, _, _, rfl, hpre⟩
      · exact hpre.elim
    obtain ⟨k_d, hc_d⟩ := pz_tlm hcan
    have k_d : pz_kd d = 1 ∧ d < 231 := k_d
    have R_d := pz_kd1 k_d.1
    subst R_d
    obtain ⟨k_c, hc_c⟩ := pz_tlm hc_d
    have k_c : pz_kd c = 0 ∧ c < 231 := k_c
    have R_c := pz_kd0 k_c.1
    obtain ⟨k_i, hc_i⟩ := pz_tlm hc_c
    have l_i : -2147483648 ≤ i := k_i.1
    have u_i : i ≤ 2147483647 := k_i.2
    have hI : pz_ic M := hpre
    have hI0 := hI
    have hS : pz_st M M := pz_st.rf
    refine hgo (fun _ => false) 14 0 _ [] M ?_
    refine And.intro (True.intro) ?_
    intro r2 M2 k2 q2
    have R2 := pz_kd5 k2
    obtain ⟨q2, z2⟩ := q2
    subst z2
    intro M6 e6
    have hS : pz_st M M6 := by
      rw [e6]
      exact pz_st_u hS (by unfold pz_md pz_kx pz_mid; omega) (by omega) (by unfold pz_iok; omega)
    have hI : pz_ic M6 := hS.1.1 hI0
    refine And.intro (hI) ?_
    intro M14 q14
    obtain ⟨q14, z14⟩ := q14
    have hS : pz_st M M14 := hS.tr z14
    have hI : pz_ic M14 := hS.1.1 hI0
    refine And.intro rfl ?_
    exact ⟨trivial, hS⟩
theorem v_X1_getReady {fr lo i : Nat} {own : String} (h1 : 1 + 1 ≤ fr) (h2 : 8 + (3 + 11) + 25 ≤ lo) (h3 : .methodLink own i yX1_getReady ∈ lw_tbl) : pz_cV fr lo own i k_X1_getReady :=
  pz_cVk (maxL := 3) (fr' := 1) (lo' := 25) 2 1 h_X1_getReady rfl ⟨by decide +kernel, by decide +kernel, by decide +kernel⟩ ⟨(pz_mt 558 (by decide +kernel)), (pz_mt 556 (by decide +kernel)), (pz_mt 557 (by decide +kernel)), (pz_mt 7 (by decide +kernel))⟩ (Or.inl ⟨TX1, 2, rfl⟩) (fun a M _ h => by
    have h : (match (generalizing := false) a with | [.inr (.inr (1, d)), .inr (.inr (0, c)), .inl i] => pz_ic M | _ => False) := h
    split at h
    · exact ⟨_, _, rfl⟩
    · exact h.elim) h1 h2 h3
def k_X1_comeIn : pz_C := (3, 0, fun a M => (match a with | [.inr (.inr (1, d)), .inr (.inr (0, c)), .inl i] => pz_ic M | _ => False), fun a M r M' => (match a, r with | [.inr (.inr (1, d)), .inr (.inr (0, c)), .inl i], none => (True) ∧ pz_st M M' | _, _ => False))
abbrev ct_X1_comeIn : List (Bool × Nat × pz_C) := [(true, 39, k_X0_at), (true, 76, k_X1_write)]
set_option maxRecDepth 100000 in
set_option maxHeartbeats 4000000 in
theorem h_X1_comeIn : pz_H yX1_comeIn cX1_comeIn 3 none k_X1_comeIn 1 25 := by
  refine pz_mk (own := RX1) (tb := t_X1_comeIn) (fl := pz_flf fl_RX1) (ci := fun _ => none) (ct := pz_ctf ct_X1_comeIn) (rz := false) (by decide +kernel) rfl t_X1_comeIn_ok (pz_flk fl_RX1_ok) (fun i v h => by cases h) ?_ ?_ (rfl) ?_ ?_
  · exact fun i k' h => pz_ctk (l := ct_X1_comeIn) (P := fun b i k => b = true → pz_cV 1 25 RX1 i k) (List.forall_mem_cons.mpr ⟨(fun _ => v_X0_at (by decide) (by decide) (pz_mt 457 (by decide +kernel))), List.forall_mem_cons.mpr ⟨(fun _ => v_X1_write (by decide) (by decide) (pz_mt 517 (by decide +kernel))), fun _ h => absurd h List.not_mem_nil⟩⟩) true i k' h rfl
  · exact fun i k' h => pz_ctk (l := ct_X1_comeIn) (P := fun b i k => b = false → (pz_cS 1 25 RX1 i k ∨ (k = pz_kac ∧ 1 ≤ 1 ∧ 60 ≤ 25 ∧ Cond.methodLink RX1 i arraycopyName ∈ pz_tbl))) (List.forall_mem_cons.mpr ⟨((fun z => by cases z)), List.forall_mem_cons.mpr ⟨((fun z => by cases z)), fun _ h => absurd h List.not_mem_nil⟩⟩) false i k' h rfl
  · intro a M hlen hpre
    obtain ⟨d, c, i, rfl, hpre⟩ : ∃ d c i, a = [.inr (.inr (1, d)), .inr (.inr (0, c)), .inl i] ∧ (pz_ic M) := by
      have hpre : (match (generalizing := false) a with | [.inr (.inr (1, d)), .inr (.inr (0, c)), .inl i] => pz_ic M | _ => False) := hpre
      split at hpre
      · exact ⟨_, _, _, rfl, hpre⟩
      · exact hpre.elim
    exact Nat.le_of_ble_eq_true rfl
  · intro a M hlen hcan hM hpre Ok hgo
    obtain ⟨d, c, i, rfl, hpre⟩ : ∃ d c i, a = [.inr (.inr (1, d)), .inr (.inr (0, c)), .inl i] ∧ (pz_ic M) := by
      have hpre : (match (generalizing := false) a with | [.inr (.inr (1, d)), .inr (.inr (0, c)), .inl i] => pz_ic M | _ => False) := hpre
      split at hpre
      · exact ⟨_, _, _, rfl, hpre⟩
      · exact hpre.elim
    obtain ⟨k_d, hc_d⟩ := pz_tlm hcan
    have k_d : pz_kd d = 1 ∧ d < 231 := k_d
    have R_d := pz_kd1 k_d.1
    subst R_d
    obtain ⟨k_c, hc_c⟩ := pz_tlm hc_d
    have k_c : pz_kd c = 0 ∧ c < 231 := k_c
    have R_c := pz_kd0 k_c.1
    obtain ⟨k_i, hc_i⟩ := pz_tlm hc_c
    have l_i : -2147483648 ≤ i := k_i.1
    have u_i : i ≤ 2147483647 := k_i.2
    have hI : pz_ic M := hpre
    have hI0 := hI
    have hS : pz_st M M := pz_st.rf
    refine hgo (fun _ => false) 19 0 _ [] M ?_
    refine And.intro (True.intro) ?_
    intro r2 M2 k2 q2
    have R2 := pz_kd5 k2
    obtain ⟨q2, z2⟩ := q2
    subst z2
    intro M6 e6
    have hS : pz_st M M6 := by
      rw [e6]
      exact pz_st_u hS (by unfold pz_md pz_kx pz_mid; omega) (by omega) (by unfold pz_iok; omega)
    have hI : pz_ic M6 := hS.1.1 hI0
    refine And.intro (True.intro) ?_
    intro r11 M11 k11 q11
    have R11 := pz_kd5 k11
    obtain ⟨q11, z11⟩ := q11
    subst z11
    intro M15 e15
    have hS : pz_st M M15 := by
      rw [e15]
      exact pz_st_u hS (by unfold pz_md pz_kx pz_mid; omega) (by omega) (by unfold pz_iok; omega)
    have hI : pz_ic M15 := hS.1.1 hI0
    refine And.intro (hI) ?_
    intro M24 q24
    obtain ⟨q24, z24⟩ := q24
    have hS : pz_st M M24 := hS.tr z24
    have hI : pz_ic M24 := hS.1.1 hI0
    refine And.intro rfl ?_
    exact ⟨trivial, hS⟩
theorem v_X1_comeIn {fr lo i : Nat} {own : String} (h1 : 1 + 1 ≤ fr) (h2 : 8 + (3 + 11) + 25 ≤ lo) (h3 : .methodLink own i yX1_comeIn ∈ lw_tbl) : pz_cV fr lo own i k_X1_comeIn :=
  pz_cVk (maxL := 3) (fr' := 1) (lo' := 25) 2 1 h_X1_comeIn rfl ⟨by decide +kernel, by decide +kernel, by decide +kernel⟩ ⟨(pz_mt 566 (by decide +kernel)), (pz_mt 564 (by decide +kernel)), (pz_mt 565 (by decide +kernel)), (pz_mt 7 (by decide +kernel))⟩ (Or.inl ⟨TX1, 2, rfl⟩) (fun a M _ h => by
    have h : (match (generalizing := false) a with | [.inr (.inr (1, d)), .inr (.inr (0, c)), .inl i] => pz_ic M | _ => False) := h
    split at h
    · exact ⟨_, _, rfl⟩
    · exact h.elim) h1 h2 h3
def k_X1_doPlanned : pz_C := (3, 0, fun a M => (match a with | [.inr (.inr (1, d)), .inr (.inr (0, c)), .inl i] => pz_ic M | _ => False), fun a M r M' => (match a, r with | [.inr (.inr (1, d)), .inr (.inr (0, c)), .inl i], none => (True) ∧ pz_st M M' | _, _ => False))
abbrev ct_X1_doPlanned : List (Bool × Nat × pz_C) := [(true, 103, k_X6_cell), (true, 131, k_X1_canAsk), (true, 135, k_X1_askFor), (true, 139, k_X0_canBridge), (true, 142, k_X1_putBridge), (true, 145, k_X1_canHandOver), (true, 149, k_X1_handOver), (true, 110, k_X1_canGetReady), (true, 117, k_X1_getReady)]
set_option maxRecDepth 100000 in
set_option maxHeartbeats 4000000 in
theorem h_X1_doPlanned : pz_H yX1_doPlanned cX1_doPlanned 6 none k_X1_doPlanned 5 122 := by
  refine pz_mk (own := RX1) (tb := t_X1_doPlanned) (fl := pz_flf fl_RX1) (ci := fun _ => none) (ct := pz_ctf ct_X1_doPlanned) (rz := false) (by decide +kernel) rfl t_X1_doPlanned_ok (pz_flk fl_RX1_ok) (fun i v h => by cases h) ?_ ?_ (rfl) ?_ ?_
  · exact fun i k' h => pz_ctk (l := ct_X1_doPlanned) (P := fun b i k => b = true → pz_cV 5 122 RX1 i k) (List.forall_mem_cons.mpr ⟨(fun _ => v_X6_cell (by decide) (by decide) (pz_mt 575 (by decide +kernel))), List.forall_mem_cons.mpr ⟨(fun _ => v_X1_canAsk (by decide) (by decide) (pz_mt 583 (by decide +kernel))), List.forall_mem_cons.mpr ⟨(fun _ => v_X1_askFor (by decide) (by decide) (pz_mt 584 (by decide +kernel))), List.forall_mem_cons.mpr ⟨(fun _ => v_X0_canBridge (by decide) (by decide) (pz_mt 585 (by decide +kernel))), List.forall_mem_cons.mpr ⟨(fun _ => v_X1_putBridge (by decide) (by decide) (pz_mt 586 (by decide +kernel))), List.forall_mem_cons.mpr ⟨(fun _ => v_X1_canHandOver (by decide) (by decide) (pz_mt 587 (by decide +kernel))), List.forall_mem_cons.mpr ⟨(fun _ => v_X1_handOver (by decide) (by decide) (pz_mt 588 (by decide +kernel))), List.forall_mem_cons.mpr ⟨(fun _ => v_X1_canGetReady (by decide) (by decide) (pz_mt 589 (by decide +kernel))), List.forall_mem_cons.mpr ⟨(fun _ => v_X1_getReady (by decide) (by decide) (pz_mt 590 (by decide +kernel))), fun _ h => absurd h List.not_mem_nil⟩⟩⟩⟩⟩⟩⟩⟩⟩) true i k' h rfl
  · exact fun i k' h => pz_ctk (l := ct_X1_doPlanned) (P := fun b i k => b = false → (pz_cS 5 122 RX1 i k ∨ (k = pz_kac ∧ 1 ≤ 5 ∧ 60 ≤ 122 ∧ Cond.methodLink RX1 i arraycopyName ∈ pz_tbl))) (List.forall_mem_cons.mpr ⟨((fun z => by cases z)), List.forall_mem_cons.mpr ⟨((fun z => by cases z)), List.forall_mem_cons.mpr ⟨((fun z => by cases z)), List.forall_mem_cons.mpr ⟨((fun z => by cases z)), List.forall_mem_cons.mpr ⟨((fun z => by cases z)), List.forall_mem_cons.mpr ⟨((fun z => by cases z)), List.forall_mem_cons.mpr ⟨((fun z => by cases z)), List.forall_mem_cons.mpr ⟨((fun z => by cases z)), List.forall_mem_cons.mpr ⟨((fun z => by cases z)), fun _ h => absurd h List.not_mem_nil⟩⟩⟩⟩⟩⟩⟩⟩⟩) false i k' h rfl
  · intro a M hlen hpre
    obtain ⟨d, c, i, rfl, hpre⟩ : ∃ d c i, a = [.inr (.inr (1, d)), .inr (.inr (0, c)), .inl i] ∧ (pz_ic M) := by
      have hpre : (match (generalizing := false) a with | [.inr (.inr (1, d)), .inr (.inr (0, c)), .inl i] => pz_ic M | _ => False) := hpre
      split at hpre
      · exact ⟨_, _, _, rfl, hpre⟩
      · exact hpre.elim
    exact Nat.le_of_ble_eq_true rfl
  · intro a M hlen hcan hM hpre Ok hgo
    obtain ⟨d, c, i, rfl, hpre⟩ : ∃ d c i, a = [.inr (.inr (1, d)), .inr (.inr (0, c)), .inl i] ∧ (pz_ic M) := by
      have hpre : (match (generalizing := false) a with | [.inr (.inr (1, d)), .inr (.inr (0, c)), .inl i] => pz_ic M | _ => False) := hpre
      split at hpre
      · exact ⟨_, _, _, rfl, hpre⟩
      · exact hpre.elim
    obtain ⟨k_d, hc_d⟩ := pz_tlm hcan
    have k_d : pz_kd d = 1 ∧ d < 231 := k_d
    have R_d := pz_kd1 k_d.1
    subst R_d
    obtain ⟨k_c, hc_c⟩ := pz_tlm hc_d
    have k_c : pz_kd c = 0 ∧ c < 231 := k_c
    have R_c := pz_kd0 k_c.1
    obtain ⟨k_i, hc_i⟩ := pz_tlm hc_c
    have l_i : -2147483648 ≤ i := k_i.1
    have u_i : i ≤ 2147483647 := k_i.2
    have hI : pz_ic M := hpre
    have hI0 := hI
    have hS : pz_st M M := pz_st.rf
    refine hgo (fun _ => false) 76 0 _ [] M ?_
    intro r1 e1 k1
    have R1 := pz_kd10 k1
    intro r4 e4 k4
    have R4 := pz_kd6 k4
    refine And.intro (hI) ?_
    intro v9 M9 a9 b9 q9
    obtain ⟨q9, z9⟩ := q9
    subst z9
    intro r14 e14 k14
    have R14 := pz_kd10 k14
    intro r17 e17 k17
    have R17 := pz_kd6 k17
    refine And.intro (hI) ?_
    intro v22 M22 a22 b22 q22
    obtain ⟨q22, z22⟩ := q22
    subst z22
    intro r28 e28 k28
    have R28 := pz_kd10 k28
    intro r31 e31 k31
    have R31 := pz_kd6 k31
    refine And.intro (hI) ?_
    intro v36 M36 a36 b36 q36
    obtain ⟨q36, z36⟩ := q36
    subst z36
    intro r42 e42 k42
    have R42 := pz_kd10 k42
    intro r45 e45 k45
    have R45 := pz_kd6 k45
    refine And.intro (hI) ?_
    intro v50 M50 a50 b50 q50
    obtain ⟨q50, z50⟩ := q50
    subst z50
    refine And.intro ?_ ?_
    · skip
      refine And.intro (fun h53 => ?_) ?_
      · skip
        refine And.intro (hI) ?_
        intro v85 M85 a85 b85 q85
        obtain ⟨q85, z85⟩ := q85
        subst z85
        refine And.intro (fun h88 => ?_) (fun h88 => ?_)
        · skip
          refine And.intro rfl ?_
          exact ⟨trivial, hS⟩
        · skip
          refine And.intro (hI) ?_
          intro v96 M96 a96 b96 q96
          obtain ⟨q96, z96⟩ := q96
          have hS : pz_st M M96 := hS.tr z96
          have hI : pz_ic M96 := hS.1.1 hI0
          refine And.intro rfl ?_
          exact ⟨trivial, hS⟩
      refine And.intro (fun h53 => ?_) ?_
      · skip
        refine And.intro (hI) ?_
        intro v105 M105 a105 b105 q105
        obtain ⟨q105, z105⟩ := q105
        subst z105
        refine And.intro (fun h108 => ?_) (fun h108 => ?_)
        · skip
          refine And.intro rfl ?_
          exact ⟨trivial, hS⟩
        · skip
          refine And.intro (hI) ?_
          intro M114 q114
          obtain ⟨q114, z114⟩ := q114
          have hS : pz_st M M114 := hS.tr z114
          have hI : pz_ic M114 := hS.1.1 hI0
          refine And.intro rfl ?_
          exact ⟨trivial, hS⟩
      refine And.intro (fun h53 => ?_) ?_
      · skip
        refine And.intro (hI) ?_
        intro v127 M127 a127 b127 q127
        obtain ⟨q127, z127⟩ := q127
        subst z127
        refine And.intro (fun h130 => ?_) (fun h130 => ?_)
        · skip
          refine And.intro rfl ?_
          exact ⟨trivial, hS⟩
        · skip
          refine And.intro (hI) ?_
          intro M140 q140
          obtain ⟨q140, z140⟩ := q140
          have hS : pz_st M M140 := hS.tr z140
          have hI : pz_ic M140 := hS.1.1 hI0
          refine And.intro rfl ?_
          exact ⟨trivial, hS⟩
      exact True.intro
    · intro h53
      refine And.intro (hI) ?_
      intro v149 M149 a149 b149 q149
      obtain ⟨q149, z149⟩ := q149
      subst z149
      refine And.intro (fun h152 => ?_) (fun h152 => ?_)
      · skip
        refine And.intro rfl ?_
        exact ⟨trivial, hS⟩
      · skip
        refine And.intro (hI) ?_
        intro M158 q158
        obtain ⟨q158, z158⟩ := q158
        have hS : pz_st M M158 := hS.tr z158
        have hI : pz_ic M158 := hS.1.1 hI0
        refine And.intro rfl ?_
        exact ⟨trivial, hS⟩
theorem v_X1_doPlanned {fr lo i : Nat} {own : String} (h1 : 5 + 1 ≤ fr) (h2 : 8 + (6 + 11) + 122 ≤ lo) (h3 : .methodLink own i yX1_doPlanned ∈ lw_tbl) : pz_cV fr lo own i k_X1_doPlanned :=
  pz_cVk (maxL := 6) (fr' := 5) (lo' := 122) 2 1 h_X1_doPlanned rfl ⟨by decide +kernel, by decide +kernel, by decide +kernel⟩ ⟨(pz_mt 582 (by decide +kernel)), (pz_mt 580 (by decide +kernel)), (pz_mt 581 (by decide +kernel)), (pz_mt 7 (by decide +kernel))⟩ (Or.inl ⟨TX1, 2, rfl⟩) (fun a M _ h => by
    have h : (match (generalizing := false) a with | [.inr (.inr (1, d)), .inr (.inr (0, c)), .inl i] => pz_ic M | _ => False) := h
    split at h
    · exact ⟨_, _, rfl⟩
    · exact h.elim) h1 h2 h3
def k_X1_mayLeave : pz_C := (3, 0, fun a M => (match a with | [.inr (.inr (1, d)), .inr (.inr (0, c)), .inl i] => pz_ic M ∧ 0 ≤ i ∧ i < 12 | _ => False), fun a M r M' => (match a, r with | [.inr (.inr (1, d)), .inr (.inr (0, c)), .inl i], none => (True) ∧ pz_st M M' | _, _ => False))
abbrev ct_X1_mayLeave : List (Bool × Nat × pz_C) := [(true, 64, k_X3_tells), (true, 114, k_X0_happens), (true, 39, k_X0_at), (true, 76, k_X1_write)]
set_option maxRecDepth 100000 in
set_option maxHeartbeats 4000000 in
theorem h_X1_mayLeave : pz_H yX1_mayLeave cX1_mayLeave 5 none k_X1_mayLeave 4 97 := by
  refine pz_mk (own := RX1) (tb := t_X1_mayLeave) (fl := pz_flf fl_RX1) (ci := fun _ => none) (ct := pz_ctf ct_X1_mayLeave) (rz := false) (by decide +kernel) rfl t_X1_mayLeave_ok (pz_flk fl_RX1_ok) (fun i v h => by cases h) ?_ ?_ (rfl) ?_ ?_
  · exact fun i k' h => pz_ctk (l := ct_X1_mayLeave) (P := fun b i k => b = true → pz_cV 4 97 RX1 i k) (List.forall_mem_cons.mpr ⟨(fun _ => v_X3_tells (by decide) (by decide) (pz_mt 482 (by decide +kernel))), List.forall_mem_cons.mpr ⟨(fun _ => v_X0_happens (by decide) (by decide) (pz_mt 591 (by decide +kernel))), List.forall_mem_cons.mpr ⟨(fun _ => v_X0_at (by decide) (by decide) (pz_mt 457 (by decide +kernel))), List.forall_mem_cons.mpr ⟨(fun _ => v_X1_write (by decide) (by decide) (pz_mt 517 (by decide +kernel))), fun _ h => absurd h List.not_mem_nil⟩⟩⟩⟩) true i k' h rfl
  · exact fun i k' h => pz_ctk (l := ct_X1_mayLeave) (P := fun b i k => b = false → (pz_cS 4 97 RX1 i k ∨ (k = pz_kac ∧ 1 ≤ 4 ∧ 60 ≤ 97 ∧ Cond.methodLink RX1 i arraycopyName ∈ pz_tbl))) (List.forall_mem_cons.mpr ⟨((fun z => by cases z)), List.forall_mem_cons.mpr ⟨((fun z => by cases z)), List.forall_mem_cons.mpr ⟨((fun z => by cases z)), List.forall_mem_cons.mpr ⟨((fun z => by cases z)), fun _ h => absurd h List.not_mem_nil⟩⟩⟩⟩) false i k' h rfl
  · intro a M hlen hpre
    obtain ⟨d, c, i, rfl, hpre⟩ : ∃ d c i, a = [.inr (.inr (1, d)), .inr (.inr (0, c)), .inl i] ∧ (pz_ic M ∧ 0 ≤ i ∧ i < 12) := by
      have hpre : (match (generalizing := false) a with | [.inr (.inr (1, d)), .inr (.inr (0, c)), .inl i] => pz_ic M ∧ 0 ≤ i ∧ i < 12 | _ => False) := hpre
      split at hpre
      · exact ⟨_, _, _, rfl, hpre⟩
      · exact hpre.elim
    exact Nat.le_of_ble_eq_true rfl
  · intro a M hlen hcan hM hpre Ok hgo
    obtain ⟨d, c, i, rfl, hpre⟩ : ∃ d c i, a = [.inr (.inr (1, d)), .inr (.inr (0, c)), .inl i] ∧ (pz_ic M ∧ 0 ≤ i ∧ i < 12) := by
      have hpre : (match (generalizing := false) a with | [.inr (.inr (1, d)), .inr (.inr (0, c)), .inl i] => pz_ic M ∧ 0 ≤ i ∧ i < 12 | _ => False) := hpre
      split at hpre
      · exact ⟨_, _, _, rfl, hpre⟩
      · exact hpre.elim
    obtain ⟨k_d, hc_d⟩ := pz_tlm hcan
    have k_d : pz_kd d = 1 ∧ d < 231 := k_d
    have R_d := pz_kd1 k_d.1
    subst R_d
    obtain ⟨k_c, hc_c⟩ := pz_tlm hc_d
    have k_c : pz_kd c = 0 ∧ c < 231 := k_c
    have R_c := pz_kd0 k_c.1
    obtain ⟨k_i, hc_i⟩ := pz_tlm hc_c
    have l_i : -2147483648 ≤ i := k_i.1
    have u_i : i ≤ 2147483647 := k_i.2
    have hI : pz_ic M := hpre.1
    have hI0 := hI
    have hS : pz_st M M := pz_st.rf
    have L59 : ∀ (fu : Nat) (x3 : Int) (x4 : Int) (N59 : pz_M), (i + 2 - x4).toNat < fu → (pz_st M N59) → (-1 ≤ x4) → Ok 59 [some (.inr (.inr (1, 2))), some (.inr (.inr (0, c))), some (.inl i), some (.inl x3), some (.inl x4)] [] N59 := by
      intro fu
      induction fu with
      | zero => exact fun _ _ _ hn => absurd hn (Nat.not_lt_zero _)
      | succ fu ih59 =>
        intro x3 x4 N59 hn59 hS g59_1
        have hI : pz_ic N59 := hS.1.1 hI0
        have L90 : ∀ (x3 : Int) (x4 : Int) (N90 : pz_M), (pz_st M N90) → (-1 ≤ x4) → (x4 ≤ i + 1) → ((i + 2 - x4).toNat < fu + 1) → Ok 90 [some (.inr (.inr (1, 2))), some (.inr (.inr (0, c))), some (.inl i), some (.inl x3), some (.inl x4)] [] N90 := by
          intro x3 x4 N90 hS g90_1 g90_2 g90_3
          have hI : pz_ic N90 := hS.1.1 hI0
          refine hgo (fun p => Nat.beq p 59 || Nat.beq p 90) 57 90 _ _ _ ?_
          intro v90 e90 a90 b90
          try rw [pz_wi (by omega) (by omega)] at e90
          exact ih59 _ _ _ (by omega) hS (by omega)
        refine hgo (fun p => Nat.beq p 59 || Nat.beq p 90) 57 59 _ _ _ ?_
        intro v63 e63 a63 b63
        try rw [pz_wi (by omega) (by omega)] at e63
        refine And.intro (fun h64 => ?_) (fun h64 => ?_)
        · skip
          refine And.intro rfl ?_
          exact ⟨trivial, hS⟩
        · skip
          refine And.intro (True.intro) ?_
          intro r70 M70 k70 q70
          have R70 := pz_kd5 k70
          obtain ⟨q70, z70⟩ := q70
          subst z70
          intro v73 e73 a73 b73
          refine And.intro (fun h77 => ?_) (fun h77 => ?_)
          · skip
            exact L90 _ _ _ hS (by omega) (by omega) (by omega)
          · skip
            refine And.intro (True.intro) ?_
            intro r83 M83 k83 q83
            have R83 := pz_kd5 k83
            obtain ⟨q83, z83⟩ := q83
            subst z83
            intro M87 e87
            have hS : pz_st M M87 := by
              rw [e87]
              exact pz_st_u hS (by unfold pz_md pz_kx pz_mid; omega) (by omega) (by unfold pz_iok; omega)
            have hI : pz_ic M87 := hS.1.1 hI0
            exact L90 _ _ _ hS (by omega) (by omega) (by omega)
    refine hgo (fun p => Nat.beq p 59 || Nat.beq p 90) 57 0 _ [] M ?_
    intro r1 e1 k1
    have R1 := pz_kd10 k1
    intro r4 e4 k4
    have R4 := pz_kd3 k4
    refine And.intro (hI) ?_
    intro v10 M10 a10 b10 q10
    obtain ⟨q10, z10⟩ := q10
    have hS : pz_st M M10 := hS.tr z10
    have hI : pz_ic M10 := hS.1.1 hI0
    refine And.intro (fun h15 => ?_) (fun h15 => ?_)
    · skip
      refine And.intro rfl ?_
      exact ⟨trivial, hS⟩
    · skip
      refine And.intro (hI) ?_
      intro v20 M20 a20 b20 q20
      obtain ⟨q20, z20⟩ := q20
      have hS : pz_st M M20 := hS.tr z20
      have hI : pz_ic M20 := hS.1.1 hI0
      refine And.intro (fun h23 => ?_) (fun h23 => ?_)
      · skip
        refine And.intro (True.intro) ?_
        intro r29 M29 k29 q29
        have R29 := pz_kd5 k29
        obtain ⟨q29, z29⟩ := q29
        subst z29
        intro M33 e33
        have hS : pz_st M M33 := by
          rw [e33]
          exact pz_st_u hS (by unfold pz_md pz_kx pz_mid; omega) (by omega) (by unfold pz_iok; omega)
        have hI : pz_ic M33 := hS.1.1 hI0
        intro v38 e38 a38 b38
        intro v42 e42 a42 b42
        try rw [pz_wi (by omega) (by omega)] at e42
        intro M43 e43
        have hS : pz_st M M43 := by
          rw [e43]
          exact pz_st_u hS (by unfold pz_md pz_kx pz_mid; omega) (by omega) (by unfold pz_iok; omega)
        have hI : pz_ic M43 := hS.1.1 hI0
        refine And.intro (hI) ?_
        intro M51 q51
        obtain ⟨q51, z51⟩ := q51
        have hS : pz_st M M51 := hS.tr z51
        have hI : pz_ic M51 := hS.1.1 hI0
        intro v56 e56 a56 b56
        try rw [pz_wi (by omega) (by omega)] at e56
        exact L59 _ _ _ _ (Nat.lt_succ_self _) hS (by omega)
      · skip
        refine And.intro rfl ?_
        exact ⟨trivial, hS⟩
theorem v_X1_mayLeave {fr lo i : Nat} {own : String} (h1 : 4 + 1 ≤ fr) (h2 : 8 + (5 + 11) + 97 ≤ lo) (h3 : .methodLink own i yX1_mayLeave ∈ lw_tbl) : pz_cV fr lo own i k_X1_mayLeave :=
  pz_cVk (maxL := 5) (fr' := 4) (lo' := 97) 2 1 h_X1_mayLeave rfl ⟨by decide +kernel, by decide +kernel, by decide +kernel⟩ ⟨(pz_mt 600 (by decide +kernel)), (pz_mt 598 (by decide +kernel)), (pz_mt 599 (by decide +kernel)), (pz_mt 7 (by decide +kernel))⟩ (Or.inl ⟨TX1, 2, rfl⟩) (fun a M _ h => by
    have h : (match (generalizing := false) a with | [.inr (.inr (1, d)), .inr (.inr (0, c)), .inl i] => pz_ic M ∧ 0 ≤ i ∧ i < 12 | _ => False) := h
    split at h
    · exact ⟨_, _, rfl⟩
    · exact h.elim) h1 h2 h3
def k_X1_canMove : pz_C := (3, 1, fun a M => (match a with | [.inr (.inr (0, c)), .inl i, .inl j] => pz_ic M ∧ j ≤ 1000 | _ => False), fun a M r M' => (match a, r with | [.inr (.inr (0, c)), .inl i, .inl j], some (.inl v) => (v = 0 ∨ v = 1) ∧ M = M' | _, _ => False))
abbrev ct_X1_canMove : List (Bool × Nat × pz_C) := [(true, 39, k_X0_at), (true, 172, k_X0_canPay)]
set_option maxRecDepth 100000 in
set_option maxHeartbeats 4000000 in
theorem h_X1_canMove : pz_H yX1_canMove cX1_canMove 5 (some .boolean) k_X1_canMove 3 64 := by
  refine pz_mk (own := RX1) (tb := t_X1_canMove) (fl := pz_flf fl_RX1) (ci := fun _ => none) (ct := pz_ctf ct_X1_canMove) (rz := true) (by decide +kernel) rfl t_X1_canMove_ok (pz_flk fl_RX1_ok) (fun i v h => by cases h) ?_ ?_ (Or.inr ⟨rfl, rfl⟩) ?_ ?_
  · exact fun i k' h => pz_ctk (l := ct_X1_canMove) (P := fun b i k => b = true → pz_cV 3 64 RX1 i k) (List.forall_mem_cons.mpr ⟨(fun _ => v_X0_at (by decide) (by decide) (pz_mt 457 (by decide +kernel))), List.forall_mem_cons.mpr ⟨(fun _ => v_X0_canPay (by decide) (by decide) (pz_mt 626 (by decide +kernel))), fun _ h => absurd h List.not_mem_nil⟩⟩) true i k' h rfl
  · exact fun i k' h => pz_ctk (l := ct_X1_canMove) (P := fun b i k => b = false → (pz_cS 3 64 RX1 i k ∨ (k = pz_kac ∧ 1 ≤ 3 ∧ 60 ≤ 64 ∧ Cond.methodLink RX1 i arraycopyName ∈ pz_tbl))) (List.forall_mem_cons.mpr ⟨((fun z => by cases z)), List.forall_mem_cons.mpr ⟨((fun z => by cases z)), fun _ h => absurd h List.not_mem_nil⟩⟩) false i k' h rfl
  · intro a M hlen hpre
    obtain ⟨c, i, j, rfl, hpre⟩ : ∃ c i j, a = [.inr (.inr (0, c)), .inl i, .inl j] ∧ (pz_ic M ∧ j ≤ 1000) := by
      have hpre : (match (generalizing := false) a with | [.inr (.inr (0, c)), .inl i, .inl j] => pz_ic M ∧ j ≤ 1000 | _ => False) := hpre
      split at hpre
      · exact ⟨_, _, _, rfl, hpre⟩
      · exact hpre.elim
    exact Nat.le_of_ble_eq_true rfl
  · intro a M hlen hcan hM hpre Ok hgo
    obtain ⟨c, i, j, rfl, hpre⟩ : ∃ c i j, a = [.inr (.inr (0, c)), .inl i, .inl j] ∧ (pz_ic M ∧ j ≤ 1000) := by
      have hpre : (match (generalizing := false) a with | [.inr (.inr (0, c)), .inl i, .inl j] => pz_ic M ∧ j ≤ 1000 | _ => False) := hpre
      split at hpre
      · exact ⟨_, _, _, rfl, hpre⟩
      · exact hpre.elim
    obtain ⟨k_c, hc_c⟩ := pz_tlm hcan
    have k_c : pz_kd c = 0 ∧ c < 231 := k_c
    have R_c := pz_kd0 k_c.1
    obtain ⟨k_i, hc_i⟩ := pz_tlm hc_c
    have l_i : -2147483648 ≤ i := k_i.1
    have u_i : i ≤ 2147483647 := k_i.2
    obtain ⟨k_j, hc_j⟩ := pz_tlm hc_i
    have l_j : -2147483648 ≤ j := k_j.1
    have u_j : j ≤ 2147483647 := k_j.2
    have hI : pz_ic M := hpre.1
    have L2 : ∀ (fu : Nat) (x3 : Int) (d4 : Option pz_V), (j + 1 - x3).toNat < fu → (-2147483648 ≤ x3) → Ok 2 [some (.inr (.inr (0, c))), some (.inl i), some (.inl j), some (.inl x3), d4] [] M := by
      intro fu
      induction fu with
      | zero => exact fun _ _ hn => absurd hn (Nat.not_lt_zero _)
      | succ fu ih2 =>
        intro x3 d4 hn2 g2_0
        refine hgo (fun p => Nat.beq p 2) 30 2 _ _ _ ?_
        refine And.intro (fun h4 => ?_) (fun h4 => ?_)
        · skip
          refine And.intro (by omega) ?_
          refine And.intro rfl ?_
          exact ⟨by omega, rfl⟩
        · skip
          refine And.intro (True.intro) ?_
          intro r9 M9 k9 q9
          have R9 := pz_kd5 k9
          obtain ⟨q9, z9⟩ := q9
          subst z9
          intro v16 e16 a16 b16
          refine And.intro (fun h19 => ?_) (fun h19 => ?_)
          · skip
            refine And.intro (by omega) ?_
            refine And.intro rfl ?_
            exact ⟨by omega, rfl⟩
          · skip
            intro v24 e24 a24 b24
            refine And.intro (fun h27 => ?_) (fun h27 => ?_)
            · skip
              refine And.intro (by omega) ?_
              refine And.intro rfl ?_
              exact ⟨by omega, rfl⟩
            · skip
              refine And.intro (fun h32 => ?_) (fun h32 => ?_)
              · skip
                intro v45 e45 a45 b45
                try rw [pz_wi (by omega) (by omega)] at e45
                exact ih2 _ _ (by omega) (by omega)
              · skip
                refine And.intro (hI) ?_
                intro v37 M37 a37 b37 q37
                obtain ⟨q37, z37⟩ := q37
                subst z37
                refine And.intro (fun h40 => ?_) (fun h40 => ?_)
                · skip
                  intro v45 e45 a45 b45
                  try rw [pz_wi (by omega) (by omega)] at e45
                  exact ih2 _ _ (by omega) (by omega)
                · skip
                  refine And.intro (by omega) ?_
                  refine And.intro rfl ?_
                  exact ⟨by omega, rfl⟩
    refine hgo (fun p => Nat.beq p 2) 30 0 _ [] M ?_
    exact L2 _ _ _ (Nat.lt_succ_self _) (by omega)
theorem s_X1_canMove {fr lo i : Nat} {own : String} (h1 : 3 + 1 ≤ fr) (h2 : 8 + (5 + 11) + 64 ≤ lo) (h3 : .methodLink own i yX1_canMove ∈ lw_tbl ∨ (own = RX1 ∧ i = 35 ∧ yX1_canMove = yX11_within)) : pz_cS fr lo own i k_X1_canMove := pz_cSk (maxL := 5) (fr' := 3) (lo' := 64) 3 h_X1_canMove rfl ⟨by decide +kernel, by decide +kernel, by decide +kernel⟩ ⟨(pz_mt 625 (by decide +kernel)), (pz_mt 624 (by decide +kernel)), (pz_mt 7 (by decide +kernel))⟩ h1 h2 h3
def k_X1_movePart : pz_C := (4, 1, fun a M => (match a with | [.inr (.inr (1, d)), .inr (.inr (0, c)), .inl i, .inl j] => pz_ic M ∧ j ≤ 1000 ∧ -1000 ≤ i | _ => False), fun a M r M' => (match a, r with | [.inr (.inr (1, d)), .inr (.inr (0, c)), .inl i, .inl j], some (.inl v) => (True) ∧ pz_st M M' | _, _ => False))
abbrev ct_X1_movePart : List (Bool × Nat × pz_C) := [(true, 39, k_X0_at), (true, 76, k_X1_write)]
set_option maxRecDepth 100000 in
set_option maxHeartbeats 4000000 in
theorem h_X1_movePart : pz_H yX1_movePart cX1_movePart 7 (some .int) k_X1_movePart 1 25 := by
  refine pz_mk (own := RX1) (tb := t_X1_movePart) (fl := pz_flf fl_RX1) (ci := fun _ => none) (ct := pz_ctf ct_X1_movePart) (rz := false) (by decide +kernel) rfl t_X1_movePart_ok (pz_flk fl_RX1_ok) (fun i v h => by cases h) ?_ ?_ (Or.inl ⟨rfl, rfl⟩) ?_ ?_
  · exact fun i k' h => pz_ctk (l := ct_X1_movePart) (P := fun b i k => b = true → pz_cV 1 25 RX1 i k) (List.forall_mem_cons.mpr ⟨(fun _ => v_X0_at (by decide) (by decide) (pz_mt 457 (by decide +kernel))), List.forall_mem_cons.mpr ⟨(fun _ => v_X1_write (by decide) (by decide) (pz_mt 517 (by decide +kernel))), fun _ h => absurd h List.not_mem_nil⟩⟩) true i k' h rfl
  · exact fun i k' h => pz_ctk (l := ct_X1_movePart) (P := fun b i k => b = false → (pz_cS 1 25 RX1 i k ∨ (k = pz_kac ∧ 1 ≤ 1 ∧ 60 ≤ 25 ∧ Cond.methodLink RX1 i arraycopyName ∈ pz_tbl))) (List.forall_mem_cons.mpr ⟨((fun z => by cases z)), List.forall_mem_cons.mpr ⟨((fun z => by cases z)), fun _ h => absurd h List.not_mem_nil⟩⟩) false i k' h rfl
  · intro a M hlen hpre
    obtain ⟨d, c, i, j, rfl, hpre⟩ : ∃ d c i j, a = [.inr (.inr (1, d)), .inr (.inr (0, c)), .inl i, .inl j] ∧ (pz_ic M ∧ j ≤ 1000 ∧ -1000 ≤ i) := by
      have hpre : (match (generalizing := false) a with | [.inr (.inr (1, d)), .inr (.inr (0, c)), .inl i, .inl j] => pz_ic M ∧ j ≤ 1000 ∧ -1000 ≤ i | _ => False) := hpre
      split at hpre
      · exact ⟨_, _, _, _, rfl, hpre⟩
      · exact hpre.elim
    exact Nat.le_of_ble_eq_true rfl
  · intro a M hlen hcan hM hpre Ok hgo
    obtain ⟨d, c, i, j, rfl, hpre⟩ : ∃ d c i j, a = [.inr (.inr (1, d)), .inr (.inr (0, c)), .inl i, .inl j] ∧ (pz_ic M ∧ j ≤ 1000 ∧ -1000 ≤ i) := by
      have hpre : (match (generalizing := false) a with | [.inr (.inr (1, d)), .inr (.inr (0, c)), .inl i, .inl j] => pz_ic M ∧ j ≤ 1000 ∧ -1000 ≤ i | _ => False) := hpre
      split at hpre
      · exact ⟨_, _, _, _, rfl, hpre⟩
      · exact hpre.elim
    obtain ⟨k_d, hc_d⟩ := pz_tlm hcan
    have k_d : pz_kd d = 1 ∧ d < 231 := k_d
    have R_d := pz_kd1 k_d.1
    subst R_d
    obtain ⟨k_c, hc_c⟩ := pz_tlm hc_d
    have k_c : pz_kd c = 0 ∧ c < 231 := k_c
    have R_c := pz_kd0 k_c.1
    obtain ⟨k_i, hc_i⟩ := pz_tlm hc_c
    have l_i : -2147483648 ≤ i := k_i.1
    have u_i : i ≤ 2147483647 := k_i.2
    obtain ⟨k_j, hc_j⟩ := pz_tlm hc_i
    have l_j : -2147483648 ≤ j := k_j.1
    have u_j : j ≤ 2147483647 := k_j.2
    have hI : pz_ic M := hpre.1
    have hI0 := hI
    have hS : pz_st M M := pz_st.rf
    have L6 : ∀ (fu : Nat) (x4 : Int) (x5 : Int) (d6 : Option pz_V) (N6 : pz_M), (j + 1 - x5).toNat < fu → (pz_st M N6) → (-1000 ≤ x5) → Ok 6 [some (.inr (.inr (1, 2))), some (.inr (.inr (0, c))), some (.inl i), some (.inl j), some (.inl x4), some (.inl x5), d6] [] N6 := by
      intro fu
      induction fu with
      | zero => exact fun _ _ _ _ hn => absurd hn (Nat.not_lt_zero _)
      | succ fu ih6 =>
        intro x4 x5 d6 N6 hn6 hS g6_1
        have hI : pz_ic N6 := hS.1.1 hI0
        have L64 : ∀ (x4 : Int) (x5 : Int) (r6 : Nat) (N64 : pz_M), (pz_kd r6 = 5) → (pz_st M N64) → (-1000 ≤ x5) → (x5 ≤ j) → ((j + 1 - x5).toNat < fu + 1) → Ok 64 [some (.inr (.inr (1, 2))), some (.inr (.inr (0, c))), some (.inl i), some (.inl j), some (.inl x4), some (.inl x5), some (.inr (.inr (5, r6)))] [] N64 := by
          intro x4 x5 r6 N64 K_r6 hS g64_2 g64_3 g64_4
          have R_r6 := pz_kd5 K_r6
          have hI : pz_ic N64 := hS.1.1 hI0
          refine hgo (fun p => Nat.beq p 6 || Nat.beq p 64) 38 64 _ _ _ ?_
          intro v64 e64 a64 b64
          try rw [pz_wi (by omega) (by omega)] at e64
          exact ih6 _ _ _ _ (by omega) hS (by omega)
        refine hgo (fun p => Nat.beq p 6 || Nat.beq p 64) 38 6 _ _ _ ?_
        refine And.intro (fun h9 => ?_) (fun h9 => ?_)
        · skip
          refine And.intro rfl ?_
          exact ⟨trivial, hS⟩
        · skip
          refine And.intro (True.intro) ?_
          intro r15 M15 k15 q15
          have R15 := pz_kd5 k15
          obtain ⟨q15, z15⟩ := q15
          subst z15
          intro v22 e22 a22 b22
          refine And.intro (fun h26 => ?_) (fun h26 => ?_)
          · skip
            exact L64 _ _ _ _ (by first | assumption | rfl) hS (by omega) (by omega) (by omega)
          · skip
            refine And.intro (fun h32 => ?_) (fun h32 => ?_)
            · skip
              intro v46 e46 a46 b46
              intro M49 e49
              have hS : pz_st M M49 := by
                rw [e49]
                exact pz_st_u hS (by unfold pz_md pz_kx pz_mid; omega) (by omega) (by unfold pz_iok; omega)
              have hI : pz_ic M49 := hS.1.1 hI0
              refine And.intro (hI) ?_
              intro M58 q58
              obtain ⟨q58, z58⟩ := q58
              have hS : pz_st M M58 := hS.tr z58
              have hI : pz_ic M58 := hS.1.1 hI0
              intro v61 e61 a61 b61
              try rw [pz_wi (by omega) (by omega)] at e61
              exact L64 _ _ _ _ (by first | assumption | rfl) hS (by omega) (by omega) (by omega)
            · skip
              intro v37 e37 a37 b37
              refine And.intro (fun h40 => ?_) (fun h40 => ?_)
              · skip
                exact L64 _ _ _ _ (by first | assumption | rfl) hS (by omega) (by omega) (by omega)
              · skip
                intro v46 e46 a46 b46
                intro M49 e49
                have hS : pz_st M M49 := by
                  rw [e49]
                  exact pz_st_u hS (by unfold pz_md pz_kx pz_mid; omega) (by omega) (by unfold pz_iok; omega)
                have hI : pz_ic M49 := hS.1.1 hI0
                refine And.intro (hI) ?_
                intro M58 q58
                obtain ⟨q58, z58⟩ := q58
                have hS : pz_st M M58 := hS.tr z58
                have hI : pz_ic M58 := hS.1.1 hI0
                intro v61 e61 a61 b61
                try rw [pz_wi (by omega) (by omega)] at e61
                exact L64 _ _ _ _ (by first | assumption | rfl) hS (by omega) (by omega) (by omega)
    refine hgo (fun p => Nat.beq p 6 || Nat.beq p 64) 38 0 _ [] M ?_
    exact L6 _ _ _ _ _ (Nat.lt_succ_self _) hS (by omega)
theorem v_X1_movePart {fr lo i : Nat} {own : String} (h1 : 1 + 1 ≤ fr) (h2 : 8 + (7 + 11) + 25 ≤ lo) (h3 : .methodLink own i yX1_movePart ∈ lw_tbl) : pz_cV fr lo own i k_X1_movePart :=
  pz_cVk (maxL := 7) (fr' := 1) (lo' := 25) 3 1 h_X1_movePart rfl ⟨by decide +kernel, by decide +kernel, by decide +kernel⟩ ⟨(pz_mt 638 (by decide +kernel)), (pz_mt 636 (by decide +kernel)), (pz_mt 637 (by decide +kernel)), (pz_mt 7 (by decide +kernel))⟩ (Or.inl ⟨TX1, 2, rfl⟩) (fun a M _ h => by
    have h : (match (generalizing := false) a with | [.inr (.inr (1, d)), .inr (.inr (0, c)), .inl i, .inl j] => pz_ic M ∧ j ≤ 1000 ∧ -1000 ≤ i | _ => False) := h
    split at h
    · exact ⟨_, _, rfl⟩
    · exact h.elim) h1 h2 h3
def k_X1_moveParts : pz_C := (2, 1, fun a M => (match a with | [.inr (.inr (1, d)), .inr (.inr (0, c))] => pz_ic M | _ => False), fun a M r M' => (match a, r with | [.inr (.inr (1, d)), .inr (.inr (0, c))], some (.inl v) => (True) ∧ pz_st M M' | _, _ => False))
abbrev ct_X1_moveParts : List (Bool × Nat × pz_C) := [(true, 158, k_X0_parts), (true, 162, k_X0_partEnd), (false, 166, k_X1_canMove), (true, 169, k_X1_movePart)]
set_option maxRecDepth 100000 in
set_option maxHeartbeats 4000000 in
theorem h_X1_moveParts : pz_H yX1_moveParts cX1_moveParts 6 (some .int) k_X1_moveParts 4 88 := by
  refine pz_mk (own := RX1) (tb := t_X1_moveParts) (fl := pz_flf fl_RX1) (ci := fun _ => none) (ct := pz_ctf ct_X1_moveParts) (rz := false) (by decide +kernel) rfl t_X1_moveParts_ok (pz_flk fl_RX1_ok) (fun i v h => by cases h) ?_ ?_ (Or.inl ⟨rfl, rfl⟩) ?_ ?_
  · exact fun i k' h => pz_ctk (l := ct_X1_moveParts) (P := fun b i k => b = true → pz_cV 4 88 RX1 i k) (List.forall_mem_cons.mpr ⟨(fun _ => v_X0_parts (by decide) (by decide) (pz_mt 605 (by decide +kernel))), List.forall_mem_cons.mpr ⟨(fun _ => v_X0_partEnd (by decide) (by decide) (pz_mt 619 (by decide +kernel))), List.forall_mem_cons.mpr ⟨((fun z => by cases z)), List.forall_mem_cons.mpr ⟨(fun _ => v_X1_movePart (by decide) (by decide) (pz_mt 635 (by decide +kernel))), fun _ h => absurd h List.not_mem_nil⟩⟩⟩⟩) true i k' h rfl
  · exact fun i k' h => pz_ctk (l := ct_X1_moveParts) (P := fun b i k => b = false → (pz_cS 4 88 RX1 i k ∨ (k = pz_kac ∧ 1 ≤ 4 ∧ 60 ≤ 88 ∧ Cond.methodLink RX1 i arraycopyName ∈ pz_tbl))) (List.forall_mem_cons.mpr ⟨((fun z => by cases z)), List.forall_mem_cons.mpr ⟨((fun z => by cases z)), List.forall_mem_cons.mpr ⟨(fun _ => Or.inl (s_X1_canMove (by decide) (by decide) (Or.inl (pz_mt 623 (by decide +kernel))))), List.forall_mem_cons.mpr ⟨((fun z => by cases z)), fun _ h => absurd h List.not_mem_nil⟩⟩⟩⟩) false i k' h rfl
  · intro a M hlen hpre
    obtain ⟨d, c, rfl, hpre⟩ : ∃ d c, a = [.inr (.inr (1, d)), .inr (.inr (0, c))] ∧ (pz_ic M) := by
      have hpre : (match (generalizing := false) a with | [.inr (.inr (1, d)), .inr (.inr (0, c))] => pz_ic M | _ => False) := hpre
      split at hpre
      · exact ⟨_, _, rfl, hpre⟩
      · exact hpre.elim
    exact Nat.le_of_ble_eq_true rfl
  · intro a M hlen hcan hM hpre Ok hgo
    obtain ⟨d, c, rfl, hpre⟩ : ∃ d c, a = [.inr (.inr (1, d)), .inr (.inr (0, c))] ∧ (pz_ic M) := by
      have hpre : (match (generalizing := false) a with | [.inr (.inr (1, d)), .inr (.inr (0, c))] => pz_ic M | _ => False) := hpre
      split at hpre
      · exact ⟨_, _, rfl, hpre⟩
      · exact hpre.elim
    obtain ⟨k_d, hc_d⟩ := pz_tlm hcan
    have k_d : pz_kd d = 1 ∧ d < 231 := k_d
    have R_d := pz_kd1 k_d.1
    subst R_d
    obtain ⟨k_c, hc_c⟩ := pz_tlm hc_d
    have k_c : pz_kd c = 0 ∧ c < 231 := k_c
    have R_c := pz_kd0 k_c.1
    have hI : pz_ic M := hpre
    have hI0 := hI
    have hS : pz_st M M := pz_st.rf
    have L10 : ∀ (fu : Nat) (x2 : Int) (x3 : Int) (x4 : Int) (d5 : Option pz_V) (N10 : pz_M), x4.toNat < fu → (pz_st M N10) → (0 ≤ x3) → (x3 ≤ 1000) → (x4 ≤ 2147483647) → Ok 10 [some (.inr (.inr (1, 2))), some (.inr (.inr (0, c))), some (.inl x2), some (.inl x3), some (.inl x4), d5] [] N10 := by
      intro fu
      induction fu with
      | zero => exact fun _ _ _ _ _ hn => absurd hn (Nat.not_lt_zero _)
      | succ fu ih10 =>
        intro x2 x3 x4 d5 N10 hn10 hS g10_1 g10_2 g10_3
        have hI : pz_ic N10 := hS.1.1 hI0
        refine hgo (fun p => Nat.beq p 10) 34 10 _ _ _ ?_
        refine And.intro (fun h12 => ?_) (fun h12 => ?_)
        · skip
          refine And.intro rfl ?_
          exact ⟨trivial, hS⟩
        · skip
          refine And.intro (hI) ?_
          intro v17 M17 a17 b17 q17
          obtain ⟨q17, z17⟩ := q17
          subst z17
          refine And.intro (And.intro hI (by omega)) ?_
          intro v26 M26 a26 b26 q26
          obtain ⟨q26, z26⟩ := q26
          subst z26
          refine And.intro (fun h29 => ?_) (fun h29 => ?_)
          · skip
            intro v46 e46 a46 b46
            try rw [pz_wi (by omega) (by omega)] at e46
            exact ih10 _ _ _ _ _ (by omega) hS (by omega) (by omega) (by omega)
          · skip
            refine And.intro (And.intro hI (And.intro (by omega) (by omega))) ?_
            intro v38 M38 a38 b38 q38
            obtain ⟨q38, z38⟩ := q38
            have hS : pz_st M M38 := hS.tr z38
            have hI : pz_ic M38 := hS.1.1 hI0
            intro v41 e41 a41 b41
            try rw [pz_wi (by omega) (by omega)] at e41
            intro v46 e46 a46 b46
            try rw [pz_wi (by omega) (by omega)] at e46
            exact ih10 _ _ _ _ _ (by omega) hS (by omega) (by omega) (by omega)
    refine hgo (fun p => Nat.beq p 10) 34 0 _ [] M ?_
    refine And.intro (hI) ?_
    intro v5 M5 a5 b5 q5
    obtain ⟨q5, z5⟩ := q5
    subst z5
    exact L10 _ _ _ _ _ _ (Nat.lt_succ_self _) hS (by omega) (by omega) (by omega)
theorem v_X1_moveParts {fr lo i : Nat} {own : String} (h1 : 4 + 1 ≤ fr) (h2 : 8 + (6 + 11) + 88 ≤ lo) (h3 : .methodLink own i yX1_moveParts ∈ lw_tbl) : pz_cV fr lo own i k_X1_moveParts :=
  pz_cVk (maxL := 6) (fr' := 4) (lo' := 88) 1 1 h_X1_moveParts rfl ⟨by decide +kernel, by decide +kernel, by decide +kernel⟩ ⟨(pz_mt 604 (by decide +kernel)), (pz_mt 602 (by decide +kernel)), (pz_mt 603 (by decide +kernel)), (pz_mt 7 (by decide +kernel))⟩ (Or.inl ⟨TX1, 2, rfl⟩) (fun a M _ h => by
    have h : (match (generalizing := false) a with | [.inr (.inr (1, d)), .inr (.inr (0, c))] => pz_ic M | _ => False) := h
    split at h
    · exact ⟨_, _, rfl⟩
    · exact h.elim) h1 h2 h3
def k_X1_payForBridges : pz_C := (2, 0, fun a M => (match a with | [.inr (.inr (1, d)), .inr (.inr (0, c))] => pz_ic M | _ => False), fun a M r M' => (match a, r with | [.inr (.inr (1, d)), .inr (.inr (0, c))], none => (True) ∧ pz_st M M' | _, _ => False))
abbrev ct_X1_payForBridges : List (Bool × Nat × pz_C) := [(true, 39, k_X0_at), (true, 43, k_X5_isIn), (true, 64, k_X3_tells), (false, 73, k_J9_max_7cf53)]
set_option maxRecDepth 100000 in
set_option maxHeartbeats 4000000 in
theorem h_X1_payForBridges : pz_H yX1_payForBridges cX1_payForBridges 4 none k_X1_payForBridges 4 97 := by
  refine pz_mk (own := RX1) (tb := t_X1_payForBridges) (fl := pz_flf fl_RX1) (ci := fun _ => none) (ct := pz_ctf ct_X1_payForBridges) (rz := false) (by decide +kernel) rfl t_X1_payForBridges_ok (pz_flk fl_RX1_ok) (fun i v h => by cases h) ?_ ?_ (rfl) ?_ ?_
  · exact fun i k' h => pz_ctk (l := ct_X1_payForBridges) (P := fun b i k => b = true → pz_cV 4 97 RX1 i k) (List.forall_mem_cons.mpr ⟨(fun _ => v_X0_at (by decide) (by decide) (pz_mt 457 (by decide +kernel))), List.forall_mem_cons.mpr ⟨(fun _ => v_X5_isIn (by decide) (by decide) (pz_mt 458 (by decide +kernel))), List.forall_mem_cons.mpr ⟨(fun _ => v_X3_tells (by decide) (by decide) (pz_mt 482 (by decide +kernel))), List.forall_mem_cons.mpr ⟨((fun z => by cases z)), fun _ h => absurd h List.not_mem_nil⟩⟩⟩⟩) true i k' h rfl
  · exact fun i k' h => pz_ctk (l := ct_X1_payForBridges) (P := fun b i k => b = false → (pz_cS 4 97 RX1 i k ∨ (k = pz_kac ∧ 1 ≤ 4 ∧ 60 ≤ 97 ∧ Cond.methodLink RX1 i arraycopyName ∈ pz_tbl))) (List.forall_mem_cons.mpr ⟨((fun z => by cases z)), List.forall_mem_cons.mpr ⟨((fun z => by cases z)), List.forall_mem_cons.mpr ⟨((fun z => by cases z)), List.forall_mem_cons.mpr ⟨(fun _ => Or.inl (s_J9_max_7cf53 (by decide) (by decide) (Or.inl (pz_mt 516 (by decide +kernel))))), fun _ h => absurd h List.not_mem_nil⟩⟩⟩⟩) false i k' h rfl
  · intro a M hlen hpre
    obtain ⟨d, c, rfl, hpre⟩ : ∃ d c, a = [.inr (.inr (1, d)), .inr (.inr (0, c))] ∧ (pz_ic M) := by
      have hpre : (match (generalizing := false) a with | [.inr (.inr (1, d)), .inr (.inr (0, c))] => pz_ic M | _ => False) := hpre
      split at hpre
      · exact ⟨_, _, rfl, hpre⟩
      · exact hpre.elim
    exact Nat.le_of_ble_eq_true rfl
  · intro a M hlen hcan hM hpre Ok hgo
    obtain ⟨d, c, rfl, hpre⟩ : ∃ d c, a = [.inr (.inr (1, d)), .inr (.inr (0, c))] ∧ (pz_ic M) := by
      have hpre : (match (generalizing := false) a with | [.inr (.inr (1, d)), .inr (.inr (0, c))] => pz_ic M | _ => False) := hpre
      split at hpre
      · exact ⟨_, _, rfl, hpre⟩
      · exact hpre.elim
    obtain ⟨k_d, hc_d⟩ := pz_tlm hcan
    have k_d : pz_kd d = 1 ∧ d < 231 := k_d
    have R_d := pz_kd1 k_d.1
    subst R_d
    obtain ⟨k_c, hc_c⟩ := pz_tlm hc_d
    have k_c : pz_kd c = 0 ∧ c < 231 := k_c
    have R_c := pz_kd0 k_c.1
    have hI : pz_ic M := hpre
    have hI0 := hI
    have hS : pz_st M M := pz_st.rf
    have L2 : ∀ (fu : Nat) (x2 : Int) (d3 : Option pz_V) (N2 : pz_M), (12 - x2).toNat < fu → (pz_st M N2) → (0 ≤ x2) → Ok 2 [some (.inr (.inr (1, 2))), some (.inr (.inr (0, c))), some (.inl x2), d3] [] N2 := by
      intro fu
      induction fu with
      | zero => exact fun _ _ _ hn => absurd hn (Nat.not_lt_zero _)
      | succ fu ih2 =>
        intro x2 d3 N2 hn2 hS g2_1
        have hI : pz_ic N2 := hS.1.1 hI0
        have L58 : ∀ (x2 : Int) (r3 : Nat) (N58 : pz_M), (pz_kd r3 = 5) → (pz_st M N58) → (0 ≤ x2) → (x2 < 12) → ((12 - x2).toNat < fu + 1) → Ok 58 [some (.inr (.inr (1, 2))), some (.inr (.inr (0, c))), some (.inl x2), some (.inr (.inr (5, r3)))] [] N58 := by
          intro x2 r3 N58 K_r3 hS g58_2 g58_3 g58_4
          have R_r3 := pz_kd5 K_r3
          have hI : pz_ic N58 := hS.1.1 hI0
          refine hgo (fun p => Nat.beq p 2 || Nat.beq p 58) 35 58 _ _ _ ?_
          intro v58 e58 a58 b58
          try rw [pz_wi (by omega) (by omega)] at e58
          exact ih2 _ _ _ (by omega) hS (by omega)
        refine hgo (fun p => Nat.beq p 2 || Nat.beq p 58) 35 2 _ _ _ ?_
        intro v4 e4 a4 b4
        have I4 := hI.1 c (by omega) (by omega)
        refine And.intro (fun h7 => ?_) (fun h7 => ?_)
        · skip
          refine And.intro rfl ?_
          exact ⟨trivial, hS⟩
        · skip
          refine And.intro (True.intro) ?_
          intro r12 M12 k12 q12
          have R12 := pz_kd5 k12
          obtain ⟨q12, z12⟩ := q12
          subst z12
          intro v17 e17 a17 b17
          refine And.intro (fun h20 => ?_) (fun h20 => ?_)
          · skip
            exact L58 _ _ _ (by first | assumption | rfl) hS (by omega) (by omega) (by omega)
          · skip
            refine And.intro (True.intro) ?_
            intro v24 M24 a24 b24 q24
            obtain ⟨q24, z24⟩ := q24
            subst z24
            refine And.intro (fun h27 => ?_) (fun h27 => ?_)
            · skip
              exact L58 _ _ _ (by first | assumption | rfl) hS (by omega) (by omega) (by omega)
            · skip
              intro v35 e35 a35 b35
              intro r39 e39 k39
              have R39 := pz_kd10 k39
              intro r42 e42 k42
              have R42 := pz_kd3 k42
              refine And.intro (hI) ?_
              intro v48 M48 a48 b48 q48
              obtain ⟨q48, z48⟩ := q48
              have hS : pz_st M M48 := hS.tr z48
              have hI : pz_ic M48 := hS.1.1 hI0
              intro v51 e51 a51 b51
              try rw [pz_wi (by omega) (by omega)] at e51
              refine And.intro (True.intro) ?_
              intro v52 M52 a52 b52 q52
              obtain ⟨q52, z52⟩ := q52
              subst z52
              intro M55 e55
              have hS : pz_st M M55 := by
                rw [e55]
                exact pz_st_u hS (by unfold pz_md pz_kx pz_mid; omega) (by omega) (by unfold pz_iok; omega)
              have hI : pz_ic M55 := hS.1.1 hI0
              exact L58 _ _ _ (by first | assumption | rfl) hS (by omega) (by omega) (by omega)
    refine hgo (fun p => Nat.beq p 2 || Nat.beq p 58) 35 0 _ [] M ?_
    exact L2 _ _ _ _ (Nat.lt_succ_self _) hS (by omega)
theorem v_X1_payForBridges {fr lo i : Nat} {own : String} (h1 : 4 + 1 ≤ fr) (h2 : 8 + (4 + 11) + 97 ≤ lo) (h3 : .methodLink own i yX1_payForBridges ∈ lw_tbl) : pz_cV fr lo own i k_X1_payForBridges :=
  pz_cVk (maxL := 4) (fr' := 4) (lo' := 97) 1 1 h_X1_payForBridges rfl ⟨by decide +kernel, by decide +kernel, by decide +kernel⟩ ⟨(pz_mt 642 (by decide +kernel)), (pz_mt 640 (by decide +kernel)), (pz_mt 641 (by decide +kernel)), (pz_mt 7 (by decide +kernel))⟩ (Or.inl ⟨TX1, 2, rfl⟩) (fun a M _ h => by
    have h : (match (generalizing := false) a with | [.inr (.inr (1, d)), .inr (.inr (0, c))] => pz_ic M | _ => False) := h
    split at h
    · exact ⟨_, _, rfl⟩
    · exact h.elim) h1 h2 h3
def k_X1_oneDay : pz_C := (2, 1, fun a M => (match a with | [.inr (.inr (1, d)), .inr (.inr (0, c))] => pz_ic M | _ => False), fun a M r M' => (match a, r with | [.inr (.inr (1, d)), .inr (.inr (0, c))], some (.inl v) => (True) ∧ pz_st M M' | _, _ => False))
abbrev ct_X1_oneDay : List (Bool × Nat × pz_C) := [(true, 103, k_X6_cell), (true, 106, k_X1_doPlanned), (true, 110, k_X1_canGetReady), (true, 64, k_X3_tells), (true, 114, k_X0_happens), (true, 117, k_X1_getReady), (true, 39, k_X0_at), (true, 43, k_X5_isIn), (true, 120, k_X1_mayLeave), (true, 123, k_X1_moveParts), (true, 127, k_X1_payForBridges)]
set_option maxRecDepth 100000 in
set_option maxHeartbeats 4000000 in
theorem h_X1_oneDay : pz_H yX1_oneDay cX1_oneDay 3 (some .int) k_X1_oneDay 6 147 := by
  refine pz_mk (own := RX1) (tb := t_X1_oneDay) (fl := pz_flf fl_RX1) (ci := fun _ => none) (ct := pz_ctf ct_X1_oneDay) (rz := false) (by decide +kernel) rfl t_X1_oneDay_ok (pz_flk fl_RX1_ok) (fun i v h => by cases h) ?_ ?_ (Or.inl ⟨rfl, rfl⟩) ?_ ?_
  · exact fun i k' h => pz_ctk (l := ct_X1_oneDay) (P := fun b i k => b = true → pz_cV 6 147 RX1 i k) (List.forall_mem_cons.mpr ⟨(fun _ => v_X6_cell (by decide) (by decide) (pz_mt 575 (by decide +kernel))), List.forall_mem_cons.mpr ⟨(fun _ => v_X1_doPlanned (by decide) (by decide) (pz_mt 579 (by decide +kernel))), List.forall_mem_cons.mpr ⟨(fun _ => v_X1_canGetReady (by decide) (by decide) (pz_mt 589 (by decide +kernel))), List.forall_mem_cons.mpr ⟨(fun _ => v_X3_tells (by decide) (by decide) (pz_mt 482 (by decide +kernel))), List.forall_mem_cons.mpr ⟨(fun _ => v_X0_happens (by decide) (by decide) (pz_mt 591 (by decide +kernel))), List.forall_mem_cons.mpr ⟨(fun _ => v_X1_getReady (by decide) (by decide) (pz_mt 590 (by decide +kernel))), List.forall_mem_cons.mpr ⟨(fun _ => v_X0_at (by decide) (by decide) (pz_mt 457 (by decide +kernel))), List.forall_mem_cons.mpr ⟨(fun _ => v_X5_isIn (by decide) (by decide) (pz_mt 458 (by decide +kernel))), List.forall_mem_cons.mpr ⟨(fun _ => v_X1_mayLeave (by decide) (by decide) (pz_mt 597 (by decide +kernel))), List.forall_mem_cons.mpr ⟨(fun _ => v_X1_moveParts (by decide) (by decide) (pz_mt 601 (by decide +kernel))), List.forall_mem_cons.mpr ⟨(fun _ => v_X1_payForBridges (by decide) (by decide) (pz_mt 639 (by decide +kernel))), fun _ h => absurd h List.not_mem_nil⟩⟩⟩⟩⟩⟩⟩⟩⟩⟩⟩) true i k' h rfl
  · exact fun i k' h => pz_ctk (l := ct_X1_oneDay) (P := fun b i k => b = false → (pz_cS 6 147 RX1 i k ∨ (k = pz_kac ∧ 1 ≤ 6 ∧ 60 ≤ 147 ∧ Cond.methodLink RX1 i arraycopyName ∈ pz_tbl))) (List.forall_mem_cons.mpr ⟨((fun z => by cases z)), List.forall_mem_cons.mpr ⟨((fun z => by cases z)), List.forall_mem_cons.mpr ⟨((fun z => by cases z)), List.forall_mem_cons.mpr ⟨((fun z => by cases z)), List.forall_mem_cons.mpr ⟨((fun z => by cases z)), List.forall_mem_cons.mpr ⟨((fun z => by cases z)), List.forall_mem_cons.mpr ⟨((fun z => by cases z)), List.forall_mem_cons.mpr ⟨((fun z => by cases z)), List.forall_mem_cons.mpr ⟨((fun z => by cases z)), List.forall_mem_cons.mpr ⟨((fun z => by cases z)), List.forall_mem_cons.mpr ⟨((fun z => by cases z)), fun _ h => absurd h List.not_mem_nil⟩⟩⟩⟩⟩⟩⟩⟩⟩⟩⟩) false i k' h rfl
  · intro a M hlen hpre
    obtain ⟨d, c, rfl, hpre⟩ : ∃ d c, a = [.inr (.inr (1, d)), .inr (.inr (0, c))] ∧ (pz_ic M) := by
      have hpre : (match (generalizing := false) a with | [.inr (.inr (1, d)), .inr (.inr (0, c))] => pz_ic M | _ => False) := hpre
      split at hpre
      · exact ⟨_, _, rfl, hpre⟩
      · exact hpre.elim
    exact Nat.le_of_ble_eq_true rfl
  · intro a M hlen hcan hM hpre Ok hgo
    obtain ⟨d, c, rfl, hpre⟩ : ∃ d c, a = [.inr (.inr (1, d)), .inr (.inr (0, c))] ∧ (pz_ic M) := by
      have hpre : (match (generalizing := false) a with | [.inr (.inr (1, d)), .inr (.inr (0, c))] => pz_ic M | _ => False) := hpre
      split at hpre
      · exact ⟨_, _, rfl, hpre⟩
      · exact hpre.elim
    obtain ⟨k_d, hc_d⟩ := pz_tlm hcan
    have k_d : pz_kd d = 1 ∧ d < 231 := k_d
    have R_d := pz_kd1 k_d.1
    subst R_d
    obtain ⟨k_c, hc_c⟩ := pz_tlm hc_d
    have k_c : pz_kd c = 0 ∧ c < 231 := k_c
    have R_c := pz_kd0 k_c.1
    have hI : pz_ic M := hpre
    have hI0 := hI
    have hS : pz_st M M := pz_st.rf
    have L100 : ∀ (fu : Nat) (x2 : Int) (N100 : pz_M), (12 - x2).toNat < fu → (pz_st M N100) → (0 ≤ x2) → Ok 100 [some (.inr (.inr (1, 2))), some (.inr (.inr (0, c))), some (.inl x2)] [] N100 := by
      intro fu
      induction fu with
      | zero => exact fun _ _ hn => absurd hn (Nat.not_lt_zero _)
      | succ fu ih100 =>
        intro x2 N100 hn100 hS g100_1
        have hI : pz_ic N100 := hS.1.1 hI0
        have L125 : ∀ (x2 : Int) (N125 : pz_M), (pz_st M N125) → (0 ≤ x2) → (x2 < 12) → ((12 - x2).toNat < fu + 1) → Ok 125 [some (.inr (.inr (1, 2))), some (.inr (.inr (0, c))), some (.inl x2)] [] N125 := by
          intro x2 N125 hS g125_1 g125_2 g125_3
          have hI : pz_ic N125 := hS.1.1 hI0
          refine hgo (fun p => Nat.beq p 2 || Nat.beq p 41 || Nat.beq p 49 || Nat.beq p 92 || Nat.beq p 100 || Nat.beq p 125) 84 125 _ _ _ ?_
          intro v125 e125 a125 b125
          try rw [pz_wi (by omega) (by omega)] at e125
          exact ih100 _ _ (by omega) hS (by omega)
        refine hgo (fun p => Nat.beq p 2 || Nat.beq p 41 || Nat.beq p 49 || Nat.beq p 92 || Nat.beq p 100 || Nat.beq p 125) 84 100 _ _ _ ?_
        intro v102 e102 a102 b102
        have I102 := hI.1 c (by omega) (by omega)
        refine And.intro (fun h105 => ?_) (fun h105 => ?_)
        · skip
          refine And.intro (hI) ?_
          intro v133 M133 a133 b133 q133
          obtain ⟨q133, z133⟩ := q133
          have hS : pz_st M M133 := hS.tr z133
          have hI : pz_ic M133 := hS.1.1 hI0
          refine And.intro (hI) ?_
          intro M139 q139
          obtain ⟨q139, z139⟩ := q139
          have hS : pz_st M M139 := hS.tr z139
          have hI : pz_ic M139 := hS.1.1 hI0
          intro v144 e144 a144 b144
          intro v148 e148 a148 b148
          try rw [pz_wi (by omega) (by omega)] at e148
          intro M149 e149
          have hS : pz_st M M149 := by
            rw [e149]
            exact pz_st_u hS (by unfold pz_md pz_kx pz_mid; omega) (by omega) (by unfold pz_iok; omega)
          have hI : pz_ic M149 := hS.1.1 hI0
          refine And.intro rfl ?_
          exact ⟨trivial, hS⟩
        · skip
          refine And.intro (True.intro) ?_
          intro r110 M110 k110 q110
          have R110 := pz_kd5 k110
          obtain ⟨q110, z110⟩ := q110
          subst z110
          refine And.intro (True.intro) ?_
          intro v113 M113 a113 b113 q113
          obtain ⟨q113, z113⟩ := q113
          subst z113
          refine And.intro (fun h116 => ?_) (fun h116 => ?_)
          · skip
            exact L125 _ _ hS (by omega) (by omega) (by omega)
          · skip
            refine And.intro (And.intro hI (And.intro (by omega) (by omega))) ?_
            intro M122 q122
            obtain ⟨q122, z122⟩ := q122
            have hS : pz_st M M122 := hS.tr z122
            have hI : pz_ic M122 := hS.1.1 hI0
            exact L125 _ _ hS (by omega) (by omega) (by omega)
    have L49 : ∀ (fu : Nat) (x2 : Int) (N49 : pz_M), (12 - x2).toNat < fu → (pz_st M N49) → (0 ≤ x2) → Ok 49 [some (.inr (.inr (1, 2))), some (.inr (.inr (0, c))), some (.inl x2)] [] N49 := by
      intro fu
      induction fu with
      | zero => exact fun _ _ hn => absurd hn (Nat.not_lt_zero _)
      | succ fu ih49 =>
        intro x2 N49 hn49 hS g49_1
        have hI : pz_ic N49 := hS.1.1 hI0
        have L92 : ∀ (x2 : Int) (N92 : pz_M), (pz_st M N92) → (0 ≤ x2) → (x2 < 12) → ((12 - x2).toNat < fu + 1) → Ok 92 [some (.inr (.inr (1, 2))), some (.inr (.inr (0, c))), some (.inl x2)] [] N92 := by
          intro x2 N92 hS g92_1 g92_2 g92_3
          have hI : pz_ic N92 := hS.1.1 hI0
          refine hgo (fun p => Nat.beq p 2 || Nat.beq p 41 || Nat.beq p 49 || Nat.beq p 92 || Nat.beq p 100 || Nat.beq p 125) 84 92 _ _ _ ?_
          intro v92 e92 a92 b92
          try rw [pz_wi (by omega) (by omega)] at e92
          exact ih49 _ _ (by omega) hS (by omega)
        refine hgo (fun p => Nat.beq p 2 || Nat.beq p 41 || Nat.beq p 49 || Nat.beq p 92 || Nat.beq p 100 || Nat.beq p 125) 84 49 _ _ _ ?_
        intro v51 e51 a51 b51
        have I51 := hI.1 c (by omega) (by omega)
        refine And.intro (fun h54 => ?_) (fun h54 => ?_)
        · skip
          exact L100 _ _ _ (Nat.lt_succ_self _) hS (by omega)
        · skip
          refine And.intro (hI) ?_
          intro v60 M60 a60 b60 q60
          obtain ⟨q60, z60⟩ := q60
          subst z60
          refine And.intro (fun h63 => ?_) (fun h63 => ?_)
          · skip
            exact L92 _ _ hS (by omega) (by omega) (by omega)
          · skip
            intro r68 e68 k68
            have R68 := pz_kd10 k68
            intro r71 e71 k71
            have R71 := pz_kd3 k71
            refine And.intro (hI) ?_
            intro v77 M77 a77 b77 q77
            obtain ⟨q77, z77⟩ := q77
            have hS : pz_st M M77 := hS.tr z77
            have hI : pz_ic M77 := hS.1.1 hI0
            refine And.intro (hI) ?_
            intro v80 M80 a80 b80 q80
            obtain ⟨q80, z80⟩ := q80
            have hS : pz_st M M80 := hS.tr z80
            have hI : pz_ic M80 := hS.1.1 hI0
            refine And.intro (fun h83 => ?_) (fun h83 => ?_)
            · skip
              exact L92 _ _ hS (by omega) (by omega) (by omega)
            · skip
              refine And.intro (hI) ?_
              intro M89 q89
              obtain ⟨q89, z89⟩ := q89
              have hS : pz_st M M89 := hS.tr z89
              have hI : pz_ic M89 := hS.1.1 hI0
              exact L92 _ _ hS (by omega) (by omega) (by omega)
    have L2 : ∀ (fu : Nat) (x2 : Int) (N2 : pz_M), (16 - x2).toNat < fu → (pz_st M N2) → (0 ≤ x2) → Ok 2 [some (.inr (.inr (1, 2))), some (.inr (.inr (0, c))), some (.inl x2)] [] N2 := by
      intro fu
      induction fu with
      | zero => exact fun _ _ hn => absurd hn (Nat.not_lt_zero _)
      | succ fu ih2 =>
        intro x2 N2 hn2 hS g2_1
        have hI : pz_ic N2 := hS.1.1 hI0
        have L41 : ∀ (x2 : Int) (N41 : pz_M), (pz_st M N41) → (0 ≤ x2) → (x2 < 16) → ((16 - x2).toNat < fu + 1) → Ok 41 [some (.inr (.inr (1, 2))), some (.inr (.inr (0, c))), some (.inl x2)] [] N41 := by
          intro x2 N41 hS g41_1 g41_2 g41_3
          have hI : pz_ic N41 := hS.1.1 hI0
          refine hgo (fun p => Nat.beq p 2 || Nat.beq p 41 || Nat.beq p 49 || Nat.beq p 92 || Nat.beq p 100 || Nat.beq p 125) 84 41 _ _ _ ?_
          intro v41 e41 a41 b41
          try rw [pz_wi (by omega) (by omega)] at e41
          exact ih2 _ _ (by omega) hS (by omega)
        refine hgo (fun p => Nat.beq p 2 || Nat.beq p 41 || Nat.beq p 49 || Nat.beq p 92 || Nat.beq p 100 || Nat.beq p 125) 84 2 _ _ _ ?_
        intro r4 e4 k4
        have R4 := pz_kd10 k4
        intro r7 e7 k7
        have R7 := pz_kd6 k7
        intro v10 e10 a10 b10
        have I10 := hI.2.2.1 r7 (by omega) (by omega)
        refine And.intro (fun h13 => ?_) (fun h13 => ?_)
        · skip
          exact L49 _ _ _ (Nat.lt_succ_self _) hS (by omega)
        · skip
          intro r17 e17 k17
          have R17 := pz_kd10 k17
          intro r20 e20 k20
          have R20 := pz_kd6 k20
          refine And.intro (hI) ?_
          intro v25 M25 a25 b25 q25
          obtain ⟨q25, z25⟩ := q25
          subst z25
          intro v29 e29 a29 b29
          refine And.intro (fun h32 => ?_) (fun h32 => ?_)
          · skip
            exact L41 _ _ hS (by omega) (by omega) (by omega)
          · skip
            refine And.intro (hI) ?_
            intro M38 q38
            obtain ⟨q38, z38⟩ := q38
            have hS : pz_st M M38 := hS.tr z38
            have hI : pz_ic M38 := hS.1.1 hI0
            exact L41 _ _ hS (by omega) (by omega) (by omega)
    refine hgo (fun p => Nat.beq p 2 || Nat.beq p 41 || Nat.beq p 49 || Nat.beq p 92 || Nat.beq p 100 || Nat.beq p 125) 84 0 _ [] M ?_
    exact L2 _ _ _ (Nat.lt_succ_self _) hS (by omega)
theorem v_X1_oneDay {fr lo i : Nat} {own : String} (h1 : 6 + 1 ≤ fr) (h2 : 8 + (3 + 11) + 147 ≤ lo) (h3 : .methodLink own i yX1_oneDay ∈ lw_tbl) : pz_cV fr lo own i k_X1_oneDay :=
  pz_cVk (maxL := 3) (fr' := 6) (lo' := 147) 1 1 h_X1_oneDay rfl ⟨by decide +kernel, by decide +kernel, by decide +kernel⟩ ⟨(pz_mt 574 (by decide +kernel)), (pz_mt 572 (by decide +kernel)), (pz_mt 573 (by decide +kernel)), (pz_mt 7 (by decide +kernel))⟩ (Or.inl ⟨TX1, 2, rfl⟩) (fun a M _ h => by
    have h : (match (generalizing := false) a with | [.inr (.inr (1, d)), .inr (.inr (0, c))] => pz_ic M | _ => False) := h
    split at h
    · exact ⟨_, _, rfl⟩
    · exact h.elim) h1 h2 h3
def k_X10_rows : pz_C := (2, 9, fun a M => (match a with | [.inr (.inr (10, t)), .inl k] => t = 8 ∧ 1 ≤ k ∧ k ≤ 3 | _ => False), fun a M r M' => (match a, r with | [.inr (.inr (10, t)), .inl k], some (.inr (.inr (6, v))) => ((v : Int) = 12 + k) ∧ M = M' | _, _ => False))
abbrev ct_X10_rows : List (Bool × Nat × pz_C) := []
set_option maxRecDepth 100000 in
set_option maxHeartbeats 4000000 in
theorem h_X10_rows : pz_H yX10_rows cX10_rows 2 (some (.object "TwelveChain$Rows")) k_X10_rows 0 0 := by
  refine pz_mk (own := RX10) (tb := t_X10_rows) (fl := pz_flf fl_RX10) (ci := fun _ => none) (ct := pz_ctf ct_X10_rows) (rz := false) (by decide +kernel) rfl t_X10_rows_ok (pz_flk fl_RX10_ok) (fun i v h => by cases h) ?_ ?_ (⟨_, TX6, 2, rfl, rfl⟩) ?_ ?_
  · exact fun i k' h => pz_ctk (l := ct_X10_rows) (P := fun b i k => b = true → pz_cV 0 0 RX10 i k) (fun _ h => absurd h List.not_mem_nil) true i k' h rfl
  · exact fun i k' h => pz_ctk (l := ct_X10_rows) (P := fun b i k => b = false → (pz_cS 0 0 RX10 i k ∨ (k = pz_kac ∧ 1 ≤ 0 ∧ 60 ≤ 0 ∧ Cond.methodLink RX10 i arraycopyName ∈ pz_tbl))) (fun _ h => absurd h List.not_mem_nil) false i k' h rfl
  · intro a M hlen hpre
    obtain ⟨t, k, rfl, hpre⟩ : ∃ t k, a = [.inr (.inr (10, t)), .inl k] ∧ (t = 8 ∧ 1 ≤ k ∧ k ≤ 3) := by
      have hpre : (match (generalizing := false) a with | [.inr (.inr (10, t)), .inl k] => t = 8 ∧ 1 ≤ k ∧ k ≤ 3 | _ => False) := hpre
      split at hpre
      · exact ⟨_, _, rfl, hpre⟩
      · exact hpre.elim
    exact Nat.le_of_ble_eq_true rfl
  · intro a M hlen hcan hM hpre Ok hgo
    obtain ⟨t, k, rfl, hpre⟩ : ∃ t k, a = [.inr (.inr (10, t)), .inl k] ∧ (t = 8 ∧ 1 ≤ k ∧ k ≤ 3) := by
      have hpre : (match (generalizing := false) a with | [.inr (.inr (10, t)), .inl k] => t = 8 ∧ 1 ≤ k ∧ k ≤ 3 | _ => False) := hpre
      split at hpre
      · exact ⟨_, _, rfl, hpre⟩
      · exact hpre.elim
    obtain ⟨k_t, hc_t⟩ := pz_tlm hcan
    have k_t : pz_kd t = 10 ∧ t < 231 := k_t
    have R_t := pz_kd10 k_t.1
    obtain ⟨k_k, hc_k⟩ := pz_tlm hc_t
    have l_k : -2147483648 ≤ k := k_k.1
    have u_k : k ≤ 2147483647 := k_k.2
    have T8 := pz_rf10 (Or.inl hpre.1)
    refine hgo (fun _ => false) 17 0 _ [] M ?_
    refine And.intro (fun h2 => ?_) (fun h2 => ?_)
    · skip
      refine And.intro (fun h14 => ?_) (fun h14 => ?_)
      · skip
        intro r25 e25 k25
        have R25 := pz_kd6 k25
        have L25 := e25.trans T8.2.2.2
        refine And.intro rfl ?_
        exact ⟨by omega, rfl⟩
      · skip
        intro r18 e18 k18
        have R18 := pz_kd6 k18
        have L18 := e18.trans T8.2.2.1
        refine And.intro rfl ?_
        exact ⟨by omega, rfl⟩
    · skip
      intro r6 e6 k6
      have R6 := pz_kd6 k6
      have L6 := e6.trans T8.2.1
      refine And.intro rfl ?_
      exact ⟨by omega, rfl⟩
theorem v_X10_rows {fr lo i : Nat} {own : String} (h1 : 0 + 1 ≤ fr) (h2 : 8 + (2 + 11) + 0 ≤ lo) (h3 : .methodLink own i yX10_rows ∈ lw_tbl) : pz_cV fr lo own i k_X10_rows :=
  pz_cVk (maxL := 2) (fr' := 0) (lo' := 0) 1 10 h_X10_rows rfl ⟨by decide +kernel, by decide +kernel, by decide +kernel⟩ ⟨(pz_mt 823 (by decide +kernel)), (pz_mt 821 (by decide +kernel)), (pz_mt 822 (by decide +kernel)), (pz_mt 4 (by decide +kernel))⟩ (Or.inl ⟨TX10, 4, rfl⟩) (fun a M _ h => by
    have h : (match (generalizing := false) a with | [.inr (.inr (10, t)), .inl k] => t = 8 ∧ 1 ≤ k ∧ k ≤ 3 | _ => False) := h
    split at h
    · exact ⟨_, _, rfl⟩
    · exact h.elim) h1 h2 h3
def k_X10_take : pz_C := (2, 0, fun a M => (match a with | [.inr (.inr (10, t)), .inr (.inr (10, o))] => pz_ic M ∧ ((t = 8 ∧ o = 9) ∨ (t = 9 ∧ o = 8)) | _ => False), fun a M r M' => (match a, r with | [.inr (.inr (10, t)), .inr (.inr (10, o))], none => (pz_Tc t o M M') ∧ pz_rt M M' | _, _ => False))
abbrev ct_X10_take : List (Bool × Nat × pz_C) := [(true, 31, k_X3_take), (true, 35, k_X6_take)]
set_option maxRecDepth 100000 in
set_option maxHeartbeats 4000000 in
theorem h_X10_take : pz_H yX10_take cX10_take 2 none k_X10_take 2 81 := by
  refine pz_mk (own := RX10) (tb := t_X10_take) (fl := pz_flf fl_RX10) (ci := fun _ => none) (ct := pz_ctf ct_X10_take) (rz := false) (by decide +kernel) rfl t_X10_take_ok (pz_flk fl_RX10_ok) (fun i v h => by cases h) ?_ ?_ (rfl) ?_ ?_
  · exact fun i k' h => pz_ctk (l := ct_X10_take) (P := fun b i k => b = true → pz_cV 2 81 RX10 i k) (List.forall_mem_cons.mpr ⟨(fun _ => v_X3_take (by decide) (by decide) (pz_mt 1106 (by decide +kernel))), List.forall_mem_cons.mpr ⟨(fun _ => v_X6_take (by decide) (by decide) (pz_mt 1107 (by decide +kernel))), fun _ h => absurd h List.not_mem_nil⟩⟩) true i k' h rfl
  · exact fun i k' h => pz_ctk (l := ct_X10_take) (P := fun b i k => b = false → (pz_cS 2 81 RX10 i k ∨ (k = pz_kac ∧ 1 ≤ 2 ∧ 60 ≤ 81 ∧ Cond.methodLink RX10 i arraycopyName ∈ pz_tbl))) (List.forall_mem_cons.mpr ⟨((fun z => by cases z)), List.forall_mem_cons.mpr ⟨((fun z => by cases z)), fun _ h => absurd h List.not_mem_nil⟩⟩) false i k' h rfl
  · intro a M hlen hpre
    obtain ⟨t, o, rfl, hpre⟩ : ∃ t o, a = [.inr (.inr (10, t)), .inr (.inr (10, o))] ∧ (pz_ic M ∧ ((t = 8 ∧ o = 9) ∨ (t = 9 ∧ o = 8))) := by
      have hpre : (match (generalizing := false) a with | [.inr (.inr (10, t)), .inr (.inr (10, o))] => pz_ic M ∧ ((t = 8 ∧ o = 9) ∨ (t = 9 ∧ o = 8)) | _ => False) := hpre
      split at hpre
      · exact ⟨_, _, rfl, hpre⟩
      · exact hpre.elim
    exact Nat.le_of_ble_eq_true rfl
  · intro a M hlen hcan hM hpre Ok hgo
    obtain ⟨t, o, rfl, hpre⟩ : ∃ t o, a = [.inr (.inr (10, t)), .inr (.inr (10, o))] ∧ (pz_ic M ∧ ((t = 8 ∧ o = 9) ∨ (t = 9 ∧ o = 8))) := by
      have hpre : (match (generalizing := false) a with | [.inr (.inr (10, t)), .inr (.inr (10, o))] => pz_ic M ∧ ((t = 8 ∧ o = 9) ∨ (t = 9 ∧ o = 8)) | _ => False) := hpre
      split at hpre
      · exact ⟨_, _, rfl, hpre⟩
      · exact hpre.elim
    obtain ⟨k_t, hc_t⟩ := pz_tlm hcan
    have k_t : pz_kd t = 10 ∧ t < 231 := k_t
    have R_t := pz_kd10 k_t.1
    obtain ⟨k_o, hc_o⟩ := pz_tlm hc_t
    have k_o : pz_kd o = 10 ∧ o < 231 := k_o
    have R_o := pz_kd10 k_o.1
    have hI : pz_ic M := hpre.1
    have hI0 := hI
    have hS : pz_rt M M := pz_rt.rf
    have T_t := pz_rf10 (t := t) (by omega)
    have T_o := pz_rf10 (t := o) (by omega)
    refine hgo (fun _ => false) 23 0 _ [] M ?_
    intro r1 e1 k1
    have R1 := pz_kd3 k1
    have L1 := e1.trans T_t.1
    intro r5 e5 k5
    have R5 := pz_kd3 k5
    have L5 := e5.trans T_o.1
    refine And.intro (And.intro hI (by omega)) ?_
    intro M8 q8
    obtain ⟨q8, z8⟩ := q8
    have hS : pz_rt M M8 := hS.tr z8
    have hI : pz_ic M8 := hS hI0
    intro r12 e12 k12
    have R12 := pz_kd6 k12
    have L12 := e12.trans T_t.2.1
    intro r16 e16 k16
    have R16 := pz_kd6 k16
    have L16 := e16.trans T_o.2.1
    refine And.intro (hI) ?_
    intro M19 q19
    obtain ⟨q19, z19⟩ := q19
    have hS : pz_rt M M19 := hS.tr z19
    have hI : pz_ic M19 := hS hI0
    intro r23 e23 k23
    have R23 := pz_kd6 k23
    have L23 := e23.trans T_t.2.2.1
    intro r27 e27 k27
    have R27 := pz_kd6 k27
    have L27 := e27.trans T_o.2.2.1
    refine And.intro (hI) ?_
    intro M30 q30
    obtain ⟨q30, z30⟩ := q30
    have hS : pz_rt M M30 := hS.tr z30
    have hI : pz_ic M30 := hS hI0
    intro r34 e34 k34
    have R34 := pz_kd6 k34
    have L34 := e34.trans T_t.2.2.2
    intro r38 e38 k38
    have R38 := pz_kd6 k38
    have L38 := e38.trans T_o.2.2.2
    refine And.intro (hI) ?_
    intro M41 q41
    obtain ⟨q41, z41⟩ := q41
    have hS : pz_rt M M41 := hS.tr z41
    have hI : pz_ic M41 := hS hI0
    refine And.intro rfl ?_
    exact ⟨pz_Tc_of hpre.2 L1 L5 L12 L16 L23 L27 L34 L38 q8 q19 q30 q41, hS⟩
theorem v_X10_take {fr lo i : Nat} {own : String} (h1 : 2 + 1 ≤ fr) (h2 : 8 + (2 + 11) + 81 ≤ lo) (h3 : .methodLink own i yX10_take ∈ lw_tbl) : pz_cV fr lo own i k_X10_take :=
  pz_cVk (maxL := 2) (fr' := 2) (lo' := 81) 1 10 h_X10_take rfl ⟨by decide +kernel, by decide +kernel, by decide +kernel⟩ ⟨(pz_mt 1105 (by decide +kernel)), (pz_mt 1103 (by decide +kernel)), (pz_mt 1104 (by decide +kernel)), (pz_mt 4 (by decide +kernel))⟩ (Or.inl ⟨TX10, 4, rfl⟩) (fun a M _ h => by
    have h : (match (generalizing := false) a with | [.inr (.inr (10, t)), .inr (.inr (10, o))] => pz_ic M ∧ ((t = 8 ∧ o = 9) ∨ (t = 9 ∧ o = 8)) | _ => False) := h
    split at h
    · exact ⟨_, _, rfl⟩
    · exact h.elim) h1 h2 h3
def k_X10_phoneLine : pz_C := (2, 1, fun a M => (match a with | [.inr (.inr (10, t)), .inl i] => pz_ic M | _ => False), fun a M r M' => (match a, r with | [.inr (.inr (10, t)), .inl i], some (.inl v) => (pz_phl (pz_gph M t) (pz_nph M t) i v) ∧ M = M' | _, _ => False))
abbrev ct_X10_phoneLine : List (Bool × Nat × pz_C) := [(true, 42, k_X6_cell)]
set_option maxRecDepth 100000 in
set_option maxHeartbeats 4000000 in
theorem h_X10_phoneLine : pz_H yX10_phoneLine cX10_phoneLine 3 (some .int) k_X10_phoneLine 1 22 := by
  refine pz_mk (own := RX10) (tb := t_X10_phoneLine) (fl := pz_flf fl_RX10) (ci := fun _ => none) (ct := pz_ctf ct_X10_phoneLine) (rz := false) (by decide +kernel) rfl t_X10_phoneLine_ok (pz_flk fl_RX10_ok) (fun i v h => by cases h) ?_ ?_ (Or.inl ⟨rfl, rfl⟩) ?_ ?_
  · exact fun i k' h => pz_ctk (l := ct_X10_phoneLine) (P := fun b i k => b = true → pz_cV 1 22 RX10 i k) (List.forall_mem_cons.mpr ⟨(fun _ => v_X6_cell (by decide) (by decide) (pz_mt 853 (by decide +kernel))), fun _ h => absurd h List.not_mem_nil⟩) true i k' h rfl
  · exact fun i k' h => pz_ctk (l := ct_X10_phoneLine) (P := fun b i k => b = false → (pz_cS 1 22 RX10 i k ∨ (k = pz_kac ∧ 1 ≤ 1 ∧ 60 ≤ 22 ∧ Cond.methodLink RX10 i arraycopyName ∈ pz_tbl))) (List.forall_mem_cons.mpr ⟨((fun z => by cases z)), fun _ h => absurd h List.not_mem_nil⟩) false i k' h rfl
  · intro a M hlen hpre
    obtain ⟨t, i, rfl, hpre⟩ : ∃ t i, a = [.inr (.inr (10, t)), .inl i] ∧ (pz_ic M) := by
      have hpre : (match (generalizing := false) a with | [.inr (.inr (10, t)), .inl i] => pz_ic M | _ => False) := hpre
      split at hpre
      · exact ⟨_, _, rfl, hpre⟩
      · exact hpre.elim
    exact Nat.le_of_ble_eq_true rfl
  · intro a M hlen hcan hM hpre Ok hgo
    obtain ⟨t, i, rfl, hpre⟩ : ∃ t i, a = [.inr (.inr (10, t)), .inl i] ∧ (pz_ic M) := by
      have hpre : (match (generalizing := false) a with | [.inr (.inr (10, t)), .inl i] => pz_ic M | _ => False) := hpre
      split at hpre
      · exact ⟨_, _, rfl, hpre⟩
      · exact hpre.elim
    obtain ⟨k_t, hc_t⟩ := pz_tlm hcan
    have k_t : pz_kd t = 10 ∧ t < 231 := k_t
    have R_t := pz_kd10 k_t.1
    obtain ⟨k_i, hc_i⟩ := pz_tlm hc_t
    have l_i : -2147483648 ≤ i := k_i.1
    have u_i : i ≤ 2147483647 := k_i.2
    have hI : pz_ic M := hpre
    have T8 := pz_rf10 (t := t) (by omega)
    have I0 := hI.2.2.1 (14 + 3 * (t - 8)) (by omega) (by omega)
    have L10 : ∀ (fu : Nat) (x2 : Int), (x2 + 1).toNat < fu → (-1 ≤ x2) → (x2 < M (14 + 3 * (t - 8)) 0) → (∀ r : Nat, x2 < (r : Int) → (r : Int) < M (14 + 3 * (t - 8)) 0 → pz_gph M t r 0 ≠ i) → Ok 10 [some (.inr (.inr (10, t))), some (.inl i), some (.inl x2)] [] M := by
      intro fu
      induction fu with
      | zero => exact fun _ hn => absurd hn (Nat.not_lt_zero _)
      | succ fu ih10 =>
        intro x2 hn10 g10_0 g10_1 g10_2
        refine hgo (fun p => Nat.beq p 10) 23 10 _ _ _ ?_
        refine And.intro (fun h11 => ?_) (fun h11 => ?_)
        · skip
          refine And.intro rfl ?_
          exact ⟨Or.inl ⟨rfl, fun r h1 => g10_2 r (by omega) (by unfold pz_nph at h1; omega)⟩, rfl⟩
        · skip
          intro r15 e15 k15
          have R15 := pz_kd6 k15
          have L15 := e15.trans T8.2.2.1
          refine And.intro (hI) ?_
          intro v20 M20 a20 b20 q20
          obtain ⟨q20, z20⟩ := q20
          subst z20
          have Q20 : v20 = pz_gph M t x2.toNat 0 := pz_cel_g (c := 0) q20 ⟨by omega, by rw [L15]; omega⟩ rfl (by omega) (by rw [L15]; omega)
          refine And.intro (fun h24 => ?_) (fun h24 => ?_)
          · skip
            intro v29 e29 a29 b29
            try rw [pz_wi (by omega) (by omega)] at e29
            have G29 : ∀ r : Nat, v29 < (r : Int) → (r : Int) < M (14 + 3 * (t - 8)) 0 → pz_gph M t r 0 ≠ i := fun r h1 h2 => by
              by_cases h3 : x2 < (r : Int)
              · exact g10_2 r h3 h2
              · rw [show r = x2.toNat by omega, ← Q20]
                exact h24
            exact ih10 _ (by omega) (by first | omega | assumption) (by first | omega | assumption) (by first | omega | assumption)
          · skip
            refine And.intro rfl ?_
            exact ⟨Or.inr ⟨by omega, by unfold pz_nph; omega, by omega, fun r h1 h2 => g10_2 r (by omega) (by unfold pz_nph at h2; omega)⟩, rfl⟩
    refine hgo (fun p => Nat.beq p 10) 23 0 _ [] M ?_
    intro r1 e1 k1
    have R1 := pz_kd6 k1
    have L1 := e1.trans T8.2.2.1
    intro v4 e4 a4 b4
    have I4 := hI.2.2.1 r1 (by omega) (by omega)
    rw [L1] at e4
    intro v8 e8 a8 b8
    try rw [pz_wi (by omega) (by omega)] at e8
    have G8 : ∀ r : Nat, v8 < (r : Int) → (r : Int) < M (14 + 3 * (t - 8)) 0 → pz_gph M t r 0 ≠ i := fun r h1 h2 => absurd h1 (by omega)
    exact L10 _ _ (Nat.lt_succ_self _) (by first | omega | assumption) (by first | omega | assumption) (by first | omega | assumption)
theorem v_X10_phoneLine {fr lo i : Nat} {own : String} (h1 : 1 + 1 ≤ fr) (h2 : 8 + (3 + 11) + 22 ≤ lo) (h3 : .methodLink own i yX10_phoneLine ∈ lw_tbl) : pz_cV fr lo own i k_X10_phoneLine :=
  pz_cVk (maxL := 3) (fr' := 1) (lo' := 22) 1 10 h_X10_phoneLine rfl ⟨by decide +kernel, by decide +kernel, by decide +kernel⟩ ⟨(pz_mt 852 (by decide +kernel)), (pz_mt 850 (by decide +kernel)), (pz_mt 851 (by decide +kernel)), (pz_mt 4 (by decide +kernel))⟩ (Or.inl ⟨TX10, 4, rfl⟩) (fun a M _ h => by
    have h : (match (generalizing := false) a with | [.inr (.inr (10, t)), .inl i] => pz_ic M | _ => False) := h
    split at h
    · exact ⟨_, _, rfl⟩
    · exact h.elim) h1 h2 h3
def k_X10_phoneFrom : pz_C := (2, 1, fun a M => (match a with | [.inr (.inr (10, t)), .inl i] => pz_ic M | _ => False), fun a M r M' => (match a, r with | [.inr (.inr (10, t)), .inl i], some (.inl v) => (v = pz_ph (pz_gph M t) i 0 1 (pz_nph M t)) ∧ M = M' | _, _ => False))
abbrev ct_X10_phoneFrom : List (Bool × Nat × pz_C) := [(true, 46, k_X10_phoneLine), (true, 42, k_X6_cell)]
set_option maxRecDepth 100000 in
set_option maxHeartbeats 4000000 in
theorem h_X10_phoneFrom : pz_H yX10_phoneFrom cX10_phoneFrom 3 (some .int) k_X10_phoneFrom 2 44 := by
  refine pz_mk (own := RX10) (tb := t_X10_phoneFrom) (fl := pz_flf fl_RX10) (ci := fun _ => none) (ct := pz_ctf ct_X10_phoneFrom) (rz := false) (by decide +kernel) rfl t_X10_phoneFrom_ok (pz_flk fl_RX10_ok) (fun i v h => by cases h) ?_ ?_ (Or.inl ⟨rfl, rfl⟩) ?_ ?_
  · exact fun i k' h => pz_ctk (l := ct_X10_phoneFrom) (P := fun b i k => b = true → pz_cV 2 44 RX10 i k) (List.forall_mem_cons.mpr ⟨(fun _ => v_X10_phoneLine (by decide) (by decide) (pz_mt 849 (by decide +kernel))), List.forall_mem_cons.mpr ⟨(fun _ => v_X6_cell (by decide) (by decide) (pz_mt 853 (by decide +kernel))), fun _ h => absurd h List.not_mem_nil⟩⟩) true i k' h rfl
  · exact fun i k' h => pz_ctk (l := ct_X10_phoneFrom) (P := fun b i k => b = false → (pz_cS 2 44 RX10 i k ∨ (k = pz_kac ∧ 1 ≤ 2 ∧ 60 ≤ 44 ∧ Cond.methodLink RX10 i arraycopyName ∈ pz_tbl))) (List.forall_mem_cons.mpr ⟨((fun z => by cases z)), List.forall_mem_cons.mpr ⟨((fun z => by cases z)), fun _ h => absurd h List.not_mem_nil⟩⟩) false i k' h rfl
  · intro a M hlen hpre
    obtain ⟨t, i, rfl, hpre⟩ : ∃ t i, a = [.inr (.inr (10, t)), .inl i] ∧ (pz_ic M) := by
      have hpre : (match (generalizing := false) a with | [.inr (.inr (10, t)), .inl i] => pz_ic M | _ => False) := hpre
      split at hpre
      · exact ⟨_, _, rfl, hpre⟩
      · exact hpre.elim
    exact Nat.le_of_ble_eq_true rfl
  · intro a M hlen hcan hM hpre Ok hgo
    obtain ⟨t, i, rfl, hpre⟩ : ∃ t i, a = [.inr (.inr (10, t)), .inl i] ∧ (pz_ic M) := by
      have hpre : (match (generalizing := false) a with | [.inr (.inr (10, t)), .inl i] => pz_ic M | _ => False) := hpre
      split at hpre
      · exact ⟨_, _, rfl, hpre⟩
      · exact hpre.elim
    obtain ⟨k_t, hc_t⟩ := pz_tlm hcan
    have k_t : pz_kd t = 10 ∧ t < 231 := k_t
    have R_t := pz_kd10 k_t.1
    obtain ⟨k_i, hc_i⟩ := pz_tlm hc_t
    have l_i : -2147483648 ≤ i := k_i.1
    have u_i : i ≤ 2147483647 := k_i.2
    have hI : pz_ic M := hpre
    have T8 := pz_rf10 (t := t) (by omega)
    refine hgo (fun _ => false) 17 0 _ [] M ?_
    refine And.intro (hI) ?_
    intro v2 M2 a2 b2 q2
    obtain ⟨q2, z2⟩ := q2
    subst z2
    have F2 := pz_phl_ph (d := 0) (c := 1) q2
    refine And.intro (fun h8 => ?_) (fun h8 => ?_)
    · skip
      intro r16 e16 k16
      have R16 := pz_kd6 k16
      have L16 := e16.trans T8.2.2.1
      refine And.intro (hI) ?_
      intro v21 M21 a21 b21 q21
      obtain ⟨q21, z21⟩ := q21
      subst z21
      refine And.intro rfl ?_
      first
        | (have f := F2.2 (by omega)
           exact ⟨(pz_cel_g (c := 1) q21 ⟨by omega, by rw [L16]; unfold pz_nph at f; omega⟩ rfl (by omega) (by rw [L16]; omega)).trans f.2.2.symm, rfl⟩)
        | exact ⟨(F2.1 (by omega)).symm, rfl⟩
    · skip
      refine And.intro rfl ?_
      first
        | (have f := F2.2 (by omega)
           exact ⟨(pz_cel_g (c := 1) q21 ⟨by omega, by rw [L16]; unfold pz_nph at f; omega⟩ rfl (by omega) (by rw [L16]; omega)).trans f.2.2.symm, rfl⟩)
        | exact ⟨(F2.1 (by omega)).symm, rfl⟩
theorem v_X10_phoneFrom {fr lo i : Nat} {own : String} (h1 : 2 + 1 ≤ fr) (h2 : 8 + (3 + 11) + 44 ≤ lo) (h3 : .methodLink own i yX10_phoneFrom ∈ lw_tbl) : pz_cV fr lo own i k_X10_phoneFrom :=
  pz_cVk (maxL := 3) (fr' := 2) (lo' := 44) 1 10 h_X10_phoneFrom rfl ⟨by decide +kernel, by decide +kernel, by decide +kernel⟩ ⟨(pz_mt 848 (by decide +kernel)), (pz_mt 846 (by decide +kernel)), (pz_mt 847 (by decide +kernel)), (pz_mt 4 (by decide +kernel))⟩ (Or.inl ⟨TX10, 4, rfl⟩) (fun a M _ h => by
    have h : (match (generalizing := false) a with | [.inr (.inr (10, t)), .inl i] => pz_ic M | _ => False) := h
    split at h
    · exact ⟨_, _, rfl⟩
    · exact h.elim) h1 h2 h3
def k_X10_phoneTo : pz_C := (2, 1, fun a M => (match a with | [.inr (.inr (10, t)), .inl i] => pz_ic M | _ => False), fun a M r M' => (match a, r with | [.inr (.inr (10, t)), .inl i], some (.inl v) => (v = pz_ph (pz_gph M t) i 240 2 (pz_nph M t)) ∧ M = M' | _, _ => False))
abbrev ct_X10_phoneTo : List (Bool × Nat × pz_C) := [(true, 46, k_X10_phoneLine), (true, 42, k_X6_cell)]
set_option maxRecDepth 100000 in
set_option maxHeartbeats 4000000 in
theorem h_X10_phoneTo : pz_H yX10_phoneTo cX10_phoneTo 3 (some .int) k_X10_phoneTo 2 44 := by
  refine pz_mk (own := RX10) (tb := t_X10_phoneTo) (fl := pz_flf fl_RX10) (ci := fun _ => none) (ct := pz_ctf ct_X10_phoneTo) (rz := false) (by decide +kernel) rfl t_X10_phoneTo_ok (pz_flk fl_RX10_ok) (fun i v h => by cases h) ?_ ?_ (Or.inl ⟨rfl, rfl⟩) ?_ ?_
  · exact fun i k' h => pz_ctk (l := ct_X10_phoneTo) (P := fun b i k => b = true → pz_cV 2 44 RX10 i k) (List.forall_mem_cons.mpr ⟨(fun _ => v_X10_phoneLine (by decide) (by decide) (pz_mt 849 (by decide +kernel))), List.forall_mem_cons.mpr ⟨(fun _ => v_X6_cell (by decide) (by decide) (pz_mt 853 (by decide +kernel))), fun _ h => absurd h List.not_mem_nil⟩⟩) true i k' h rfl
  · exact fun i k' h => pz_ctk (l := ct_X10_phoneTo) (P := fun b i k => b = false → (pz_cS 2 44 RX10 i k ∨ (k = pz_kac ∧ 1 ≤ 2 ∧ 60 ≤ 44 ∧ Cond.methodLink RX10 i arraycopyName ∈ pz_tbl))) (List.forall_mem_cons.mpr ⟨((fun z => by cases z)), List.forall_mem_cons.mpr ⟨((fun z => by cases z)), fun _ h => absurd h List.not_mem_nil⟩⟩) false i k' h rfl
  · intro a M hlen hpre
    obtain ⟨t, i, rfl, hpre⟩ : ∃ t i, a = [.inr (.inr (10, t)), .inl i] ∧ (pz_ic M) := by
      have hpre : (match (generalizing := false) a with | [.inr (.inr (10, t)), .inl i] => pz_ic M | _ => False) := hpre
      split at hpre
      · exact ⟨_, _, rfl, hpre⟩
      · exact hpre.elim
    exact Nat.le_of_ble_eq_true rfl
  · intro a M hlen hcan hM hpre Ok hgo
    obtain ⟨t, i, rfl, hpre⟩ : ∃ t i, a = [.inr (.inr (10, t)), .inl i] ∧ (pz_ic M) := by
      have hpre : (match (generalizing := false) a with | [.inr (.inr (10, t)), .inl i] => pz_ic M | _ => False) := hpre
      split at hpre
      · exact ⟨_, _, rfl, hpre⟩
      · exact hpre.elim
    obtain ⟨k_t, hc_t⟩ := pz_tlm hcan
    have k_t : pz_kd t = 10 ∧ t < 231 := k_t
    have R_t := pz_kd10 k_t.1
    obtain ⟨k_i, hc_i⟩ := pz_tlm hc_t
    have l_i : -2147483648 ≤ i := k_i.1
    have u_i : i ≤ 2147483647 := k_i.2
    have hI : pz_ic M := hpre
    have T8 := pz_rf10 (t := t) (by omega)
    refine hgo (fun _ => false) 17 0 _ [] M ?_
    refine And.intro (hI) ?_
    intro v2 M2 a2 b2 q2
    obtain ⟨q2, z2⟩ := q2
    subst z2
    have F2 := pz_phl_ph (d := 240) (c := 2) q2
    refine And.intro (fun h8 => ?_) (fun h8 => ?_)
    · skip
      intro r18 e18 k18
      have R18 := pz_kd6 k18
      have L18 := e18.trans T8.2.2.1
      refine And.intro (hI) ?_
      intro v23 M23 a23 b23 q23
      obtain ⟨q23, z23⟩ := q23
      subst z23
      refine And.intro rfl ?_
      first
        | (have f := F2.2 (by omega)
           exact ⟨(pz_cel_g (c := 2) q23 ⟨by omega, by rw [L18]; unfold pz_nph at f; omega⟩ rfl (by omega) (by rw [L18]; omega)).trans f.2.2.symm, rfl⟩)
        | exact ⟨(F2.1 (by omega)).symm, rfl⟩
    · skip
      refine And.intro rfl ?_
      first
        | (have f := F2.2 (by omega)
           exact ⟨(pz_cel_g (c := 2) q23 ⟨by omega, by rw [L18]; unfold pz_nph at f; omega⟩ rfl (by omega) (by rw [L18]; omega)).trans f.2.2.symm, rfl⟩)
        | exact ⟨(F2.1 (by omega)).symm, rfl⟩
theorem v_X10_phoneTo {fr lo i : Nat} {own : String} (h1 : 2 + 1 ≤ fr) (h2 : 8 + (3 + 11) + 44 ≤ lo) (h3 : .methodLink own i yX10_phoneTo ∈ lw_tbl) : pz_cV fr lo own i k_X10_phoneTo :=
  pz_cVk (maxL := 3) (fr' := 2) (lo' := 44) 1 10 h_X10_phoneTo rfl ⟨by decide +kernel, by decide +kernel, by decide +kernel⟩ ⟨(pz_mt 857 (by decide +kernel)), (pz_mt 855 (by decide +kernel)), (pz_mt 856 (by decide +kernel)), (pz_mt 4 (by decide +kernel))⟩ (Or.inl ⟨TX10, 4, rfl⟩) (fun a M _ h => by
    have h : (match (generalizing := false) a with | [.inr (.inr (10, t)), .inl i] => pz_ic M | _ => False) := h
    split at h
    · exact ⟨_, _, rfl⟩
    · exact h.elim) h1 h2 h3
def k_X10_recordsOf : pz_C := (2, 1, fun a M => (match a with | [.inr (.inr (10, t)), .inl i] => pz_ic M | _ => False), fun a M r M' => (match a, r with | [.inr (.inr (10, t)), .inl i], some (.inl v) => (v = pz_rc0 (pz_grd M t) i (pz_nrd M t)) ∧ M = M' | _, _ => False))
abbrev ct_X10_recordsOf : List (Bool × Nat × pz_C) := [(true, 42, k_X6_cell)]
set_option maxRecDepth 100000 in
set_option maxHeartbeats 4000000 in
theorem h_X10_recordsOf : pz_H yX10_recordsOf cX10_recordsOf 4 (some .int) k_X10_recordsOf 1 22 := by
  refine pz_mk (own := RX10) (tb := t_X10_recordsOf) (fl := pz_flf fl_RX10) (ci := fun _ => none) (ct := pz_ctf ct_X10_recordsOf) (rz := false) (by decide +kernel) rfl t_X10_recordsOf_ok (pz_flk fl_RX10_ok) (fun i v h => by cases h) ?_ ?_ (Or.inl ⟨rfl, rfl⟩) ?_ ?_
  · exact fun i k' h => pz_ctk (l := ct_X10_recordsOf) (P := fun b i k => b = true → pz_cV 1 22 RX10 i k) (List.forall_mem_cons.mpr ⟨(fun _ => v_X6_cell (by decide) (by decide) (pz_mt 853 (by decide +kernel))), fun _ h => absurd h List.not_mem_nil⟩) true i k' h rfl
  · exact fun i k' h => pz_ctk (l := ct_X10_recordsOf) (P := fun b i k => b = false → (pz_cS 1 22 RX10 i k ∨ (k = pz_kac ∧ 1 ≤ 1 ∧ 60 ≤ 22 ∧ Cond.methodLink RX10 i arraycopyName ∈ pz_tbl))) (List.forall_mem_cons.mpr ⟨((fun z => by cases z)), fun _ h => absurd h List.not_mem_nil⟩) false i k' h rfl
  · intro a M hlen hpre
    obtain ⟨t, i, rfl, hpre⟩ : ∃ t i, a = [.inr (.inr (10, t)), .inl i] ∧ (pz_ic M) := by
      have hpre : (match (generalizing := false) a with | [.inr (.inr (10, t)), .inl i] => pz_ic M | _ => False) := hpre
      split at hpre
      · exact ⟨_, _, rfl, hpre⟩
      · exact hpre.elim
    exact Nat.le_of_ble_eq_true rfl
  · intro a M hlen hcan hM hpre Ok hgo
    obtain ⟨t, i, rfl, hpre⟩ : ∃ t i, a = [.inr (.inr (10, t)), .inl i] ∧ (pz_ic M) := by
      have hpre : (match (generalizing := false) a with | [.inr (.inr (10, t)), .inl i] => pz_ic M | _ => False) := hpre
      split at hpre
      · exact ⟨_, _, rfl, hpre⟩
      · exact hpre.elim
    obtain ⟨k_t, hc_t⟩ := pz_tlm hcan
    have k_t : pz_kd t = 10 ∧ t < 231 := k_t
    have R_t := pz_kd10 k_t.1
    obtain ⟨k_i, hc_i⟩ := pz_tlm hc_t
    have l_i : -2147483648 ≤ i := k_i.1
    have u_i : i ≤ 2147483647 := k_i.2
    have hI : pz_ic M := hpre
    have T8 := pz_rf10 (t := t) (by omega)
    have I0 := hI.2.2.1 (15 + 3 * (t - 8)) (by omega) (by omega)
    have L4 : ∀ (fu : Nat) (x2 : Int) (x3 : Int), (16 - x3).toNat < fu → (0 ≤ x3) → (x3 ≤ M (15 + 3 * (t - 8)) 0) → (0 ≤ x2) → (x2 ≤ x3) → (x2 = pz_rc0 (pz_grd M t) i x3.toNat) → Ok 4 [some (.inr (.inr (10, t))), some (.inl i), some (.inl x2), some (.inl x3)] [] M := by
      intro fu
      induction fu with
      | zero => exact fun _ _ hn => absurd hn (Nat.not_lt_zero _)
      | succ fu ih4 =>
        intro x2 x3 hn4 g4_0 g4_1 g4_2 g4_3 g4_4
        refine hgo (fun p => Nat.beq p 4) 28 4 _ _ _ ?_
        intro r6 e6 k6
        have R6 := pz_kd6 k6
        have L6 := e6.trans T8.2.2.2
        intro v9 e9 a9 b9
        have I9 := hI.2.2.1 r6 (by omega) (by omega)
        rw [L6] at e9
        refine And.intro (fun h12 => ?_) (fun h12 => ?_)
        · skip
          refine And.intro rfl ?_
          exact ⟨by rw [show pz_nrd M t = x3.toNat by unfold pz_nrd; omega]; exact g4_4, rfl⟩
        · skip
          intro r17 e17 k17
          have R17 := pz_kd6 k17
          have L17 := e17.trans T8.2.2.2
          refine And.intro (hI) ?_
          intro v22 M22 a22 b22 q22
          obtain ⟨q22, z22⟩ := q22
          subst z22
          have Q22 : v22 = pz_grd M t x3.toNat 1 := pz_cel_g (c := 1) q22 ⟨by omega, by rw [L17]; omega⟩ rfl (by omega) (by rw [L17]; omega)
          refine And.intro (fun h26 => ?_) (fun h26 => ?_)
          · skip
            intro v34 e34 a34 b34
            try rw [pz_wi (by omega) (by omega)] at e34
            intro v36 e36 a36 b36
            try rw [pz_wi (by omega) (by omega)] at e36
            have G36 : v34 = pz_rc0 (pz_grd M t) i v36.toNat := by
              rw [show v36.toNat = x3.toNat + 1 by omega]
              show v34 = pz_rc0 (pz_grd M t) i x3.toNat + (if pz_grd M t x3.toNat 1 = i then 1 else 0)
              rw [← Q22, ← g4_4]
              first
                | (rw [if_pos (by omega)]; omega)
                | (rw [if_neg (by omega)]; omega)
            exact ih4 _ _ (by omega) (by first | omega | assumption | rfl) (by first | omega | assumption | rfl) (by first | omega | assumption | rfl) (by first | omega | assumption | rfl) (by first | omega | assumption | rfl)
          · skip
            intro v34 e34 a34 b34
            try rw [pz_wi (by omega) (by omega)] at e34
            intro v36 e36 a36 b36
            try rw [pz_wi (by omega) (by omega)] at e36
            have G36 : v34 = pz_rc0 (pz_grd M t) i v36.toNat := by
              rw [show v36.toNat = x3.toNat + 1 by omega]
              show v34 = pz_rc0 (pz_grd M t) i x3.toNat + (if pz_grd M t x3.toNat 1 = i then 1 else 0)
              rw [← Q22, ← g4_4]
              first
                | (rw [if_pos (by omega)]; omega)
                | (rw [if_neg (by omega)]; omega)
            exact ih4 _ _ (by omega) (by first | omega | assumption | rfl) (by first | omega | assumption | rfl) (by first | omega | assumption | rfl) (by first | omega | assumption | rfl) (by first | omega | assumption | rfl)
    refine hgo (fun p => Nat.beq p 4) 28 0 _ [] M ?_
    exact L4 _ _ _ (Nat.lt_succ_self _) (by first | omega | assumption | rfl) (by first | omega | assumption | rfl) (by first | omega | assumption | rfl) (by first | omega | assumption | rfl) (by first | omega | assumption | rfl)
theorem v_X10_recordsOf {fr lo i : Nat} {own : String} (h1 : 1 + 1 ≤ fr) (h2 : 8 + (4 + 11) + 22 ≤ lo) (h3 : .methodLink own i yX10_recordsOf ∈ lw_tbl) : pz_cV fr lo own i k_X10_recordsOf :=
  pz_cVk (maxL := 4) (fr' := 1) (lo' := 22) 1 10 h_X10_recordsOf rfl ⟨by decide +kernel, by decide +kernel, by decide +kernel⟩ ⟨(pz_mt 861 (by decide +kernel)), (pz_mt 859 (by decide +kernel)), (pz_mt 860 (by decide +kernel)), (pz_mt 4 (by decide +kernel))⟩ (Or.inl ⟨TX10, 4, rfl⟩) (fun a M _ h => by
    have h : (match (generalizing := false) a with | [.inr (.inr (10, t)), .inl i] => pz_ic M | _ => False) := h
    split at h
    · exact ⟨_, _, rfl⟩
    · exact h.elim) h1 h2 h3
def k_X10_writers : pz_C := (3, 1, fun a M => (match a with | [.inr (.inr (10, t)), .inl i, .inl j] => pz_ic M | _ => False), fun a M r M' => (match a, r with | [.inr (.inr (10, t)), .inl i, .inl j], some (.inl v) => (pz_wrs (pz_grd M t) (pz_nrd M t) i j v) ∧ M = M' | _, _ => False))
abbrev ct_X10_writers : List (Bool × Nat × pz_C) := [(true, 42, k_X6_cell)]
set_option maxRecDepth 100000 in
set_option maxHeartbeats 4000000 in
theorem h_X10_writers : pz_H yX10_writers cX10_writers 6 (some .int) k_X10_writers 1 22 := by
  refine pz_mk (own := RX10) (tb := t_X10_writers) (fl := pz_flf fl_RX10) (ci := fun _ => none) (ct := pz_ctf ct_X10_writers) (rz := false) (by decide +kernel) rfl t_X10_writers_ok (pz_flk fl_RX10_ok) (fun i v h => by cases h) ?_ ?_ (Or.inl ⟨rfl, rfl⟩) ?_ ?_
  · exact fun i k' h => pz_ctk (l := ct_X10_writers) (P := fun b i k => b = true → pz_cV 1 22 RX10 i k) (List.forall_mem_cons.mpr ⟨(fun _ => v_X6_cell (by decide) (by decide) (pz_mt 853 (by decide +kernel))), fun _ h => absurd h List.not_mem_nil⟩) true i k' h rfl
  · exact fun i k' h => pz_ctk (l := ct_X10_writers) (P := fun b i k => b = false → (pz_cS 1 22 RX10 i k ∨ (k = pz_kac ∧ 1 ≤ 1 ∧ 60 ≤ 22 ∧ Cond.methodLink RX10 i arraycopyName ∈ pz_tbl))) (List.forall_mem_cons.mpr ⟨((fun z => by cases z)), fun _ h => absurd h List.not_mem_nil⟩) false i k' h rfl
  · intro a M hlen hpre
    obtain ⟨t, i, j, rfl, hpre⟩ : ∃ t i j, a = [.inr (.inr (10, t)), .inl i, .inl j] ∧ (pz_ic M) := by
      have hpre : (match (generalizing := false) a with | [.inr (.inr (10, t)), .inl i, .inl j] => pz_ic M | _ => False) := hpre
      split at hpre
      · exact ⟨_, _, _, rfl, hpre⟩
      · exact hpre.elim
    exact Nat.le_of_ble_eq_true rfl
  · intro a M hlen hcan hM hpre Ok hgo
    obtain ⟨t, i, j, rfl, hpre⟩ : ∃ t i j, a = [.inr (.inr (10, t)), .inl i, .inl j] ∧ (pz_ic M) := by
      have hpre : (match (generalizing := false) a with | [.inr (.inr (10, t)), .inl i, .inl j] => pz_ic M | _ => False) := hpre
      split at hpre
      · exact ⟨_, _, _, rfl, hpre⟩
      · exact hpre.elim
    obtain ⟨k_t, hc_t⟩ := pz_tlm hcan
    have k_t : pz_kd t = 10 ∧ t < 231 := k_t
    have R_t := pz_kd10 k_t.1
    obtain ⟨k_i, hc_i⟩ := pz_tlm hc_t
    have l_i : -2147483648 ≤ i := k_i.1
    have u_i : i ≤ 2147483647 := k_i.2
    obtain ⟨k_j, hc_j⟩ := pz_tlm hc_i
    have l_j : -2147483648 ≤ j := k_j.1
    have u_j : j ≤ 2147483647 := k_j.2
    have hI : pz_ic M := hpre
    have T8 := pz_rf10 (t := t) (by omega)
    have I0 := hI.2.2.1 (15 + 3 * (t - 8)) (by omega) (by omega)
    have L5 : ∀ (fu : Nat) (x3 : Int) (x4 : Int) (d5 : Option pz_V), (16 - x4).toNat < fu → (0 ≤ x4) → (x4 ≤ M (15 + 3 * (t - 8)) 0) → (pz_wrs (pz_grd M t) x4.toNat i j x3) → Ok 5 [some (.inr (.inr (10, t))), some (.inl i), some (.inl j), some (.inl x3), some (.inl x4), d5] [] M := by
      intro fu
      induction fu with
      | zero => exact fun _ _ _ hn => absurd hn (Nat.not_lt_zero _)
      | succ fu ih5 =>
        intro x3 x4 d5 hn5 g5_0 g5_1 g5_2
        refine hgo (fun p => Nat.beq p 5) 37 5 _ _ _ ?_
        intro r8 e8 k8
        have R8 := pz_kd6 k8
        have L8 := e8.trans T8.2.2.2
        intro v11 e11 a11 b11
        have I11 := hI.2.2.1 r8 (by omega) (by omega)
        rw [L8] at e11
        refine And.intro (fun h14 => ?_) (fun h14 => ?_)
        · skip
          refine And.intro rfl ?_
          exact ⟨by rw [show pz_nrd M t = x4.toNat by unfold pz_nrd; omega]; exact g5_2, rfl⟩
        · skip
          intro r18 e18 k18
          have R18 := pz_kd6 k18
          have L18 := e18.trans T8.2.2.2
          refine And.intro (hI) ?_
          intro v24 M24 a24 b24 q24
          obtain ⟨q24, z24⟩ := q24
          subst z24
          have Q24 : v24 = pz_grd M t x4.toNat 0 := pz_cel_g (c := 0) q24 ⟨by omega, by rw [L18]; omega⟩ rfl (by omega) (by rw [L18]; omega)
          refine And.intro (fun h32 => ?_) (fun h32 => ?_)
          · skip
            intro v56 e56 a56 b56
            try rw [pz_wi (by omega) (by omega)] at e56
            first
              | (have G56 : pz_wrs (pz_grd M t) v56.toNat i j v54 := pz_wrs_y (n := x4.toNat) (by omega) Q24 ⟨by omega, by omega⟩ Q50 e53 e54 g5_2)
              | (have G56 : pz_wrs (pz_grd M t) v56.toNat i j x3 := pz_wrs_n (n := x4.toNat) (by omega) Q24 (by omega) g5_2)
            exact ih5 _ _ _ (by omega) (by first | omega | assumption | exact pz_wrs_0) (by first | omega | assumption | exact pz_wrs_0) (by first | omega | assumption | exact pz_wrs_0)
          · skip
            refine And.intro (fun h38 => ?_) (fun h38 => ?_)
            · skip
              intro v56 e56 a56 b56
              try rw [pz_wi (by omega) (by omega)] at e56
              first
                | (have G56 : pz_wrs (pz_grd M t) v56.toNat i j v54 := pz_wrs_y (n := x4.toNat) (by omega) Q24 ⟨by omega, by omega⟩ Q50 e53 e54 g5_2)
                | (have G56 : pz_wrs (pz_grd M t) v56.toNat i j x3 := pz_wrs_n (n := x4.toNat) (by omega) Q24 (by omega) g5_2)
              exact ih5 _ _ _ (by omega) (by first | omega | assumption | exact pz_wrs_0) (by first | omega | assumption | exact pz_wrs_0) (by first | omega | assumption | exact pz_wrs_0)
            · skip
              intro r44 e44 k44
              have R44 := pz_kd6 k44
              have L44 := e44.trans T8.2.2.2
              refine And.intro (hI) ?_
              intro v50 M50 a50 b50 q50
              obtain ⟨q50, z50⟩ := q50
              subst z50
              have Q50 : v50 = pz_grd M t x4.toNat 1 := pz_cel_g (c := 1) q50 ⟨by omega, by rw [L44]; omega⟩ rfl (by omega) (by rw [L44]; omega)
              intro v53 e53 a53 b53
              intro v54 e54 a54 b54
              intro v56 e56 a56 b56
              try rw [pz_wi (by omega) (by omega)] at e56
              first
                | (have G56 : pz_wrs (pz_grd M t) v56.toNat i j v54 := pz_wrs_y (n := x4.toNat) (by omega) Q24 ⟨by omega, by omega⟩ Q50 e53 e54 g5_2)
                | (have G56 : pz_wrs (pz_grd M t) v56.toNat i j x3 := pz_wrs_n (n := x4.toNat) (by omega) Q24 (by omega) g5_2)
              exact ih5 _ _ _ (by omega) (by first | omega | assumption | exact pz_wrs_0) (by first | omega | assumption | exact pz_wrs_0) (by first | omega | assumption | exact pz_wrs_0)
    refine hgo (fun p => Nat.beq p 5) 37 0 _ [] M ?_
    exact L5 _ _ _ _ (Nat.lt_succ_self _) (by first | omega | assumption | exact pz_wrs_0) (by first | omega | assumption | exact pz_wrs_0) (by first | omega | assumption | exact pz_wrs_0)
theorem v_X10_writers {fr lo i : Nat} {own : String} (h1 : 1 + 1 ≤ fr) (h2 : 8 + (6 + 11) + 22 ≤ lo) (h3 : .methodLink own i yX10_writers ∈ lw_tbl) : pz_cV fr lo own i k_X10_writers :=
  pz_cVk (maxL := 6) (fr' := 1) (lo' := 22) 2 10 h_X10_writers rfl ⟨by decide +kernel, by decide +kernel, by decide +kernel⟩ ⟨(pz_mt 1040 (by decide +kernel)), (pz_mt 1038 (by decide +kernel)), (pz_mt 1039 (by decide +kernel)), (pz_mt 4 (by decide +kernel))⟩ (Or.inl ⟨TX10, 4, rfl⟩) (fun a M _ h => by
    have h : (match (generalizing := false) a with | [.inr (.inr (10, t)), .inl i, .inl j] => pz_ic M | _ => False) := h
    split at h
    · exact ⟨_, _, rfl⟩
    · exact h.elim) h1 h2 h3
def k_X4_leftNext : pz_C := (2, 1, fun a M => (match a with | [.inl x, .inl y] => True | _ => False), fun a M r M' => (match a, r with | [.inl x, .inl y], some (.inl v) => (pz_lnx x y v) ∧ M = M' | _, _ => False))
abbrev ct_X4_leftNext : List (Bool × Nat × pz_C) := []
set_option maxRecDepth 100000 in
set_option maxHeartbeats 4000000 in
theorem h_X4_leftNext : pz_H yX4_leftNext cX4_leftNext 2 (some .int) k_X4_leftNext 0 0 := by
  refine pz_mk (own := RX4) (tb := t_X4_leftNext) (fl := pz_flf fl_RX4) (ci := pz_cif ci_RX4) (ct := pz_ctf ct_X4_leftNext) (rz := false) (by decide +kernel) rfl t_X4_leftNext_ok (pz_flk fl_RX4_ok) (pz_cik ci_RX4_ok) ?_ ?_ (Or.inl ⟨rfl, rfl⟩) ?_ ?_
  · exact fun i k' h => pz_ctk (l := ct_X4_leftNext) (P := fun b i k => b = true → pz_cV 0 0 RX4 i k) (fun _ h => absurd h List.not_mem_nil) true i k' h rfl
  · exact fun i k' h => pz_ctk (l := ct_X4_leftNext) (P := fun b i k => b = false → (pz_cS 0 0 RX4 i k ∨ (k = pz_kac ∧ 1 ≤ 0 ∧ 60 ≤ 0 ∧ Cond.methodLink RX4 i arraycopyName ∈ pz_tbl))) (fun _ h => absurd h List.not_mem_nil) false i k' h rfl
  · intro a M hlen hpre
    obtain ⟨x, y, rfl, hpre⟩ : ∃ x y, a = [.inl x, .inl y] ∧ (True) := by
      have hpre : (match (generalizing := false) a with | [.inl x, .inl y] => True | _ => False) := hpre
      split at hpre
      · exact ⟨_, _, rfl, hpre⟩
      · exact hpre.elim
    exact Nat.le_of_ble_eq_true rfl
  · intro a M hlen hcan hM hpre Ok hgo
    obtain ⟨x, y, rfl, hpre⟩ : ∃ x y, a = [.inl x, .inl y] ∧ (True) := by
      have hpre : (match (generalizing := false) a with | [.inl x, .inl y] => True | _ => False) := hpre
      split at hpre
      · exact ⟨_, _, rfl, hpre⟩
      · exact hpre.elim
    obtain ⟨k_x, hc_x⟩ := pz_tlm hcan
    have l_x : -2147483648 ≤ x := k_x.1
    have u_x : x ≤ 2147483647 := k_x.2
    obtain ⟨k_y, hc_y⟩ := pz_tlm hc_x
    have l_y : -2147483648 ≤ y := k_y.1
    have u_y : y ≤ 2147483647 := k_y.2
    refine hgo (fun _ => false) 10 0 _ [] M ?_
    intro v5 e5 a5 b5
    intro v6 e6 a6 b6
    refine And.intro (by omega) ?_
    intro v10 e10 a10 b10
    refine And.intro rfl ?_
    refine ⟨fun h0 h1 h2 h3 => ?_, rfl⟩
    have B := pz_m9 (x := x) (y := 1000 - y) (a := 1000000) (b := 1000) h0 h1 (by omega) (by omega)
    try rw [pz_wi (by omega) (by omega)] at e5
    rw [e5] at e6
    rw [pz_wi (by omega) (by omega)] at e6
    rw [e6, Int.tdiv_eq_ediv_of_nonneg (by omega), pz_wi (by omega) (by omega)] at e10
    exact e10
theorem s_X4_leftNext {fr lo i : Nat} {own : String} (h1 : 0 + 1 ≤ fr) (h2 : 8 + (2 + 11) + 0 ≤ lo) (h3 : .methodLink own i yX4_leftNext ∈ lw_tbl ∨ (own = RX1 ∧ i = 35 ∧ yX4_leftNext = yX11_within)) : pz_cS fr lo own i k_X4_leftNext := pz_cSk (maxL := 2) (fr' := 0) (lo' := 0) 2 h_X4_leftNext rfl ⟨by decide +kernel, by decide +kernel, by decide +kernel⟩ ⟨(pz_mt 895 (by decide +kernel)), (pz_mt 894 (by decide +kernel)), (pz_mt 11 (by decide +kernel))⟩ h1 h2 h3
def k_X4_leftAfter : pz_C := (2, 1, fun a M => (match a with | [.inl x, .inl y] => True | _ => False), fun a M r M' => (match a, r with | [.inl x, .inl y], some (.inl v) => (pz_lax x y v) ∧ M = M' | _, _ => False))
abbrev ct_X4_leftAfter : List (Bool × Nat × pz_C) := [(false, 29, k_X4_leftNext)]
set_option maxRecDepth 100000 in
set_option maxHeartbeats 4000000 in
theorem h_X4_leftAfter : pz_H yX4_leftAfter cX4_leftAfter 4 (some .int) k_X4_leftAfter 1 21 := by
  refine pz_mk (own := RX4) (tb := t_X4_leftAfter) (fl := pz_flf fl_RX4) (ci := pz_cif ci_RX4) (ct := pz_ctf ct_X4_leftAfter) (rz := false) (by decide +kernel) rfl t_X4_leftAfter_ok (pz_flk fl_RX4_ok) (pz_cik ci_RX4_ok) ?_ ?_ (Or.inl ⟨rfl, rfl⟩) ?_ ?_
  · exact fun i k' h => pz_ctk (l := ct_X4_leftAfter) (P := fun b i k => b = true → pz_cV 1 21 RX4 i k) (List.forall_mem_cons.mpr ⟨((fun z => by cases z)), fun _ h => absurd h List.not_mem_nil⟩) true i k' h rfl
  · exact fun i k' h => pz_ctk (l := ct_X4_leftAfter) (P := fun b i k => b = false → (pz_cS 1 21 RX4 i k ∨ (k = pz_kac ∧ 1 ≤ 1 ∧ 60 ≤ 21 ∧ Cond.methodLink RX4 i arraycopyName ∈ pz_tbl))) (List.forall_mem_cons.mpr ⟨(fun _ => Or.inl (s_X4_leftNext (by decide) (by decide) (Or.inl (pz_mt 893 (by decide +kernel))))), fun _ h => absurd h List.not_mem_nil⟩) false i k' h rfl
  · intro a M hlen hpre
    obtain ⟨x, y, rfl, hpre⟩ : ∃ x y, a = [.inl x, .inl y] ∧ (True) := by
      have hpre : (match (generalizing := false) a with | [.inl x, .inl y] => True | _ => False) := hpre
      split at hpre
      · exact ⟨_, _, rfl, hpre⟩
      · exact hpre.elim
    exact Nat.le_of_ble_eq_true rfl
  · intro a M hlen hcan hM hpre Ok hgo
    obtain ⟨x, y, rfl, hpre⟩ : ∃ x y, a = [.inl x, .inl y] ∧ (True) := by
      have hpre : (match (generalizing := false) a with | [.inl x, .inl y] => True | _ => False) := hpre
      split at hpre
      · exact ⟨_, _, rfl, hpre⟩
      · exact hpre.elim
    obtain ⟨k_x, hc_x⟩ := pz_tlm hcan
    have l_x : -2147483648 ≤ x := k_x.1
    have u_x : x ≤ 2147483647 := k_x.2
    obtain ⟨k_y, hc_y⟩ := pz_tlm hc_x
    have l_y : -2147483648 ≤ y := k_y.1
    have u_y : y ≤ 2147483647 := k_y.2
    have G0 : pz_lax x 0 1000000 := fun _ _ _ => rfl
    have L5 : ∀ (fu : Nat) (x2 : Int) (x3 : Int), (y - x3).toNat < fu → (0 ≤ x3) → (0 ≤ y → x3 ≤ y) → (pz_lax x x3 x2) → Ok 5 [some (.inl x), some (.inl y), some (.inl x2), some (.inl x3)] [] M := by
      intro fu
      induction fu with
      | zero => exact fun _ _ hn => absurd hn (Nat.not_lt_zero _)
      | succ fu ih5 =>
        intro x2 x3 hn5 g5_0 g5_1 g5_2
        refine hgo (fun p => Nat.beq p 5) 17 5 _ _ _ ?_
        refine And.intro (fun h7 => ?_) (fun h7 => ?_)
        · skip
          refine And.intro rfl ?_
          exact ⟨fun h0 h1 h2 => by
            have a := g5_2 h0 h1 (by omega)
            rw [a, show x3 = y by omega], rfl⟩
        · skip
          refine And.intro (True.intro) ?_
          intro v12 M12 a12 b12 q12
          obtain ⟨q12, z12⟩ := q12
          subst z12
          intro v16 e16 a16 b16
          try rw [pz_wi (by omega) (by omega)] at e16
          have G16 : pz_lax x v16 v12 := fun h0 h1 h2 => by
            have a := g5_2 h0 h1 (by omega)
            have b := pz_lf_b h0 h1 x3.toNat
            have c := q12 (by omega) (by omega) h0 h1
            rw [c, a, show v16.toNat = x3.toNat + 1 by omega]
            rfl
          exact ih5 _ _ (by omega) (by first | omega | assumption) (by first | omega | assumption) (by first | omega | assumption)
    refine hgo (fun p => Nat.beq p 5) 17 0 _ [] M ?_
    exact L5 _ _ _ (Nat.lt_succ_self _) (by first | omega | assumption) (by first | omega | assumption) (by first | omega | assumption)
theorem s_X4_leftAfter {fr lo i : Nat} {own : String} (h1 : 1 + 1 ≤ fr) (h2 : 8 + (4 + 11) + 21 ≤ lo) (h3 : .methodLink own i yX4_leftAfter ∈ lw_tbl ∨ (own = RX1 ∧ i = 35 ∧ yX4_leftAfter = yX11_within)) : pz_cS fr lo own i k_X4_leftAfter := pz_cSk (maxL := 4) (fr' := 1) (lo' := 21) 2 h_X4_leftAfter rfl ⟨by decide +kernel, by decide +kernel, by decide +kernel⟩ ⟨(pz_mt 891 (by decide +kernel)), (pz_mt 890 (by decide +kernel)), (pz_mt 11 (by decide +kernel))⟩ h1 h2 h3
def k_X4_chance : pz_C := (2, 1, fun a M => (match a with | [.inl x, .inl y] => True | _ => False), fun a M r M' => (match a, r with | [.inl x, .inl y], some (.inl v) => (pz_chx x y v) ∧ M = M' | _, _ => False))
abbrev ct_X4_chance : List (Bool × Nat × pz_C) := [(false, 33, k_X4_leftAfter)]
set_option maxRecDepth 100000 in
set_option maxHeartbeats 4000000 in
theorem h_X4_chance : pz_H yX4_chance cX4_chance 2 (some .int) k_X4_chance 2 44 := by
  refine pz_mk (own := RX4) (tb := t_X4_chance) (fl := pz_flf fl_RX4) (ci := pz_cif ci_RX4) (ct := pz_ctf ct_X4_chance) (rz := false) (by decide +kernel) rfl t_X4_chance_ok (pz_flk fl_RX4_ok) (pz_cik ci_RX4_ok) ?_ ?_ (Or.inl ⟨rfl, rfl⟩) ?_ ?_
  · exact fun i k' h => pz_ctk (l := ct_X4_chance) (P := fun b i k => b = true → pz_cV 2 44 RX4 i k) (List.forall_mem_cons.mpr ⟨((fun z => by cases z)), fun _ h => absurd h List.not_mem_nil⟩) true i k' h rfl
  · exact fun i k' h => pz_ctk (l := ct_X4_chance) (P := fun b i k => b = false → (pz_cS 2 44 RX4 i k ∨ (k = pz_kac ∧ 1 ≤ 2 ∧ 60 ≤ 44 ∧ Cond.methodLink RX4 i arraycopyName ∈ pz_tbl))) (List.forall_mem_cons.mpr ⟨(fun _ => Or.inl (s_X4_leftAfter (by decide) (by decide) (Or.inl (pz_mt 889 (by decide +kernel))))), fun _ h => absurd h List.not_mem_nil⟩) false i k' h rfl
  · intro a M hlen hpre
    obtain ⟨x, y, rfl, hpre⟩ : ∃ x y, a = [.inl x, .inl y] ∧ (True) := by
      have hpre : (match (generalizing := false) a with | [.inl x, .inl y] => True | _ => False) := hpre
      split at hpre
      · exact ⟨_, _, rfl, hpre⟩
      · exact hpre.elim
    exact Nat.le_of_ble_eq_true rfl
  · intro a M hlen hcan hM hpre Ok hgo
    obtain ⟨x, y, rfl, hpre⟩ : ∃ x y, a = [.inl x, .inl y] ∧ (True) := by
      have hpre : (match (generalizing := false) a with | [.inl x, .inl y] => True | _ => False) := hpre
      split at hpre
      · exact ⟨_, _, rfl, hpre⟩
      · exact hpre.elim
    obtain ⟨k_x, hc_x⟩ := pz_tlm hcan
    have l_x : -2147483648 ≤ x := k_x.1
    have u_x : x ≤ 2147483647 := k_x.2
    obtain ⟨k_y, hc_y⟩ := pz_tlm hc_x
    have l_y : -2147483648 ≤ y := k_y.1
    have u_y : y ≤ 2147483647 := k_y.2
    refine hgo (fun _ => false) 8 0 _ [] M ?_
    refine And.intro (True.intro) ?_
    intro v4 M4 a4 b4 q4
    obtain ⟨q4, z4⟩ := q4
    subst z4
    intro v7 e7 a7 b7
    refine And.intro rfl ?_
    exact ⟨fun h0 h1 h2 => by
      have a := q4 h0 h1 h2
      have b := pz_lf_b h0 h1 y.toNat
      rw [pz_wi (by omega) (by omega)] at e7
      rw [e7, a], rfl⟩
theorem s_X4_chance {fr lo i : Nat} {own : String} (h1 : 2 + 1 ≤ fr) (h2 : 8 + (2 + 11) + 44 ≤ lo) (h3 : .methodLink own i yX4_chance ∈ lw_tbl ∨ (own = RX1 ∧ i = 35 ∧ yX4_chance = yX11_within)) : pz_cS fr lo own i k_X4_chance := pz_cSk (maxL := 2) (fr' := 2) (lo' := 44) 2 h_X4_chance rfl ⟨by decide +kernel, by decide +kernel, by decide +kernel⟩ ⟨(pz_mt 928 (by decide +kernel)), (pz_mt 927 (by decide +kernel)), (pz_mt 11 (by decide +kernel))⟩ h1 h2 h3
def k_X4_times : pz_C := (2, 1, fun a M => (match a with | [.inl x, .inl y] => True | _ => False), fun a M r M' => (match a, r with | [.inl x, .inl y], some (.inl v) => (pz_tmx x y v) ∧ M = M' | _, _ => False))
abbrev ct_X4_times : List (Bool × Nat × pz_C) := []
set_option maxRecDepth 100000 in
set_option maxHeartbeats 4000000 in
theorem h_X4_times : pz_H yX4_times cX4_times 2 (some .int) k_X4_times 0 0 := by
  refine pz_mk (own := RX4) (tb := t_X4_times) (fl := pz_flf fl_RX4) (ci := pz_cif ci_RX4) (ct := pz_ctf ct_X4_times) (rz := false) (by decide +kernel) rfl t_X4_times_ok (pz_flk fl_RX4_ok) (pz_cik ci_RX4_ok) ?_ ?_ (Or.inl ⟨rfl, rfl⟩) ?_ ?_
  · exact fun i k' h => pz_ctk (l := ct_X4_times) (P := fun b i k => b = true → pz_cV 0 0 RX4 i k) (fun _ h => absurd h List.not_mem_nil) true i k' h rfl
  · exact fun i k' h => pz_ctk (l := ct_X4_times) (P := fun b i k => b = false → (pz_cS 0 0 RX4 i k ∨ (k = pz_kac ∧ 1 ≤ 0 ∧ 60 ≤ 0 ∧ Cond.methodLink RX4 i arraycopyName ∈ pz_tbl))) (fun _ h => absurd h List.not_mem_nil) false i k' h rfl
  · intro a M hlen hpre
    obtain ⟨x, y, rfl, hpre⟩ : ∃ x y, a = [.inl x, .inl y] ∧ (True) := by
      have hpre : (match (generalizing := false) a with | [.inl x, .inl y] => True | _ => False) := hpre
      split at hpre
      · exact ⟨_, _, rfl, hpre⟩
      · exact hpre.elim
    exact Nat.le_of_ble_eq_true rfl
  · intro a M hlen hcan hM hpre Ok hgo
    obtain ⟨x, y, rfl, hpre⟩ : ∃ x y, a = [.inl x, .inl y] ∧ (True) := by
      have hpre : (match (generalizing := false) a with | [.inl x, .inl y] => True | _ => False) := hpre
      split at hpre
      · exact ⟨_, _, rfl, hpre⟩
      · exact hpre.elim
    obtain ⟨k_x, hc_x⟩ := pz_tlm hcan
    have l_x : -2147483648 ≤ x := k_x.1
    have u_x : x ≤ 2147483647 := k_x.2
    obtain ⟨k_y, hc_y⟩ := pz_tlm hc_x
    have l_y : -2147483648 ≤ y := k_y.1
    have u_y : y ≤ 2147483647 := k_y.2
    refine hgo (fun _ => false) 11 0 _ [] M ?_
    intro v4 e4 a4 b4
    refine And.intro (by omega) ?_
    intro v8 e8 a8 b8
    intro v9 e9 a9 b9
    refine And.intro rfl ?_
    refine ⟨fun h0 h1 h2 h3 => ?_, rfl⟩
    have B := pz_m9 (x := x) (y := y) (a := 1000000) (b := 1000000) h0 h1 h2 h3
    rw [pz_wli (by omega) (by omega)] at e4
    rw [e4, Int.tdiv_eq_ediv_of_nonneg (by omega), pz_wli (by omega) (by omega)] at e8
    rw [e8, pz_wi (by omega) (by omega)] at e9
    exact e9
theorem s_X4_times {fr lo i : Nat} {own : String} (h1 : 0 + 1 ≤ fr) (h2 : 8 + (2 + 11) + 0 ≤ lo) (h3 : .methodLink own i yX4_times ∈ lw_tbl ∨ (own = RX1 ∧ i = 35 ∧ yX4_times = yX11_within)) : pz_cS fr lo own i k_X4_times := pz_cSk (maxL := 2) (fr' := 0) (lo' := 0) 2 h_X4_times rfl ⟨by decide +kernel, by decide +kernel, by decide +kernel⟩ ⟨(pz_mt 911 (by decide +kernel)), (pz_mt 910 (by decide +kernel)), (pz_mt 11 (by decide +kernel))⟩ h1 h2 h3
def k_X4_reckon : pz_C := (3, 0, fun a M => (match a with | [.inr (.inr (4, k)), .inr (.inr (0, c)), .inl n] => pz_ic M | _ => False), fun a M r M' => (match a, r with | [.inr (.inr (4, k)), .inr (.inr (0, c)), .inl n], none => (True) ∧ pz_st M M' | _, _ => False))
abbrev ct_X4_reckon : List (Bool × Nat × pz_C) := [(true, 44, k_X3_tells), (false, 33, k_X4_leftAfter)]
set_option maxRecDepth 100000 in
set_option maxHeartbeats 4000000 in
theorem h_X4_reckon : pz_H yX4_reckon cX4_reckon 4 none k_X4_reckon 4 97 := by
  refine pz_mk (own := RX4) (tb := t_X4_reckon) (fl := pz_flf fl_RX4) (ci := pz_cif ci_RX4) (ct := pz_ctf ct_X4_reckon) (rz := false) (by decide +kernel) rfl t_X4_reckon_ok (pz_flk fl_RX4_ok) (pz_cik ci_RX4_ok) ?_ ?_ (rfl) ?_ ?_
  · exact fun i k' h => pz_ctk (l := ct_X4_reckon) (P := fun b i k => b = true → pz_cV 4 97 RX4 i k) (List.forall_mem_cons.mpr ⟨(fun _ => v_X3_tells (by decide) (by decide) (pz_mt 888 (by decide +kernel))), List.forall_mem_cons.mpr ⟨((fun z => by cases z)), fun _ h => absurd h List.not_mem_nil⟩⟩) true i k' h rfl
  · exact fun i k' h => pz_ctk (l := ct_X4_reckon) (P := fun b i k => b = false → (pz_cS 4 97 RX4 i k ∨ (k = pz_kac ∧ 1 ≤ 4 ∧ 60 ≤ 97 ∧ Cond.methodLink RX4 i arraycopyName ∈ pz_tbl))) (List.forall_mem_cons.mpr ⟨((fun z => by cases z)), List.forall_mem_cons.mpr ⟨(fun _ => Or.inl (s_X4_leftAfter (by decide) (by decide) (Or.inl (pz_mt 889 (by decide +kernel))))), fun _ h => absurd h List.not_mem_nil⟩⟩) false i k' h rfl
  · intro a M hlen hpre
    obtain ⟨k, c, n, rfl, hpre⟩ : ∃ k c n, a = [.inr (.inr (4, k)), .inr (.inr (0, c)), .inl n] ∧ (pz_ic M) := by
      have hpre : (match (generalizing := false) a with | [.inr (.inr (4, k)), .inr (.inr (0, c)), .inl n] => pz_ic M | _ => False) := hpre
      split at hpre
      · exact ⟨_, _, _, rfl, hpre⟩
      · exact hpre.elim
    exact Nat.le_of_ble_eq_true rfl
  · intro a M hlen hcan hM hpre Ok hgo
    obtain ⟨k, c, n, rfl, hpre⟩ : ∃ k c n, a = [.inr (.inr (4, k)), .inr (.inr (0, c)), .inl n] ∧ (pz_ic M) := by
      have hpre : (match (generalizing := false) a with | [.inr (.inr (4, k)), .inr (.inr (0, c)), .inl n] => pz_ic M | _ => False) := hpre
      split at hpre
      · exact ⟨_, _, _, rfl, hpre⟩
      · exact hpre.elim
    obtain ⟨k_k, hc_k⟩ := pz_tlm hcan
    have k_k : pz_kd k = 4 ∧ k < 231 := k_k
    have R_k := pz_kd4 k_k.1
    subst R_k
    obtain ⟨k_c, hc_c⟩ := pz_tlm hc_k
    have k_c : pz_kd c = 0 ∧ c < 231 := k_c
    have R_c := pz_kd0 k_c.1
    obtain ⟨k_n, hc_n⟩ := pz_tlm hc_c
    have l_n : -2147483648 ≤ n := k_n.1
    have u_n : n ≤ 2147483647 := k_n.2
    have hI : pz_ic M := hpre
    have hI0 := hI
    have hS : pz_st M M := pz_st.rf
    have L2 : ∀ (fu : Nat) (x3 : Int) (N2 : pz_M), (12 - x3).toNat < fu → (pz_st M N2) → (0 ≤ x3) → Ok 2 [some (.inr (.inr (4, 6))), some (.inr (.inr (0, c))), some (.inl n), some (.inl x3)] [] N2 := by
      intro fu
      induction fu with
      | zero => exact fun _ _ hn => absurd hn (Nat.not_lt_zero _)
      | succ fu ih2 =>
        intro x3 N2 hn2 hS g2_1
        have hI : pz_ic N2 := hS.1.1 hI0
        refine hgo (fun p => Nat.beq p 2) 44 2 _ _ _ ?_
        intro v4 e4 a4 b4
        have I4 := hI.1 c (by omega) (by omega)
        refine And.intro (fun h7 => ?_) (fun h7 => ?_)
        · skip
          refine And.intro rfl ?_
          exact ⟨trivial, hS⟩
        · skip
          refine And.intro (fun h13 => ?_) (fun h13 => ?_)
          · skip
            refine And.intro rfl ?_
            exact ⟨trivial, hS⟩
          · skip
            intro r17 e17 k17
            have R17 := pz_kdA k17 (by decide) (by decide)
            have Q17 := pz_nm e17 k_k.1 (by decide) (by decide) rfl
            have W17 : r17 = 53 := e17
            intro r22 e22 k22
            have R22 := pz_kd3 k22
            refine And.intro (hI) ?_
            intro v28 M28 a28 b28 q28
            obtain ⟨q28, z28⟩ := q28
            have hS : pz_st M M28 := hS.tr z28
            have hI : pz_ic M28 := hS.1.1 hI0
            refine And.intro (by omega) (And.intro (show _ < (12 : Int) from by omega) ?_)
            intro M31 e31
            have hS : pz_st M M31 := by
              rw [e31]
              exact pz_st_u hS (by unfold pz_md pz_kx pz_mid; omega) (by omega) (by unfold pz_iok; omega)
            have hI : pz_ic M31 := hS.1.1 hI0
            intro r33 e33 k33
            have R33 := pz_kdA k33 (by decide) (by decide)
            have Q33 := pz_nm e33 k_k.1 (by decide) (by decide) rfl
            have W33 : r33 = 54 := e33
            intro r38 e38 k38
            have R38 := pz_kd3 k38
            refine And.intro (hI) ?_
            intro v44 M44 a44 b44 q44
            obtain ⟨q44, z44⟩ := q44
            have hS : pz_st M M44 := hS.tr z44
            have hI : pz_ic M44 := hS.1.1 hI0
            refine And.intro (by omega) (And.intro (show _ < (12 : Int) from by omega) ?_)
            intro M47 e47
            have hS : pz_st M M47 := by
              rw [e47]
              exact pz_st_u hS (by unfold pz_md pz_kx pz_mid; omega) (by omega) (by unfold pz_iok; omega)
            have hI : pz_ic M47 := hS.1.1 hI0
            intro r49 e49 k49
            have R49 := pz_kdA k49 (by decide) (by decide)
            have Q49 := pz_nm e49 k_k.1 (by decide) (by decide) rfl
            have W49 : r49 = 52 := e49
            intro r54 e54 k54
            have R54 := pz_kdA k54 (by decide) (by decide)
            have Q54 := pz_nm e54 k_k.1 (by decide) (by decide) rfl
            have W54 : r54 = 53 := e54
            refine And.intro (by omega) (And.intro (show _ < (12 : Int) from by omega) ?_)
            intro v58 e58 a58 b58
            refine And.intro (True.intro) ?_
            intro v60 M60 a60 b60 q60
            obtain ⟨q60, z60⟩ := q60
            subst z60
            refine And.intro (by omega) (And.intro (show _ < (12 : Int) from by omega) ?_)
            intro M63 e63
            have hS : pz_st M M63 := by
              rw [e63]
              exact pz_st_u hS (by unfold pz_md pz_kx pz_mid; omega) (by omega) (by unfold pz_iok; omega)
            have hI : pz_ic M63 := hS.1.1 hI0
            intro v64 e64 a64 b64
            try rw [pz_wi (by omega) (by omega)] at e64
            exact ih2 _ _ (by omega) hS (by omega)
    refine hgo (fun p => Nat.beq p 2) 44 0 _ [] M ?_
    exact L2 _ _ _ (Nat.lt_succ_self _) hS (by omega)
theorem v_X4_reckon {fr lo i : Nat} {own : String} (h1 : 4 + 1 ≤ fr) (h2 : 8 + (4 + 11) + 97 ≤ lo) (h3 : .methodLink own i yX4_reckon ∈ lw_tbl) : pz_cV fr lo own i k_X4_reckon :=
  pz_cVk (maxL := 4) (fr' := 4) (lo' := 97) 2 4 h_X4_reckon rfl ⟨by decide +kernel, by decide +kernel, by decide +kernel⟩ ⟨(pz_mt 887 (by decide +kernel)), (pz_mt 885 (by decide +kernel)), (pz_mt 886 (by decide +kernel)), (pz_mt 11 (by decide +kernel))⟩ (Or.inl ⟨TX4, 5, rfl⟩) (fun a M _ h => by
    have h : (match (generalizing := false) a with | [.inr (.inr (4, k)), .inr (.inr (0, c)), .inl n] => pz_ic M | _ => False) := h
    split at h
    · exact ⟨_, _, rfl⟩
    · exact h.elim) h1 h2 h3
def k_X4_oneDayMore : pz_C := (2, 0, fun a M => (match a with | [.inr (.inr (4, k)), .inr (.inr (0, c))] => pz_ic M | _ => False), fun a M r M' => (match a, r with | [.inr (.inr (4, k)), .inr (.inr (0, c))], none => (True) ∧ pz_st M M' | _, _ => False))
abbrev ct_X4_oneDayMore : List (Bool × Nat × pz_C) := [(false, 29, k_X4_leftNext)]
set_option maxRecDepth 100000 in
set_option maxHeartbeats 4000000 in
theorem h_X4_oneDayMore : pz_H yX4_oneDayMore cX4_oneDayMore 3 none k_X4_oneDayMore 1 21 := by
  refine pz_mk (own := RX4) (tb := t_X4_oneDayMore) (fl := pz_flf fl_RX4) (ci := pz_cif ci_RX4) (ct := pz_ctf ct_X4_oneDayMore) (rz := false) (by decide +kernel) rfl t_X4_oneDayMore_ok (pz_flk fl_RX4_ok) (pz_cik ci_RX4_ok) ?_ ?_ (rfl) ?_ ?_
  · exact fun i k' h => pz_ctk (l := ct_X4_oneDayMore) (P := fun b i k => b = true → pz_cV 1 21 RX4 i k) (List.forall_mem_cons.mpr ⟨((fun z => by cases z)), fun _ h => absurd h List.not_mem_nil⟩) true i k' h rfl
  · exact fun i k' h => pz_ctk (l := ct_X4_oneDayMore) (P := fun b i k => b = false → (pz_cS 1 21 RX4 i k ∨ (k = pz_kac ∧ 1 ≤ 1 ∧ 60 ≤ 21 ∧ Cond.methodLink RX4 i arraycopyName ∈ pz_tbl))) (List.forall_mem_cons.mpr ⟨(fun _ => Or.inl (s_X4_leftNext (by decide) (by decide) (Or.inl (pz_mt 893 (by decide +kernel))))), fun _ h => absurd h List.not_mem_nil⟩) false i k' h rfl
  · intro a M hlen hpre
    obtain ⟨k, c, rfl, hpre⟩ : ∃ k c, a = [.inr (.inr (4, k)), .inr (.inr (0, c))] ∧ (pz_ic M) := by
      have hpre : (match (generalizing := false) a with | [.inr (.inr (4, k)), .inr (.inr (0, c))] => pz_ic M | _ => False) := hpre
      split at hpre
      · exact ⟨_, _, rfl, hpre⟩
      · exact hpre.elim
    exact Nat.le_of_ble_eq_true rfl
  · intro a M hlen hcan hM hpre Ok hgo
    obtain ⟨k, c, rfl, hpre⟩ : ∃ k c, a = [.inr (.inr (4, k)), .inr (.inr (0, c))] ∧ (pz_ic M) := by
      have hpre : (match (generalizing := false) a with | [.inr (.inr (4, k)), .inr (.inr (0, c))] => pz_ic M | _ => False) := hpre
      split at hpre
      · exact ⟨_, _, rfl, hpre⟩
      · exact hpre.elim
    obtain ⟨k_k, hc_k⟩ := pz_tlm hcan
    have k_k : pz_kd k = 4 ∧ k < 231 := k_k
    have R_k := pz_kd4 k_k.1
    subst R_k
    obtain ⟨k_c, hc_c⟩ := pz_tlm hc_k
    have k_c : pz_kd c = 0 ∧ c < 231 := k_c
    have R_c := pz_kd0 k_c.1
    have hI : pz_ic M := hpre
    have hI0 := hI
    have hS : pz_st M M := pz_st.rf
    have L2 : ∀ (fu : Nat) (x2 : Int) (N2 : pz_M), (12 - x2).toNat < fu → (pz_st M N2) → (0 ≤ x2) → Ok 2 [some (.inr (.inr (4, 6))), some (.inr (.inr (0, c))), some (.inl x2)] [] N2 := by
      intro fu
      induction fu with
      | zero => exact fun _ _ hn => absurd hn (Nat.not_lt_zero _)
      | succ fu ih2 =>
        intro x2 N2 hn2 hS g2_1
        have hI : pz_ic N2 := hS.1.1 hI0
        refine hgo (fun p => Nat.beq p 2) 27 2 _ _ _ ?_
        intro v4 e4 a4 b4
        have I4 := hI.1 c (by omega) (by omega)
        refine And.intro (fun h7 => ?_) (fun h7 => ?_)
        · skip
          refine And.intro rfl ?_
          exact ⟨trivial, hS⟩
        · skip
          refine And.intro (fun h13 => ?_) (fun h13 => ?_)
          · skip
            refine And.intro rfl ?_
            exact ⟨trivial, hS⟩
          · skip
            intro r17 e17 k17
            have R17 := pz_kdA k17 (by decide) (by decide)
            have Q17 := pz_nm e17 k_k.1 (by decide) (by decide) rfl
            have W17 : r17 = 52 := e17
            intro r22 e22 k22
            have R22 := pz_kdA k22 (by decide) (by decide)
            have Q22 := pz_nm e22 k_k.1 (by decide) (by decide) rfl
            have W22 : r22 = 52 := e22
            refine And.intro (by omega) (And.intro (show _ < (12 : Int) from by omega) ?_)
            intro v26 e26 a26 b26
            intro r28 e28 k28
            have R28 := pz_kdA k28 (by decide) (by decide)
            have Q28 := pz_nm e28 k_k.1 (by decide) (by decide) rfl
            have W28 : r28 = 53 := e28
            refine And.intro (by omega) (And.intro (show _ < (12 : Int) from by omega) ?_)
            intro v32 e32 a32 b32
            refine And.intro (True.intro) ?_
            intro v33 M33 a33 b33 q33
            obtain ⟨q33, z33⟩ := q33
            subst z33
            refine And.intro (by omega) (And.intro (show _ < (12 : Int) from by omega) ?_)
            intro M36 e36
            have hS : pz_st M M36 := by
              rw [e36]
              exact pz_st_u hS (by unfold pz_md pz_kx pz_mid; omega) (by omega) (by unfold pz_iok; omega)
            have hI : pz_ic M36 := hS.1.1 hI0
            intro v37 e37 a37 b37
            try rw [pz_wi (by omega) (by omega)] at e37
            exact ih2 _ _ (by omega) hS (by omega)
    refine hgo (fun p => Nat.beq p 2) 27 0 _ [] M ?_
    exact L2 _ _ _ (Nat.lt_succ_self _) hS (by omega)
theorem v_X4_oneDayMore {fr lo i : Nat} {own : String} (h1 : 1 + 1 ≤ fr) (h2 : 8 + (3 + 11) + 21 ≤ lo) (h3 : .methodLink own i yX4_oneDayMore ∈ lw_tbl) : pz_cV fr lo own i k_X4_oneDayMore :=
  pz_cVk (maxL := 3) (fr' := 1) (lo' := 21) 1 4 h_X4_oneDayMore rfl ⟨by decide +kernel, by decide +kernel, by decide +kernel⟩ ⟨(pz_mt 1064 (by decide +kernel)), (pz_mt 1062 (by decide +kernel)), (pz_mt 1063 (by decide +kernel)), (pz_mt 11 (by decide +kernel))⟩ (Or.inl ⟨TX4, 5, rfl⟩) (fun a M _ h => by
    have h : (match (generalizing := false) a with | [.inr (.inr (4, k)), .inr (.inr (0, c))] => pz_ic M | _ => False) := h
    split at h
    · exact ⟨_, _, rfl⟩
    · exact h.elim) h1 h2 h3
def k_X4_chanceOf : pz_C := (2, 1, fun a M => (match a with | [.inr (.inr (4, k)), .inl i] => True | _ => False), fun a M r M' => (match a, r with | [.inr (.inr (4, k)), .inl i], some (.inl v) => (True) ∧ M = M' | _, _ => False))
abbrev ct_X4_chanceOf : List (Bool × Nat × pz_C) := []
set_option maxRecDepth 100000 in
set_option maxHeartbeats 4000000 in
theorem h_X4_chanceOf : pz_H yX4_chanceOf cX4_chanceOf 2 (some .int) k_X4_chanceOf 0 0 := by
  refine pz_mk (own := RX4) (tb := t_X4_chanceOf) (fl := pz_flf fl_RX4) (ci := pz_cif ci_RX4) (ct := pz_ctf ct_X4_chanceOf) (rz := false) (by decide +kernel) rfl t_X4_chanceOf_ok (pz_flk fl_RX4_ok) (pz_cik ci_RX4_ok) ?_ ?_ (Or.inl ⟨rfl, rfl⟩) ?_ ?_
  · exact fun i k' h => pz_ctk (l := ct_X4_chanceOf) (P := fun b i k => b = true → pz_cV 0 0 RX4 i k) (fun _ h => absurd h List.not_mem_nil) true i k' h rfl
  · exact fun i k' h => pz_ctk (l := ct_X4_chanceOf) (P := fun b i k => b = false → (pz_cS 0 0 RX4 i k ∨ (k = pz_kac ∧ 1 ≤ 0 ∧ 60 ≤ 0 ∧ Cond.methodLink RX4 i arraycopyName ∈ pz_tbl))) (fun _ h => absurd h List.not_mem_nil) false i k' h rfl
  · intro a M hlen hpre
    obtain ⟨k, i, rfl, hpre⟩ : ∃ k i, a = [.inr (.inr (4, k)), .inl i] ∧ (True) := by
      have hpre : (match (generalizing := false) a with | [.inr (.inr (4, k)), .inl i] => True | _ => False) := hpre
      split at hpre
      · exact ⟨_, _, rfl, hpre⟩
      · exact hpre.elim
    exact Nat.le_of_ble_eq_true rfl
  · intro a M hlen hcan hM hpre Ok hgo
    obtain ⟨k, i, rfl, hpre⟩ : ∃ k i, a = [.inr (.inr (4, k)), .inl i] ∧ (True) := by
      have hpre : (match (generalizing := false) a with | [.inr (.inr (4, k)), .inl i] => True | _ => False) := hpre
      split at hpre
      · exact ⟨_, _, rfl, hpre⟩
      · exact hpre.elim
    obtain ⟨k_k, hc_k⟩ := pz_tlm hcan
    have k_k : pz_kd k = 4 ∧ k < 231 := k_k
    have R_k := pz_kd4 k_k.1
    subst R_k
    obtain ⟨k_i, hc_i⟩ := pz_tlm hc_k
    have l_i : -2147483648 ≤ i := k_i.1
    have u_i : i ≤ 2147483647 := k_i.2
    refine hgo (fun _ => false) 16 0 _ [] M ?_
    refine And.intro (fun h1 => ?_) (fun h1 => ?_)
    · skip
      refine And.intro rfl ?_
      exact ⟨trivial, rfl⟩
    · skip
      refine And.intro (fun h7 => ?_) (fun h7 => ?_)
      · skip
        refine And.intro rfl ?_
        exact ⟨trivial, rfl⟩
      · skip
        intro r13 e13 k13
        have R13 := pz_kdA k13 (by decide) (by decide)
        refine And.intro (by omega) (And.intro (show _ < (12 : Int) from by omega) ?_)
        intro v17 e17 a17 b17
        intro v18 e18 a18 b18
        try rw [pz_wi (by omega) (by omega)] at e18
        refine And.intro rfl ?_
        exact ⟨trivial, rfl⟩
theorem v_X4_chanceOf {fr lo i : Nat} {own : String} (h1 : 0 + 1 ≤ fr) (h2 : 8 + (2 + 11) + 0 ≤ lo) (h3 : .methodLink own i yX4_chanceOf ∈ lw_tbl) : pz_cV fr lo own i k_X4_chanceOf :=
  pz_cVk (maxL := 2) (fr' := 0) (lo' := 0) 1 4 h_X4_chanceOf rfl ⟨by decide +kernel, by decide +kernel, by decide +kernel⟩ ⟨(pz_mt 908 (by decide +kernel)), (pz_mt 906 (by decide +kernel)), (pz_mt 907 (by decide +kernel)), (pz_mt 11 (by decide +kernel))⟩ (Or.inl ⟨TX4, 5, rfl⟩) (fun a M _ h => by
    have h : (match (generalizing := false) a with | [.inr (.inr (4, k)), .inl i] => True | _ => False) := h
    split at h
    · exact ⟨_, _, rfl⟩
    · exact h.elim) h1 h2 h3
def k_X4_oddsWith : pz_C := (4, 1, fun a M => (match a with | [.inr (.inr (4, k)), .inr (.inr (0, c)), .inl o, .inl i] => True | _ => False), fun a M r M' => (match a, r with | [.inr (.inr (4, k)), .inr (.inr (0, c)), .inl o, .inl i], some (.inl v) => (True) ∧ M = M' | _, _ => False))
abbrev ct_X4_oddsWith : List (Bool × Nat × pz_C) := [(true, 50, k_X0_at), (true, 61, k_X4_chanceOf), (false, 65, k_X4_times)]
set_option maxRecDepth 100000 in
set_option maxHeartbeats 4000000 in
theorem h_X4_oddsWith : pz_H yX4_oddsWith cX4_oddsWith 5 (some .int) k_X4_oddsWith 1 21 := by
  refine pz_mk (own := RX4) (tb := t_X4_oddsWith) (fl := pz_flf fl_RX4) (ci := pz_cif ci_RX4) (ct := pz_ctf ct_X4_oddsWith) (rz := false) (by decide +kernel) rfl t_X4_oddsWith_ok (pz_flk fl_RX4_ok) (pz_cik ci_RX4_ok) ?_ ?_ (Or.inl ⟨rfl, rfl⟩) ?_ ?_
  · exact fun i k' h => pz_ctk (l := ct_X4_oddsWith) (P := fun b i k => b = true → pz_cV 1 21 RX4 i k) (List.forall_mem_cons.mpr ⟨(fun _ => v_X0_at (by decide) (by decide) (pz_mt 904 (by decide +kernel))), List.forall_mem_cons.mpr ⟨(fun _ => v_X4_chanceOf (by decide) (by decide) (pz_mt 905 (by decide +kernel))), List.forall_mem_cons.mpr ⟨((fun z => by cases z)), fun _ h => absurd h List.not_mem_nil⟩⟩⟩) true i k' h rfl
  · exact fun i k' h => pz_ctk (l := ct_X4_oddsWith) (P := fun b i k => b = false → (pz_cS 1 21 RX4 i k ∨ (k = pz_kac ∧ 1 ≤ 1 ∧ 60 ≤ 21 ∧ Cond.methodLink RX4 i arraycopyName ∈ pz_tbl))) (List.forall_mem_cons.mpr ⟨((fun z => by cases z)), List.forall_mem_cons.mpr ⟨((fun z => by cases z)), List.forall_mem_cons.mpr ⟨(fun _ => Or.inl (s_X4_times (by decide) (by decide) (Or.inl (pz_mt 909 (by decide +kernel))))), fun _ h => absurd h List.not_mem_nil⟩⟩⟩) false i k' h rfl
  · intro a M hlen hpre
    obtain ⟨k, c, o, i, rfl, hpre⟩ : ∃ k c o i, a = [.inr (.inr (4, k)), .inr (.inr (0, c)), .inl o, .inl i] ∧ (True) := by
      have hpre : (match (generalizing := false) a with | [.inr (.inr (4, k)), .inr (.inr (0, c)), .inl o, .inl i] => True | _ => False) := hpre
      split at hpre
      · exact ⟨_, _, _, _, rfl, hpre⟩
      · exact hpre.elim
    exact Nat.le_of_ble_eq_true rfl
  · intro a M hlen hcan hM hpre Ok hgo
    obtain ⟨k, c, o, i, rfl, hpre⟩ : ∃ k c o i, a = [.inr (.inr (4, k)), .inr (.inr (0, c)), .inl o, .inl i] ∧ (True) := by
      have hpre : (match (generalizing := false) a with | [.inr (.inr (4, k)), .inr (.inr (0, c)), .inl o, .inl i] => True | _ => False) := hpre
      split at hpre
      · exact ⟨_, _, _, _, rfl, hpre⟩
      · exact hpre.elim
    obtain ⟨k_k, hc_k⟩ := pz_tlm hcan
    have k_k : pz_kd k = 4 ∧ k < 231 := k_k
    have R_k := pz_kd4 k_k.1
    subst R_k
    obtain ⟨k_c, hc_c⟩ := pz_tlm hc_k
    have k_c : pz_kd c = 0 ∧ c < 231 := k_c
    have R_c := pz_kd0 k_c.1
    obtain ⟨k_o, hc_o⟩ := pz_tlm hc_c
    have l_o : -2147483648 ≤ o := k_o.1
    have u_o : o ≤ 2147483647 := k_o.2
    obtain ⟨k_i, hc_i⟩ := pz_tlm hc_o
    have l_i : -2147483648 ≤ i := k_i.1
    have u_i : i ≤ 2147483647 := k_i.2
    refine hgo (fun _ => false) 22 0 _ [] M ?_
    refine And.intro (True.intro) ?_
    intro r2 M2 k2 q2
    have R2 := pz_kd5 k2
    obtain ⟨q2, z2⟩ := q2
    subst z2
    intro v9 e9 a9 b9
    refine And.intro (fun h12 => ?_) (fun h12 => ?_)
    · skip
      intro v19 e19 a19 b19
      refine And.intro (fun h22 => ?_) (fun h22 => ?_)
      · skip
        refine And.intro (True.intro) ?_
        intro v32 M32 a32 b32 q32
        obtain ⟨q32, z32⟩ := q32
        subst z32
        refine And.intro (True.intro) ?_
        intro v35 M35 a35 b35 q35
        obtain ⟨q35, z35⟩ := q35
        subst z35
        refine And.intro rfl ?_
        exact ⟨trivial, rfl⟩
      · skip
        refine And.intro rfl ?_
        exact ⟨trivial, rfl⟩
    · skip
      refine And.intro rfl ?_
      exact ⟨trivial, rfl⟩
theorem v_X4_oddsWith {fr lo i : Nat} {own : String} (h1 : 1 + 1 ≤ fr) (h2 : 8 + (5 + 11) + 21 ≤ lo) (h3 : .methodLink own i yX4_oddsWith ∈ lw_tbl) : pz_cV fr lo own i k_X4_oddsWith :=
  pz_cVk (maxL := 5) (fr' := 1) (lo' := 21) 3 4 h_X4_oddsWith rfl ⟨by decide +kernel, by decide +kernel, by decide +kernel⟩ ⟨(pz_mt 903 (by decide +kernel)), (pz_mt 901 (by decide +kernel)), (pz_mt 902 (by decide +kernel)), (pz_mt 11 (by decide +kernel))⟩ (Or.inl ⟨TX4, 5, rfl⟩) (fun a M _ h => by
    have h : (match (generalizing := false) a with | [.inr (.inr (4, k)), .inr (.inr (0, c)), .inl o, .inl i] => True | _ => False) := h
    split at h
    · exact ⟨_, _, rfl⟩
    · exact h.elim) h1 h2 h3
def k_X4_oddsOf : pz_C := (4, 1, fun a M => (match a with | [.inr (.inr (4, k)), .inr (.inr (0, c)), .inl i, .inl j] => pz_ic M ∧ j ≤ 1000 | _ => False), fun a M r M' => (match a, r with | [.inr (.inr (4, k)), .inr (.inr (0, c)), .inl i, .inl j], some (.inl v) => (True) ∧ M = M' | _, _ => False))
abbrev ct_X4_oddsOf : List (Bool × Nat × pz_C) := [(true, 68, k_X4_oddsWith)]
set_option maxRecDepth 100000 in
set_option maxHeartbeats 4000000 in
theorem h_X4_oddsOf : pz_H yX4_oddsOf cX4_oddsOf 6 (some .int) k_X4_oddsOf 2 45 := by
  refine pz_mk (own := RX4) (tb := t_X4_oddsOf) (fl := pz_flf fl_RX4) (ci := pz_cif ci_RX4) (ct := pz_ctf ct_X4_oddsOf) (rz := false) (by decide +kernel) rfl t_X4_oddsOf_ok (pz_flk fl_RX4_ok) (pz_cik ci_RX4_ok) ?_ ?_ (Or.inl ⟨rfl, rfl⟩) ?_ ?_
  · exact fun i k' h => pz_ctk (l := ct_X4_oddsOf) (P := fun b i k => b = true → pz_cV 2 45 RX4 i k) (List.forall_mem_cons.mpr ⟨(fun _ => v_X4_oddsWith (by decide) (by decide) (pz_mt 900 (by decide +kernel))), fun _ h => absurd h List.not_mem_nil⟩) true i k' h rfl
  · exact fun i k' h => pz_ctk (l := ct_X4_oddsOf) (P := fun b i k => b = false → (pz_cS 2 45 RX4 i k ∨ (k = pz_kac ∧ 1 ≤ 2 ∧ 60 ≤ 45 ∧ Cond.methodLink RX4 i arraycopyName ∈ pz_tbl))) (List.forall_mem_cons.mpr ⟨((fun z => by cases z)), fun _ h => absurd h List.not_mem_nil⟩) false i k' h rfl
  · intro a M hlen hpre
    obtain ⟨k, c, i, j, rfl, hpre⟩ : ∃ k c i j, a = [.inr (.inr (4, k)), .inr (.inr (0, c)), .inl i, .inl j] ∧ (pz_ic M ∧ j ≤ 1000) := by
      have hpre : (match (generalizing := false) a with | [.inr (.inr (4, k)), .inr (.inr (0, c)), .inl i, .inl j] => pz_ic M ∧ j ≤ 1000 | _ => False) := hpre
      split at hpre
      · exact ⟨_, _, _, _, rfl, hpre⟩
      · exact hpre.elim
    exact Nat.le_of_ble_eq_true rfl
  · intro a M hlen hcan hM hpre Ok hgo
    obtain ⟨k, c, i, j, rfl, hpre⟩ : ∃ k c i j, a = [.inr (.inr (4, k)), .inr (.inr (0, c)), .inl i, .inl j] ∧ (pz_ic M ∧ j ≤ 1000) := by
      have hpre : (match (generalizing := false) a with | [.inr (.inr (4, k)), .inr (.inr (0, c)), .inl i, .inl j] => pz_ic M ∧ j ≤ 1000 | _ => False) := hpre
      split at hpre
      · exact ⟨_, _, _, _, rfl, hpre⟩
      · exact hpre.elim
    obtain ⟨k_k, hc_k⟩ := pz_tlm hcan
    have k_k : pz_kd k = 4 ∧ k < 231 := k_k
    have R_k := pz_kd4 k_k.1
    subst R_k
    obtain ⟨k_c, hc_c⟩ := pz_tlm hc_k
    have k_c : pz_kd c = 0 ∧ c < 231 := k_c
    have R_c := pz_kd0 k_c.1
    obtain ⟨k_i, hc_i⟩ := pz_tlm hc_c
    have l_i : -2147483648 ≤ i := k_i.1
    have u_i : i ≤ 2147483647 := k_i.2
    obtain ⟨k_j, hc_j⟩ := pz_tlm hc_i
    have l_j : -2147483648 ≤ j := k_j.1
    have u_j : j ≤ 2147483647 := k_j.2
    have hI : pz_ic M := hpre.1
    have L7 : ∀ (fu : Nat) (x4 : Int) (x5 : Int), (j + 1 - x5).toNat < fu → (-2147483648 ≤ x5) → Ok 7 [some (.inr (.inr (4, 6))), some (.inr (.inr (0, c))), some (.inl i), some (.inl j), some (.inl x4), some (.inl x5)] [] M := by
      intro fu
      induction fu with
      | zero => exact fun _ _ hn => absurd hn (Nat.not_lt_zero _)
      | succ fu ih7 =>
        intro x4 x5 hn7 g7_0
        refine hgo (fun p => Nat.beq p 7) 19 7 _ _ _ ?_
        refine And.intro (fun h10 => ?_) (fun h10 => ?_)
        · skip
          refine And.intro rfl ?_
          exact ⟨trivial, rfl⟩
        · skip
          refine And.intro (True.intro) ?_
          intro v19 M19 a19 b19 q19
          obtain ⟨q19, z19⟩ := q19
          subst z19
          intro v24 e24 a24 b24
          try rw [pz_wi (by omega) (by omega)] at e24
          exact ih7 _ _ (by omega) (by omega)
    refine hgo (fun p => Nat.beq p 7) 19 0 _ [] M ?_
    exact L7 _ _ _ (Nat.lt_succ_self _) (by omega)
theorem v_X4_oddsOf {fr lo i : Nat} {own : String} (h1 : 2 + 1 ≤ fr) (h2 : 8 + (6 + 11) + 45 ≤ lo) (h3 : .methodLink own i yX4_oddsOf ∈ lw_tbl) : pz_cV fr lo own i k_X4_oddsOf :=
  pz_cVk (maxL := 6) (fr' := 2) (lo' := 45) 3 4 h_X4_oddsOf rfl ⟨by decide +kernel, by decide +kernel, by decide +kernel⟩ ⟨(pz_mt 899 (by decide +kernel)), (pz_mt 897 (by decide +kernel)), (pz_mt 898 (by decide +kernel)), (pz_mt 11 (by decide +kernel))⟩ (Or.inl ⟨TX4, 5, rfl⟩) (fun a M _ h => by
    have h : (match (generalizing := false) a with | [.inr (.inr (4, k)), .inr (.inr (0, c)), .inl i, .inl j] => pz_ic M ∧ j ≤ 1000 | _ => False) := h
    split at h
    · exact ⟨_, _, rfl⟩
    · exact h.elim) h1 h2 h3
def k_X4_holder : pz_C := (2, 1, fun a M => (match a with | [.inr (.inr (4, k)), .inr (.inr (0, c))] => pz_ic M | _ => False), fun a M r M' => (match a, r with | [.inr (.inr (4, k)), .inr (.inr (0, c))], some (.inl v) => (True) ∧ M = M' | _, _ => False))
abbrev ct_X4_holder : List (Bool × Nat × pz_C) := [(true, 50, k_X0_at), (true, 61, k_X4_chanceOf)]
set_option maxRecDepth 100000 in
set_option maxHeartbeats 4000000 in
theorem h_X4_holder : pz_H yX4_holder cX4_holder 4 (some .int) k_X4_holder 1 21 := by
  refine pz_mk (own := RX4) (tb := t_X4_holder) (fl := pz_flf fl_RX4) (ci := pz_cif ci_RX4) (ct := pz_ctf ct_X4_holder) (rz := false) (by decide +kernel) rfl t_X4_holder_ok (pz_flk fl_RX4_ok) (pz_cik ci_RX4_ok) ?_ ?_ (Or.inl ⟨rfl, rfl⟩) ?_ ?_
  · exact fun i k' h => pz_ctk (l := ct_X4_holder) (P := fun b i k => b = true → pz_cV 1 21 RX4 i k) (List.forall_mem_cons.mpr ⟨(fun _ => v_X0_at (by decide) (by decide) (pz_mt 904 (by decide +kernel))), List.forall_mem_cons.mpr ⟨(fun _ => v_X4_chanceOf (by decide) (by decide) (pz_mt 905 (by decide +kernel))), fun _ h => absurd h List.not_mem_nil⟩⟩) true i k' h rfl
  · exact fun i k' h => pz_ctk (l := ct_X4_holder) (P := fun b i k => b = false → (pz_cS 1 21 RX4 i k ∨ (k = pz_kac ∧ 1 ≤ 1 ∧ 60 ≤ 21 ∧ Cond.methodLink RX4 i arraycopyName ∈ pz_tbl))) (List.forall_mem_cons.mpr ⟨((fun z => by cases z)), List.forall_mem_cons.mpr ⟨((fun z => by cases z)), fun _ h => absurd h List.not_mem_nil⟩⟩) false i k' h rfl
  · intro a M hlen hpre
    obtain ⟨k, c, rfl, hpre⟩ : ∃ k c, a = [.inr (.inr (4, k)), .inr (.inr (0, c))] ∧ (pz_ic M) := by
      have hpre : (match (generalizing := false) a with | [.inr (.inr (4, k)), .inr (.inr (0, c))] => pz_ic M | _ => False) := hpre
      split at hpre
      · exact ⟨_, _, rfl, hpre⟩
      · exact hpre.elim
    exact Nat.le_of_ble_eq_true rfl
  · intro a M hlen hcan hM hpre Ok hgo
    obtain ⟨k, c, rfl, hpre⟩ : ∃ k c, a = [.inr (.inr (4, k)), .inr (.inr (0, c))] ∧ (pz_ic M) := by
      have hpre : (match (generalizing := false) a with | [.inr (.inr (4, k)), .inr (.inr (0, c))] => pz_ic M | _ => False) := hpre
      split at hpre
      · exact ⟨_, _, rfl, hpre⟩
      · exact hpre.elim
    obtain ⟨k_k, hc_k⟩ := pz_tlm hcan
    have k_k : pz_kd k = 4 ∧ k < 231 := k_k
    have R_k := pz_kd4 k_k.1
    subst R_k
    obtain ⟨k_c, hc_c⟩ := pz_tlm hc_k
    have k_c : pz_kd c = 0 ∧ c < 231 := k_c
    have R_c := pz_kd0 k_c.1
    have hI : pz_ic M := hpre
    have L4 : ∀ (fu : Nat) (x2 : Int) (x3 : Int), (12 - x3).toNat < fu → (0 ≤ x3) → Ok 4 [some (.inr (.inr (4, 6))), some (.inr (.inr (0, c))), some (.inl x2), some (.inl x3)] [] M := by
      intro fu
      induction fu with
      | zero => exact fun _ _ hn => absurd hn (Nat.not_lt_zero _)
      | succ fu ih4 =>
        intro x2 x3 hn4 g4_0
        refine hgo (fun p => Nat.beq p 4) 31 4 _ _ _ ?_
        intro v6 e6 a6 b6
        have I6 := hI.1 c (by omega) (by omega)
        refine And.intro (fun h9 => ?_) (fun h9 => ?_)
        · skip
          refine And.intro rfl ?_
          exact ⟨trivial, rfl⟩
        · skip
          refine And.intro (True.intro) ?_
          intro r14 M14 k14 q14
          have R14 := pz_kd5 k14
          obtain ⟨q14, z14⟩ := q14
          subst z14
          intro v17 e17 a17 b17
          refine And.intro (fun h20 => ?_) (fun h20 => ?_)
          · skip
            intro v43 e43 a43 b43
            try rw [pz_wi (by omega) (by omega)] at e43
            exact ih4 _ _ (by omega) (by omega)
          · skip
            refine And.intro (fun h25 => ?_) (fun h25 => ?_)
            · skip
              intro v43 e43 a43 b43
              try rw [pz_wi (by omega) (by omega)] at e43
              exact ih4 _ _ (by omega) (by omega)
            · skip
              refine And.intro (True.intro) ?_
              intro v30 M30 a30 b30 q30
              obtain ⟨q30, z30⟩ := q30
              subst z30
              refine And.intro (True.intro) ?_
              intro v35 M35 a35 b35 q35
              obtain ⟨q35, z35⟩ := q35
              subst z35
              refine And.intro (fun h38 => ?_) (fun h38 => ?_)
              · skip
                intro v43 e43 a43 b43
                try rw [pz_wi (by omega) (by omega)] at e43
                exact ih4 _ _ (by omega) (by omega)
              · skip
                intro v43 e43 a43 b43
                try rw [pz_wi (by omega) (by omega)] at e43
                exact ih4 _ _ (by omega) (by omega)
    refine hgo (fun p => Nat.beq p 4) 31 0 _ [] M ?_
    exact L4 _ _ _ (Nat.lt_succ_self _) (by omega)
theorem v_X4_holder {fr lo i : Nat} {own : String} (h1 : 1 + 1 ≤ fr) (h2 : 8 + (4 + 11) + 21 ≤ lo) (h3 : .methodLink own i yX4_holder ∈ lw_tbl) : pz_cV fr lo own i k_X4_holder :=
  pz_cVk (maxL := 4) (fr' := 1) (lo' := 21) 1 4 h_X4_holder rfl ⟨by decide +kernel, by decide +kernel, by decide +kernel⟩ ⟨(pz_mt 920 (by decide +kernel)), (pz_mt 918 (by decide +kernel)), (pz_mt 919 (by decide +kernel)), (pz_mt 11 (by decide +kernel))⟩ (Or.inl ⟨TX4, 5, rfl⟩) (fun a M _ h => by
    have h : (match (generalizing := false) a with | [.inr (.inr (4, k)), .inr (.inr (0, c))] => pz_ic M | _ => False) := h
    split at h
    · exact ⟨_, _, rfl⟩
    · exact h.elim) h1 h2 h3
def k_X4_oddsHurried : pz_C := (4, 1, fun a M => (match a with | [.inr (.inr (4, k)), .inr (.inr (0, c)), .inl i, .inl n] => pz_ic M | _ => False), fun a M r M' => (match a, r with | [.inr (.inr (4, k)), .inr (.inr (0, c)), .inl i, .inl n], some (.inl v) => (True) ∧ pz_st M M' | _, _ => False))
abbrev ct_X4_oddsHurried : List (Bool × Nat × pz_C) := [(true, 50, k_X0_at), (true, 44, k_X3_tells), (false, 33, k_X4_leftAfter), (true, 75, k_X4_oddsOf)]
set_option maxRecDepth 100000 in
set_option maxHeartbeats 4000000 in
theorem h_X4_oddsHurried : pz_H yX4_oddsHurried cX4_oddsHurried 8 (some .int) k_X4_oddsHurried 4 97 := by
  refine pz_mk (own := RX4) (tb := t_X4_oddsHurried) (fl := pz_flf fl_RX4) (ci := pz_cif ci_RX4) (ct := pz_ctf ct_X4_oddsHurried) (rz := false) (by decide +kernel) rfl t_X4_oddsHurried_ok (pz_flk fl_RX4_ok) (pz_cik ci_RX4_ok) ?_ ?_ (Or.inl ⟨rfl, rfl⟩) ?_ ?_
  · exact fun i k' h => pz_ctk (l := ct_X4_oddsHurried) (P := fun b i k => b = true → pz_cV 4 97 RX4 i k) (List.forall_mem_cons.mpr ⟨(fun _ => v_X0_at (by decide) (by decide) (pz_mt 904 (by decide +kernel))), List.forall_mem_cons.mpr ⟨(fun _ => v_X3_tells (by decide) (by decide) (pz_mt 888 (by decide +kernel))), List.forall_mem_cons.mpr ⟨((fun z => by cases z)), List.forall_mem_cons.mpr ⟨(fun _ => v_X4_oddsOf (by decide) (by decide) (pz_mt 1073 (by decide +kernel))), fun _ h => absurd h List.not_mem_nil⟩⟩⟩⟩) true i k' h rfl
  · exact fun i k' h => pz_ctk (l := ct_X4_oddsHurried) (P := fun b i k => b = false → (pz_cS 4 97 RX4 i k ∨ (k = pz_kac ∧ 1 ≤ 4 ∧ 60 ≤ 97 ∧ Cond.methodLink RX4 i arraycopyName ∈ pz_tbl))) (List.forall_mem_cons.mpr ⟨((fun z => by cases z)), List.forall_mem_cons.mpr ⟨((fun z => by cases z)), List.forall_mem_cons.mpr ⟨(fun _ => Or.inl (s_X4_leftAfter (by decide) (by decide) (Or.inl (pz_mt 889 (by decide +kernel))))), List.forall_mem_cons.mpr ⟨((fun z => by cases z)), fun _ h => absurd h List.not_mem_nil⟩⟩⟩⟩) false i k' h rfl
  · intro a M hlen hpre
    obtain ⟨k, c, i, n, rfl, hpre⟩ : ∃ k c i n, a = [.inr (.inr (4, k)), .inr (.inr (0, c)), .inl i, .inl n] ∧ (pz_ic M) := by
      have hpre : (match (generalizing := false) a with | [.inr (.inr (4, k)), .inr (.inr (0, c)), .inl i, .inl n] => pz_ic M | _ => False) := hpre
      split at hpre
      · exact ⟨_, _, _, _, rfl, hpre⟩
      · exact hpre.elim
    exact Nat.le_of_ble_eq_true rfl
  · intro a M hlen hcan hM hpre Ok hgo
    obtain ⟨k, c, i, n, rfl, hpre⟩ : ∃ k c i n, a = [.inr (.inr (4, k)), .inr (.inr (0, c)), .inl i, .inl n] ∧ (pz_ic M) := by
      have hpre : (match (generalizing := false) a with | [.inr (.inr (4, k)), .inr (.inr (0, c)), .inl i, .inl n] => pz_ic M | _ => False) := hpre
      split at hpre
      · exact ⟨_, _, _, _, rfl, hpre⟩
      · exact hpre.elim
    obtain ⟨k_k, hc_k⟩ := pz_tlm hcan
    have k_k : pz_kd k = 4 ∧ k < 231 := k_k
    have R_k := pz_kd4 k_k.1
    subst R_k
    obtain ⟨k_c, hc_c⟩ := pz_tlm hc_k
    have k_c : pz_kd c = 0 ∧ c < 231 := k_c
    have R_c := pz_kd0 k_c.1
    obtain ⟨k_i, hc_i⟩ := pz_tlm hc_c
    have l_i : -2147483648 ≤ i := k_i.1
    have u_i : i ≤ 2147483647 := k_i.2
    obtain ⟨k_n, hc_n⟩ := pz_tlm hc_i
    have l_n : -2147483648 ≤ n := k_n.1
    have u_n : n ≤ 2147483647 := k_n.2
    have hI : pz_ic M := hpre
    have hI0 := hI
    have hS : pz_st M M := pz_st.rf
    refine hgo (fun _ => false) 55 0 _ [] M ?_
    refine And.intro (True.intro) ?_
    intro r2 M2 k2 q2
    have R2 := pz_kd5 k2
    obtain ⟨q2, z2⟩ := q2
    subst z2
    refine And.intro (fun h8 => ?_) (fun h8 => ?_)
    · skip
      refine And.intro rfl ?_
      exact ⟨trivial, hS⟩
    · skip
      refine And.intro (fun h14 => ?_) (fun h14 => ?_)
      · skip
        intro v21 e21 a21 b21
        intro r27 e27 k27
        have R27 := pz_kdA k27 (by decide) (by decide)
        have Q27 := pz_nm e27 k_k.1 (by decide) (by decide) rfl
        have W27 : r27 = 52 := e27
        refine And.intro (by omega) (And.intro (show _ < (12 : Int) from by omega) ?_)
        intro v31 e31 a31 b31
        intro M37 e37
        have hS : pz_sz r2 M M37 := by
          rw [e37]
          exact pz_sz_u hS.sz (Or.inr ⟨rfl, rfl⟩) (by omega) (by unfold pz_iok; omega)
        have hI : pz_ic M37 := hS.1 hI0
        have T37_0 := pz_uve e37 r2 3
        intro r41 e41 k41
        have R41 := pz_kdA k41 (by decide) (by decide)
        have Q41 := pz_nm e41 k_k.1 (by decide) (by decide) rfl
        have W41 : r41 = 52 := e41
        intro r46 e46 k46
        have R46 := pz_kd3 k46
        refine And.intro (hI) ?_
        intro v52 M52 a52 b52 q52
        obtain ⟨q52, z52⟩ := q52
        have hS : pz_sz r2 M M52 := hS.tr z52.sz
        have hI : pz_ic M52 := hS.1 hI0
        refine And.intro (True.intro) ?_
        intro v56 M56 a56 b56 q56
        obtain ⟨q56, z56⟩ := q56
        subst z56
        refine And.intro (by omega) (And.intro (show _ < (12 : Int) from by omega) ?_)
        intro M59 e59
        have hS : pz_sz r2 M M59 := by
          rw [e59]
          exact pz_sz_u hS (Or.inl (by unfold pz_md pz_kx pz_mid; omega)) (by omega) (by unfold pz_iok; omega)
        have hI : pz_ic M59 := hS.1 hI0
        have T59_0 := pz_uve e59 r2 3
        intro v64 e64 a64 b64
        have I64 := hI.1 c (by omega) (by omega)
        intro v68 e68 a68 b68
        try rw [pz_wi (by omega) (by omega)] at e68
        refine And.intro (And.intro hI (by omega)) ?_
        intro v69 M69 a69 b69 q69
        obtain ⟨q69, z69⟩ := q69
        subst z69
        intro M78 e78
        have hS : pz_sz r2 M M78 := by
          rw [e78]
          exact pz_sz_u hS (Or.inr ⟨rfl, rfl⟩) (by omega) (by unfold pz_iok; omega)
        have hI : pz_ic M78 := hS.1 hI0
        have T78_0 := pz_uve e78 r2 3
        intro r82 e82 k82
        have R82 := pz_kdA k82 (by decide) (by decide)
        have Q82 := pz_nm e82 k_k.1 (by decide) (by decide) rfl
        have W82 : r82 = 52 := e82
        refine And.intro (by omega) (And.intro (show _ < (12 : Int) from by omega) ?_)
        intro M88 e88
        have hS : pz_sz r2 M M88 := by
          rw [e88]
          exact pz_sz_u hS (Or.inl (by unfold pz_md pz_kx pz_mid; omega)) (by omega) (by unfold pz_iok; omega)
        have hI : pz_ic M88 := hS.1 hI0
        have T88_0 := pz_uve e88 r2 3
        refine And.intro rfl ?_
        exact ⟨trivial, pz_sz.st hS (by omega)⟩
      · skip
        refine And.intro rfl ?_
        exact ⟨trivial, hS⟩
theorem v_X4_oddsHurried {fr lo i : Nat} {own : String} (h1 : 4 + 1 ≤ fr) (h2 : 8 + (8 + 11) + 97 ≤ lo) (h3 : .methodLink own i yX4_oddsHurried ∈ lw_tbl) : pz_cV fr lo own i k_X4_oddsHurried :=
  pz_cVk (maxL := 8) (fr' := 4) (lo' := 97) 3 4 h_X4_oddsHurried rfl ⟨by decide +kernel, by decide +kernel, by decide +kernel⟩ ⟨(pz_mt 1072 (by decide +kernel)), (pz_mt 1070 (by decide +kernel)), (pz_mt 1071 (by decide +kernel)), (pz_mt 11 (by decide +kernel))⟩ (Or.inl ⟨TX4, 5, rfl⟩) (fun a M _ h => by
    have h : (match (generalizing := false) a with | [.inr (.inr (4, k)), .inr (.inr (0, c)), .inl i, .inl n] => pz_ic M | _ => False) := h
    split at h
    · exact ⟨_, _, rfl⟩
    · exact h.elim) h1 h2 h3
def k_X4_reckonSpans : pz_C := (2, 0, fun a M => (match a with | [.inr (.inr (4, k)), .inr (.inr (0, c))] => pz_ic M | _ => False), fun a M r M' => (match a, r with | [.inr (.inr (4, k)), .inr (.inr (0, c))], none => (True) ∧ pz_st M M' | _, _ => False))
abbrev ct_X4_reckonSpans : List (Bool × Nat × pz_C) := [(true, 68, k_X4_oddsWith)]
set_option maxRecDepth 100000 in
set_option maxHeartbeats 4000000 in
theorem h_X4_reckonSpans : pz_H yX4_reckonSpans cX4_reckonSpans 6 none k_X4_reckonSpans 2 45 := by
  refine pz_mk (own := RX4) (tb := t_X4_reckonSpans) (fl := pz_flf fl_RX4) (ci := pz_cif ci_RX4) (ct := pz_ctf ct_X4_reckonSpans) (rz := false) (by decide +kernel) rfl t_X4_reckonSpans_ok (pz_flk fl_RX4_ok) (pz_cik ci_RX4_ok) ?_ ?_ (rfl) ?_ ?_
  · exact fun i k' h => pz_ctk (l := ct_X4_reckonSpans) (P := fun b i k => b = true → pz_cV 2 45 RX4 i k) (List.forall_mem_cons.mpr ⟨(fun _ => v_X4_oddsWith (by decide) (by decide) (pz_mt 900 (by decide +kernel))), fun _ h => absurd h List.not_mem_nil⟩) true i k' h rfl
  · exact fun i k' h => pz_ctk (l := ct_X4_reckonSpans) (P := fun b i k => b = false → (pz_cS 2 45 RX4 i k ∨ (k = pz_kac ∧ 1 ≤ 2 ∧ 60 ≤ 45 ∧ Cond.methodLink RX4 i arraycopyName ∈ pz_tbl))) (List.forall_mem_cons.mpr ⟨((fun z => by cases z)), fun _ h => absurd h List.not_mem_nil⟩) false i k' h rfl
  · intro a M hlen hpre
    obtain ⟨k, c, rfl, hpre⟩ : ∃ k c, a = [.inr (.inr (4, k)), .inr (.inr (0, c))] ∧ (pz_ic M) := by
      have hpre : (match (generalizing := false) a with | [.inr (.inr (4, k)), .inr (.inr (0, c))] => pz_ic M | _ => False) := hpre
      split at hpre
      · exact ⟨_, _, rfl, hpre⟩
      · exact hpre.elim
    exact Nat.le_of_ble_eq_true rfl
  · intro a M hlen hcan hM hpre Ok hgo
    obtain ⟨k, c, rfl, hpre⟩ : ∃ k c, a = [.inr (.inr (4, k)), .inr (.inr (0, c))] ∧ (pz_ic M) := by
      have hpre : (match (generalizing := false) a with | [.inr (.inr (4, k)), .inr (.inr (0, c))] => pz_ic M | _ => False) := hpre
      split at hpre
      · exact ⟨_, _, rfl, hpre⟩
      · exact hpre.elim
    obtain ⟨k_k, hc_k⟩ := pz_tlm hcan
    have k_k : pz_kd k = 4 ∧ k < 231 := k_k
    have R_k := pz_kd4 k_k.1
    subst R_k
    obtain ⟨k_c, hc_c⟩ := pz_tlm hc_k
    have k_c : pz_kd c = 0 ∧ c < 231 := k_c
    have R_c := pz_kd0 k_c.1
    have hI : pz_ic M := hpre
    have hI0 := hI
    have hS : pz_st M M := pz_st.rf
    have L2 : ∀ (fo : Nat) (x2 : Int) (d3 : Option pz_V) (d4 : Option pz_V) (d5 : Option pz_V) (N2 : pz_M), (12 - x2).toNat < fo → (pz_st M N2) → (0 ≤ x2) → Ok 2 [some (.inr (.inr (4, 6))), some (.inr (.inr (0, c))), some (.inl x2), d3, d4, d5] [] N2 := by
      intro fo
      induction fo with
      | zero => exact fun _ _ _ _ _ hn => absurd hn (Nat.not_lt_zero _)
      | succ fo ih2 =>
        intro x2 d3 d4 d5 N2 hn2 hS g2_1
        have hI : pz_ic N2 := hS.1.1 hI0
        have L16 : ∀ (fu : Nat) (x2 : Int) (x3 : Int) (x4 : Int) (d5 : Option pz_V) (N16 : pz_M), (12 - x4).toNat < fu → (pz_st M N16) → (0 ≤ x4) → (0 ≤ x2) → (x2 < 12) → ((12 - x2).toNat < fo + 1) → Ok 16 [some (.inr (.inr (4, 6))), some (.inr (.inr (0, c))), some (.inl x2), some (.inl x3), some (.inl x4), d5] [] N16 := by
          intro fu
          induction fu with
          | zero => exact fun _ _ _ _ _ hn => absurd hn (Nat.not_lt_zero _)
          | succ fu ih16 =>
            intro x2 x3 x4 d5 N16 hn16 hS g16_1 g16_2 g16_3 g16_4
            have hI : pz_ic N16 := hS.1.1 hI0
            refine hgo (fun p => Nat.beq p 2 || Nat.beq p 16) 43 16 _ _ _ ?_
            intro v19 e19 a19 b19
            have I19 := hI.1 c (by omega) (by omega)
            refine And.intro (fun h22 => ?_) (fun h22 => ?_)
            · skip
              intro v67 e67 a67 b67
              try rw [pz_wi (by omega) (by omega)] at e67
              exact ih2 _ _ _ _ _ (by omega) hS (by omega)
            · skip
              refine And.intro (True.intro) ?_
              intro v30 M30 a30 b30 q30
              obtain ⟨q30, z30⟩ := q30
              subst z30
              intro v37 e37 a37 b37
              try rw [pz_wi (by omega) (by omega)] at e37
              intro v40 e40 a40 b40
              try rw [pz_wi (by omega) (by omega)] at e40
              intro r46 e46 k46
              have R46 := pz_kdA k46 (by decide) (by decide)
              have Q46 := pz_nm e46 k_k.1 (by decide) (by decide) rfl
              have W46 : r46 = 55 := e46
              have Z49 : (((pz_ak 21).2 : Nat) : Int) = 144 := rfl
              refine And.intro (fun h50 => ?_) (fun h50 => ?_)
              · skip
                intro v61 e61 a61 b61
                try rw [pz_wi (by omega) (by omega)] at e61
                exact ih16 _ _ _ _ _ (by omega) hS (by omega) (by omega) (by omega) (by omega)
              · skip
                intro r54 e54 k54
                have R54 := pz_kdA k54 (by decide) (by decide)
                have Q54 := pz_nm e54 k_k.1 (by decide) (by decide) rfl
                have W54 : r54 = 55 := e54
                refine And.intro (by omega) (And.intro (show _ < (144 : Int) from by omega) ?_)
                intro M60 e60
                have hS : pz_st M M60 := by
                  rw [e60]
                  exact pz_st_u hS (by unfold pz_md pz_kx pz_mid; omega) (by omega) (by unfold pz_iok; omega)
                have hI : pz_ic M60 := hS.1.1 hI0
                intro v61 e61 a61 b61
                try rw [pz_wi (by omega) (by omega)] at e61
                exact ih16 _ _ _ _ _ (by omega) hS (by omega) (by omega) (by omega) (by omega)
        refine hgo (fun p => Nat.beq p 2 || Nat.beq p 16) 43 2 _ _ _ ?_
        intro v4 e4 a4 b4
        have I4 := hI.1 c (by omega) (by omega)
        refine And.intro (fun h7 => ?_) (fun h7 => ?_)
        · skip
          refine And.intro rfl ?_
          exact ⟨trivial, hS⟩
        · skip
          exact L16 _ _ _ _ _ _ (Nat.lt_succ_self _) hS (by omega) (by omega) (by omega) (by omega)
    refine hgo (fun p => Nat.beq p 2 || Nat.beq p 16) 43 0 _ [] M ?_
    exact L2 _ _ _ _ _ _ (Nat.lt_succ_self _) hS (by omega)
theorem v_X4_reckonSpans {fr lo i : Nat} {own : String} (h1 : 2 + 1 ≤ fr) (h2 : 8 + (6 + 11) + 45 ≤ lo) (h3 : .methodLink own i yX4_reckonSpans ∈ lw_tbl) : pz_cV fr lo own i k_X4_reckonSpans :=
  pz_cVk (maxL := 6) (fr' := 2) (lo' := 45) 1 4 h_X4_reckonSpans rfl ⟨by decide +kernel, by decide +kernel, by decide +kernel⟩ ⟨(pz_mt 949 (by decide +kernel)), (pz_mt 947 (by decide +kernel)), (pz_mt 948 (by decide +kernel)), (pz_mt 11 (by decide +kernel))⟩ (Or.inl ⟨TX4, 5, rfl⟩) (fun a M _ h => by
    have h : (match (generalizing := false) a with | [.inr (.inr (4, k)), .inr (.inr (0, c))] => pz_ic M | _ => False) := h
    split at h
    · exact ⟨_, _, rfl⟩
    · exact h.elim) h1 h2 h3
def k_X4_leastOdds : pz_C := (3, 1, fun a M => (match a with | [.inr (.inr (4, k)), .inr (.inr (0, c)), .inl i] => pz_ic M | _ => False), fun a M r M' => (match a, r with | [.inr (.inr (4, k)), .inr (.inr (0, c)), .inl i], some (.inl v) => (True) ∧ M = M' | _, _ => False))
abbrev ct_X4_leastOdds : List (Bool × Nat × pz_C) := [(false, 78, k_J9_min_7cf53)]
set_option maxRecDepth 100000 in
set_option maxHeartbeats 4000000 in
theorem h_X4_leastOdds : pz_H yX4_leastOdds cX4_leastOdds 8 (some .int) k_X4_leastOdds 1 21 := by
  refine pz_mk (own := RX4) (tb := t_X4_leastOdds) (fl := pz_flf fl_RX4) (ci := pz_cif ci_RX4) (ct := pz_ctf ct_X4_leastOdds) (rz := false) (by decide +kernel) rfl t_X4_leastOdds_ok (pz_flk fl_RX4_ok) (pz_cik ci_RX4_ok) ?_ ?_ (Or.inl ⟨rfl, rfl⟩) ?_ ?_
  · exact fun i k' h => pz_ctk (l := ct_X4_leastOdds) (P := fun b i k => b = true → pz_cV 1 21 RX4 i k) (List.forall_mem_cons.mpr ⟨((fun z => by cases z)), fun _ h => absurd h List.not_mem_nil⟩) true i k' h rfl
  · exact fun i k' h => pz_ctk (l := ct_X4_leastOdds) (P := fun b i k => b = false → (pz_cS 1 21 RX4 i k ∨ (k = pz_kac ∧ 1 ≤ 1 ∧ 60 ≤ 21 ∧ Cond.methodLink RX4 i arraycopyName ∈ pz_tbl))) (List.forall_mem_cons.mpr ⟨(fun _ => Or.inl (s_J9_min_7cf53 (by decide) (by decide) (Or.inl (pz_mt 955 (by decide +kernel))))), fun _ h => absurd h List.not_mem_nil⟩) false i k' h rfl
  · intro a M hlen hpre
    obtain ⟨k, c, i, rfl, hpre⟩ : ∃ k c i, a = [.inr (.inr (4, k)), .inr (.inr (0, c)), .inl i] ∧ (pz_ic M) := by
      have hpre : (match (generalizing := false) a with | [.inr (.inr (4, k)), .inr (.inr (0, c)), .inl i] => pz_ic M | _ => False) := hpre
      split at hpre
      · exact ⟨_, _, _, rfl, hpre⟩
      · exact hpre.elim
    exact Nat.le_of_ble_eq_true rfl
  · intro a M hlen hcan hM hpre Ok hgo
    obtain ⟨k, c, i, rfl, hpre⟩ : ∃ k c i, a = [.inr (.inr (4, k)), .inr (.inr (0, c)), .inl i] ∧ (pz_ic M) := by
      have hpre : (match (generalizing := false) a with | [.inr (.inr (4, k)), .inr (.inr (0, c)), .inl i] => pz_ic M | _ => False) := hpre
      split at hpre
      · exact ⟨_, _, _, rfl, hpre⟩
      · exact hpre.elim
    obtain ⟨k_k, hc_k⟩ := pz_tlm hcan
    have k_k : pz_kd k = 4 ∧ k < 231 := k_k
    have R_k := pz_kd4 k_k.1
    subst R_k
    obtain ⟨k_c, hc_c⟩ := pz_tlm hc_k
    have k_c : pz_kd c = 0 ∧ c < 231 := k_c
    have R_c := pz_kd0 k_c.1
    obtain ⟨k_i, hc_i⟩ := pz_tlm hc_c
    have l_i : -2147483648 ≤ i := k_i.1
    have u_i : i ≤ 2147483647 := k_i.2
    have hI : pz_ic M := hpre
    have L9 : ∀ (fu : Nat) (x3 : Int) (x4 : Int) (x5 : Int) (d6 : Option pz_V) (d7 : Option pz_V), (12 - x5).toNat < fu → (0 ≤ x5) → (0 ≤ x4) → (x4 < 12) → Ok 9 [some (.inr (.inr (4, 6))), some (.inr (.inr (0, c))), some (.inl i), some (.inl x3), some (.inl x4), some (.inl x5), d6, d7] [] M := by
      intro fu
      induction fu with
      | zero => exact fun _ _ _ _ _ hn => absurd hn (Nat.not_lt_zero _)
      | succ fu ih9 =>
        intro x3 x4 x5 d6 d7 hn9 g9_0 g9_1 g9_2
        refine hgo (fun p => Nat.beq p 9) 54 9 _ _ _ ?_
        intro v12 e12 a12 b12
        have I12 := hI.1 c (by omega) (by omega)
        refine And.intro (fun h15 => ?_) (fun h15 => ?_)
        · skip
          refine And.intro rfl ?_
          exact ⟨trivial, rfl⟩
        · skip
          intro v22 e22 a22 b22
          try rw [pz_wi (by omega) (by omega)] at e22
          intro v25 e25 a25 b25
          try rw [pz_wi (by omega) (by omega)] at e25
          intro v31 e31 a31 b31
          have I31 := hI.1 c (by omega) (by omega)
          intro v35 e35 a35 b35
          try rw [pz_wi (by omega) (by omega)] at e35
          refine And.intro (fun h36 => ?_) (fun h36 => ?_)
          · skip
            refine And.intro (fun h57 => ?_) (fun h57 => ?_)
            · skip
              intro v86 e86 a86 b86
              try rw [pz_wi (by omega) (by omega)] at e86
              exact ih9 _ _ _ _ _ (by omega) (by omega) (by omega) (by omega)
            · skip
              intro r63 e63 k63
              have R63 := pz_kdA k63 (by decide) (by decide)
              have Z66 : (((pz_ak 21).2 : Nat) : Int) = 144 := rfl
              refine And.intro (fun h67 => ?_) (fun h67 => ?_)
              · skip
                intro v86 e86 a86 b86
                try rw [pz_wi (by omega) (by omega)] at e86
                exact ih9 _ _ _ _ _ (by omega) (by omega) (by omega) (by omega)
              · skip
                intro r72 e72 k72
                have R72 := pz_kdA k72 (by decide) (by decide)
                refine And.intro (by omega) (And.intro (show _ < (144 : Int) from by omega) ?_)
                intro v77 e77 a77 b77
                refine And.intro (True.intro) ?_
                intro v78 M78 a78 b78 q78
                obtain ⟨q78, z78⟩ := q78
                subst z78
                intro v86 e86 a86 b86
                try rw [pz_wi (by omega) (by omega)] at e86
                exact ih9 _ _ _ _ _ (by omega) (by omega) (by omega) (by omega)
          · skip
            intro v42 e42 a42 b42
            intro v44 e44 a44 b44
            refine And.intro (fun h45 => ?_) (fun h45 => ?_)
            · skip
              refine And.intro (fun h57 => ?_) (fun h57 => ?_)
              · skip
                intro v86 e86 a86 b86
                try rw [pz_wi (by omega) (by omega)] at e86
                exact ih9 _ _ _ _ _ (by omega) (by omega) (by omega) (by omega)
              · skip
                intro r63 e63 k63
                have R63 := pz_kdA k63 (by decide) (by decide)
                have Z66 : (((pz_ak 21).2 : Nat) : Int) = 144 := rfl
                refine And.intro (fun h67 => ?_) (fun h67 => ?_)
                · skip
                  intro v86 e86 a86 b86
                  try rw [pz_wi (by omega) (by omega)] at e86
                  exact ih9 _ _ _ _ _ (by omega) (by omega) (by omega) (by omega)
                · skip
                  intro r72 e72 k72
                  have R72 := pz_kdA k72 (by decide) (by decide)
                  refine And.intro (by omega) (And.intro (show _ < (144 : Int) from by omega) ?_)
                  intro v77 e77 a77 b77
                  refine And.intro (True.intro) ?_
                  intro v78 M78 a78 b78 q78
                  obtain ⟨q78, z78⟩ := q78
                  subst z78
                  intro v86 e86 a86 b86
                  try rw [pz_wi (by omega) (by omega)] at e86
                  exact ih9 _ _ _ _ _ (by omega) (by omega) (by omega) (by omega)
            · skip
              refine And.intro (fun h57 => ?_) (fun h57 => ?_)
              · skip
                intro v86 e86 a86 b86
                try rw [pz_wi (by omega) (by omega)] at e86
                exact ih9 _ _ _ _ _ (by omega) (by omega) (by omega) (by omega)
              · skip
                intro r63 e63 k63
                have R63 := pz_kdA k63 (by decide) (by decide)
                have Z66 : (((pz_ak 21).2 : Nat) : Int) = 144 := rfl
                refine And.intro (fun h67 => ?_) (fun h67 => ?_)
                · skip
                  intro v86 e86 a86 b86
                  try rw [pz_wi (by omega) (by omega)] at e86
                  exact ih9 _ _ _ _ _ (by omega) (by omega) (by omega) (by omega)
                · skip
                  intro r72 e72 k72
                  have R72 := pz_kdA k72 (by decide) (by decide)
                  refine And.intro (by omega) (And.intro (show _ < (144 : Int) from by omega) ?_)
                  intro v77 e77 a77 b77
                  refine And.intro (True.intro) ?_
                  intro v78 M78 a78 b78 q78
                  obtain ⟨q78, z78⟩ := q78
                  subst z78
                  intro v86 e86 a86 b86
                  try rw [pz_wi (by omega) (by omega)] at e86
                  exact ih9 _ _ _ _ _ (by omega) (by omega) (by omega) (by omega)
    refine hgo (fun p => Nat.beq p 9) 54 0 _ [] M ?_
    exact L9 _ _ _ _ _ _ (Nat.lt_succ_self _) (by omega) (by omega) (by omega)
theorem v_X4_leastOdds {fr lo i : Nat} {own : String} (h1 : 1 + 1 ≤ fr) (h2 : 8 + (8 + 11) + 21 ≤ lo) (h3 : .methodLink own i yX4_leastOdds ∈ lw_tbl) : pz_cV fr lo own i k_X4_leastOdds :=
  pz_cVk (maxL := 8) (fr' := 1) (lo' := 21) 2 4 h_X4_leastOdds rfl ⟨by decide +kernel, by decide +kernel, by decide +kernel⟩ ⟨(pz_mt 954 (by decide +kernel)), (pz_mt 952 (by decide +kernel)), (pz_mt 953 (by decide +kernel)), (pz_mt 11 (by decide +kernel))⟩ (Or.inl ⟨TX4, 5, rfl⟩) (fun a M _ h => by
    have h : (match (generalizing := false) a with | [.inr (.inr (4, k)), .inr (.inr (0, c)), .inl i] => pz_ic M | _ => False) := h
    split at h
    · exact ⟨_, _, rfl⟩
    · exact h.elim) h1 h2 h3
def k_X4_costOf : pz_C := (3, 1, fun a M => (match a with | [.inr (.inr (4, k)), .inr (.inr (0, c)), .inl i] => pz_ic M | _ => False), fun a M r M' => (match a, r with | [.inr (.inr (4, k)), .inr (.inr (0, c)), .inl i], some (.inl v) => (True) ∧ M = M' | _, _ => False))
abbrev ct_X4_costOf : List (Bool × Nat × pz_C) := []
set_option maxRecDepth 100000 in
set_option maxHeartbeats 4000000 in
theorem h_X4_costOf : pz_H yX4_costOf cX4_costOf 5 (some .int) k_X4_costOf 0 0 := by
  refine pz_mk (own := RX4) (tb := t_X4_costOf) (fl := pz_flf fl_RX4) (ci := pz_cif ci_RX4) (ct := pz_ctf ct_X4_costOf) (rz := false) (by decide +kernel) rfl t_X4_costOf_ok (pz_flk fl_RX4_ok) (pz_cik ci_RX4_ok) ?_ ?_ (Or.inl ⟨rfl, rfl⟩) ?_ ?_
  · exact fun i k' h => pz_ctk (l := ct_X4_costOf) (P := fun b i k => b = true → pz_cV 0 0 RX4 i k) (fun _ h => absurd h List.not_mem_nil) true i k' h rfl
  · exact fun i k' h => pz_ctk (l := ct_X4_costOf) (P := fun b i k => b = false → (pz_cS 0 0 RX4 i k ∨ (k = pz_kac ∧ 1 ≤ 0 ∧ 60 ≤ 0 ∧ Cond.methodLink RX4 i arraycopyName ∈ pz_tbl))) (fun _ h => absurd h List.not_mem_nil) false i k' h rfl
  · intro a M hlen hpre
    obtain ⟨k, c, i, rfl, hpre⟩ : ∃ k c i, a = [.inr (.inr (4, k)), .inr (.inr (0, c)), .inl i] ∧ (pz_ic M) := by
      have hpre : (match (generalizing := false) a with | [.inr (.inr (4, k)), .inr (.inr (0, c)), .inl i] => pz_ic M | _ => False) := hpre
      split at hpre
      · exact ⟨_, _, _, rfl, hpre⟩
      · exact hpre.elim
    exact Nat.le_of_ble_eq_true rfl
  · intro a M hlen hcan hM hpre Ok hgo
    obtain ⟨k, c, i, rfl, hpre⟩ : ∃ k c i, a = [.inr (.inr (4, k)), .inr (.inr (0, c)), .inl i] ∧ (pz_ic M) := by
      have hpre : (match (generalizing := false) a with | [.inr (.inr (4, k)), .inr (.inr (0, c)), .inl i] => pz_ic M | _ => False) := hpre
      split at hpre
      · exact ⟨_, _, _, rfl, hpre⟩
      · exact hpre.elim
    obtain ⟨k_k, hc_k⟩ := pz_tlm hcan
    have k_k : pz_kd k = 4 ∧ k < 231 := k_k
    have R_k := pz_kd4 k_k.1
    subst R_k
    obtain ⟨k_c, hc_c⟩ := pz_tlm hc_k
    have k_c : pz_kd c = 0 ∧ c < 231 := k_c
    have R_c := pz_kd0 k_c.1
    obtain ⟨k_i, hc_i⟩ := pz_tlm hc_c
    have l_i : -2147483648 ≤ i := k_i.1
    have u_i : i ≤ 2147483647 := k_i.2
    have hI : pz_ic M := hpre
    have L5 : ∀ (fu : Nat) (x3 : Int) (x4 : Int), (12 - x4).toNat < fu → (0 ≤ x4) → Ok 5 [some (.inr (.inr (4, 6))), some (.inr (.inr (0, c))), some (.inl i), some (.inl x3), some (.inl x4)] [] M := by
      intro fu
      induction fu with
      | zero => exact fun _ _ hn => absurd hn (Nat.not_lt_zero _)
      | succ fu ih5 =>
        intro x3 x4 hn5 g5_0
        refine hgo (fun p => Nat.beq p 5) 32 5 _ _ _ ?_
        intro v8 e8 a8 b8
        have I8 := hI.1 c (by omega) (by omega)
        refine And.intro (fun h11 => ?_) (fun h11 => ?_)
        · skip
          refine And.intro rfl ?_
          exact ⟨trivial, rfl⟩
        · skip
          refine And.intro (fun h18 => ?_) (fun h18 => ?_)
          · skip
            refine And.intro rfl ?_
            exact ⟨trivial, rfl⟩
          · skip
            intro v25 e25 a25 b25
            intro v27 e27 a27 b27
            refine And.intro (fun h28 => ?_) (fun h28 => ?_)
            · skip
              intro v42 e42 a42 b42
              try rw [pz_wi (by omega) (by omega)] at e42
              intro v44 e44 a44 b44
              try rw [pz_wi (by omega) (by omega)] at e44
              exact ih5 _ _ (by omega) (by omega)
            · skip
              intro r32 e32 k32
              have R32 := pz_kdA k32 (by decide) (by decide)
              refine And.intro (by omega) (And.intro (show _ < (12 : Int) from by omega) ?_)
              intro v37 e37 a37 b37
              intro v42 e42 a42 b42
              try rw [pz_wi (by omega) (by omega)] at e42
              intro v44 e44 a44 b44
              try rw [pz_wi (by omega) (by omega)] at e44
              exact ih5 _ _ (by omega) (by omega)
    refine hgo (fun p => Nat.beq p 5) 32 0 _ [] M ?_
    exact L5 _ _ _ (Nat.lt_succ_self _) (by omega)
theorem v_X4_costOf {fr lo i : Nat} {own : String} (h1 : 0 + 1 ≤ fr) (h2 : 8 + (5 + 11) + 0 ≤ lo) (h3 : .methodLink own i yX4_costOf ∈ lw_tbl) : pz_cV fr lo own i k_X4_costOf :=
  pz_cVk (maxL := 5) (fr' := 0) (lo' := 0) 2 4 h_X4_costOf rfl ⟨by decide +kernel, by decide +kernel, by decide +kernel⟩ ⟨(pz_mt 959 (by decide +kernel)), (pz_mt 957 (by decide +kernel)), (pz_mt 958 (by decide +kernel)), (pz_mt 11 (by decide +kernel))⟩ (Or.inl ⟨TX4, 5, rfl⟩) (fun a M _ h => by
    have h : (match (generalizing := false) a with | [.inr (.inr (4, k)), .inr (.inr (0, c)), .inl i] => pz_ic M | _ => False) := h
    split at h
    · exact ⟨_, _, rfl⟩
    · exact h.elim) h1 h2 h3
def k_X4_cheapestBridges : pz_C := (3, 1, fun a M => (match a with | [.inr (.inr (4, k)), .inr (.inr (0, c)), .inl i] => pz_ic M | _ => False), fun a M r M' => (match a, r with | [.inr (.inr (4, k)), .inr (.inr (0, c)), .inl i], some (.inl v) => (True) ∧ pz_st M M' | _, _ => False))
abbrev ct_X4_cheapestBridges : List (Bool × Nat × pz_C) := [(true, 83, k_X0_bridgeableOnes), (true, 87, k_X0_bridgedOnes), (true, 90, k_X4_reckonSpans), (false, 94, k_J6_bitCount_0f7a4), (true, 99, k_X4_leastOdds), (true, 103, k_X4_costOf)]
set_option maxRecDepth 100000 in
set_option maxHeartbeats 4000000 in
theorem h_X4_cheapestBridges : pz_H yX4_cheapestBridges cX4_cheapestBridges 11 (some .int) k_X4_cheapestBridges 3 70 := by
  refine pz_mk (own := RX4) (tb := t_X4_cheapestBridges) (fl := pz_flf fl_RX4) (ci := pz_cif ci_RX4) (ct := pz_ctf ct_X4_cheapestBridges) (rz := false) (by decide +kernel) rfl t_X4_cheapestBridges_ok (pz_flk fl_RX4_ok) (pz_cik ci_RX4_ok) ?_ ?_ (Or.inl ⟨rfl, rfl⟩) ?_ ?_
  · exact fun i k' h => pz_ctk (l := ct_X4_cheapestBridges) (P := fun b i k => b = true → pz_cV 3 70 RX4 i k) (List.forall_mem_cons.mpr ⟨(fun _ => v_X0_bridgeableOnes (by decide) (by decide) (pz_mt 940 (by decide +kernel))), List.forall_mem_cons.mpr ⟨(fun _ => v_X0_bridgedOnes (by decide) (by decide) (pz_mt 945 (by decide +kernel))), List.forall_mem_cons.mpr ⟨(fun _ => v_X4_reckonSpans (by decide) (by decide) (pz_mt 946 (by decide +kernel))), List.forall_mem_cons.mpr ⟨((fun z => by cases z)), List.forall_mem_cons.mpr ⟨(fun _ => v_X4_leastOdds (by decide) (by decide) (pz_mt 951 (by decide +kernel))), List.forall_mem_cons.mpr ⟨(fun _ => v_X4_costOf (by decide) (by decide) (pz_mt 956 (by decide +kernel))), fun _ h => absurd h List.not_mem_nil⟩⟩⟩⟩⟩⟩) true i k' h rfl
  · exact fun i k' h => pz_ctk (l := ct_X4_cheapestBridges) (P := fun b i k => b = false → (pz_cS 3 70 RX4 i k ∨ (k = pz_kac ∧ 1 ≤ 3 ∧ 60 ≤ 70 ∧ Cond.methodLink RX4 i arraycopyName ∈ pz_tbl))) (List.forall_mem_cons.mpr ⟨((fun z => by cases z)), List.forall_mem_cons.mpr ⟨((fun z => by cases z)), List.forall_mem_cons.mpr ⟨((fun z => by cases z)), List.forall_mem_cons.mpr ⟨(fun _ => Or.inl (s_J6_bitCount_0f7a4 (by decide) (by decide) (Or.inl (pz_mt 950 (by decide +kernel))))), List.forall_mem_cons.mpr ⟨((fun z => by cases z)), List.forall_mem_cons.mpr ⟨((fun z => by cases z)), fun _ h => absurd h List.not_mem_nil⟩⟩⟩⟩⟩⟩) false i k' h rfl
  · intro a M hlen hpre
    obtain ⟨k, c, i, rfl, hpre⟩ : ∃ k c i, a = [.inr (.inr (4, k)), .inr (.inr (0, c)), .inl i] ∧ (pz_ic M) := by
      have hpre : (match (generalizing := false) a with | [.inr (.inr (4, k)), .inr (.inr (0, c)), .inl i] => pz_ic M | _ => False) := hpre
      split at hpre
      · exact ⟨_, _, _, rfl, hpre⟩
      · exact hpre.elim
    exact Nat.le_of_ble_eq_true rfl
  · intro a M hlen hcan hM hpre Ok hgo
    obtain ⟨k, c, i, rfl, hpre⟩ : ∃ k c i, a = [.inr (.inr (4, k)), .inr (.inr (0, c)), .inl i] ∧ (pz_ic M) := by
      have hpre : (match (generalizing := false) a with | [.inr (.inr (4, k)), .inr (.inr (0, c)), .inl i] => pz_ic M | _ => False) := hpre
      split at hpre
      · exact ⟨_, _, _, rfl, hpre⟩
      · exact hpre.elim
    obtain ⟨k_k, hc_k⟩ := pz_tlm hcan
    have k_k : pz_kd k = 4 ∧ k < 231 := k_k
    have R_k := pz_kd4 k_k.1
    subst R_k
    obtain ⟨k_c, hc_c⟩ := pz_tlm hc_k
    have k_c : pz_kd c = 0 ∧ c < 231 := k_c
    have R_c := pz_kd0 k_c.1
    obtain ⟨k_i, hc_i⟩ := pz_tlm hc_c
    have l_i : -2147483648 ≤ i := k_i.1
    have u_i : i ≤ 2147483647 := k_i.2
    have hI : pz_ic M := hpre
    have hI0 := hI
    have hS : pz_st M M := pz_st.rf
    have L33 : ∀ (fu : Nat) (x3 : Int) (x4 : Int) (x5 : Int) (x6 : Int) (x7 : Int) (x8 : Int) (d9 : Option pz_V) (d10 : Option pz_V) (N33 : pz_M), x8.toNat < fu → (pz_st M N33) → (x8 ≤ 2147483647) → Ok 33 [some (.inr (.inr (4, 6))), some (.inr (.inr (0, c))), some (.inl i), some (.inl x3), some (.inl x4), some (.inl x5), some (.inl x6), some (.inl x7), some (.inl x8), d9, d10] [] N33 := by
      intro fu
      induction fu with
      | zero => exact fun _ _ _ _ _ _ _ _ _ hn => absurd hn (Nat.not_lt_zero _)
      | succ fu ih33 =>
        intro x3 x4 x5 x6 x7 x8 d9 d10 N33 hn33 hS g33_1
        have hI : pz_ic N33 := hS.1.1 hI0
        have L114 : ∀ (x3 : Int) (x4 : Int) (x5 : Int) (x6 : Int) (x7 : Int) (x8 : Int) (d9 : Option pz_V) (d10 : Option pz_V) (N114 : pz_M), (pz_st M N114) → (0 < x8) → (x8 ≤ 2147483647) → (x8.toNat < fu + 1) → Ok 114 [some (.inr (.inr (4, 6))), some (.inr (.inr (0, c))), some (.inl i), some (.inl x3), some (.inl x4), some (.inl x5), some (.inl x6), some (.inl x7), some (.inl x8), d9, d10] [] N114 := by
          intro x3 x4 x5 x6 x7 x8 d9 d10 N114 hS g114_1 g114_2 g114_3
          have hI : pz_ic N114 := hS.1.1 hI0
          refine hgo (fun p => Nat.beq p 33 || Nat.beq p 114) 71 114 _ _ _ ?_
          intro v117 e117 a117 b117
          try rw [pz_wi (by omega) (by omega)] at e117
          intro v119 e119 a119 b119
          intro v122 e122 a122 b122
          try rw [pz_wi (by omega) (by omega)] at e122
          exact ih33 _ _ _ _ _ _ _ _ _ (by omega) hS (by omega)
        refine hgo (fun p => Nat.beq p 33 || Nat.beq p 114) 71 33 _ _ _ ?_
        refine And.intro (fun h35 => ?_) (fun h35 => ?_)
        · skip
          refine And.intro rfl ?_
          exact ⟨trivial, hS⟩
        · skip
          intro v44 e44 a44 b44
          refine And.intro (hI) ?_
          intro v45 M45 a45 b45 q45
          obtain ⟨q45, z45⟩ := q45
          subst z45
          refine And.intro (fun h49 => ?_) (fun h49 => ?_)
          · skip
            exact L114 _ _ _ _ _ _ _ _ _ hS (by omega) (by omega) (by omega)
          · skip
            refine And.intro (hI) ?_
            intro v56 M56 a56 b56 q56
            obtain ⟨q56, z56⟩ := q56
            subst z56
            refine And.intro (True.intro) ?_
            intro v63 M63 a63 b63 q63
            obtain ⟨q63, z63⟩ := q63
            subst z63
            refine And.intro (True.intro) ?_
            intro v68 M68 a68 b68 q68
            obtain ⟨q68, z68⟩ := q68
            subst z68
            refine And.intro (fun h71 => ?_) (fun h71 => ?_)
            · skip
              refine And.intro (fun h84 => ?_) (fun h84 => ?_)
              · skip
                exact L114 _ _ _ _ _ _ _ _ _ hS (by omega) (by omega) (by omega)
              · skip
                refine And.intro (fun h91 => ?_) (fun h91 => ?_)
                · skip
                  exact L114 _ _ _ _ _ _ _ _ _ hS (by omega) (by omega) (by omega)
                · skip
                  refine And.intro (fun h98 => ?_) (fun h98 => ?_)
                  · skip
                    exact L114 _ _ _ _ _ _ _ _ _ hS (by omega) (by omega) (by omega)
                  · skip
                    refine And.intro (fun h103 => ?_) (fun h103 => ?_)
                    · skip
                      exact L114 _ _ _ _ _ _ _ _ _ hS (by omega) (by omega) (by omega)
                    · skip
                      exact L114 _ _ _ _ _ _ _ _ _ hS (by omega) (by omega) (by omega)
            · skip
              refine And.intro (fun h84 => ?_) (fun h84 => ?_)
              · skip
                exact L114 _ _ _ _ _ _ _ _ _ hS (by omega) (by omega) (by omega)
              · skip
                refine And.intro (fun h91 => ?_) (fun h91 => ?_)
                · skip
                  exact L114 _ _ _ _ _ _ _ _ _ hS (by omega) (by omega) (by omega)
                · skip
                  refine And.intro (fun h98 => ?_) (fun h98 => ?_)
                  · skip
                    exact L114 _ _ _ _ _ _ _ _ _ hS (by omega) (by omega) (by omega)
                  · skip
                    refine And.intro (fun h103 => ?_) (fun h103 => ?_)
                    · skip
                      exact L114 _ _ _ _ _ _ _ _ _ hS (by omega) (by omega) (by omega)
                    · skip
                      exact L114 _ _ _ _ _ _ _ _ _ hS (by omega) (by omega) (by omega)
    refine hgo (fun p => Nat.beq p 33 || Nat.beq p 114) 71 0 _ [] M ?_
    refine And.intro (hI) ?_
    intro v1 M1 a1 b1 q1
    obtain ⟨q1, z1⟩ := q1
    subst z1
    refine And.intro (hI) ?_
    intro v6 M6 a6 b6 q6
    obtain ⟨q6, z6⟩ := q6
    subst z6
    refine And.intro (hI) ?_
    intro M19 q19
    obtain ⟨q19, z19⟩ := q19
    have hS : pz_st M M19 := hS.tr z19
    have hI : pz_ic M19 := hS.1.1 hI0
    refine And.intro (True.intro) ?_
    intro v27 M27 a27 b27 q27
    obtain ⟨q27, z27⟩ := q27
    subst z27
    intro v30 e30 a30 b30
    exact L33 _ _ _ _ _ _ _ _ _ _ (Nat.lt_succ_self _) hS (by omega)
theorem v_X4_cheapestBridges {fr lo i : Nat} {own : String} (h1 : 3 + 1 ≤ fr) (h2 : 8 + (11 + 11) + 70 ≤ lo) (h3 : .methodLink own i yX4_cheapestBridges ∈ lw_tbl) : pz_cV fr lo own i k_X4_cheapestBridges :=
  pz_cVk (maxL := 11) (fr' := 3) (lo' := 70) 2 4 h_X4_cheapestBridges rfl ⟨by decide +kernel, by decide +kernel, by decide +kernel⟩ ⟨(pz_mt 939 (by decide +kernel)), (pz_mt 937 (by decide +kernel)), (pz_mt 938 (by decide +kernel)), (pz_mt 11 (by decide +kernel))⟩ (Or.inl ⟨TX4, 5, rfl⟩) (fun a M _ h => by
    have h : (match (generalizing := false) a with | [.inr (.inr (4, k)), .inr (.inr (0, c)), .inl i] => pz_ic M | _ => False) := h
    split at h
    · exact ⟨_, _, rfl⟩
    · exact h.elim) h1 h2 h3
