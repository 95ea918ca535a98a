def k_X12_keeps : pz_C := (1, 0, fun a M => (match a with | [.inr (.inr (12, th))] => pz_im M | _ => False), fun a M r M' => (match a, r with | [.inr (.inr (12, th))], none => (True) ∧ pz_sm M M' | _, _ => False))
abbrev ct_X12_keeps : List (Bool × Nat × pz_C) := []
set_option maxRecDepth 100000 in
set_option maxHeartbeats 4000000 in
theorem h_X12_keeps : pz_H yX12_keeps cX12_keeps 2 none k_X12_keeps 0 0 := by
  refine pz_mk (own := RX12) (tb := t_X12_keeps) (fl := pz_flf fl_RX12) (ci := pz_cif ci_RX12) (ct := pz_ctf ct_X12_keeps) (rz := false) (by decide +kernel) rfl t_X12_keeps_ok (pz_flk fl_RX12_ok) (pz_cik ci_RX12_ok) ?_ ?_ (rfl) ?_ ?_
  · exact fun i k' h => pz_ctk (l := ct_X12_keeps) (P := fun b i k => b = true → pz_cV 0 0 RX12 i k) (fun _ h => absurd h List.not_mem_nil) true i k' h rfl
  · exact fun i k' h => pz_ctk (l := ct_X12_keeps) (P := fun b i k => b = false → (pz_cS 0 0 RX12 i k ∨ (k = pz_kac ∧ 1 ≤ 0 ∧ 60 ≤ 0 ∧ Cond.methodLink RX12 i arraycopyName ∈ pz_tbl))) (fun _ h => absurd h List.not_mem_nil) false i k' h rfl
  · intro a M hlen hpre
    obtain ⟨th, rfl, hpre⟩ : ∃ th, a = [.inr (.inr (12, th))] ∧ (pz_im M) := by
      have hpre : (match (generalizing := false) a with | [.inr (.inr (12, th))] => pz_im M | _ => False) := hpre
      split at hpre
      · exact ⟨_, rfl, hpre⟩
      · exact hpre.elim
    exact Nat.le_of_ble_eq_true rfl
  · intro a M hlen hcan hM hpre Ok hgo
    obtain ⟨th, rfl, hpre⟩ : ∃ th, a = [.inr (.inr (12, th))] ∧ (pz_im M) := by
      have hpre : (match (generalizing := false) a with | [.inr (.inr (12, th))] => pz_im M | _ => False) := hpre
      split at hpre
      · exact ⟨_, rfl, hpre⟩
      · exact hpre.elim
    obtain ⟨k_th, hc_th⟩ := pz_tlm hcan
    have k_th : pz_kd th = 12 ∧ th < 231 := k_th
    have R_th := pz_kd12 k_th.1
    subst R_th
    clear k_th
    have hI : pz_im M := hpre
    have hI0 := hI
    have hS : pz_sm M M := pz_sm.rf
    have L51 : ∀ (fu : Nat) (x1 : Int) (N51 : pz_M), (88 - x1).toNat < fu → (pz_sm M N51) → (0 ≤ x1) → (N51 1 4 ≤ 5) → Ok 51 [some (.inr (.inr (12, 1))), some (.inl x1)] [] N51 := by
      intro fu
      induction fu with
      | zero => exact fun _ _ hn => absurd hn (Nat.not_lt_zero _)
      | succ fu ih51 =>
        intro x1 N51 hn51 hS g51_1 g51_2
        have hI : pz_im N51 := hS.1.1.1 hI0
        refine hgo (fun p => Nat.beq p 11 || Nat.beq p 51) 59 51 _ _ _ ?_
        refine And.intro (fun h54 => ?_) (fun h54 => ?_)
        · skip
          intro v85 e85 a85 b85
          have I85 : 0 ≤ v85 ∧ v85 ≤ 6 := by
            rw [e85]
            exact hI.2.1.1
          clear a85 b85
          have N85 := hI.2.1.1
          intro v89 e89 a89 b89
          rw [pz_wi (by omega) (by omega)] at e89
          clear a89 b89
          intro M90 e90
          have hS : pz_sm M M90 := by
            rw [e90]
            exact pz_sm_u hS (pz_mn_1 (by decide)) (by decide) (fun h => absurd h.1 (by decide)) (pz_iom_4 (by omega))
          have hI : pz_im M90 := hS.1.1.1 hI0
          have T90_0 : M90 1 4 = v89 := by rw [e90]; exact pz_uu
          refine And.intro (by omega) ?_
          intro M95 e95
          have hS : pz_sm M M95 := by
            rw [e95]
            exact pz_sm_u hS (pz_mn_1 (by decide)) (by decide) (fun h => absurd h.1 (by decide)) (pz_iom_f (by decide))
          have hI : pz_im M95 := hS.1.1.1 hI0
          have T95_0 : M95 1 4 = v89 := by
            rw [e95]
            exact (pz_une (by decide)).trans T90_0
          clear T90_0
          refine And.intro rfl ?_
          exact ⟨trivial, hS⟩
        · skip
          refine pz_nrc (c := 62) rfl ?_
          intro v64 e64 a64 b64
          have I64 : 0 ≤ v64 ∧ v64 ≤ 6 := by
            rw [e64]
            exact hI.2.1.1
          clear a64 b64
          have N64 := hI.2.1.1
          intro v67 e67 a67 b67
          rw [pz_wi (by omega) (by omega)] at e67
          clear a67 b67
          intro v69 e69 a69 b69
          rw [pz_wi (by omega) (by omega)] at e69
          clear a69 b69
          refine pz_nrc (c := 60) rfl ?_
          refine And.intro (by omega) (And.intro (show _ < (1725 : Int) from by omega) ?_)
          intro v75 e75 a75 b75
          have J75 : x1 = 3 → 0 ≤ v75 ∧ v75 ≤ 150 := fun q => by
            rw [e75, q]
            exact hI.1.2.2.2.2
          refine And.intro (by omega) (And.intro (show _ < (528 : Int) from by omega) ?_)
          intro M76 e76
          have hS : pz_sm M M76 := by
            rw [e76]
            exact pz_sm_u hS (pz_mn_a (by decide)) (fun h => absurd h.1 (by decide)) (fun h => absurd h.1 (by decide)) (pz_iom_62 (fun q => J75 (by omega)))
          have hI : pz_im M76 := hS.1.1.1 hI0
          have T76_0 : M76 1 4 = N51 1 4 := by
            rw [e76]
            exact (pz_une (fun h => absurd h.1 (by decide)))
          clear e69
          intro v77 e77 a77 b77
          rw [pz_wi (by omega) (by omega)] at e77
          clear a77 b77
          exact ih51 _ _ (by omega) hS (by omega) (by omega)
    have L11 : ∀ (fu : Nat) (x1 : Int) (N11 : pz_M), (440 - x1).toNat < fu → (pz_sm M N11) → (0 ≤ x1) → (N11 1 4 = 6) → Ok 11 [some (.inr (.inr (12, 1))), some (.inl x1)] [] N11 := by
      intro fu
      induction fu with
      | zero => exact fun _ _ hn => absurd hn (Nat.not_lt_zero _)
      | succ fu ih11 =>
        intro x1 N11 hn11 hS g11_1 g11_2
        have hI : pz_im N11 := hS.1.1.1 hI0
        refine hgo (fun p => Nat.beq p 11 || Nat.beq p 51) 59 11 _ _ _ ?_
        refine And.intro (fun h15 => ?_) (fun h15 => ?_)
        · skip
          intro v41 e41 a41 b41
          have I41 : 0 ≤ v41 ∧ v41 ≤ 6 := by
            rw [e41]
            exact hI.2.1.1
          clear a41 b41
          have N41 := hI.2.1.1
          intro v45 e45 a45 b45
          rw [pz_wi (by omega) (by omega)] at e45
          clear a45 b45
          intro M46 e46
          have hS : pz_sm M M46 := by
            rw [e46]
            exact pz_sm_u hS (pz_mn_1 (by decide)) (by decide) (fun h => absurd h.1 (by decide)) (pz_iom_4 (by omega))
          have hI : pz_im M46 := hS.1.1.1 hI0
          have T46_0 : M46 1 4 = v45 := by rw [e46]; exact pz_uu
          exact L51 _ _ _ (Nat.lt_succ_self _) hS (by omega) (by omega)
        · skip
          refine pz_nrc (c := 62) rfl ?_
          refine pz_nrc (c := 62) rfl ?_
          intro v30 e30 a30 b30
          rw [pz_wi (by omega) (by omega)] at e30
          clear a30 b30
          refine And.intro (by omega) (And.intro (show _ < (528 : Int) from by omega) ?_)
          intro v31 e31 a31 b31
          have J31 : v30 % 88 = 3 → 0 ≤ v31 ∧ v31 ≤ 150 := fun q => by
            have z := hI.2.1.2.2.2.2.2.2.2.2 (v30 / 88).toNat (by omega)
            rw [show 88 * (v30 / 88).toNat + 3 = v30.toNat by omega] at z
            rw [e31]
            exact z
          refine And.intro (by omega) (And.intro (show _ < (528 : Int) from by omega) ?_)
          intro M32 e32
          have hS : pz_sm M M32 := by
            rw [e32]
            exact pz_sm_u hS (pz_mn_a (by decide)) (fun h => absurd h.1 (by decide)) (fun h => absurd h.1 (by decide)) (pz_iom_62 (fun q => J31 (by omega)))
          have hI : pz_im M32 := hS.1.1.1 hI0
          have T32_0 : M32 1 4 = N11 1 4 := by
            rw [e32]
            exact (pz_une (fun h => absurd h.1 (by decide)))
          intro v33 e33 a33 b33
          rw [pz_wi (by omega) (by omega)] at e33
          clear a33 b33
          exact ih11 _ _ (by omega) hS (by omega) (by omega)
    refine hgo (fun p => Nat.beq p 11 || Nat.beq p 51) 59 0 _ [] M ?_
    intro v1 e1 a1 b1
    have I1 : 0 ≤ v1 ∧ v1 ≤ 6 := by
      rw [e1]
      exact hI.2.1.1
    clear a1 b1
    have N1 := hI.2.1.1
    refine And.intro (fun h6 => ?_) (fun h6 => ?_)
    · skip
      replace h6 : v1 ≤ 5 := by omega
      exact L51 _ _ _ (Nat.lt_succ_self _) hS (by omega) (by omega)
    · skip
      exact L11 _ _ _ (Nat.lt_succ_self _) hS (by omega) (by omega)
theorem v_X12_keeps {fr lo i : Nat} {own : String} (h1 : 0 + 1 ≤ fr) (h2 : 8 + (2 + 11) + 0 ≤ lo) (h3 : .methodLink own i yX12_keeps ∈ lw_tbl) : pz_cV fr lo own i k_X12_keeps :=
  pz_cVk (maxL := 2) (fr' := 0) (lo' := 0) 0 12 h_X12_keeps rfl ⟨by decide +kernel, by decide +kernel, by decide +kernel⟩ ⟨(pz_mt 1430 (by decide +kernel)), (pz_mt 1429 (by decide +kernel)), (pz_ms 41 (by decide +kernel)), (pz_mt 13 (by decide +kernel))⟩ (Or.inl ⟨TX12, 28, rfl⟩) (fun a M _ h => by
    have h : (match (generalizing := false) a with | [.inr (.inr (12, th))] => pz_im M | _ => False) := h
    split at h
    · exact ⟨_, _, rfl⟩
    · exact h.elim) h1 h2 h3
def k_X12_undo : pz_C := (1, 1, fun a M => (match a with | [.inr (.inr (12, th))] => pz_im M | _ => False), fun a M r M' => (match a, r with | [.inr (.inr (12, th))], some (.inl v) => (v = 0 ∨ v = 1) ∧ pz_sm M M' | _, _ => False))
abbrev ct_X12_undo : List (Bool × Nat × pz_C) := []
set_option maxRecDepth 100000 in
set_option maxHeartbeats 4000000 in
theorem h_X12_undo : pz_H yX12_undo cX12_undo 2 (some .boolean) k_X12_undo 0 0 := by
  refine pz_mk (own := RX12) (tb := t_X12_undo) (fl := pz_flf fl_RX12) (ci := pz_cif ci_RX12) (ct := pz_ctf ct_X12_undo) (rz := true) (by decide +kernel) rfl t_X12_undo_ok (pz_flk fl_RX12_ok) (pz_cik ci_RX12_ok) ?_ ?_ (Or.inr ⟨rfl, rfl⟩) ?_ ?_
  · exact fun i k' h => pz_ctk (l := ct_X12_undo) (P := fun b i k => b = true → pz_cV 0 0 RX12 i k) (fun _ h => absurd h List.not_mem_nil) true i k' h rfl
  · exact fun i k' h => pz_ctk (l := ct_X12_undo) (P := fun b i k => b = false → (pz_cS 0 0 RX12 i k ∨ (k = pz_kac ∧ 1 ≤ 0 ∧ 60 ≤ 0 ∧ Cond.methodLink RX12 i arraycopyName ∈ pz_tbl))) (fun _ h => absurd h List.not_mem_nil) false i k' h rfl
  · intro a M hlen hpre
    obtain ⟨th, rfl, hpre⟩ : ∃ th, a = [.inr (.inr (12, th))] ∧ (pz_im M) := by
      have hpre : (match (generalizing := false) a with | [.inr (.inr (12, th))] => pz_im M | _ => False) := hpre
      split at hpre
      · exact ⟨_, rfl, hpre⟩
      · exact hpre.elim
    exact Nat.le_of_ble_eq_true rfl
  · intro a M hlen hcan hM hpre Ok hgo
    obtain ⟨th, rfl, hpre⟩ : ∃ th, a = [.inr (.inr (12, th))] ∧ (pz_im M) := by
      have hpre : (match (generalizing := false) a with | [.inr (.inr (12, th))] => pz_im M | _ => False) := hpre
      split at hpre
      · exact ⟨_, rfl, hpre⟩
      · exact hpre.elim
    obtain ⟨k_th, hc_th⟩ := pz_tlm hcan
    have k_th : pz_kd th = 12 ∧ th < 231 := k_th
    have R_th := pz_kd12 k_th.1
    subst R_th
    clear k_th
    have hI : pz_im M := hpre
    have hI0 := hI
    have hS : pz_sm M M := pz_sm.rf
    have L21 : ∀ (fu : Nat) (x1 : Int) (N21 : pz_M), (88 - x1).toNat < fu → (pz_sm M N21) → (0 ≤ x1) → (0 ≤ N21 1 4) → (N21 1 4 ≤ 5) → Ok 21 [some (.inr (.inr (12, 1))), some (.inl x1)] [] N21 := by
      intro fu
      induction fu with
      | zero => exact fun _ _ hn => absurd hn (Nat.not_lt_zero _)
      | succ fu ih21 =>
        intro x1 N21 hn21 hS g21_1 g21_2 g21_3
        have hI : pz_im N21 := hS.1.1.1 hI0
        refine hgo (fun p => Nat.beq p 21) 35 21 _ _ _ ?_
        refine And.intro (fun h24 => ?_) (fun h24 => ?_)
        · skip
          refine And.intro (by omega) ?_
          refine And.intro rfl ?_
          exact ⟨by omega, hS⟩
        · skip
          refine pz_nrc (c := 60) rfl ?_
          refine pz_nrc (c := 62) rfl ?_
          intro v39 e39 a39 b39
          have I39 : 0 ≤ v39 ∧ v39 ≤ 6 := by
            rw [e39]
            exact hI.2.1.1
          clear a39 b39
          have N39 := hI.2.1.1
          intro v42 e42 a42 b42
          rw [pz_wi (by omega) (by omega)] at e42
          clear a42 b42
          intro v44 e44 a44 b44
          rw [pz_wi (by omega) (by omega)] at e44
          clear a44 b44
          refine And.intro (by omega) (And.intro (show _ < (528 : Int) from by omega) ?_)
          intro v45 e45 a45 b45
          have J45 : x1 = 3 → 0 ≤ v45 ∧ v45 ≤ 150 := fun q => by
            have z := hI.2.1.2.2.2.2.2.2.2.2 v39.toNat (by omega)
            rw [show 88 * v39.toNat + 3 = v44.toNat by omega] at z
            rw [e45]
            exact z
          refine And.intro (by omega) (And.intro (show _ < (1725 : Int) from by omega) ?_)
          intro M46 e46
          have hS : pz_sm M M46 := by
            rw [e46]
            exact pz_sm_u hS (pz_mn_60 (by omega)) (fun h => absurd h.1 (by decide)) (by omega) (pz_iom_u (by omega) (fun q => J45 (by omega)))
          have hI : pz_im M46 := hS.1.1.1 hI0
          have T46_0 : M46 1 4 = N21 1 4 := by
            rw [e46]
            exact (pz_une (fun h => absurd h.1 (by decide)))
          intro v47 e47 a47 b47
          rw [pz_wi (by omega) (by omega)] at e47
          clear a47 b47
          exact ih21 _ _ (by omega) hS (by omega) (by omega) (by omega)
    refine hgo (fun p => Nat.beq p 21) 35 0 _ [] M ?_
    intro v1 e1 a1 b1
    have I1 : 0 ≤ v1 ∧ v1 ≤ 6 := by
      rw [e1]
      exact hI.2.1.1
    clear a1 b1
    have N1 := hI.2.1.1
    refine And.intro (fun h4 => ?_) (fun h4 => ?_)
    · skip
      replace h4 : 1 ≤ v1 := by omega
      intro v11 e11 a11 b11
      have I11 : 0 ≤ v11 ∧ v11 ≤ 6 := by
        rw [e11]
        exact hI.2.1.1
      clear a11 b11
      have N11 := hI.2.1.1
      intro v15 e15 a15 b15
      rw [pz_wi (by omega) (by omega)] at e15
      clear a15 b15
      intro M16 e16
      have hS : pz_sm M M16 := by
        rw [e16]
        exact pz_sm_u hS (pz_mn_1 (by decide)) (by decide) (fun h => absurd h.1 (by decide)) (pz_iom_4 (by omega))
      have hI : pz_im M16 := hS.1.1.1 hI0
      have T16_0 : M16 1 4 = v15 := by rw [e16]; exact pz_uu
      exact L21 _ _ _ (Nat.lt_succ_self _) hS (by omega) (by omega) (by omega)
    · skip
      refine And.intro (by omega) ?_
      refine And.intro rfl ?_
      exact ⟨by omega, hS⟩
theorem v_X12_undo {fr lo i : Nat} {own : String} (h1 : 0 + 1 ≤ fr) (h2 : 8 + (2 + 11) + 0 ≤ lo) (h3 : .methodLink own i yX12_undo ∈ lw_tbl) : pz_cV fr lo own i k_X12_undo :=
  pz_cVk (maxL := 2) (fr' := 0) (lo' := 0) 0 12 h_X12_undo rfl ⟨by decide +kernel, by decide +kernel, by decide +kernel⟩ ⟨(pz_mt 1406 (by decide +kernel)), (pz_mt 1404 (by decide +kernel)), (pz_mt 1405 (by decide +kernel)), (pz_mt 13 (by decide +kernel))⟩ (Or.inl ⟨TX12, 28, rfl⟩) (fun a M _ h => by
    have h : (match (generalizing := false) a with | [.inr (.inr (12, th))] => pz_im M | _ => False) := h
    split at h
    · exact ⟨_, _, rfl⟩
    · exact h.elim) h1 h2 h3
def k_X12_notes : pz_C := (4, 0, fun a M => (match a with | [.inr (.inr (12, th)), .inl x, .inl y, .inl z] => pz_im M | _ => False), fun a M r M' => (match a, r with | [.inr (.inr (12, th)), .inl x, .inl y, .inl z], none => (True) ∧ pz_sm M M' | _, _ => False))
abbrev ct_X12_notes : List (Bool × Nat × pz_C) := []
set_option maxRecDepth 100000 in
set_option maxHeartbeats 4000000 in
theorem h_X12_notes : pz_H yX12_notes cX12_notes 5 none k_X12_notes 0 0 := by
  refine pz_mk (own := RX12) (tb := t_X12_notes) (fl := pz_flf fl_RX12) (ci := pz_cif ci_RX12) (ct := pz_ctf ct_X12_notes) (rz := false) (by decide +kernel) rfl t_X12_notes_ok (pz_flk fl_RX12_ok) (pz_cik ci_RX12_ok) ?_ ?_ (rfl) ?_ ?_
  · exact fun i k' h => pz_ctk (l := ct_X12_notes) (P := fun b i k => b = true → pz_cV 0 0 RX12 i k) (fun _ h => absurd h List.not_mem_nil) true i k' h rfl
  · exact fun i k' h => pz_ctk (l := ct_X12_notes) (P := fun b i k => b = false → (pz_cS 0 0 RX12 i k ∨ (k = pz_kac ∧ 1 ≤ 0 ∧ 60 ≤ 0 ∧ Cond.methodLink RX12 i arraycopyName ∈ pz_tbl))) (fun _ h => absurd h List.not_mem_nil) false i k' h rfl
  · intro a M hlen hpre
    obtain ⟨th, x, y, z, rfl, hpre⟩ : ∃ th x y z, a = [.inr (.inr (12, th)), .inl x, .inl y, .inl z] ∧ (pz_im M) := by
      have hpre : (match (generalizing := false) a with | [.inr (.inr (12, th)), .inl x, .inl y, .inl z] => pz_im M | _ => False) := hpre
      split at hpre
      · exact ⟨_, _, _, _, rfl, hpre⟩
      · exact hpre.elim
    exact Nat.le_of_ble_eq_true rfl
  · intro a M hlen hcan hM hpre Ok hgo
    obtain ⟨th, x, y, z, rfl, hpre⟩ : ∃ th x y z, a = [.inr (.inr (12, th)), .inl x, .inl y, .inl z] ∧ (pz_im M) := by
      have hpre : (match (generalizing := false) a with | [.inr (.inr (12, th)), .inl x, .inl y, .inl z] => pz_im M | _ => False) := hpre
      split at hpre
      · exact ⟨_, _, _, _, rfl, hpre⟩
      · exact hpre.elim
    obtain ⟨k_th, hc_th⟩ := pz_tlm hcan
    have k_th : pz_kd th = 12 ∧ th < 231 := k_th
    have R_th := pz_kd12 k_th.1
    subst R_th
    clear k_th
    obtain ⟨k_x, hc_x⟩ := pz_tlm hc_th
    have l_x : -2147483648 ≤ x := k_x.1
    have u_x : x ≤ 2147483647 := k_x.2
    obtain ⟨k_y, hc_y⟩ := pz_tlm hc_x
    have l_y : -2147483648 ≤ y := k_y.1
    have u_y : y ≤ 2147483647 := k_y.2
    obtain ⟨k_z, hc_z⟩ := pz_tlm hc_y
    have l_z : -2147483648 ≤ z := k_z.1
    have u_z : z ≤ 2147483647 := k_z.2
    have hI : pz_im M := hpre
    have hI0 := hI
    have hS : pz_sm M M := pz_sm.rf
    refine hgo (fun _ => false) 59 0 _ [] M ?_
    intro v1 e1 a1 b1
    refine And.intro (fun h4 => ?_) (fun h4 => ?_)
    · skip
      refine And.intro rfl ?_
      exact ⟨trivial, hS⟩
    · skip
      refine pz_nrc (c := 60) rfl ?_
      refine And.intro (by omega) (And.intro (show _ < (1725 : Int) from by omega) ?_)
      intro v12 e12 a12 b12
      replace e12 : v12 = M 60 3 := e12
      have I12 : 0 ≤ v12 ∧ v12 ≤ 150 := by
        rw [e12]
        exact hI.1.2.2.2.2
      clear a12 b12
      refine And.intro (fun h16 => ?_) (fun h16 => ?_)
      · skip
        replace h16 : v12 ≤ 149 := by omega
        refine pz_nrc (c := 60) rfl ?_
        refine And.intro (by omega) (And.intro (show _ < (1725 : Int) from by omega) ?_)
        intro v29 e29 a29 b29
        replace e29 : v29 = M 60 3 := e29
        have I29 : 0 ≤ v29 ∧ v29 ≤ 150 := by
          rw [e29]
          exact hI.1.2.2.2.2
        clear a29 b29
        intro v30 e30 a30 b30
        rw [pz_wi (by omega) (by omega)] at e30
        clear a30 b30
        intro v31 e31 a31 b31
        rw [pz_wi (by omega) (by omega)] at e31
        clear a31 b31
        refine pz_nrc (c := 60) rfl ?_
        refine pz_nrc (c := 60) rfl ?_
        refine And.intro (by omega) (And.intro (show _ < (1725 : Int) from by omega) ?_)
        intro v45 e45 a45 b45
        replace e45 : v45 = M 60 0 := e45
        refine And.intro (by omega) (And.intro (show _ < (1725 : Int) from by omega) ?_)
        intro M46 e46
        have hS : pz_sm M M46 := by
          rw [e46]
          exact pz_sm_u hS (pz_mn_60 (by omega)) (fun h => absurd h.1 (by decide)) (by omega) (pz_iom_w2 (by omega) (by omega))
        have hI : pz_im M46 := hS.1.1.1 hI0
        have T46_0 : M46 60 3 = M 60 3 := by
          rw [e46]
          exact (pz_une (by omega))
        refine pz_nrc (c := 60) rfl ?_
        intro v54 e54 a54 b54
        rw [pz_wi (by omega) (by omega)] at e54
        clear a54 b54
        refine And.intro (by omega) (And.intro (show _ < (1725 : Int) from by omega) ?_)
        intro M56 e56
        have hS : pz_sm M M56 := by
          rw [e56]
          exact pz_sm_u hS (pz_mn_60 (by omega)) (fun h => absurd h.1 (by decide)) (by omega) (pz_iom_w2 (by omega) (by omega))
        have hI : pz_im M56 := hS.1.1.1 hI0
        have T56_0 : M56 60 3 = M 60 3 := by
          rw [e56]
          exact (pz_une (by omega)).trans T46_0
        clear T46_0
        refine pz_nrc (c := 60) rfl ?_
        intro v64 e64 a64 b64
        rw [pz_wi (by omega) (by omega)] at e64
        clear a64 b64
        refine And.intro (by omega) (And.intro (show _ < (1725 : Int) from by omega) ?_)
        intro M66 e66
        have hS : pz_sm M M66 := by
          rw [e66]
          exact pz_sm_u hS (pz_mn_60 (by omega)) (fun h => absurd h.1 (by decide)) (by omega) (pz_iom_w2 (by omega) (by omega))
        have hI : pz_im M66 := hS.1.1.1 hI0
        have T66_0 : M66 60 3 = M 60 3 := by
          rw [e66]
          exact (pz_une (by omega)).trans T56_0
        clear T56_0
        refine pz_nrc (c := 60) rfl ?_
        intro v74 e74 a74 b74
        rw [pz_wi (by omega) (by omega)] at e74
        clear a74 b74
        refine And.intro (by omega) (And.intro (show _ < (1725 : Int) from by omega) ?_)
        intro M76 e76
        have hS : pz_sm M M76 := by
          rw [e76]
          exact pz_sm_u hS (pz_mn_60 (by omega)) (fun h => absurd h.1 (by decide)) (by omega) (pz_iom_w2 (by omega) (by omega))
        have hI : pz_im M76 := hS.1.1.1 hI0
        have T76_0 : M76 60 3 = M 60 3 := by
          rw [e76]
          exact (pz_une (by omega)).trans T66_0
        clear T66_0
        refine pz_nrc (c := 60) rfl ?_
        refine And.intro (by omega) (And.intro (show _ < (1725 : Int) from by omega) ?_)
        intro v83 e83 a83 b83
        replace e83 : v83 = M76 60 3 := e83
        have I83 : 0 ≤ v83 ∧ v83 ≤ 150 := by
          rw [e83]
          exact hI.1.2.2.2.2
        clear a83 b83
        replace e83 := e83.trans T76_0
        intro v85 e85 a85 b85
        rw [pz_wi (by omega) (by omega)] at e85
        clear a85 b85
        refine And.intro (by omega) (And.intro (show _ < (1725 : Int) from by omega) ?_)
        intro M86 e86
        have hS : pz_sm M M86 := by
          rw [e86]
          exact pz_sm_u hS (pz_mn_60 (by omega)) (fun h => absurd h.1 (by decide)) (by omega) (pz_iom_3 (by omega))
        have hI : pz_im M86 := hS.1.1.1 hI0
        have T86_0 : M86 60 3 = v85 := by rw [e86]; exact pz_uu
        refine And.intro rfl ?_
        exact ⟨trivial, hS⟩
      · skip
        refine And.intro rfl ?_
        exact ⟨trivial, hS⟩
theorem v_X12_notes {fr lo i : Nat} {own : String} (h1 : 0 + 1 ≤ fr) (h2 : 8 + (5 + 11) + 0 ≤ lo) (h3 : .methodLink own i yX12_notes ∈ lw_tbl) : pz_cV fr lo own i k_X12_notes :=
  pz_cVk (maxL := 5) (fr' := 0) (lo' := 0) 3 12 h_X12_notes rfl ⟨by decide +kernel, by decide +kernel, by decide +kernel⟩ ⟨(pz_mt 1486 (by decide +kernel)), (pz_mt 1485 (by decide +kernel)), (pz_ms 52 (by decide +kernel)), (pz_mt 13 (by decide +kernel))⟩ (Or.inl ⟨TX12, 28, rfl⟩) (fun a M _ h => by
    have h : (match (generalizing := false) a with | [.inr (.inr (12, th)), .inl x, .inl y, .inl z] => pz_im M | _ => False) := h
    split at h
    · exact ⟨_, _, rfl⟩
    · exact h.elim) h1 h2 h3
def k_X12_canAsk : pz_C := (2, 1, fun a M => (match a with | [.inr (.inr (12, th)), .inl i] => pz_im M | _ => False), fun a M r M' => (match a, r with | [.inr (.inr (12, th)), .inl i], some (.inl v) => ((v = 1 ∧ 0 ≤ i ∧ i + 1 < M 60 88 ∧ M 60 88 ≤ 12) ∨ v = 0) ∧ M = M' | _, _ => False))
abbrev ct_X12_canAsk : List (Bool × Nat × pz_C) := [(true, 58, k_X12_isLink), (true, 317, k_X12_isThere)]
set_option maxRecDepth 100000 in
set_option maxHeartbeats 4000000 in
theorem h_X12_canAsk : pz_H yX12_canAsk cX12_canAsk 2 (some .boolean) k_X12_canAsk 3 64 := by
  refine pz_mk (own := RX12) (tb := t_X12_canAsk) (fl := pz_flf fl_RX12) (ci := pz_cif ci_RX12) (ct := pz_ctf ct_X12_canAsk) (rz := true) (by decide +kernel) rfl t_X12_canAsk_ok (pz_flk fl_RX12_ok) (pz_cik ci_RX12_ok) ?_ ?_ (Or.inr ⟨rfl, rfl⟩) ?_ ?_
  · exact fun i k' h => pz_ctk (l := ct_X12_canAsk) (P := fun b i k => b = true → pz_cV 3 64 RX12 i k) (List.forall_mem_cons.mpr ⟨(fun _ => v_X12_isLink (by decide) (by decide) (pz_mt 1224 (by decide +kernel))), List.forall_mem_cons.mpr ⟨(fun _ => v_X12_isThere (by decide) (by decide) (pz_mt 1415 (by decide +kernel))), fun _ h => absurd h List.not_mem_nil⟩⟩) true i k' h rfl
  · exact fun i k' h => pz_ctk (l := ct_X12_canAsk) (P := fun b i k => b = false → (pz_cS 3 64 RX12 i k ∨ (k = pz_kac ∧ 1 ≤ 3 ∧ 60 ≤ 64 ∧ Cond.methodLink RX12 i arraycopyName ∈ pz_tbl))) (List.forall_mem_cons.mpr ⟨((fun z => by cases z)), List.forall_mem_cons.mpr ⟨((fun z => by cases z)), fun _ h => absurd h List.not_mem_nil⟩⟩) false i k' h rfl
  · intro a M hlen hpre
    obtain ⟨th, i, rfl, hpre⟩ : ∃ th i, a = [.inr (.inr (12, th)), .inl i] ∧ (pz_im M) := by
      have hpre : (match (generalizing := false) a with | [.inr (.inr (12, th)), .inl i] => pz_im M | _ => False) := hpre
      split at hpre
      · exact ⟨_, _, rfl, hpre⟩
      · exact hpre.elim
    exact Nat.le_of_ble_eq_true rfl
  · intro a M hlen hcan hM hpre Ok hgo
    obtain ⟨th, i, rfl, hpre⟩ : ∃ th i, a = [.inr (.inr (12, th)), .inl i] ∧ (pz_im M) := by
      have hpre : (match (generalizing := false) a with | [.inr (.inr (12, th)), .inl i] => pz_im M | _ => False) := hpre
      split at hpre
      · exact ⟨_, _, rfl, hpre⟩
      · exact hpre.elim
    obtain ⟨k_th, hc_th⟩ := pz_tlm hcan
    have k_th : pz_kd th = 12 ∧ th < 231 := k_th
    have R_th := pz_kd12 k_th.1
    subst R_th
    clear k_th
    obtain ⟨k_i, hc_i⟩ := pz_tlm hc_th
    have l_i : -2147483648 ≤ i := k_i.1
    have u_i : i ≤ 2147483647 := k_i.2
    have hI : pz_im M := hpre
    refine hgo (fun _ => false) 16 0 _ [] M ?_
    refine And.intro (hI) ?_
    intro v2 M2 a2 b2 q2
    obtain ⟨q2, z2⟩ := q2
    subst z2
    clear a2 b2
    refine And.intro (fun h5 => ?_) (fun h5 => ?_)
    · skip
      replace q2 := q2.resolve_left (fun z => absurd (z.1.symm.trans h5) (by decide))
      clear h5
      refine And.intro (by omega) ?_
      refine And.intro rfl ?_
      exact ⟨by omega, rfl⟩
    · skip
      replace q2 := q2.resolve_right (fun z => h5 z.1)
      clear h5
      intro v11 e11 a11 b11
      rw [pz_wi (by omega) (by omega)] at e11
      clear a11 b11
      refine And.intro (hI) ?_
      intro v12 M12 a12 b12 q12
      obtain ⟨q12, z12⟩ := q12
      subst z12
      clear a12 b12
      refine And.intro (fun h15 => ?_) (fun h15 => ?_)
      · skip
        replace q12 := q12.resolve_left (fun z => absurd (z.1.symm.trans h15) (by decide))
        clear h15 q12
        refine And.intro (by omega) ?_
        refine And.intro rfl ?_
        exact ⟨by omega, rfl⟩
      · skip
        replace q12 := q12.resolve_right h15
        clear h15
        refine And.intro (by omega) ?_
        refine And.intro rfl ?_
        exact ⟨by omega, rfl⟩
theorem v_X12_canAsk {fr lo i : Nat} {own : String} (h1 : 3 + 1 ≤ fr) (h2 : 8 + (2 + 11) + 64 ≤ lo) (h3 : .methodLink own i yX12_canAsk ∈ lw_tbl) : pz_cV fr lo own i k_X12_canAsk :=
  pz_cVk (maxL := 2) (fr' := 3) (lo' := 64) 1 12 h_X12_canAsk rfl ⟨by decide +kernel, by decide +kernel, by decide +kernel⟩ ⟨(pz_mt 1414 (by decide +kernel)), (pz_mt 1413 (by decide +kernel)), (pz_ms 37 (by decide +kernel)), (pz_mt 13 (by decide +kernel))⟩ (Or.inl ⟨TX12, 28, rfl⟩) (fun a M _ h => by
    have h : (match (generalizing := false) a with | [.inr (.inr (12, th)), .inl i] => pz_im M | _ => False) := h
    split at h
    · exact ⟨_, _, rfl⟩
    · exact h.elim) h1 h2 h3
def k_X12_asks : pz_C := (3, 1, fun a M => (match a with | [.inr (.inr (12, th)), .inl i, .inl n] => pz_im M ∧ 0 ≤ i ∧ i < 11 | _ => False), fun a M r M' => (match a, r with | [.inr (.inr (12, th)), .inl i, .inl n], some (.inl v) => (True) ∧ pz_sm M M' | _, _ => False))
abbrev ct_X12_asks : List (Bool × Nat × pz_C) := [(true, 320, k_X12_giveOf), (false, 47, k_X12_lesser), (false, 51, k_X12_greater), (true, 323, k_X12_notes)]
set_option maxRecDepth 100000 in
set_option maxHeartbeats 4000000 in
theorem h_X12_asks : pz_H yX12_asks cX12_asks 5 (some .int) k_X12_asks 5 116 := by
  refine pz_mk (own := RX12) (tb := t_X12_asks) (fl := pz_flf fl_RX12) (ci := pz_cif ci_RX12) (ct := pz_ctf ct_X12_asks) (rz := false) (by decide +kernel) rfl t_X12_asks_ok (pz_flk fl_RX12_ok) (pz_cik ci_RX12_ok) ?_ ?_ (Or.inl ⟨rfl, rfl⟩) ?_ ?_
  · exact fun i k' h => pz_ctk (l := ct_X12_asks) (P := fun b i k => b = true → pz_cV 5 116 RX12 i k) (List.forall_mem_cons.mpr ⟨(fun _ => v_X12_giveOf (by decide) (by decide) (pz_mt 1435 (by decide +kernel))), List.forall_mem_cons.mpr ⟨((fun z => by cases z)), List.forall_mem_cons.mpr ⟨((fun z => by cases z)), List.forall_mem_cons.mpr ⟨(fun _ => v_X12_notes (by decide) (by decide) (pz_mt 1483 (by decide +kernel))), fun _ h => absurd h List.not_mem_nil⟩⟩⟩⟩) true i k' h rfl
  · exact fun i k' h => pz_ctk (l := ct_X12_asks) (P := fun b i k => b = false → (pz_cS 5 116 RX12 i k ∨ (k = pz_kac ∧ 1 ≤ 5 ∧ 60 ≤ 116 ∧ Cond.methodLink RX12 i arraycopyName ∈ pz_tbl))) (List.forall_mem_cons.mpr ⟨((fun z => by cases z)), List.forall_mem_cons.mpr ⟨(fun _ => Or.inl (s_X12_lesser (by decide) (by decide) (Or.inl (pz_mt 1462 (by decide +kernel))))), List.forall_mem_cons.mpr ⟨(fun _ => Or.inl (s_X12_greater (by decide) (by decide) (Or.inl (pz_mt 1447 (by decide +kernel))))), List.forall_mem_cons.mpr ⟨((fun z => by cases z)), fun _ h => absurd h List.not_mem_nil⟩⟩⟩⟩) false i k' h rfl
  · intro a M hlen hpre
    obtain ⟨th, i, n, rfl, hpre⟩ : ∃ th i n, a = [.inr (.inr (12, th)), .inl i, .inl n] ∧ (pz_im M ∧ 0 ≤ i ∧ i < 11) := by
      have hpre : (match (generalizing := false) a with | [.inr (.inr (12, th)), .inl i, .inl n] => pz_im M ∧ 0 ≤ i ∧ i < 11 | _ => False) := hpre
      split at hpre
      · exact ⟨_, _, _, rfl, hpre⟩
      · exact hpre.elim
    exact Nat.le_of_ble_eq_true rfl
  · intro a M hlen hcan hM hpre Ok hgo
    obtain ⟨th, i, n, rfl, hpre⟩ : ∃ th i n, a = [.inr (.inr (12, th)), .inl i, .inl n] ∧ (pz_im M ∧ 0 ≤ i ∧ i < 11) := by
      have hpre : (match (generalizing := false) a with | [.inr (.inr (12, th)), .inl i, .inl n] => pz_im M ∧ 0 ≤ i ∧ i < 11 | _ => False) := hpre
      split at hpre
      · exact ⟨_, _, _, rfl, hpre⟩
      · exact hpre.elim
    obtain ⟨k_th, hc_th⟩ := pz_tlm hcan
    have k_th : pz_kd th = 12 ∧ th < 231 := k_th
    have R_th := pz_kd12 k_th.1
    subst R_th
    clear k_th
    obtain ⟨k_i, hc_i⟩ := pz_tlm hc_th
    have l_i : -2147483648 ≤ i := k_i.1
    have u_i : i ≤ 2147483647 := k_i.2
    obtain ⟨k_n, hc_n⟩ := pz_tlm hc_i
    have l_n : -2147483648 ≤ n := k_n.1
    have u_n : n ≤ 2147483647 := k_n.2
    have hI : pz_im M := hpre.1
    have hI0 := hI
    have hS : pz_sm M M := pz_sm.rf
    refine hgo (fun _ => false) 54 0 _ [] M ?_
    intro v2 e2 a2 b2
    rw [pz_wi (by omega) (by omega)] at e2
    clear a2 b2
    refine And.intro (And.intro hI (And.intro (by omega) (by omega))) ?_
    intro v6 M6 a6 b6 q6
    obtain ⟨q6, z6⟩ := q6
    have hS : pz_sm M M6 := hS.tr z6
    have hI : pz_im M6 := hS.1.1.1 hI0
    refine And.intro (True.intro) ?_
    intro v10 M10 a10 b10 q10
    obtain ⟨q10, z10⟩ := q10
    subst z10
    replace q10 : v10 ≤ v6 ∧ v10 ≤ n := by omega
    refine pz_nrc (c := 60) rfl ?_
    intro v19 e19 a19 b19
    rw [pz_wi (by omega) (by omega)] at e19
    clear a19 b19
    refine And.intro (by omega) (And.intro (show _ < (1725 : Int) from by omega) ?_)
    intro v20 e20 a20 b20
    intro v22 e22 a22 b22
    refine And.intro (True.intro) ?_
    intro v23 M23 a23 b23 q23
    obtain ⟨q23, z23⟩ := q23
    subst z23
    replace q23 : v23 ≤ v10 ∧ v23 ≤ v22 := by omega
    refine pz_nrc (c := 60) rfl ?_
    intro v34 e34 a34 b34
    rw [pz_wi (by omega) (by omega)] at e34
    clear a34 b34
    refine And.intro (by omega) (And.intro (show _ < (1725 : Int) from by omega) ?_)
    intro v36 e36 a36 b36
    intro v39 e39 a39 b39
    refine And.intro (by omega) (And.intro (show _ < (1725 : Int) from by omega) ?_)
    intro M40 e40
    have hS : pz_sm M M40 := by
      rw [e40]
      exact pz_sm_u hS (pz_mn_60 (by omega)) (fun h => absurd h.1 (by decide)) (by omega) (pz_iom_w1 (by omega) (by omega))
    have hI : pz_im M40 := hS.1.1.1 hI0
    clear e34
    clear e39
    refine pz_nrc (c := 60) rfl ?_
    intro v48 e48 a48 b48
    rw [pz_wi (by omega) (by omega)] at e48
    clear a48 b48
    refine pz_nrc (c := 60) rfl ?_
    intro v59 e59 a59 b59
    rw [pz_wi (by omega) (by omega)] at e59
    clear a59 b59
    refine And.intro (by omega) (And.intro (show _ < (1725 : Int) from by omega) ?_)
    intro v60 e60 a60 b60
    intro v63 e63 a63 b63
    refine And.intro (True.intro) ?_
    intro v64 M64 a64 b64 q64
    obtain ⟨q64, z64⟩ := q64
    subst z64
    replace q64 : (-999) ≤ v64 ∧ v63 ≤ v64 := by omega
    refine And.intro (by omega) (And.intro (show _ < (1725 : Int) from by omega) ?_)
    intro M67 e67
    have hS : pz_sm M M67 := by
      rw [e67]
      exact pz_sm_u hS (pz_mn_60 (by omega)) (fun h => absurd h.1 (by decide)) (by omega) (pz_iom_w1 (by omega) (by omega))
    have hI : pz_im M67 := hS.1.1.1 hI0
    clear e48
    refine And.intro (hI) ?_
    intro M73 q73
    obtain ⟨q73, z73⟩ := q73
    have hS : pz_sm M M73 := hS.tr z73
    have hI : pz_im M73 := hS.1.1.1 hI0
    refine And.intro rfl ?_
    exact ⟨trivial, hS⟩
theorem v_X12_asks {fr lo i : Nat} {own : String} (h1 : 5 + 1 ≤ fr) (h2 : 8 + (5 + 11) + 116 ≤ lo) (h3 : .methodLink own i yX12_asks ∈ lw_tbl) : pz_cV fr lo own i k_X12_asks :=
  pz_cVk (maxL := 5) (fr' := 5) (lo' := 116) 2 12 h_X12_asks rfl ⟨by decide +kernel, by decide +kernel, by decide +kernel⟩ ⟨(pz_mt 1434 (by decide +kernel)), (pz_mt 1433 (by decide +kernel)), (pz_ms 42 (by decide +kernel)), (pz_mt 13 (by decide +kernel))⟩ (Or.inl ⟨TX12, 28, rfl⟩) (fun a M _ h => by
    have h : (match (generalizing := false) a with | [.inr (.inr (12, th)), .inl i, .inl n] => pz_im M ∧ 0 ≤ i ∧ i < 11 | _ => False) := h
    split at h
    · exact ⟨_, _, rfl⟩
    · exact h.elim) h1 h2 h3
def k_X12_canBridge : pz_C := (2, 1, fun a M => (match a with | [.inr (.inr (12, th)), .inl i] => pz_im M | _ => False), fun a M r M' => (match a, r with | [.inr (.inr (12, th)), .inl i], some (.inl v) => ((v = 1 ∧ 0 ≤ i ∧ i < M 60 88 ∧ M 60 88 ≤ 12) ∨ v = 0) ∧ M = M' | _, _ => False))
abbrev ct_X12_canBridge : List (Bool × Nat × pz_C) := [(true, 317, k_X12_isThere), (true, 288, k_X12_isBridged)]
set_option maxRecDepth 100000 in
set_option maxHeartbeats 4000000 in
theorem h_X12_canBridge : pz_H yX12_canBridge cX12_canBridge 2 (some .boolean) k_X12_canBridge 3 64 := by
  refine pz_mk (own := RX12) (tb := t_X12_canBridge) (fl := pz_flf fl_RX12) (ci := pz_cif ci_RX12) (ct := pz_ctf ct_X12_canBridge) (rz := true) (by decide +kernel) rfl t_X12_canBridge_ok (pz_flk fl_RX12_ok) (pz_cik ci_RX12_ok) ?_ ?_ (Or.inr ⟨rfl, rfl⟩) ?_ ?_
  · exact fun i k' h => pz_ctk (l := ct_X12_canBridge) (P := fun b i k => b = true → pz_cV 3 64 RX12 i k) (List.forall_mem_cons.mpr ⟨(fun _ => v_X12_isThere (by decide) (by decide) (pz_mt 1415 (by decide +kernel))), List.forall_mem_cons.mpr ⟨(fun _ => v_X12_isBridged (by decide) (by decide) (pz_mt 1450 (by decide +kernel))), fun _ h => absurd h List.not_mem_nil⟩⟩) true i k' h rfl
  · exact fun i k' h => pz_ctk (l := ct_X12_canBridge) (P := fun b i k => b = false → (pz_cS 3 64 RX12 i k ∨ (k = pz_kac ∧ 1 ≤ 3 ∧ 60 ≤ 64 ∧ Cond.methodLink RX12 i arraycopyName ∈ pz_tbl))) (List.forall_mem_cons.mpr ⟨((fun z => by cases z)), List.forall_mem_cons.mpr ⟨((fun z => by cases z)), fun _ h => absurd h List.not_mem_nil⟩⟩) false i k' h rfl
  · intro a M hlen hpre
    obtain ⟨th, i, rfl, hpre⟩ : ∃ th i, a = [.inr (.inr (12, th)), .inl i] ∧ (pz_im M) := by
      have hpre : (match (generalizing := false) a with | [.inr (.inr (12, th)), .inl i] => pz_im M | _ => False) := hpre
      split at hpre
      · exact ⟨_, _, rfl, hpre⟩
      · exact hpre.elim
    exact Nat.le_of_ble_eq_true rfl
  · intro a M hlen hcan hM hpre Ok hgo
    obtain ⟨th, i, rfl, hpre⟩ : ∃ th i, a = [.inr (.inr (12, th)), .inl i] ∧ (pz_im M) := by
      have hpre : (match (generalizing := false) a with | [.inr (.inr (12, th)), .inl i] => pz_im M | _ => False) := hpre
      split at hpre
      · exact ⟨_, _, rfl, hpre⟩
      · exact hpre.elim
    obtain ⟨k_th, hc_th⟩ := pz_tlm hcan
    have k_th : pz_kd th = 12 ∧ th < 231 := k_th
    have R_th := pz_kd12 k_th.1
    subst R_th
    clear k_th
    obtain ⟨k_i, hc_i⟩ := pz_tlm hc_th
    have l_i : -2147483648 ≤ i := k_i.1
    have u_i : i ≤ 2147483647 := k_i.2
    have hI : pz_im M := hpre
    refine hgo (fun _ => false) 24 0 _ [] M ?_
    refine And.intro (hI) ?_
    intro v2 M2 a2 b2 q2
    obtain ⟨q2, z2⟩ := q2
    subst z2
    clear a2 b2
    refine And.intro (fun h5 => ?_) (fun h5 => ?_)
    · skip
      replace q2 := q2.resolve_left (fun z => absurd (z.1.symm.trans h5) (by decide))
      clear h5 q2
      refine And.intro (by omega) ?_
      refine And.intro rfl ?_
      exact ⟨by omega, rfl⟩
    · skip
      replace q2 := q2.resolve_right h5
      clear h5
      refine And.intro (fun h9 => ?_) (fun h9 => ?_)
      · skip
        refine And.intro (by omega) ?_
        refine And.intro rfl ?_
        exact ⟨by omega, rfl⟩
      · skip
        refine pz_nrc (c := 60) rfl ?_
        refine And.intro (by omega) (And.intro (show _ < (1725 : Int) from by omega) ?_)
        intro v19 e19 a19 b19
        replace e19 : v19 = M 60 88 := e19
        have I19 : 0 ≤ v19 ∧ v19 ≤ 12 := by
          rw [e19]
          exact hI.1.1
        clear a19 b19
        intro v21 e21 a21 b21
        rw [pz_wi (by omega) (by omega)] at e21
        clear a21 b21
        refine And.intro (fun h22 => ?_) (fun h22 => ?_)
        · skip
          refine And.intro (by omega) ?_
          refine And.intro rfl ?_
          exact ⟨by omega, rfl⟩
        · skip
          refine And.intro (And.intro hI (And.intro (by omega) (by omega))) ?_
          intro v27 M27 a27 b27 q27
          obtain ⟨q27, z27⟩ := q27
          subst z27
          clear a27 b27
          refine And.intro (fun h30 => ?_) (fun h30 => ?_)
          · skip
            clear h30 q27
            refine And.intro (by omega) ?_
            refine And.intro rfl ?_
            exact ⟨by omega, rfl⟩
          · skip
            clear h30 q27
            refine And.intro (by omega) ?_
            refine And.intro rfl ?_
            exact ⟨by omega, rfl⟩
theorem v_X12_canBridge {fr lo i : Nat} {own : String} (h1 : 3 + 1 ≤ fr) (h2 : 8 + (2 + 11) + 64 ≤ lo) (h3 : .methodLink own i yX12_canBridge ∈ lw_tbl) : pz_cV fr lo own i k_X12_canBridge :=
  pz_cVk (maxL := 2) (fr' := 3) (lo' := 64) 1 12 h_X12_canBridge rfl ⟨by decide +kernel, by decide +kernel, by decide +kernel⟩ ⟨(pz_mt 1494 (by decide +kernel)), (pz_mt 1493 (by decide +kernel)), (pz_ms 53 (by decide +kernel)), (pz_mt 13 (by decide +kernel))⟩ (Or.inl ⟨TX12, 28, rfl⟩) (fun a M _ h => by
    have h : (match (generalizing := false) a with | [.inr (.inr (12, th)), .inl i] => pz_im M | _ => False) := h
    split at h
    · exact ⟨_, _, rfl⟩
    · exact h.elim) h1 h2 h3
def k_X12_bridges0 : pz_C := (2, 0, fun a M => (match a with | [.inr (.inr (12, th)), .inl i] => pz_im M ∧ 0 ≤ i ∧ i < 12 | _ => False), fun a M r M' => (match a, r with | [.inr (.inr (12, th)), .inl i], none => (True) ∧ pz_sm M M' | _, _ => False))
abbrev ct_X12_bridges0 : List (Bool × Nat × pz_C) := [(true, 323, k_X12_notes)]
set_option maxRecDepth 100000 in
set_option maxHeartbeats 4000000 in
theorem h_X12_bridges0 : pz_H yX12_bridges0 cX12_bridges0 2 none k_X12_bridges0 1 24 := by
  refine pz_mk (own := RX12) (tb := t_X12_bridges0) (fl := pz_flf fl_RX12) (ci := pz_cif ci_RX12) (ct := pz_ctf ct_X12_bridges0) (rz := false) (by decide +kernel) rfl t_X12_bridges0_ok (pz_flk fl_RX12_ok) (pz_cik ci_RX12_ok) ?_ ?_ (rfl) ?_ ?_
  · exact fun i k' h => pz_ctk (l := ct_X12_bridges0) (P := fun b i k => b = true → pz_cV 1 24 RX12 i k) (List.forall_mem_cons.mpr ⟨(fun _ => v_X12_notes (by decide) (by decide) (pz_mt 1483 (by decide +kernel))), fun _ h => absurd h List.not_mem_nil⟩) true i k' h rfl
  · exact fun i k' h => pz_ctk (l := ct_X12_bridges0) (P := fun b i k => b = false → (pz_cS 1 24 RX12 i k ∨ (k = pz_kac ∧ 1 ≤ 1 ∧ 60 ≤ 24 ∧ Cond.methodLink RX12 i arraycopyName ∈ pz_tbl))) (List.forall_mem_cons.mpr ⟨((fun z => by cases z)), fun _ h => absurd h List.not_mem_nil⟩) false i k' h rfl
  · intro a M hlen hpre
    obtain ⟨th, i, rfl, hpre⟩ : ∃ th i, a = [.inr (.inr (12, th)), .inl i] ∧ (pz_im M ∧ 0 ≤ i ∧ i < 12) := by
      have hpre : (match (generalizing := false) a with | [.inr (.inr (12, th)), .inl i] => pz_im M ∧ 0 ≤ i ∧ i < 12 | _ => False) := hpre
      split at hpre
      · exact ⟨_, _, rfl, hpre⟩
      · exact hpre.elim
    exact Nat.le_of_ble_eq_true rfl
  · intro a M hlen hcan hM hpre Ok hgo
    obtain ⟨th, i, rfl, hpre⟩ : ∃ th i, a = [.inr (.inr (12, th)), .inl i] ∧ (pz_im M ∧ 0 ≤ i ∧ i < 12) := by
      have hpre : (match (generalizing := false) a with | [.inr (.inr (12, th)), .inl i] => pz_im M ∧ 0 ≤ i ∧ i < 12 | _ => False) := hpre
      split at hpre
      · exact ⟨_, _, rfl, hpre⟩
      · exact hpre.elim
    obtain ⟨k_th, hc_th⟩ := pz_tlm hcan
    have k_th : pz_kd th = 12 ∧ th < 231 := k_th
    have R_th := pz_kd12 k_th.1
    subst R_th
    clear k_th
    obtain ⟨k_i, hc_i⟩ := pz_tlm hc_th
    have l_i : -2147483648 ≤ i := k_i.1
    have u_i : i ≤ 2147483647 := k_i.2
    have hI : pz_im M := hpre.1
    have hI0 := hI
    have hS : pz_sm M M := pz_sm.rf
    refine hgo (fun _ => false) 15 0 _ [] M ?_
    refine pz_nrc (c := 60) rfl ?_
    intro v7 e7 a7 b7
    rw [pz_wi (by omega) (by omega)] at e7
    clear a7 b7
    refine And.intro (by omega) (And.intro (show _ < (1725 : Int) from by omega) ?_)
    intro M9 e9
    have hS : pz_sm M M9 := by
      rw [e9]
      exact pz_sm_u hS (pz_mn_60 (by omega)) (fun h => absurd h.1 (by decide)) (by omega) (pz_iom_w1 (by omega) (by omega))
    have hI : pz_im M9 := hS.1.1.1 hI0
    clear e7
    refine And.intro (hI) ?_
    intro M14 q14
    obtain ⟨q14, z14⟩ := q14
    have hS : pz_sm M M14 := hS.tr z14
    have hI : pz_im M14 := hS.1.1.1 hI0
    refine And.intro rfl ?_
    exact ⟨trivial, hS⟩
theorem v_X12_bridges0 {fr lo i : Nat} {own : String} (h1 : 1 + 1 ≤ fr) (h2 : 8 + (2 + 11) + 24 ≤ lo) (h3 : .methodLink own i yX12_bridges0 ∈ lw_tbl) : pz_cV fr lo own i k_X12_bridges0 :=
  pz_cVk (maxL := 2) (fr' := 1) (lo' := 24) 1 12 h_X12_bridges0 rfl ⟨by decide +kernel, by decide +kernel, by decide +kernel⟩ ⟨(pz_mt 1498 (by decide +kernel)), (pz_mt 1497 (by decide +kernel)), (pz_ms 54 (by decide +kernel)), (pz_mt 13 (by decide +kernel))⟩ (Or.inl ⟨TX12, 28, rfl⟩) (fun a M _ h => by
    have h : (match (generalizing := false) a with | [.inr (.inr (12, th)), .inl i] => pz_im M ∧ 0 ≤ i ∧ i < 12 | _ => False) := h
    split at h
    · exact ⟨_, _, rfl⟩
    · exact h.elim) h1 h2 h3
def k_X12_canPay0 : pz_C := (4, 1, fun a M => (match a with | [.inr (.inr (12, th)), .inl i, .inl j, .inl n] => pz_im M | _ => False), fun a M r M' => (match a, r with | [.inr (.inr (12, th)), .inl i, .inl j, .inl n], some (.inl v) => ((v = 1 ∧ 0 ≤ i ∧ i < 12 ∧ 0 ≤ j ∧ j < 12) ∨ v = 0) ∧ M = M' | _, _ => False))
abbrev ct_X12_canPay0 : List (Bool × Nat × pz_C) := [(true, 58, k_X12_isLink)]
set_option maxRecDepth 100000 in
set_option maxHeartbeats 4000000 in
theorem h_X12_canPay0 : pz_H yX12_canPay0 cX12_canPay0 4 (some .boolean) k_X12_canPay0 2 43 := by
  refine pz_mk (own := RX12) (tb := t_X12_canPay0) (fl := pz_flf fl_RX12) (ci := pz_cif ci_RX12) (ct := pz_ctf ct_X12_canPay0) (rz := true) (by decide +kernel) rfl t_X12_canPay0_ok (pz_flk fl_RX12_ok) (pz_cik ci_RX12_ok) ?_ ?_ (Or.inr ⟨rfl, rfl⟩) ?_ ?_
  · exact fun i k' h => pz_ctk (l := ct_X12_canPay0) (P := fun b i k => b = true → pz_cV 2 43 RX12 i k) (List.forall_mem_cons.mpr ⟨(fun _ => v_X12_isLink (by decide) (by decide) (pz_mt 1224 (by decide +kernel))), fun _ h => absurd h List.not_mem_nil⟩) true i k' h rfl
  · exact fun i k' h => pz_ctk (l := ct_X12_canPay0) (P := fun b i k => b = false → (pz_cS 2 43 RX12 i k ∨ (k = pz_kac ∧ 1 ≤ 2 ∧ 60 ≤ 43 ∧ Cond.methodLink RX12 i arraycopyName ∈ pz_tbl))) (List.forall_mem_cons.mpr ⟨((fun z => by cases z)), fun _ h => absurd h List.not_mem_nil⟩) false i k' h rfl
  · intro a M hlen hpre
    obtain ⟨th, i, j, n, rfl, hpre⟩ : ∃ th i j n, a = [.inr (.inr (12, th)), .inl i, .inl j, .inl n] ∧ (pz_im M) := by
      have hpre : (match (generalizing := false) a with | [.inr (.inr (12, th)), .inl i, .inl j, .inl n] => pz_im M | _ => False) := hpre
      split at hpre
      · exact ⟨_, _, _, _, rfl, hpre⟩
      · exact hpre.elim
    exact Nat.le_of_ble_eq_true rfl
  · intro a M hlen hcan hM hpre Ok hgo
    obtain ⟨th, i, j, n, rfl, hpre⟩ : ∃ th i j n, a = [.inr (.inr (12, th)), .inl i, .inl j, .inl n] ∧ (pz_im M) := by
      have hpre : (match (generalizing := false) a with | [.inr (.inr (12, th)), .inl i, .inl j, .inl n] => pz_im M | _ => False) := hpre
      split at hpre
      · exact ⟨_, _, _, _, rfl, hpre⟩
      · exact hpre.elim
    obtain ⟨k_th, hc_th⟩ := pz_tlm hcan
    have k_th : pz_kd th = 12 ∧ th < 231 := k_th
    have R_th := pz_kd12 k_th.1
    subst R_th
    clear k_th
    obtain ⟨k_i, hc_i⟩ := pz_tlm hc_th
    have l_i : -2147483648 ≤ i := k_i.1
    have u_i : i ≤ 2147483647 := k_i.2
    obtain ⟨k_j, hc_j⟩ := pz_tlm hc_i
    have l_j : -2147483648 ≤ j := k_j.1
    have u_j : j ≤ 2147483647 := k_j.2
    obtain ⟨k_n, hc_n⟩ := pz_tlm hc_j
    have l_n : -2147483648 ≤ n := k_n.1
    have u_n : n ≤ 2147483647 := k_n.2
    have hI : pz_im M := hpre
    refine hgo (fun _ => false) 37 0 _ [] M ?_
    refine And.intro (hI) ?_
    intro v2 M2 a2 b2 q2
    obtain ⟨q2, z2⟩ := q2
    subst z2
    clear a2 b2
    refine And.intro (fun h5 => ?_) (fun h5 => ?_)
    · skip
      replace q2 := q2.resolve_left (fun z => absurd (z.1.symm.trans h5) (by decide))
      clear h5
      refine And.intro (by omega) ?_
      refine And.intro rfl ?_
      exact ⟨by omega, rfl⟩
    · skip
      replace q2 := q2.resolve_right (fun z => h5 z.1)
      clear h5
      refine And.intro (hI) ?_
      intro v10 M10 a10 b10 q10
      obtain ⟨q10, z10⟩ := q10
      subst z10
      clear a10 b10
      refine And.intro (fun h13 => ?_) (fun h13 => ?_)
      · skip
        replace q10 := q10.resolve_left (fun z => absurd (z.1.symm.trans h13) (by decide))
        clear h13
        refine And.intro (by omega) ?_
        refine And.intro rfl ?_
        exact ⟨by omega, rfl⟩
      · skip
        replace q10 := q10.resolve_right (fun z => h13 z.1)
        clear h13
        refine And.intro (fun h18 => ?_) (fun h18 => ?_)
        · skip
          refine And.intro (by omega) ?_
          refine And.intro rfl ?_
          exact ⟨by omega, rfl⟩
        · skip
          refine pz_nrc (c := 60) rfl ?_
          intro v28 e28 a28 b28
          rw [pz_wi (by omega) (by omega)] at e28
          clear a28 b28
          refine And.intro (by omega) (And.intro (show _ < (1725 : Int) from by omega) ?_)
          intro v29 e29 a29 b29
          intro v31 e31 a31 b31
          refine And.intro (fun h35 => ?_) (fun h35 => ?_)
          · skip
            refine And.intro (by omega) ?_
            refine And.intro rfl ?_
            exact ⟨by omega, rfl⟩
          · skip
            refine pz_nrc (c := 60) rfl ?_
            intro v45 e45 a45 b45
            rw [pz_wi (by omega) (by omega)] at e45
            clear a45 b45
            refine And.intro (by omega) (And.intro (show _ < (1725 : Int) from by omega) ?_)
            intro v46 e46 a46 b46
            intro v48 e48 a48 b48
            refine And.intro (fun h52 => ?_) (fun h52 => ?_)
            · skip
              refine And.intro (by omega) ?_
              refine And.intro rfl ?_
              exact ⟨by omega, rfl⟩
            · skip
              refine And.intro (by omega) ?_
              refine And.intro rfl ?_
              exact ⟨by omega, rfl⟩
theorem v_X12_canPay0 {fr lo i : Nat} {own : String} (h1 : 2 + 1 ≤ fr) (h2 : 8 + (4 + 11) + 43 ≤ lo) (h3 : .methodLink own i yX12_canPay0 ∈ lw_tbl) : pz_cV fr lo own i k_X12_canPay0 :=
  pz_cVk (maxL := 4) (fr' := 2) (lo' := 43) 3 12 h_X12_canPay0 rfl ⟨by decide +kernel, by decide +kernel, by decide +kernel⟩ ⟨(pz_mt 1506 (by decide +kernel)), (pz_mt 1505 (by decide +kernel)), (pz_ms 55 (by decide +kernel)), (pz_mt 13 (by decide +kernel))⟩ (Or.inl ⟨TX12, 28, rfl⟩) (fun a M _ h => by
    have h : (match (generalizing := false) a with | [.inr (.inr (12, th)), .inl i, .inl j, .inl n] => pz_im M | _ => False) := h
    split at h
    · exact ⟨_, _, rfl⟩
    · exact h.elim) h1 h2 h3
def k_X12_pays : pz_C := (4, 0, fun a M => (match a with | [.inr (.inr (12, th)), .inl i, .inl j, .inl n] => pz_im M ∧ 0 ≤ i ∧ i < 12 ∧ 0 ≤ j ∧ j < 12 | _ => False), fun a M r M' => (match a, r with | [.inr (.inr (12, th)), .inl i, .inl j, .inl n], none => (True) ∧ pz_sm M M' | _, _ => False))
abbrev ct_X12_pays : List (Bool × Nat × pz_C) := [(true, 323, k_X12_notes)]
set_option maxRecDepth 100000 in
set_option maxHeartbeats 4000000 in
theorem h_X12_pays : pz_H yX12_pays cX12_pays 4 none k_X12_pays 1 24 := by
  refine pz_mk (own := RX12) (tb := t_X12_pays) (fl := pz_flf fl_RX12) (ci := pz_cif ci_RX12) (ct := pz_ctf ct_X12_pays) (rz := false) (by decide +kernel) rfl t_X12_pays_ok (pz_flk fl_RX12_ok) (pz_cik ci_RX12_ok) ?_ ?_ (rfl) ?_ ?_
  · exact fun i k' h => pz_ctk (l := ct_X12_pays) (P := fun b i k => b = true → pz_cV 1 24 RX12 i k) (List.forall_mem_cons.mpr ⟨(fun _ => v_X12_notes (by decide) (by decide) (pz_mt 1483 (by decide +kernel))), fun _ h => absurd h List.not_mem_nil⟩) true i k' h rfl
  · exact fun i k' h => pz_ctk (l := ct_X12_pays) (P := fun b i k => b = false → (pz_cS 1 24 RX12 i k ∨ (k = pz_kac ∧ 1 ≤ 1 ∧ 60 ≤ 24 ∧ Cond.methodLink RX12 i arraycopyName ∈ pz_tbl))) (List.forall_mem_cons.mpr ⟨((fun z => by cases z)), fun _ h => absurd h List.not_mem_nil⟩) false i k' h rfl
  · intro a M hlen hpre
    obtain ⟨th, i, j, n, rfl, hpre⟩ : ∃ th i j n, a = [.inr (.inr (12, th)), .inl i, .inl j, .inl n] ∧ (pz_im M ∧ 0 ≤ i ∧ i < 12 ∧ 0 ≤ j ∧ j < 12) := by
      have hpre : (match (generalizing := false) a with | [.inr (.inr (12, th)), .inl i, .inl j, .inl n] => pz_im M ∧ 0 ≤ i ∧ i < 12 ∧ 0 ≤ j ∧ j < 12 | _ => False) := hpre
      split at hpre
      · exact ⟨_, _, _, _, rfl, hpre⟩
      · exact hpre.elim
    exact Nat.le_of_ble_eq_true rfl
  · intro a M hlen hcan hM hpre Ok hgo
    obtain ⟨th, i, j, n, rfl, hpre⟩ : ∃ th i j n, a = [.inr (.inr (12, th)), .inl i, .inl j, .inl n] ∧ (pz_im M ∧ 0 ≤ i ∧ i < 12 ∧ 0 ≤ j ∧ j < 12) := by
      have hpre : (match (generalizing := false) a with | [.inr (.inr (12, th)), .inl i, .inl j, .inl n] => pz_im M ∧ 0 ≤ i ∧ i < 12 ∧ 0 ≤ j ∧ j < 12 | _ => False) := hpre
      split at hpre
      · exact ⟨_, _, _, _, rfl, hpre⟩
      · exact hpre.elim
    obtain ⟨k_th, hc_th⟩ := pz_tlm hcan
    have k_th : pz_kd th = 12 ∧ th < 231 := k_th
    have R_th := pz_kd12 k_th.1
    subst R_th
    clear k_th
    obtain ⟨k_i, hc_i⟩ := pz_tlm hc_th
    have l_i : -2147483648 ≤ i := k_i.1
    have u_i : i ≤ 2147483647 := k_i.2
    obtain ⟨k_j, hc_j⟩ := pz_tlm hc_i
    have l_j : -2147483648 ≤ j := k_j.1
    have u_j : j ≤ 2147483647 := k_j.2
    obtain ⟨k_n, hc_n⟩ := pz_tlm hc_j
    have l_n : -2147483648 ≤ n := k_n.1
    have u_n : n ≤ 2147483647 := k_n.2
    have hI : pz_im M := hpre.1
    have hI0 := hI
    have hS : pz_sm M M := pz_sm.rf
    refine hgo (fun _ => false) 28 0 _ [] M ?_
    refine pz_nrc (c := 60) rfl ?_
    intro v7 e7 a7 b7
    rw [pz_wi (by omega) (by omega)] at e7
    clear a7 b7
    refine And.intro (by omega) (And.intro (show _ < (1725 : Int) from by omega) ?_)
    intro v9 e9 a9 b9
    intro v11 e11 a11 b11
    refine And.intro (by omega) (And.intro (show _ < (1725 : Int) from by omega) ?_)
    intro M12 e12
    have hS : pz_sm M M12 := by
      rw [e12]
      exact pz_sm_u hS (pz_mn_60 (by omega)) (fun h => absurd h.1 (by decide)) (by omega) (pz_iom_w1 (by omega) (by omega))
    have hI : pz_im M12 := hS.1.1.1 hI0
    clear e7
    clear e11
    refine pz_nrc (c := 60) rfl ?_
    intro v20 e20 a20 b20
    rw [pz_wi (by omega) (by omega)] at e20
    clear a20 b20
    refine And.intro (by omega) (And.intro (show _ < (1725 : Int) from by omega) ?_)
    intro v22 e22 a22 b22
    intro v24 e24 a24 b24
    refine And.intro (by omega) (And.intro (show _ < (1725 : Int) from by omega) ?_)
    intro M25 e25
    have hS : pz_sm M M25 := by
      rw [e25]
      exact pz_sm_u hS (pz_mn_60 (by omega)) (fun h => absurd h.1 (by decide)) (by omega) (pz_iom_w1 (by omega) (by omega))
    have hI : pz_im M25 := hS.1.1.1 hI0
    clear e20
    clear e24
    refine And.intro (hI) ?_
    intro M30 q30
    obtain ⟨q30, z30⟩ := q30
    have hS : pz_sm M M30 := hS.tr z30
    have hI : pz_im M30 := hS.1.1.1 hI0
    refine And.intro rfl ?_
    exact ⟨trivial, hS⟩
theorem v_X12_pays {fr lo i : Nat} {own : String} (h1 : 1 + 1 ≤ fr) (h2 : 8 + (4 + 11) + 24 ≤ lo) (h3 : .methodLink own i yX12_pays ∈ lw_tbl) : pz_cV fr lo own i k_X12_pays :=
  pz_cVk (maxL := 4) (fr' := 1) (lo' := 24) 3 12 h_X12_pays rfl ⟨by decide +kernel, by decide +kernel, by decide +kernel⟩ ⟨(pz_mt 1510 (by decide +kernel)), (pz_mt 1509 (by decide +kernel)), (pz_ms 56 (by decide +kernel)), (pz_mt 13 (by decide +kernel))⟩ (Or.inl ⟨TX12, 28, rfl⟩) (fun a M _ h => by
    have h : (match (generalizing := false) a with | [.inr (.inr (12, th)), .inl i, .inl j, .inl n] => pz_im M ∧ 0 ≤ i ∧ i < 12 ∧ 0 ≤ j ∧ j < 12 | _ => False) := h
    split at h
    · exact ⟨_, _, rfl⟩
    · exact h.elim) h1 h2 h3
def k_X12_canPaper : pz_C := (2, 1, fun a M => (match a with | [.inr (.inr (12, th)), .inl i] => pz_im M | _ => False), fun a M r M' => (match a, r with | [.inr (.inr (12, th)), .inl i], some (.inl v) => ((v = 1 ∧ 0 ≤ i ∧ i < M 60 88 ∧ M 60 88 ≤ 12) ∨ v = 0) ∧ M = M' | _, _ => False))
abbrev ct_X12_canPaper : List (Bool × Nat × pz_C) := [(true, 317, k_X12_isThere), (true, 297, k_X12_isReady)]
set_option maxRecDepth 100000 in
set_option maxHeartbeats 4000000 in
theorem h_X12_canPaper : pz_H yX12_canPaper cX12_canPaper 2 (some .boolean) k_X12_canPaper 3 64 := by
  refine pz_mk (own := RX12) (tb := t_X12_canPaper) (fl := pz_flf fl_RX12) (ci := pz_cif ci_RX12) (ct := pz_ctf ct_X12_canPaper) (rz := true) (by decide +kernel) rfl t_X12_canPaper_ok (pz_flk fl_RX12_ok) (pz_cik ci_RX12_ok) ?_ ?_ (Or.inr ⟨rfl, rfl⟩) ?_ ?_
  · exact fun i k' h => pz_ctk (l := ct_X12_canPaper) (P := fun b i k => b = true → pz_cV 3 64 RX12 i k) (List.forall_mem_cons.mpr ⟨(fun _ => v_X12_isThere (by decide) (by decide) (pz_mt 1415 (by decide +kernel))), List.forall_mem_cons.mpr ⟨(fun _ => v_X12_isReady (by decide) (by decide) (pz_mt 1465 (by decide +kernel))), fun _ h => absurd h List.not_mem_nil⟩⟩) true i k' h rfl
  · exact fun i k' h => pz_ctk (l := ct_X12_canPaper) (P := fun b i k => b = false → (pz_cS 3 64 RX12 i k ∨ (k = pz_kac ∧ 1 ≤ 3 ∧ 60 ≤ 64 ∧ Cond.methodLink RX12 i arraycopyName ∈ pz_tbl))) (List.forall_mem_cons.mpr ⟨((fun z => by cases z)), List.forall_mem_cons.mpr ⟨((fun z => by cases z)), fun _ h => absurd h List.not_mem_nil⟩⟩) false i k' h rfl
  · intro a M hlen hpre
    obtain ⟨th, i, rfl, hpre⟩ : ∃ th i, a = [.inr (.inr (12, th)), .inl i] ∧ (pz_im M) := by
      have hpre : (match (generalizing := false) a with | [.inr (.inr (12, th)), .inl i] => pz_im M | _ => False) := hpre
      split at hpre
      · exact ⟨_, _, rfl, hpre⟩
      · exact hpre.elim
    exact Nat.le_of_ble_eq_true rfl
  · intro a M hlen hcan hM hpre Ok hgo
    obtain ⟨th, i, rfl, hpre⟩ : ∃ th i, a = [.inr (.inr (12, th)), .inl i] ∧ (pz_im M) := by
      have hpre : (match (generalizing := false) a with | [.inr (.inr (12, th)), .inl i] => pz_im M | _ => False) := hpre
      split at hpre
      · exact ⟨_, _, rfl, hpre⟩
      · exact hpre.elim
    obtain ⟨k_th, hc_th⟩ := pz_tlm hcan
    have k_th : pz_kd th = 12 ∧ th < 231 := k_th
    have R_th := pz_kd12 k_th.1
    subst R_th
    clear k_th
    obtain ⟨k_i, hc_i⟩ := pz_tlm hc_th
    have l_i : -2147483648 ≤ i := k_i.1
    have u_i : i ≤ 2147483647 := k_i.2
    have hI : pz_im M := hpre
    refine hgo (fun _ => false) 14 0 _ [] M ?_
    refine And.intro (hI) ?_
    intro v2 M2 a2 b2 q2
    obtain ⟨q2, z2⟩ := q2
    subst z2
    clear a2 b2
    refine And.intro (fun h5 => ?_) (fun h5 => ?_)
    · skip
      replace q2 := q2.resolve_left (fun z => absurd (z.1.symm.trans h5) (by decide))
      clear h5 q2
      refine And.intro (by omega) ?_
      refine And.intro rfl ?_
      exact ⟨by omega, rfl⟩
    · skip
      replace q2 := q2.resolve_right h5
      clear h5
      refine And.intro (And.intro hI (And.intro (by omega) (by omega))) ?_
      intro v10 M10 a10 b10 q10
      obtain ⟨q10, z10⟩ := q10
      subst z10
      clear a10 b10
      refine And.intro (fun h13 => ?_) (fun h13 => ?_)
      · skip
        clear h13 q10
        refine And.intro (by omega) ?_
        refine And.intro rfl ?_
        exact ⟨by omega, rfl⟩
      · skip
        clear h13 q10
        refine And.intro (by omega) ?_
        refine And.intro rfl ?_
        exact ⟨by omega, rfl⟩
theorem v_X12_canPaper {fr lo i : Nat} {own : String} (h1 : 3 + 1 ≤ fr) (h2 : 8 + (2 + 11) + 64 ≤ lo) (h3 : .methodLink own i yX12_canPaper ∈ lw_tbl) : pz_cV fr lo own i k_X12_canPaper :=
  pz_cVk (maxL := 2) (fr' := 3) (lo' := 64) 1 12 h_X12_canPaper rfl ⟨by decide +kernel, by decide +kernel, by decide +kernel⟩ ⟨(pz_mt 1518 (by decide +kernel)), (pz_mt 1517 (by decide +kernel)), (pz_ms 57 (by decide +kernel)), (pz_mt 13 (by decide +kernel))⟩ (Or.inl ⟨TX12, 28, rfl⟩) (fun a M _ h => by
    have h : (match (generalizing := false) a with | [.inr (.inr (12, th)), .inl i] => pz_im M | _ => False) := h
    split at h
    · exact ⟨_, _, rfl⟩
    · exact h.elim) h1 h2 h3
def k_X12_getsReady : pz_C := (2, 0, fun a M => (match a with | [.inr (.inr (12, th)), .inl i] => pz_im M ∧ 0 ≤ i ∧ i < 12 | _ => False), fun a M r M' => (match a, r with | [.inr (.inr (12, th)), .inl i], none => (True) ∧ pz_sm M M' | _, _ => False))
abbrev ct_X12_getsReady : List (Bool × Nat × pz_C) := [(true, 323, k_X12_notes)]
set_option maxRecDepth 100000 in
set_option maxHeartbeats 4000000 in
theorem h_X12_getsReady : pz_H yX12_getsReady cX12_getsReady 2 none k_X12_getsReady 1 24 := by
  refine pz_mk (own := RX12) (tb := t_X12_getsReady) (fl := pz_flf fl_RX12) (ci := pz_cif ci_RX12) (ct := pz_ctf ct_X12_getsReady) (rz := false) (by decide +kernel) rfl t_X12_getsReady_ok (pz_flk fl_RX12_ok) (pz_cik ci_RX12_ok) ?_ ?_ (rfl) ?_ ?_
  · exact fun i k' h => pz_ctk (l := ct_X12_getsReady) (P := fun b i k => b = true → pz_cV 1 24 RX12 i k) (List.forall_mem_cons.mpr ⟨(fun _ => v_X12_notes (by decide) (by decide) (pz_mt 1483 (by decide +kernel))), fun _ h => absurd h List.not_mem_nil⟩) true i k' h rfl
  · exact fun i k' h => pz_ctk (l := ct_X12_getsReady) (P := fun b i k => b = false → (pz_cS 1 24 RX12 i k ∨ (k = pz_kac ∧ 1 ≤ 1 ∧ 60 ≤ 24 ∧ Cond.methodLink RX12 i arraycopyName ∈ pz_tbl))) (List.forall_mem_cons.mpr ⟨((fun z => by cases z)), fun _ h => absurd h List.not_mem_nil⟩) false i k' h rfl
  · intro a M hlen hpre
    obtain ⟨th, i, rfl, hpre⟩ : ∃ th i, a = [.inr (.inr (12, th)), .inl i] ∧ (pz_im M ∧ 0 ≤ i ∧ i < 12) := by
      have hpre : (match (generalizing := false) a with | [.inr (.inr (12, th)), .inl i] => pz_im M ∧ 0 ≤ i ∧ i < 12 | _ => False) := hpre
      split at hpre
      · exact ⟨_, _, rfl, hpre⟩
      · exact hpre.elim
    exact Nat.le_of_ble_eq_true rfl
  · intro a M hlen hcan hM hpre Ok hgo
    obtain ⟨th, i, rfl, hpre⟩ : ∃ th i, a = [.inr (.inr (12, th)), .inl i] ∧ (pz_im M ∧ 0 ≤ i ∧ i < 12) := by
      have hpre : (match (generalizing := false) a with | [.inr (.inr (12, th)), .inl i] => pz_im M ∧ 0 ≤ i ∧ i < 12 | _ => False) := hpre
      split at hpre
      · exact ⟨_, _, rfl, hpre⟩
      · exact hpre.elim
    obtain ⟨k_th, hc_th⟩ := pz_tlm hcan
    have k_th : pz_kd th = 12 ∧ th < 231 := k_th
    have R_th := pz_kd12 k_th.1
    subst R_th
    clear k_th
    obtain ⟨k_i, hc_i⟩ := pz_tlm hc_th
    have l_i : -2147483648 ≤ i := k_i.1
    have u_i : i ≤ 2147483647 := k_i.2
    have hI : pz_im M := hpre.1
    have hI0 := hI
    have hS : pz_sm M M := pz_sm.rf
    refine hgo (fun _ => false) 15 0 _ [] M ?_
    refine pz_nrc (c := 60) rfl ?_
    intro v7 e7 a7 b7
    rw [pz_wi (by omega) (by omega)] at e7
    clear a7 b7
    refine And.intro (by omega) (And.intro (show _ < (1725 : Int) from by omega) ?_)
    intro M9 e9
    have hS : pz_sm M M9 := by
      rw [e9]
      exact pz_sm_u hS (pz_mn_60 (by omega)) (fun h => absurd h.1 (by decide)) (by omega) (pz_iom_w1 (by omega) (by omega))
    have hI : pz_im M9 := hS.1.1.1 hI0
    clear e7
    refine And.intro (hI) ?_
    intro M14 q14
    obtain ⟨q14, z14⟩ := q14
    have hS : pz_sm M M14 := hS.tr z14
    have hI : pz_im M14 := hS.1.1.1 hI0
    refine And.intro rfl ?_
    exact ⟨trivial, hS⟩
theorem v_X12_getsReady {fr lo i : Nat} {own : String} (h1 : 1 + 1 ≤ fr) (h2 : 8 + (2 + 11) + 24 ≤ lo) (h3 : .methodLink own i yX12_getsReady ∈ lw_tbl) : pz_cV fr lo own i k_X12_getsReady :=
  pz_cVk (maxL := 2) (fr' := 1) (lo' := 24) 1 12 h_X12_getsReady rfl ⟨by decide +kernel, by decide +kernel, by decide +kernel⟩ ⟨(pz_mt 1522 (by decide +kernel)), (pz_mt 1521 (by decide +kernel)), (pz_ms 58 (by decide +kernel)), (pz_mt 13 (by decide +kernel))⟩ (Or.inl ⟨TX12, 28, rfl⟩) (fun a M _ h => by
    have h : (match (generalizing := false) a with | [.inr (.inr (12, th)), .inl i] => pz_im M ∧ 0 ≤ i ∧ i < 12 | _ => False) := h
    split at h
    · exact ⟨_, _, rfl⟩
    · exact h.elim) h1 h2 h3
