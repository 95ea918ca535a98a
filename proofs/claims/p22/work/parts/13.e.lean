noncomputable def k_X7_isLetter : pz_C := (1, 1, fun a M => (match a with | [.inl x] => True | _ => False), fun a M r M' => (match a, r with | [.inl x], some (.inl v) => ((v = 1 ∧ pz_let x = true) ∨ (v = 0 ∧ ¬ pz_let x = true)) ∧ M = M' | _, _ => False))
noncomputable abbrev ct_X7_isLetter : List (Bool × Nat × pz_C) := []
set_option maxRecDepth 100000 in
set_option maxHeartbeats 4000000 in
theorem h_X7_isLetter : pz_H yX7_isLetter cX7_isLetter 1 (some .boolean) k_X7_isLetter 0 0 := by
  refine pz_mk (own := RX7) (tb := t_X7_isLetter) (fl := pz_flf fl_RX7) (ci := pz_cif ci_RX7) (ct := pz_ctf ct_X7_isLetter) (rz := true) (pz_pfc_RX7 yX7_isLetter rfl) rfl t_X7_isLetter_ok (pz_flk fl_RX7_ok) (pz_cik ci_RX7_ok) ?_ ?_ (Or.inr ⟨rfl, rfl⟩) ?_ ?_
  · exact fun i k' h => pz_ctk (l := ct_X7_isLetter) (P := fun b i k => b = true → pz_cV 0 0 RX7 i k) (fun _ h => absurd h List.not_mem_nil) true i k' h rfl
  · exact fun i k' h => pz_ctk (l := ct_X7_isLetter) (P := fun b i k => b = false → (pz_cS 0 0 RX7 i k ∨ (k = pz_kac ∧ 1 ≤ 0 ∧ 60 ≤ 0 ∧ Cond.methodLink RX7 i arraycopyName ∈ pz_tbl))) (fun _ h => absurd h List.not_mem_nil) false i k' h rfl
  · intro a M hlen hpre
    obtain ⟨x, rfl, hpre⟩ : ∃ x, a = [.inl x] ∧ (True) := by
      have hpre : (match (generalizing := false) a with | [.inl x] => True | _ => False) := hpre
      split at hpre
      · exact ⟨_, rfl, hpre⟩
      · exact hpre.elim
    exact Nat.le_of_ble_eq_true rfl
  · intro a M hlen hcan hM hpre Ok hgo
    obtain ⟨x, rfl, hpre⟩ : ∃ x, a = [.inl x] ∧ (True) := by
      have hpre : (match (generalizing := false) a with | [.inl x] => True | _ => False) := hpre
      split at hpre
      · exact ⟨_, rfl, hpre⟩
      · exact hpre.elim
    obtain ⟨k_x, hc_x⟩ := pz_tlm hcan
    have l_x : -2147483648 ≤ x := k_x.1
    have u_x : x ≤ 2147483647 := k_x.2
    refine hgo (fun _ => false) 18 0 _ [] M ?_
    refine And.intro (fun h3 => ?_) (fun h3 => ?_)
    · skip
      refine And.intro (fun h15 => ?_) (fun h15 => ?_)
      · skip
        refine And.intro (by first | decide | omega) ?_
        refine And.intro rfl ?_
        exact ⟨by rw [pz_let_i]; omega, rfl⟩
      · skip
        refine And.intro (fun h21 => ?_) (fun h21 => ?_)
        · skip
          refine And.intro (by first | decide | omega) ?_
          refine And.intro rfl ?_
          exact ⟨by rw [pz_let_i]; omega, rfl⟩
        · skip
          refine And.intro (by first | decide | omega) ?_
          refine And.intro rfl ?_
          exact ⟨by rw [pz_let_i]; omega, rfl⟩
    · skip
      refine And.intro (fun h9 => ?_) (fun h9 => ?_)
      · skip
        refine And.intro (by first | decide | omega) ?_
        refine And.intro rfl ?_
        exact ⟨by rw [pz_let_i]; omega, rfl⟩
      · skip
        refine And.intro (fun h15 => ?_) (fun h15 => ?_)
        · skip
          refine And.intro (by first | decide | omega) ?_
          refine And.intro rfl ?_
          exact ⟨by rw [pz_let_i]; omega, rfl⟩
        · skip
          refine And.intro (fun h21 => ?_) (fun h21 => ?_)
          · skip
            refine And.intro (by first | decide | omega) ?_
            refine And.intro rfl ?_
            exact ⟨by rw [pz_let_i]; omega, rfl⟩
          · skip
            refine And.intro (by first | decide | omega) ?_
            refine And.intro rfl ?_
            exact ⟨by rw [pz_let_i]; omega, rfl⟩
theorem s_X7_isLetter {fr lo i : Nat} {own : String} (h1 : 0 + 1 ≤ fr) (h2 : 8 + (1 + 11) + 0 ≤ lo) (h3 : .methodLink own i yX7_isLetter ∈ lw_tbl ∨ (own = RX1 ∧ i = 35 ∧ yX7_isLetter = yX11_within)) : pz_cS fr lo own i k_X7_isLetter := pz_cSk (maxL := 1) (fr' := 0) (lo' := 0) 1 h_X7_isLetter rfl ⟨(pz_nhc_RX7 yX7_isLetter rfl).1, (pz_nhc_RX7 yX7_isLetter rfl).2, pz_ds9⟩ ⟨pz_wq669, pz_wq668, pz_wq9⟩ h1 h2 h3
noncomputable def k_X7_isDigit : pz_C := (1, 1, fun a M => (match a with | [.inl x] => True | _ => False), fun a M r M' => (match a, r with | [.inl x], some (.inl v) => ((v = 1 ∧ pz_dig x = true) ∨ (v = 0 ∧ ¬ pz_dig x = true)) ∧ M = M' | _, _ => False))
noncomputable abbrev ct_X7_isDigit : List (Bool × Nat × pz_C) := []
set_option maxRecDepth 100000 in
set_option maxHeartbeats 4000000 in
theorem h_X7_isDigit : pz_H yX7_isDigit cX7_isDigit 1 (some .boolean) k_X7_isDigit 0 0 := by
  refine pz_mk (own := RX7) (tb := t_X7_isDigit) (fl := pz_flf fl_RX7) (ci := pz_cif ci_RX7) (ct := pz_ctf ct_X7_isDigit) (rz := true) (pz_pfc_RX7 yX7_isDigit rfl) rfl t_X7_isDigit_ok (pz_flk fl_RX7_ok) (pz_cik ci_RX7_ok) ?_ ?_ (Or.inr ⟨rfl, rfl⟩) ?_ ?_
  · exact fun i k' h => pz_ctk (l := ct_X7_isDigit) (P := fun b i k => b = true → pz_cV 0 0 RX7 i k) (fun _ h => absurd h List.not_mem_nil) true i k' h rfl
  · exact fun i k' h => pz_ctk (l := ct_X7_isDigit) (P := fun b i k => b = false → (pz_cS 0 0 RX7 i k ∨ (k = pz_kac ∧ 1 ≤ 0 ∧ 60 ≤ 0 ∧ Cond.methodLink RX7 i arraycopyName ∈ pz_tbl))) (fun _ h => absurd h List.not_mem_nil) false i k' h rfl
  · intro a M hlen hpre
    obtain ⟨x, rfl, hpre⟩ : ∃ x, a = [.inl x] ∧ (True) := by
      have hpre : (match (generalizing := false) a with | [.inl x] => True | _ => False) := hpre
      split at hpre
      · exact ⟨_, rfl, hpre⟩
      · exact hpre.elim
    exact Nat.le_of_ble_eq_true rfl
  · intro a M hlen hcan hM hpre Ok hgo
    obtain ⟨x, rfl, hpre⟩ : ∃ x, a = [.inl x] ∧ (True) := by
      have hpre : (match (generalizing := false) a with | [.inl x] => True | _ => False) := hpre
      split at hpre
      · exact ⟨_, rfl, hpre⟩
      · exact hpre.elim
    obtain ⟨k_x, hc_x⟩ := pz_tlm hcan
    have l_x : -2147483648 ≤ x := k_x.1
    have u_x : x ≤ 2147483647 := k_x.2
    refine hgo (fun _ => false) 12 0 _ [] M ?_
    refine And.intro (fun h3 => ?_) (fun h3 => ?_)
    · skip
      refine And.intro (by first | decide | omega) ?_
      refine And.intro rfl ?_
      exact ⟨by rw [pz_dig_i]; omega, rfl⟩
    · skip
      refine And.intro (fun h9 => ?_) (fun h9 => ?_)
      · skip
        refine And.intro (by first | decide | omega) ?_
        refine And.intro rfl ?_
        exact ⟨by rw [pz_dig_i]; omega, rfl⟩
      · skip
        refine And.intro (by first | decide | omega) ?_
        refine And.intro rfl ?_
        exact ⟨by rw [pz_dig_i]; omega, rfl⟩
theorem s_X7_isDigit {fr lo i : Nat} {own : String} (h1 : 0 + 1 ≤ fr) (h2 : 8 + (1 + 11) + 0 ≤ lo) (h3 : .methodLink own i yX7_isDigit ∈ lw_tbl ∨ (own = RX1 ∧ i = 35 ∧ yX7_isDigit = yX11_within)) : pz_cS fr lo own i k_X7_isDigit := pz_cSk (maxL := 1) (fr' := 0) (lo' := 0) 1 h_X7_isDigit rfl ⟨(pz_nhc_RX7 yX7_isDigit rfl).1, (pz_nhc_RX7 yX7_isDigit rfl).2, pz_ds9⟩ ⟨pz_wq729, pz_wq728, pz_wq9⟩ h1 h2 h3
noncomputable def k_X7_isSign : pz_C := (1, 1, fun a M => (match a with | [.inl x] => True | _ => False), fun a M r M' => (match a, r with | [.inl x], some (.inl v) => ((v = 1 ∧ pz_sgn x = true) ∨ (v = 0 ∧ ¬ pz_sgn x = true)) ∧ M = M' | _, _ => False))
noncomputable abbrev ct_X7_isSign : List (Bool × Nat × pz_C) := []
set_option maxRecDepth 100000 in
set_option maxHeartbeats 4000000 in
theorem h_X7_isSign : pz_H yX7_isSign cX7_isSign 1 (some .boolean) k_X7_isSign 0 0 := by
  refine pz_mk (own := RX7) (tb := t_X7_isSign) (fl := pz_flf fl_RX7) (ci := pz_cif ci_RX7) (ct := pz_ctf ct_X7_isSign) (rz := true) (pz_pfc_RX7 yX7_isSign rfl) rfl t_X7_isSign_ok (pz_flk fl_RX7_ok) (pz_cik ci_RX7_ok) ?_ ?_ (Or.inr ⟨rfl, rfl⟩) ?_ ?_
  · exact fun i k' h => pz_ctk (l := ct_X7_isSign) (P := fun b i k => b = true → pz_cV 0 0 RX7 i k) (fun _ h => absurd h List.not_mem_nil) true i k' h rfl
  · exact fun i k' h => pz_ctk (l := ct_X7_isSign) (P := fun b i k => b = false → (pz_cS 0 0 RX7 i k ∨ (k = pz_kac ∧ 1 ≤ 0 ∧ 60 ≤ 0 ∧ Cond.methodLink RX7 i arraycopyName ∈ pz_tbl))) (fun _ h => absurd h List.not_mem_nil) false i k' h rfl
  · intro a M hlen hpre
    obtain ⟨x, rfl, hpre⟩ : ∃ x, a = [.inl x] ∧ (True) := by
      have hpre : (match (generalizing := false) a with | [.inl x] => True | _ => False) := hpre
      split at hpre
      · exact ⟨_, rfl, hpre⟩
      · exact hpre.elim
    exact Nat.le_of_ble_eq_true rfl
  · intro a M hlen hcan hM hpre Ok hgo
    obtain ⟨x, rfl, hpre⟩ : ∃ x, a = [.inl x] ∧ (True) := by
      have hpre : (match (generalizing := false) a with | [.inl x] => True | _ => False) := hpre
      split at hpre
      · exact ⟨_, rfl, hpre⟩
      · exact hpre.elim
    obtain ⟨k_x, hc_x⟩ := pz_tlm hcan
    have l_x : -2147483648 ≤ x := k_x.1
    have u_x : x ≤ 2147483647 := k_x.2
    refine hgo (fun _ => false) 24 0 _ [] M ?_
    refine And.intro (fun h3 => ?_) (fun h3 => ?_)
    · skip
      refine And.intro (fun h15 => ?_) (fun h15 => ?_)
      · skip
        refine And.intro (by first | decide | omega) ?_
        refine And.intro rfl ?_
        exact ⟨by rw [pz_sgn_i]; omega, rfl⟩
      · skip
        refine And.intro (fun h21 => ?_) (fun h21 => ?_)
        · skip
          refine And.intro (by first | decide | omega) ?_
          refine And.intro rfl ?_
          exact ⟨by rw [pz_sgn_i]; omega, rfl⟩
        · skip
          refine And.intro (fun h27 => ?_) (fun h27 => ?_)
          · skip
            refine And.intro (by first | decide | omega) ?_
            refine And.intro rfl ?_
            exact ⟨by rw [pz_sgn_i]; omega, rfl⟩
          · skip
            refine And.intro (fun h33 => ?_) (fun h33 => ?_)
            · skip
              refine And.intro (by first | decide | omega) ?_
              refine And.intro rfl ?_
              exact ⟨by rw [pz_sgn_i]; omega, rfl⟩
            · skip
              refine And.intro (by first | decide | omega) ?_
              refine And.intro rfl ?_
              exact ⟨by rw [pz_sgn_i]; omega, rfl⟩
    · skip
      refine And.intro (fun h9 => ?_) (fun h9 => ?_)
      · skip
        refine And.intro (by first | decide | omega) ?_
        refine And.intro rfl ?_
        exact ⟨by rw [pz_sgn_i]; omega, rfl⟩
      · skip
        refine And.intro (fun h15 => ?_) (fun h15 => ?_)
        · skip
          refine And.intro (by first | decide | omega) ?_
          refine And.intro rfl ?_
          exact ⟨by rw [pz_sgn_i]; omega, rfl⟩
        · skip
          refine And.intro (fun h21 => ?_) (fun h21 => ?_)
          · skip
            refine And.intro (by first | decide | omega) ?_
            refine And.intro rfl ?_
            exact ⟨by rw [pz_sgn_i]; omega, rfl⟩
          · skip
            refine And.intro (fun h27 => ?_) (fun h27 => ?_)
            · skip
              refine And.intro (by first | decide | omega) ?_
              refine And.intro rfl ?_
              exact ⟨by rw [pz_sgn_i]; omega, rfl⟩
            · skip
              refine And.intro (fun h33 => ?_) (fun h33 => ?_)
              · skip
                refine And.intro (by first | decide | omega) ?_
                refine And.intro rfl ?_
                exact ⟨by rw [pz_sgn_i]; omega, rfl⟩
              · skip
                refine And.intro (by first | decide | omega) ?_
                refine And.intro rfl ?_
                exact ⟨by rw [pz_sgn_i]; omega, rfl⟩
theorem s_X7_isSign {fr lo i : Nat} {own : String} (h1 : 0 + 1 ≤ fr) (h2 : 8 + (1 + 11) + 0 ≤ lo) (h3 : .methodLink own i yX7_isSign ∈ lw_tbl ∨ (own = RX1 ∧ i = 35 ∧ yX7_isSign = yX11_within)) : pz_cS fr lo own i k_X7_isSign := pz_cSk (maxL := 1) (fr' := 0) (lo' := 0) 1 h_X7_isSign rfl ⟨(pz_nhc_RX7 yX7_isSign rfl).1, (pz_nhc_RX7 yX7_isSign rfl).2, pz_ds9⟩ ⟨pz_wq740, pz_wq739, pz_wq9⟩ h1 h2 h3
noncomputable def k_X7_put : pz_C := (2, 0, fun a M => (match a with | [.inr (.inr (7, th)), .inl x] => pz_ic M | _ => False), fun a M r M' => (match a, r with | [.inr (.inr (7, th)), .inl x], none => (pz_pt4 x M M' ∧ M' 4 1 = min (M 4 1 + 4) 400) ∧ pq_pr pq_Pf M M' | _, _ => False))
noncomputable abbrev ct_X7_put : List (Bool × Nat × pz_C) := []
set_option maxRecDepth 100000 in
set_option maxHeartbeats 4000000 in
theorem h_X7_put : pz_H yX7_put cX7_put 3 none k_X7_put 0 0 := by
  refine pz_mk (own := RX7) (tb := t_X7_put) (fl := pz_flf fl_RX7) (ci := pz_cif ci_RX7) (ct := pz_ctf ct_X7_put) (rz := false) (pz_pfc_RX7 yX7_put rfl) rfl t_X7_put_ok (pz_flk fl_RX7_ok) (pz_cik ci_RX7_ok) ?_ ?_ (rfl) ?_ ?_
  · exact fun i k' h => pz_ctk (l := ct_X7_put) (P := fun b i k => b = true → pz_cV 0 0 RX7 i k) (fun _ h => absurd h List.not_mem_nil) true i k' h rfl
  · exact fun i k' h => pz_ctk (l := ct_X7_put) (P := fun b i k => b = false → (pz_cS 0 0 RX7 i k ∨ (k = pz_kac ∧ 1 ≤ 0 ∧ 60 ≤ 0 ∧ Cond.methodLink RX7 i arraycopyName ∈ pz_tbl))) (fun _ h => absurd h List.not_mem_nil) false i k' h rfl
  · intro a M hlen hpre
    obtain ⟨th, x, rfl, hpre⟩ : ∃ th x, a = [.inr (.inr (7, th)), .inl x] ∧ (pz_ic M) := by
      have hpre : (match (generalizing := false) a with | [.inr (.inr (7, th)), .inl x] => pz_ic M | _ => False) := hpre
      split at hpre
      · exact ⟨_, _, rfl, hpre⟩
      · exact hpre.elim
    exact Nat.le_of_ble_eq_true rfl
  · intro a M hlen hcan hM hpre Ok hgo
    obtain ⟨th, x, rfl, hpre⟩ : ∃ th x, a = [.inr (.inr (7, th)), .inl x] ∧ (pz_ic M) := by
      have hpre : (match (generalizing := false) a with | [.inr (.inr (7, th)), .inl x] => pz_ic M | _ => False) := hpre
      split at hpre
      · exact ⟨_, _, rfl, hpre⟩
      · exact hpre.elim
    obtain ⟨k_th, hc_th⟩ := pz_tlm hcan
    have k_th : pz_kd th = 7 ∧ th < 231 := k_th
    have R_th := pz_kd7 k_th.1
    subst R_th
    obtain ⟨k_x, hc_x⟩ := pz_tlm hc_th
    have l_x : -2147483648 ≤ x := k_x.1
    have u_x : x ≤ 2147483647 := k_x.2
    have hI : pz_ic M := hpre
    have hI0 := hI
    have hS : pq_pr pq_Pf M M := pq_pr.rf
    have I0 := hI.2.2.2.2.1
    have L3 : ∀ (fu : Nat) (x2 : Int) (N3 : pz_M), (x2 + 8).toNat < fu → (pq_pr pq_Pf M N3) → (-8 ≤ x2) → (x2 ≤ 24) → ((x2 + 8) % 8 = 0) → (N3 4 1 = min (M 4 1 + (24 - x2) / 8) 400) → (pz_fc M N3 x x2) → Ok 3 [some (.inr (.inr (7, 4))), some (.inl x), some (.inl x2)] [] N3 := by
      intro fu
      induction fu with
      | zero => exact fun _ _ hn => absurd hn (Nat.not_lt_zero _)
      | succ fu ih3 =>
        intro x2 N3 hn3 hS g3_1 g3_2 g3_3 g3_4 g3_5
        have hI : pz_ic N3 := hS.1 hI0
        have L40 : ∀ (x2 : Int) (N40 : pz_M), (pq_pr pq_Pf M N40) → (0 ≤ x2) → (x2 ≤ 24) → ((x2 + 8) % 8 = 0) → ((x2 + 8).toNat < fu + 1) → (N40 4 1 = min (M 4 1 + (32 - x2) / 8) 400) → (pz_fc M N40 x (x2 - 8)) → Ok 40 [some (.inr (.inr (7, 4))), some (.inl x), some (.inl x2)] [] N40 := by
          intro x2 N40 hS g40_1 g40_2 g40_3 g40_4 g40_5 g40_6
          have hI : pz_ic N40 := hS.1 hI0
          refine hgo (fun p => Nat.beq p 3 || Nat.beq p 40) 28 40 _ _ _ ?_
          intro v40 e40 a40 b40
          rw [pz_wi (by first | decide | omega) (by first | decide | omega)] at e40
          have G40 : pz_fc M N40 x v40 := by
            rw [show v40 = x2 - 8 by omega]
            exact g40_6
          exact ih3 _ _ (by first | decide | omega) hS (by first | omega | exact pz_fc_0 | exact G40) (by first | omega | exact pz_fc_0 | exact G40) (by first | omega | exact pz_fc_0 | exact G40) (by first | omega | exact pz_fc_0 | exact G40) (by first | omega | exact pz_fc_0 | exact G40)
        refine hgo (fun p => Nat.beq p 3 || Nat.beq p 40) 28 3 _ _ _ ?_
        refine And.intro (fun h4 => ?_) (fun h4 => ?_)
        · skip
          refine And.intro rfl ?_
          exact ⟨⟨pz_pt4_of g3_5 (by first | decide | omega) g3_4, by omega⟩, hS⟩
        · skip
          intro v8 e8 a8 b8
          have I8 := hI.2.2.2.2.1
          refine And.intro (fun h14 => ?_) (fun h14 => ?_)
          · skip
            exact L40 _ _ hS (by first | omega | exact pz_fc_v (by first | decide | omega) | exact G37) (by first | omega | exact pz_fc_v (by first | decide | omega) | exact G37) (by first | omega | exact pz_fc_v (by first | decide | omega) | exact G37) (by first | omega | exact pz_fc_v (by first | decide | omega) | exact G37) (by first | omega | exact pz_fc_v (by first | decide | omega) | exact G37) (by first | omega | exact pz_fc_v (by first | decide | omega) | exact G37)
          · skip
            refine pz_nrc (c := 48) rfl ?_
            intro v22 e22 a22 b22
            have I22 := hI.2.2.2.2.1
            intro v27 e27 a27 b27
            have R27 : v27 = pz_sr x x2 := e27
            intro v28 e28 a28 b28
            have R28 : v28 = pz_i8 v27 := e28
            have B28 := pz_i2b v27
            rw [← e28] at B28
            have lo29 : (0 : Int) ≤ v22 := by omega
            have tn29 : (((v22).toNat : Nat) : Int) = v22 := Int.toNat_of_nonneg lo29
            refine And.intro (lo29) (And.intro (show _ < (400 : Int) from by omega) (And.intro (by first | decide | omega) (And.intro (by first | decide | omega) ?_)))
            intro M29 e29
            have hS : pq_pr pq_Pf M M29 := by
              rw [e29]
              exact pq_pr_u hS (by unfold pq_Pf; first | decide | omega) (by unfold pz_iok; first | decide | omega)
            have hI : pz_ic M29 := hS.1 hI0
            have T29_0 := pz_uve e29 4 1
            intro v32 e32 a32 b32
            have I32 := hI.2.2.2.2.1
            intro v36 e36 a36 b36
            try rw [pz_wi (by first | decide | omega) (by first | decide | omega)] at e36
            intro M37 e37
            have hS : pq_pr pq_Pf M M37 := by
              rw [e37]
              exact pq_pr_u hS (by unfold pq_Pf; first | decide | omega) (by unfold pz_iok; first | decide | omega)
            have hI : pz_ic M37 := hS.1 hI0
            have T37_0 := pz_uve e37 4 1
            have G37 : pz_fc M M37 x (x2 - 8) := pz_fc_s (k := v22.toNat) g3_5 I0.1 (by first | decide | omega) (by first | decide | omega) g3_3 g3_4 (by first | decide | omega) R27 R28 e29 e37 rfl
            exact L40 _ _ hS (by first | omega | exact pz_fc_v (by first | decide | omega) | exact G37) (by first | omega | exact pz_fc_v (by first | decide | omega) | exact G37) (by first | omega | exact pz_fc_v (by first | decide | omega) | exact G37) (by first | omega | exact pz_fc_v (by first | decide | omega) | exact G37) (by first | omega | exact pz_fc_v (by first | decide | omega) | exact G37) (by first | omega | exact pz_fc_v (by first | decide | omega) | exact G37)
    refine hgo (fun p => Nat.beq p 3 || Nat.beq p 40) 28 0 _ [] M ?_
    exact L3 _ _ _ (Nat.lt_succ_self _) hS (by first | omega | exact pz_fc_0 | exact G40) (by first | omega | exact pz_fc_0 | exact G40) (by first | omega | exact pz_fc_0 | exact G40) (by first | omega | exact pz_fc_0 | exact G40) (by first | omega | exact pz_fc_0 | exact G40)
theorem v_X7_put {fr lo i : Nat} {own : String} (h1 : 0 + 1 ≤ fr) (h2 : 8 + (3 + 11) + 0 ≤ lo) (h3 : .methodLink own i yX7_put ∈ lw_tbl) : pz_cV fr lo own i k_X7_put :=
  pz_cVk (maxL := 3) (fr' := 0) (lo' := 0) 1 7 h_X7_put rfl ⟨(pz_nhc_RX7 yX7_put rfl).1, (pz_nhc_RX7 yX7_put rfl).2, pz_ds8⟩ ⟨pz_wq650, pz_wq648, pz_wq649, pz_wq9⟩ (Or.inl ⟨TX7, 5, rfl⟩) (fun a M _ h => by
    have h : (match (generalizing := false) a with | [.inr (.inr (7, th)), .inl x] => pz_ic M | _ => False) := h
    split at h
    · exact ⟨_, _, rfl⟩
    · exact h.elim) h1 h2 h3
noncomputable def k_X7_wordOf : pz_C := (3, 1, fun a M => (match a with | [.inr (.inr (7, th)), .inl p, .inl q] => pz_ic M ∧ 0 ≤ p ∧ p ≤ 400 ∧ q ≤ 400 | _ => False), fun a M r M' => (match a, r with | [.inr (.inr (7, th)), .inl p, .inl q], some (.inl v) => (v = pz_wd (M 48) p.toNat q.toNat) ∧ M = M' | _, _ => False))
noncomputable abbrev ct_X7_wordOf : List (Bool × Nat × pz_C) := [(true, 54, k_J0_length_8abf5), (true, 59, k_J0_charAt_5068e)]
set_option maxRecDepth 100000 in
set_option maxHeartbeats 4000000 in
theorem h_X7_wordOf : pz_H yX7_wordOf cX7_wordOf 8 (some .int) k_X7_wordOf 4 85 := by
  refine pz_mk (own := RX7) (tb := t_X7_wordOf) (fl := pz_flf fl_RX7) (ci := pz_cif ci_RX7) (ct := pz_ctf ct_X7_wordOf) (rz := false) (pz_pfc_RX7 yX7_wordOf rfl) rfl t_X7_wordOf_ok (pz_flk fl_RX7_ok) (pz_cik ci_RX7_ok) ?_ ?_ (Or.inl ⟨rfl, rfl⟩) ?_ ?_
  · exact fun i k' h => pz_ctk (l := ct_X7_wordOf) (P := fun b i k => b = true → pz_cV 4 85 RX7 i k) (List.forall_mem_cons.mpr ⟨(fun _ => v_J0_length_8abf5 (by decide) (by decide) pz_wq679), List.forall_mem_cons.mpr ⟨(fun _ => v_J0_charAt_5068e (by decide) (by decide) pz_wq689), fun _ h => absurd h List.not_mem_nil⟩⟩) true i k' h rfl
  · exact fun i k' h => pz_ctk (l := ct_X7_wordOf) (P := fun b i k => b = false → (pz_cS 4 85 RX7 i k ∨ (k = pz_kac ∧ 1 ≤ 4 ∧ 60 ≤ 85 ∧ Cond.methodLink RX7 i arraycopyName ∈ pz_tbl))) (List.forall_mem_cons.mpr ⟨((fun z => by cases z)), List.forall_mem_cons.mpr ⟨((fun z => by cases z)), fun _ h => absurd h List.not_mem_nil⟩⟩) false i k' h rfl
  · intro a M hlen hpre
    obtain ⟨th, p, q, rfl, hpre⟩ : ∃ th p q, a = [.inr (.inr (7, th)), .inl p, .inl q] ∧ (pz_ic M ∧ 0 ≤ p ∧ p ≤ 400 ∧ q ≤ 400) := by
      have hpre : (match (generalizing := false) a with | [.inr (.inr (7, th)), .inl p, .inl q] => pz_ic M ∧ 0 ≤ p ∧ p ≤ 400 ∧ q ≤ 400 | _ => False) := hpre
      split at hpre
      · exact ⟨_, _, _, rfl, hpre⟩
      · exact hpre.elim
    exact Nat.le_of_ble_eq_true rfl
  · intro a M hlen hcan hM hpre Ok hgo
    obtain ⟨th, p, q, rfl, hpre⟩ : ∃ th p q, a = [.inr (.inr (7, th)), .inl p, .inl q] ∧ (pz_ic M ∧ 0 ≤ p ∧ p ≤ 400 ∧ q ≤ 400) := by
      have hpre : (match (generalizing := false) a with | [.inr (.inr (7, th)), .inl p, .inl q] => pz_ic M ∧ 0 ≤ p ∧ p ≤ 400 ∧ q ≤ 400 | _ => False) := hpre
      split at hpre
      · exact ⟨_, _, _, rfl, hpre⟩
      · exact hpre.elim
    obtain ⟨k_th, hc_th⟩ := pz_tlm hcan
    have k_th : pz_kd th = 7 ∧ th < 231 := k_th
    have R_th := pz_kd7 k_th.1
    subst R_th
    obtain ⟨k_p, hc_p⟩ := pz_tlm hc_th
    have l_p : -2147483648 ≤ p := k_p.1
    have u_p : p ≤ 2147483647 := k_p.2
    obtain ⟨k_q, hc_q⟩ := pz_tlm hc_p
    have l_q : -2147483648 ≤ q := k_q.1
    have u_q : q ≤ 2147483647 := k_q.2
    have hI : pz_ic M := hpre.1
    have L11 : ∀ (fu : Nat) (x3 : Int) (x4 : Int) (x5 : Int) (x6 : Int) (d7 : Option pz_V), (122 - x6).toNat < fu → (0 ≤ x6) → (x6 ≤ 122) → (p ≤ x4) → (x4 ≤ p + x6) → (0 ≤ x3) → (x3 ≤ x6) → (p ≤ 1000000) → (pz_wkw M p q x3 x4 x5 x6) → Ok 11 [some (.inr (.inr (7, 4))), some (.inl p), some (.inl q), some (.inl x3), some (.inl x4), some (.inl x5), some (.inl x6), d7] [] M := by
      intro fu
      induction fu with
      | zero => exact fun _ _ _ _ _ hn => absurd hn (Nat.not_lt_zero _)
      | succ fu ih11 =>
        intro x3 x4 x5 x6 d7 hn11 g11_0 g11_1 g11_2 g11_3 g11_4 g11_5 g11_6 g11_7
        have L95 : ∀ (x3 : Int) (x4 : Int) (x5 : Int) (x6 : Int) (x7 : Int), (0 ≤ x6) → (x6 < 122) → (p ≤ x4) → (x4 ≤ p + x6 + 1) → (0 ≤ x3) → (x3 ≤ x6 + 1) → ((122 - x6).toNat < fu + 1) → (pz_wkw M p q x3 x4 x5 (x6 + 1)) → Ok 95 [some (.inr (.inr (7, 4))), some (.inl p), some (.inl q), some (.inl x3), some (.inl x4), some (.inl x5), some (.inl x6), some (.inl x7)] [] M := by
          intro x3 x4 x5 x6 x7 g95_0 g95_1 g95_2 g95_3 g95_4 g95_5 g95_6 g95_7
          refine hgo (fun p => Nat.beq p 11 || Nat.beq p 95) 54 95 _ _ _ ?_
          intro v95 e95 a95 b95
          try rw [pz_wi (by first | decide | omega) (by first | decide | omega)] at e95
          exact ih11 _ _ _ _ _ (by first | decide | omega) (by first | omega | exact pz_wkw_0 | (rw [e95]; exact g95_7)) (by first | omega | exact pz_wkw_0 | (rw [e95]; exact g95_7)) (by first | omega | exact pz_wkw_0 | (rw [e95]; exact g95_7)) (by first | omega | exact pz_wkw_0 | (rw [e95]; exact g95_7)) (by first | omega | exact pz_wkw_0 | (rw [e95]; exact g95_7)) (by first | omega | exact pz_wkw_0 | (rw [e95]; exact g95_7)) (by first | omega | exact pz_wkw_0 | (rw [e95]; exact g95_7)) (by first | omega | exact pz_wkw_0 | (rw [e95]; exact g95_7))
        refine hgo (fun p => Nat.beq p 11 || Nat.beq p 95) 54 11 _ _ _ ?_
        refine And.intro (True.intro) ?_
        intro v15 M15 a15 b15 q15
        obtain ⟨q15, z15⟩ := q15
        subst z15
        have q15 : v15 = 122 := q15
        refine And.intro (fun h18 => ?_) (fun h18 => ?_)
        · skip
          refine And.intro rfl ?_
          exact ⟨(pz_wkw_e g11_7 (by first | decide | omega)).symm, rfl⟩
        · skip
          refine And.intro (And.intro (by first | decide | omega) (show x6 < (122 : Int) from by omega)) ?_
          intro v25 M25 a25 b25 q25
          obtain ⟨q25, z25⟩ := q25
          subst z25
          have C25 := pz_wkw_c g11_7 (by first | decide | omega) q25.1
          refine And.intro (fun h34 => ?_) (fun h34 => ?_)
          · skip
            obtain ⟨D34a, D34b⟩ : x3 < 24 ∧ (x4 - p < (pz_kwd x3.toNat).length ∧ v25 = (pz_kwd x3.toNat).getD (x4 - p).toNat 0) := ⟨C25.1, (C25.2.resolve_left (fun z => h34 z.1)).2⟩
            refine And.intro (fun h64 => ?_) (fun h64 => ?_)
            · skip
              intro v92 e92 a92 b92
              try rw [pz_wi (by first | decide | omega) (by first | decide | omega)] at e92
              exact L95 _ _ _ _ _ (by first | omega | exact G50 | exact pz_wkw_s (by first | decide | omega) g11_7 D34a D34b.1 D34b.2 (by first | decide | omega) e92 rfl) (by first | omega | exact G50 | exact pz_wkw_s (by first | decide | omega) g11_7 D34a D34b.1 D34b.2 (by first | decide | omega) e92 rfl) (by first | omega | exact G50 | exact pz_wkw_s (by first | decide | omega) g11_7 D34a D34b.1 D34b.2 (by first | decide | omega) e92 rfl) (by first | omega | exact G50 | exact pz_wkw_s (by first | decide | omega) g11_7 D34a D34b.1 D34b.2 (by first | decide | omega) e92 rfl) (by first | omega | exact G50 | exact pz_wkw_s (by first | decide | omega) g11_7 D34a D34b.1 D34b.2 (by first | decide | omega) e92 rfl) (by first | omega | exact G50 | exact pz_wkw_s (by first | decide | omega) g11_7 D34a D34b.1 D34b.2 (by first | decide | omega) e92 rfl) (by first | omega | exact G50 | exact pz_wkw_s (by first | decide | omega) g11_7 D34a D34b.1 D34b.2 (by first | decide | omega) e92 rfl) (by first | omega | exact G50 | exact pz_wkw_s (by first | decide | omega) g11_7 D34a D34b.1 D34b.2 (by first | decide | omega) e92 rfl)
            · skip
              refine And.intro (fun h70 => ?_) (fun h70 => ?_)
              · skip
                intro v92 e92 a92 b92
                try rw [pz_wi (by first | decide | omega) (by first | decide | omega)] at e92
                exact L95 _ _ _ _ _ (by first | omega | exact G50 | exact pz_wkw_s (by first | decide | omega) g11_7 D34a D34b.1 D34b.2 (by first | decide | omega) e92 rfl) (by first | omega | exact G50 | exact pz_wkw_s (by first | decide | omega) g11_7 D34a D34b.1 D34b.2 (by first | decide | omega) e92 rfl) (by first | omega | exact G50 | exact pz_wkw_s (by first | decide | omega) g11_7 D34a D34b.1 D34b.2 (by first | decide | omega) e92 rfl) (by first | omega | exact G50 | exact pz_wkw_s (by first | decide | omega) g11_7 D34a D34b.1 D34b.2 (by first | decide | omega) e92 rfl) (by first | omega | exact G50 | exact pz_wkw_s (by first | decide | omega) g11_7 D34a D34b.1 D34b.2 (by first | decide | omega) e92 rfl) (by first | omega | exact G50 | exact pz_wkw_s (by first | decide | omega) g11_7 D34a D34b.1 D34b.2 (by first | decide | omega) e92 rfl) (by first | omega | exact G50 | exact pz_wkw_s (by first | decide | omega) g11_7 D34a D34b.1 D34b.2 (by first | decide | omega) e92 rfl) (by first | omega | exact G50 | exact pz_wkw_s (by first | decide | omega) g11_7 D34a D34b.1 D34b.2 (by first | decide | omega) e92 rfl)
              · skip
                refine pz_nrc (c := 48) rfl ?_
                have lo79 : (0 : Int) ≤ x4 := by omega
                have tn79 : (((x4).toNat : Nat) : Int) = x4 := Int.toNat_of_nonneg lo79
                refine And.intro (lo79) (And.intro (show _ < (400 : Int) from by omega) ?_)
                intro v79 e79 a79 b79
                refine And.intro (fun h82 => ?_) (fun h82 => ?_)
                · skip
                  intro v92 e92 a92 b92
                  try rw [pz_wi (by first | decide | omega) (by first | decide | omega)] at e92
                  exact L95 _ _ _ _ _ (by first | omega | exact G50 | exact pz_wkw_s (by first | decide | omega) g11_7 D34a D34b.1 D34b.2 (by first | decide | omega) e92 rfl) (by first | omega | exact G50 | exact pz_wkw_s (by first | decide | omega) g11_7 D34a D34b.1 D34b.2 (by first | decide | omega) e92 rfl) (by first | omega | exact G50 | exact pz_wkw_s (by first | decide | omega) g11_7 D34a D34b.1 D34b.2 (by first | decide | omega) e92 rfl) (by first | omega | exact G50 | exact pz_wkw_s (by first | decide | omega) g11_7 D34a D34b.1 D34b.2 (by first | decide | omega) e92 rfl) (by first | omega | exact G50 | exact pz_wkw_s (by first | decide | omega) g11_7 D34a D34b.1 D34b.2 (by first | decide | omega) e92 rfl) (by first | omega | exact G50 | exact pz_wkw_s (by first | decide | omega) g11_7 D34a D34b.1 D34b.2 (by first | decide | omega) e92 rfl) (by first | omega | exact G50 | exact pz_wkw_s (by first | decide | omega) g11_7 D34a D34b.1 D34b.2 (by first | decide | omega) e92 rfl) (by first | omega | exact G50 | exact pz_wkw_s (by first | decide | omega) g11_7 D34a D34b.1 D34b.2 (by first | decide | omega) e92 rfl)
                · skip
                  intro v92 e92 a92 b92
                  try rw [pz_wi (by first | decide | omega) (by first | decide | omega)] at e92
                  exact L95 _ _ _ _ _ (by first | omega | exact G50 | exact pz_wkw_s (by first | decide | omega) g11_7 D34a D34b.1 D34b.2 (by first | decide | omega) e92 rfl) (by first | omega | exact G50 | exact pz_wkw_s (by first | decide | omega) g11_7 D34a D34b.1 D34b.2 (by first | decide | omega) e92 rfl) (by first | omega | exact G50 | exact pz_wkw_s (by first | decide | omega) g11_7 D34a D34b.1 D34b.2 (by first | decide | omega) e92 rfl) (by first | omega | exact G50 | exact pz_wkw_s (by first | decide | omega) g11_7 D34a D34b.1 D34b.2 (by first | decide | omega) e92 rfl) (by first | omega | exact G50 | exact pz_wkw_s (by first | decide | omega) g11_7 D34a D34b.1 D34b.2 (by first | decide | omega) e92 rfl) (by first | omega | exact G50 | exact pz_wkw_s (by first | decide | omega) g11_7 D34a D34b.1 D34b.2 (by first | decide | omega) e92 rfl) (by first | omega | exact G50 | exact pz_wkw_s (by first | decide | omega) g11_7 D34a D34b.1 D34b.2 (by first | decide | omega) e92 rfl) (by first | omega | exact G50 | exact pz_wkw_s (by first | decide | omega) g11_7 D34a D34b.1 D34b.2 (by first | decide | omega) e92 rfl)
          · skip
            obtain ⟨D34a, D34b⟩ : x3 < 24 ∧ x4 - p = (pz_kwd x3.toNat).length := ⟨C25.1, ((C25.2.resolve_right (fun z => z.1 h34)).2)⟩
            refine And.intro (fun h39 => ?_) (fun h39 => ?_)
            · skip
              intro v50 e50 a50 b50
              rw [pz_wi (by first | decide | omega) (by first | decide | omega)] at e50
              have G50 : pz_wkw M p q v50 p 1 (x6 + 1) := pz_wkw_n (by first | decide | omega) g11_7 D34a D34b (by first | decide | omega) e50 rfl
              exact L95 _ _ _ _ _ (by first | omega | exact G50 | exact pz_wkw_s (by first | decide | omega) g11_7 D34a D34b.1 D34b.2 (by first | decide | omega) e92 rfl) (by first | omega | exact G50 | exact pz_wkw_s (by first | decide | omega) g11_7 D34a D34b.1 D34b.2 (by first | decide | omega) e92 rfl) (by first | omega | exact G50 | exact pz_wkw_s (by first | decide | omega) g11_7 D34a D34b.1 D34b.2 (by first | decide | omega) e92 rfl) (by first | omega | exact G50 | exact pz_wkw_s (by first | decide | omega) g11_7 D34a D34b.1 D34b.2 (by first | decide | omega) e92 rfl) (by first | omega | exact G50 | exact pz_wkw_s (by first | decide | omega) g11_7 D34a D34b.1 D34b.2 (by first | decide | omega) e92 rfl) (by first | omega | exact G50 | exact pz_wkw_s (by first | decide | omega) g11_7 D34a D34b.1 D34b.2 (by first | decide | omega) e92 rfl) (by first | omega | exact G50 | exact pz_wkw_s (by first | decide | omega) g11_7 D34a D34b.1 D34b.2 (by first | decide | omega) e92 rfl) (by first | omega | exact G50 | exact pz_wkw_s (by first | decide | omega) g11_7 D34a D34b.1 D34b.2 (by first | decide | omega) e92 rfl)
            · skip
              refine And.intro (fun h45 => ?_) (fun h45 => ?_)
              · skip
                intro v50 e50 a50 b50
                rw [pz_wi (by first | decide | omega) (by first | decide | omega)] at e50
                have G50 : pz_wkw M p q v50 p 1 (x6 + 1) := pz_wkw_n (by first | decide | omega) g11_7 D34a D34b (by first | decide | omega) e50 rfl
                exact L95 _ _ _ _ _ (by first | omega | exact G50 | exact pz_wkw_s (by first | decide | omega) g11_7 D34a D34b.1 D34b.2 (by first | decide | omega) e92 rfl) (by first | omega | exact G50 | exact pz_wkw_s (by first | decide | omega) g11_7 D34a D34b.1 D34b.2 (by first | decide | omega) e92 rfl) (by first | omega | exact G50 | exact pz_wkw_s (by first | decide | omega) g11_7 D34a D34b.1 D34b.2 (by first | decide | omega) e92 rfl) (by first | omega | exact G50 | exact pz_wkw_s (by first | decide | omega) g11_7 D34a D34b.1 D34b.2 (by first | decide | omega) e92 rfl) (by first | omega | exact G50 | exact pz_wkw_s (by first | decide | omega) g11_7 D34a D34b.1 D34b.2 (by first | decide | omega) e92 rfl) (by first | omega | exact G50 | exact pz_wkw_s (by first | decide | omega) g11_7 D34a D34b.1 D34b.2 (by first | decide | omega) e92 rfl) (by first | omega | exact G50 | exact pz_wkw_s (by first | decide | omega) g11_7 D34a D34b.1 D34b.2 (by first | decide | omega) e92 rfl) (by first | omega | exact G50 | exact pz_wkw_s (by first | decide | omega) g11_7 D34a D34b.1 D34b.2 (by first | decide | omega) e92 rfl)
              · skip
                refine And.intro rfl ?_
                have E9 := (pz_wkw_f (by first | decide | omega) g11_7 D34a D34b).mp ⟨h39, h45⟩
                have E8 := (pz_wd_iff (by first | decide | omega)).mpr E9
                have J8 := g11_7.1
                exact ⟨by omega, rfl⟩
    refine hgo (fun p => Nat.beq p 11 || Nat.beq p 95) 54 0 _ [] M ?_
    exact L11 _ _ _ _ _ _ (Nat.lt_succ_self _) (by first | omega | exact pz_wkw_0 | (rw [e95]; exact g95_7)) (by first | omega | exact pz_wkw_0 | (rw [e95]; exact g95_7)) (by first | omega | exact pz_wkw_0 | (rw [e95]; exact g95_7)) (by first | omega | exact pz_wkw_0 | (rw [e95]; exact g95_7)) (by first | omega | exact pz_wkw_0 | (rw [e95]; exact g95_7)) (by first | omega | exact pz_wkw_0 | (rw [e95]; exact g95_7)) (by first | omega | exact pz_wkw_0 | (rw [e95]; exact g95_7)) (by first | omega | exact pz_wkw_0 | (rw [e95]; exact g95_7))
theorem v_X7_wordOf {fr lo i : Nat} {own : String} (h1 : 4 + 1 ≤ fr) (h2 : 8 + (8 + 11) + 85 ≤ lo) (h3 : .methodLink own i yX7_wordOf ∈ lw_tbl) : pz_cV fr lo own i k_X7_wordOf :=
  pz_cVk (maxL := 8) (fr' := 4) (lo' := 85) 2 7 h_X7_wordOf rfl ⟨(pz_nhc_RX7 yX7_wordOf rfl).1, (pz_nhc_RX7 yX7_wordOf rfl).2, pz_ds10⟩ ⟨pz_wq677, pz_wq675, pz_wq676, pz_wq9⟩ (Or.inl ⟨TX7, 5, rfl⟩) (fun a M _ h => by
    have h : (match (generalizing := false) a with | [.inr (.inr (7, th)), .inl p, .inl q] => pz_ic M ∧ 0 ≤ p ∧ p ≤ 400 ∧ q ≤ 400 | _ => False) := h
    split at h
    · exact ⟨_, _, rfl⟩
    · exact h.elim) h1 h2 h3
noncomputable def k_X7_takeWord : pz_C := (3, 1, fun a M => (match a with | [.inr (.inr (7, th)), .inl x, .inl y] => pz_ic M ∧ 0 ≤ x ∧ x ≤ 400 ∧ 0 ≤ y ∧ y < 400 ∧ y < M 4 1 ∧ pz_let (M 48 y.toNat) = true | _ => False), fun a M r M' => (match a, r with | [.inr (.inr (7, th)), .inl x, .inl y], some (.inl v) => (v = (pz_te (M 48) (M 4 1).toNat y.toNat : Int) ∧ M' = pz_u M 49 x.toNat (pz_tt (M 48) (M 4 1).toNat y.toNat)) ∧ pz_st M M' | _, _ => False))
noncomputable abbrev ct_X7_takeWord : List (Bool × Nat × pz_C) := [(false, 29, k_X7_isLetter), (true, 46, k_X7_wordOf)]
set_option maxRecDepth 100000 in
set_option maxHeartbeats 4000000 in
theorem h_X7_takeWord : pz_H yX7_takeWord cX7_takeWord 4 (some .int) k_X7_takeWord 5 112 := by
  refine pz_mk (own := RX7) (tb := t_X7_takeWord) (fl := pz_flf fl_RX7) (ci := pz_cif ci_RX7) (ct := pz_ctf ct_X7_takeWord) (rz := false) (pz_pfc_RX7 yX7_takeWord rfl) rfl t_X7_takeWord_ok (pz_flk fl_RX7_ok) (pz_cik ci_RX7_ok) ?_ ?_ (Or.inl ⟨rfl, rfl⟩) ?_ ?_
  · exact fun i k' h => pz_ctk (l := ct_X7_takeWord) (P := fun b i k => b = true → pz_cV 5 112 RX7 i k) (List.forall_mem_cons.mpr ⟨((fun z => by cases z)), List.forall_mem_cons.mpr ⟨(fun _ => v_X7_wordOf (by decide) (by decide) pz_wq674), fun _ h => absurd h List.not_mem_nil⟩⟩) true i k' h rfl
  · exact fun i k' h => pz_ctk (l := ct_X7_takeWord) (P := fun b i k => b = false → (pz_cS 5 112 RX7 i k ∨ (k = pz_kac ∧ 1 ≤ 5 ∧ 60 ≤ 112 ∧ Cond.methodLink RX7 i arraycopyName ∈ pz_tbl))) (List.forall_mem_cons.mpr ⟨(fun _ => Or.inl (s_X7_isLetter (by decide) (by decide) (Or.inl pz_wq667))), List.forall_mem_cons.mpr ⟨((fun z => by cases z)), fun _ h => absurd h List.not_mem_nil⟩⟩) false i k' h rfl
  · intro a M hlen hpre
    obtain ⟨th, x, y, rfl, hpre⟩ : ∃ th x y, a = [.inr (.inr (7, th)), .inl x, .inl y] ∧ (pz_ic M ∧ 0 ≤ x ∧ x ≤ 400 ∧ 0 ≤ y ∧ y < 400 ∧ y < M 4 1 ∧ pz_let (M 48 y.toNat) = true) := by
      have hpre : (match (generalizing := false) a with | [.inr (.inr (7, th)), .inl x, .inl y] => pz_ic M ∧ 0 ≤ x ∧ x ≤ 400 ∧ 0 ≤ y ∧ y < 400 ∧ y < M 4 1 ∧ pz_let (M 48 y.toNat) = true | _ => False) := hpre
      split at hpre
      · exact ⟨_, _, _, rfl, hpre⟩
      · exact hpre.elim
    exact Nat.le_of_ble_eq_true rfl
  · intro a M hlen hcan hM hpre Ok hgo
    obtain ⟨th, x, y, rfl, hpre⟩ : ∃ th x y, a = [.inr (.inr (7, th)), .inl x, .inl y] ∧ (pz_ic M ∧ 0 ≤ x ∧ x ≤ 400 ∧ 0 ≤ y ∧ y < 400 ∧ y < M 4 1 ∧ pz_let (M 48 y.toNat) = true) := by
      have hpre : (match (generalizing := false) a with | [.inr (.inr (7, th)), .inl x, .inl y] => pz_ic M ∧ 0 ≤ x ∧ x ≤ 400 ∧ 0 ≤ y ∧ y < 400 ∧ y < M 4 1 ∧ pz_let (M 48 y.toNat) = true | _ => False) := hpre
      split at hpre
      · exact ⟨_, _, _, rfl, hpre⟩
      · exact hpre.elim
    obtain ⟨k_th, hc_th⟩ := pz_tlm hcan
    have k_th : pz_kd th = 7 ∧ th < 231 := k_th
    have R_th := pz_kd7 k_th.1
    subst R_th
    obtain ⟨k_x, hc_x⟩ := pz_tlm hc_th
    have l_x : -2147483648 ≤ x := k_x.1
    have u_x : x ≤ 2147483647 := k_x.2
    obtain ⟨k_y, hc_y⟩ := pz_tlm hc_x
    have l_y : -2147483648 ≤ y := k_y.1
    have u_y : y ≤ 2147483647 := k_y.2
    have hI : pz_ic M := hpre.1
    have hI0 := hI
    have hS : pz_st M M := pz_st.rf
    obtain ⟨-, p1, p2, p3, p4, p5, p6⟩ := hpre
    have J41 := hI.2.2.2.2.1
    have L37 : ∀ (x3 : Int) (N37 : pz_M), (pz_st M N37) → (0 ≤ x3) → (x3 ≤ 400) → (x3.toNat = pz_whl pz_let (M 48) (M 4 1).toNat y.toNat) → (N37 = M) → Ok 37 [some (.inr (.inr (7, 4))), some (.inl x), some (.inl y), some (.inl x3)] [] N37 := by
      intro x3 N37 hS g37_1 g37_2 g37_3 g37_4
      have hI : pz_ic N37 := hS.1.1 hI0
      refine hgo (fun p => Nat.beq p 4 || Nat.beq p 37) 31 37 _ _ _ ?_
      refine pz_nrc (c := 49) rfl ?_
      refine And.intro (And.intro hI (And.intro (by first | decide | omega) (And.intro (by first | decide | omega) (by first | decide | omega)))) ?_
      intro v45 M45 a45 b45 q45
      obtain ⟨q45, z45⟩ := q45
      subst z45
      have lo48 : (0 : Int) ≤ x := by omega
      have tn48 : (((x).toNat : Nat) : Int) = x := Int.toNat_of_nonneg lo48
      refine And.intro (lo48) (And.intro (show _ < (401 : Int) from by omega) ?_)
      intro M48 e48
      have hS : pz_st M M48 := by
        rw [e48]
        exact pz_st_u hS (by unfold pz_md pz_kx pz_mid; first | decide | omega) (by first | decide | omega) (by unfold pz_iok; first | decide | omega)
      have hI : pz_ic M48 := hS.1.1 hI0
      refine And.intro rfl ?_
      have E9 : (pz_te (M 48) (M 4 1).toNat y.toNat) = x3.toNat := by
        rw [pz_te_l (by first | decide | omega) p6, g37_3]
      have F9 : M48 = pz_u M 49 x.toNat (pz_tt (M 48) (M 4 1).toNat y.toNat) := by
        rw [e48, q45, g37_4, pz_tt_l (by first | decide | omega) p6, E9]
      exact ⟨⟨by rw [E9]; omega, F9⟩, hS⟩
    have L4 : ∀ (fu : Nat) (x3 : Int) (N4 : pz_M), (400 - x3).toNat < fu → (pz_st M N4) → (y < x3) → (x3 ≤ M 4 1) → (M 4 1 ≤ 400) → (pz_whl pz_let (M 48) (M 4 1).toNat x3.toNat = pz_whl pz_let (M 48) (M 4 1).toNat y.toNat) → (N4 = M) → Ok 4 [some (.inr (.inr (7, 4))), some (.inl x), some (.inl y), some (.inl x3)] [] N4 := by
      intro fu
      induction fu with
      | zero => exact fun _ _ hn => absurd hn (Nat.not_lt_zero _)
      | succ fu ih4 =>
        intro x3 N4 hn4 hS g4_1 g4_2 g4_3 g4_4 g4_5
        have hI : pz_ic N4 := hS.1.1 hI0
        have Z41 : N4 4 1 = M 4 1 := by rw [g4_5]
        have Z48 : ∀ j, N4 48 j = M 48 j := fun j => by rw [g4_5]
        refine hgo (fun p => Nat.beq p 4 || Nat.beq p 37) 31 4 _ _ _ ?_
        intro v6 e6 a6 b6
        have I6 := hI.2.2.2.2.1
        refine And.intro (fun h9 => ?_) (fun h9 => ?_)
        · skip
          have G9 : x3.toNat = pz_whl pz_let (M 48) (M 4 1).toNat y.toNat := by
            rw [← g4_4]
            exact (pz_whl_n (fun z => absurd z.1 (by first | decide | omega))).symm
          exact L37 _ _ hS (by first | omega | exact G9 | exact G28 | assumption) (by first | omega | exact G9 | exact G28 | assumption) (by first | omega | exact G9 | exact G28 | assumption) (by first | omega | exact G9 | exact G28 | assumption)
        · skip
          skip
          refine And.intro (fun h16 => ?_) (fun h16 => ?_)
          · skip
            exfalso; omega
          · skip
            refine pz_nrc (c := 48) rfl ?_
            have lo24 : (0 : Int) ≤ x3 := by omega
            have tn24 : (((x3).toNat : Nat) : Int) = x3 := Int.toNat_of_nonneg lo24
            refine And.intro (lo24) (And.intro (show _ < (400 : Int) from by omega) ?_)
            intro v24 e24 a24 b24
            refine And.intro (True.intro) ?_
            intro v25 M25 a25 b25 q25
            obtain ⟨q25, z25⟩ := q25
            subst z25
            refine And.intro (fun h28 => ?_) (fun h28 => ?_)
            · skip
              have G28 : x3.toNat = pz_whl pz_let (M 48) (M 4 1).toNat y.toNat := by
                rw [← g4_4]
                exact (pz_whl_n (fun z => (q25.resolve_left (fun y => absurd (y.1.symm.trans h28) (by decide))).2 (by rw [e24, Z48]; exact z.2))).symm
              exact L37 _ _ hS (by first | omega | exact G9 | exact G28 | assumption) (by first | omega | exact G9 | exact G28 | assumption) (by first | omega | exact G9 | exact G28 | assumption) (by first | omega | exact G9 | exact G28 | assumption)
            · skip
              have H28 : pz_let (M 48 x3.toNat) = true := by
                rw [← Z48, ← e24]
                exact (q25.resolve_right (fun y => h28 y.1)).2
              intro v31 e31 a31 b31
              rw [pz_wi (by first | decide | omega) (by first | decide | omega)] at e31
              have G31 : pz_whl pz_let (M 48) (M 4 1).toNat v31.toNat = pz_whl pz_let (M 48) (M 4 1).toNat y.toNat := by
                rw [← g4_4, show v31.toNat = x3.toNat + 1 by omega]
                exact (pz_whl_y (by first | decide | omega) H28).symm
              exact ih4 _ _ (by first | decide | omega) hS (by first | omega | rfl | exact G2 | exact G31 | assumption) (by first | omega | rfl | exact G2 | exact G31 | assumption) (by first | omega | rfl | exact G2 | exact G31 | assumption) (by first | omega | rfl | exact G2 | exact G31 | assumption) (by first | omega | rfl | exact G2 | exact G31 | assumption)
    refine hgo (fun p => Nat.beq p 4 || Nat.beq p 37) 31 0 _ [] M ?_
    intro v2 e2 a2 b2
    rw [pz_wi (by first | decide | omega) (by first | decide | omega)] at e2
    have G2 : pz_whl pz_let (M 48) (M 4 1).toNat v2.toNat = pz_whl pz_let (M 48) (M 4 1).toNat y.toNat := by
      rw [show v2.toNat = y.toNat + 1 by omega]
      exact (pz_whl_y (by first | decide | omega) p6).symm
    exact L4 _ _ _ (Nat.lt_succ_self _) hS (by first | omega | rfl | exact G2 | exact G31 | assumption) (by first | omega | rfl | exact G2 | exact G31 | assumption) (by first | omega | rfl | exact G2 | exact G31 | assumption) (by first | omega | rfl | exact G2 | exact G31 | assumption) (by first | omega | rfl | exact G2 | exact G31 | assumption)
theorem v_X7_takeWord {fr lo i : Nat} {own : String} (h1 : 5 + 1 ≤ fr) (h2 : 8 + (4 + 11) + 112 ≤ lo) (h3 : .methodLink own i yX7_takeWord ∈ lw_tbl) : pz_cV fr lo own i k_X7_takeWord :=
  pz_cVk (maxL := 4) (fr' := 5) (lo' := 112) 2 7 h_X7_takeWord rfl ⟨(pz_nhc_RX7 yX7_takeWord rfl).1, (pz_nhc_RX7 yX7_takeWord rfl).2, pz_ds10⟩ ⟨pz_wq673, pz_wq671, pz_wq672, pz_wq9⟩ (Or.inl ⟨TX7, 5, rfl⟩) (fun a M _ h => by
    have h : (match (generalizing := false) a with | [.inr (.inr (7, th)), .inl x, .inl y] => pz_ic M ∧ 0 ≤ x ∧ x ≤ 400 ∧ 0 ≤ y ∧ y < 400 ∧ y < M 4 1 ∧ pz_let (M 48 y.toNat) = true | _ => False) := h
    split at h
    · exact ⟨_, _, rfl⟩
    · exact h.elim) h1 h2 h3
noncomputable def k_X7_takeNumber : pz_C := (3, 1, fun a M => (match a with | [.inr (.inr (7, th)), .inl x, .inl y] => pz_ic M ∧ 0 ≤ x ∧ x ≤ 400 ∧ 0 ≤ y ∧ y < 400 ∧ y < M 4 1 ∧ ¬ pz_let (M 48 y.toNat) = true ∧ pz_dig (M 48 y.toNat) = true | _ => False), fun a M r M' => (match a, r with | [.inr (.inr (7, th)), .inl x, .inl y], some (.inl v) => (v = (pz_te (M 48) (M 4 1).toNat y.toNat : Int) ∧ ∃ z : Int, (pz_tt (M 48) (M 4 1).toNat y.toNat = 100 → z = pz_tx (M 48) (M 4 1).toNat y.toNat) ∧ M' = pz_u (pz_u M 49 x.toNat (pz_tt (M 48) (M 4 1).toNat y.toNat)) 50 x.toNat z) ∧ pz_st M M' | _, _ => False))
noncomputable abbrev ct_X7_takeNumber : List (Bool × Nat × pz_C) := [(false, 37, k_X7_isDigit)]
set_option maxRecDepth 100000 in
set_option maxHeartbeats 4000000 in
theorem h_X7_takeNumber : pz_H yX7_takeNumber cX7_takeNumber 5 (some .int) k_X7_takeNumber 1 20 := by
  refine pz_mk (own := RX7) (tb := t_X7_takeNumber) (fl := pz_flf fl_RX7) (ci := pz_cif ci_RX7) (ct := pz_ctf ct_X7_takeNumber) (rz := false) (pz_pfc_RX7 yX7_takeNumber rfl) rfl t_X7_takeNumber_ok (pz_flk fl_RX7_ok) (pz_cik ci_RX7_ok) ?_ ?_ (Or.inl ⟨rfl, rfl⟩) ?_ ?_
  · exact fun i k' h => pz_ctk (l := ct_X7_takeNumber) (P := fun b i k => b = true → pz_cV 1 20 RX7 i k) (List.forall_mem_cons.mpr ⟨((fun z => by cases z)), fun _ h => absurd h List.not_mem_nil⟩) true i k' h rfl
  · exact fun i k' h => pz_ctk (l := ct_X7_takeNumber) (P := fun b i k => b = false → (pz_cS 1 20 RX7 i k ∨ (k = pz_kac ∧ 1 ≤ 1 ∧ 60 ≤ 20 ∧ Cond.methodLink RX7 i arraycopyName ∈ pz_tbl))) (List.forall_mem_cons.mpr ⟨(fun _ => Or.inl (s_X7_isDigit (by decide) (by decide) (Or.inl pz_wq727))), fun _ h => absurd h List.not_mem_nil⟩) false i k' h rfl
  · intro a M hlen hpre
    obtain ⟨th, x, y, rfl, hpre⟩ : ∃ th x y, a = [.inr (.inr (7, th)), .inl x, .inl y] ∧ (pz_ic M ∧ 0 ≤ x ∧ x ≤ 400 ∧ 0 ≤ y ∧ y < 400 ∧ y < M 4 1 ∧ ¬ pz_let (M 48 y.toNat) = true ∧ pz_dig (M 48 y.toNat) = true) := by
      have hpre : (match (generalizing := false) a with | [.inr (.inr (7, th)), .inl x, .inl y] => pz_ic M ∧ 0 ≤ x ∧ x ≤ 400 ∧ 0 ≤ y ∧ y < 400 ∧ y < M 4 1 ∧ ¬ pz_let (M 48 y.toNat) = true ∧ pz_dig (M 48 y.toNat) = true | _ => False) := hpre
      split at hpre
      · exact ⟨_, _, _, rfl, hpre⟩
      · exact hpre.elim
    exact Nat.le_of_ble_eq_true rfl
  · intro a M hlen hcan hM hpre Ok hgo
    obtain ⟨th, x, y, rfl, hpre⟩ : ∃ th x y, a = [.inr (.inr (7, th)), .inl x, .inl y] ∧ (pz_ic M ∧ 0 ≤ x ∧ x ≤ 400 ∧ 0 ≤ y ∧ y < 400 ∧ y < M 4 1 ∧ ¬ pz_let (M 48 y.toNat) = true ∧ pz_dig (M 48 y.toNat) = true) := by
      have hpre : (match (generalizing := false) a with | [.inr (.inr (7, th)), .inl x, .inl y] => pz_ic M ∧ 0 ≤ x ∧ x ≤ 400 ∧ 0 ≤ y ∧ y < 400 ∧ y < M 4 1 ∧ ¬ pz_let (M 48 y.toNat) = true ∧ pz_dig (M 48 y.toNat) = true | _ => False) := hpre
      split at hpre
      · exact ⟨_, _, _, rfl, hpre⟩
      · exact hpre.elim
    obtain ⟨k_th, hc_th⟩ := pz_tlm hcan
    have k_th : pz_kd th = 7 ∧ th < 231 := k_th
    have R_th := pz_kd7 k_th.1
    subst R_th
    obtain ⟨k_x, hc_x⟩ := pz_tlm hc_th
    have l_x : -2147483648 ≤ x := k_x.1
    have u_x : x ≤ 2147483647 := k_x.2
    obtain ⟨k_y, hc_y⟩ := pz_tlm hc_x
    have l_y : -2147483648 ≤ y := k_y.1
    have u_y : y ≤ 2147483647 := k_y.2
    have hI : pz_ic M := hpre.1
    have hI0 := hI
    have hS : pz_st M M := pz_st.rf
    obtain ⟨-, p1, p2, p3, p4, p5, p6⟩ := hpre
    have J41 := hI.2.2.2.2.1
    have L57 : ∀ (x3 : Int) (x4 : Int) (N57 : pz_M), (pz_st M N57) → (y ≤ x4) → (x4 ≤ 400) → (x4.toNat = pz_whl pz_dig (M 48) (M 4 1).toNat y.toNat) → (pz_dvx M y x4 x3) → (N57 = M) → Ok 57 [some (.inr (.inr (7, 4))), some (.inl x), some (.inl y), some (.inl x3), some (.inl x4)] [] N57 := by
      intro x3 x4 N57 hS g57_1 g57_2 g57_3 g57_4 g57_5
      have hI : pz_ic N57 := hS.1.1 hI0
      refine hgo (fun p => Nat.beq p 5 || Nat.beq p 57) 51 57 _ _ _ ?_
      refine pz_nrc (c := 49) rfl ?_
      intro v65 e65 a65 b65
      try rw [pz_wi (by first | decide | omega) (by first | decide | omega)] at e65
      refine And.intro (fun h67 => ?_) (fun h67 => ?_)
      · skip
        have T67 : pz_tt (M 48) (M 4 1).toNat y.toNat = 102 := by
          rw [pz_tt_d (by first | decide | omega) p6.1 p6.2, pz_te_d (by first | decide | omega) p6.1 p6.2, ← g57_3]
          exact if_neg (by first | decide | omega)
        have lo77 : (0 : Int) ≤ x := by omega
        have tn77 : (((x).toNat : Nat) : Int) = x := Int.toNat_of_nonneg lo77
        refine And.intro (lo77) (And.intro (show _ < (401 : Int) from by omega) ?_)
        intro M77 e77
        have hS : pz_st M M77 := by
          rw [e77]
          exact pz_st_u hS (by unfold pz_md pz_kx pz_mid; first | decide | omega) (by first | decide | omega) (by unfold pz_iok; first | decide | omega)
        have hI : pz_ic M77 := hS.1.1 hI0
        refine pz_nrc (c := 50) rfl ?_
        refine And.intro (lo77) (And.intro (show _ < (401 : Int) from by omega) ?_)
        intro M84 e84
        have hS : pz_st M M84 := by
          rw [e84]
          exact pz_st_u hS (by unfold pz_md pz_kx pz_mid; first | decide | omega) (by first | decide | omega) (by unfold pz_iok; first | decide | omega)
        have hI : pz_ic M84 := hS.1.1 hI0
        refine And.intro rfl ?_
        have E9 : (pz_te (M 48) (M 4 1).toNat y.toNat) = x4.toNat := by
          rw [pz_te_d (by first | decide | omega) p6.1 p6.2, g57_3]
        have F9 : M84 = pz_u (pz_u M 49 x.toNat (pz_tt (M 48) (M 4 1).toNat y.toNat)) 50 x.toNat x3 := by
          rw [e84, e77, g57_5, T67]
        refine ⟨⟨by rw [E9]; omega, x3, fun z => ?_, F9⟩, hS⟩
        have z9 := z
        rw [pz_tt_d (by first | decide | omega) p6.1 p6.2, E9] at z9
        have z8 : x4.toNat ≤ y.toNat + 4 := by
          split at z9
          · assumption
          · omega
        unfold pz_tx
        rw [E9, show x4.toNat - y.toNat = (x4 - y).toNat by omega]
        exact g57_4 (by first | decide | omega)
      · skip
        have T67 : pz_tt (M 48) (M 4 1).toNat y.toNat = 100 := by
          rw [pz_tt_d (by first | decide | omega) p6.1 p6.2, pz_te_d (by first | decide | omega) p6.1 p6.2, ← g57_3]
          exact if_pos (by first | decide | omega)
        have lo77 : (0 : Int) ≤ x := by omega
        have tn77 : (((x).toNat : Nat) : Int) = x := Int.toNat_of_nonneg lo77
        refine And.intro (lo77) (And.intro (show _ < (401 : Int) from by omega) ?_)
        intro M77 e77
        have hS : pz_st M M77 := by
          rw [e77]
          exact pz_st_u hS (by unfold pz_md pz_kx pz_mid; first | decide | omega) (by first | decide | omega) (by unfold pz_iok; first | decide | omega)
        have hI : pz_ic M77 := hS.1.1 hI0
        refine pz_nrc (c := 50) rfl ?_
        refine And.intro (lo77) (And.intro (show _ < (401 : Int) from by omega) ?_)
        intro M84 e84
        have hS : pz_st M M84 := by
          rw [e84]
          exact pz_st_u hS (by unfold pz_md pz_kx pz_mid; first | decide | omega) (by first | decide | omega) (by unfold pz_iok; first | decide | omega)
        have hI : pz_ic M84 := hS.1.1 hI0
        refine And.intro rfl ?_
        have E9 : (pz_te (M 48) (M 4 1).toNat y.toNat) = x4.toNat := by
          rw [pz_te_d (by first | decide | omega) p6.1 p6.2, g57_3]
        have F9 : M84 = pz_u (pz_u M 49 x.toNat (pz_tt (M 48) (M 4 1).toNat y.toNat)) 50 x.toNat x3 := by
          rw [e84, e77, g57_5, T67]
        refine ⟨⟨by rw [E9]; omega, x3, fun z => ?_, F9⟩, hS⟩
        have z9 := z
        rw [pz_tt_d (by first | decide | omega) p6.1 p6.2, E9] at z9
        have z8 : x4.toNat ≤ y.toNat + 4 := by
          split at z9
          · assumption
          · omega
        unfold pz_tx
        rw [E9, show x4.toNat - y.toNat = (x4 - y).toNat by omega]
        exact g57_4 (by first | decide | omega)
    have L5 : ∀ (fu : Nat) (x3 : Int) (x4 : Int) (N5 : pz_M), (400 - x4).toNat < fu → (pz_st M N5) → (y ≤ x4) → (x4 ≤ M 4 1) → (M 4 1 ≤ 400) → (pz_whl pz_dig (M 48) (M 4 1).toNat x4.toNat = pz_whl pz_dig (M 48) (M 4 1).toNat y.toNat) → (pz_dvx M y x4 x3) → (N5 = M) → Ok 5 [some (.inr (.inr (7, 4))), some (.inl x), some (.inl y), some (.inl x3), some (.inl x4)] [] N5 := by
      intro fu
      induction fu with
      | zero => exact fun _ _ _ hn => absurd hn (Nat.not_lt_zero _)
      | succ fu ih5 =>
        intro x3 x4 N5 hn5 hS g5_1 g5_2 g5_3 g5_4 g5_5 g5_6
        have hI : pz_ic N5 := hS.1.1 hI0
        have Z41 : N5 4 1 = M 4 1 := by rw [g5_6]
        have Z48 : ∀ j, N5 48 j = M 48 j := fun j => by rw [g5_6]
        refine hgo (fun p => Nat.beq p 5 || Nat.beq p 57) 51 5 _ _ _ ?_
        intro v8 e8 a8 b8
        have I8 := hI.2.2.2.2.1
        refine And.intro (fun h11 => ?_) (fun h11 => ?_)
        · skip
          have G11 : x4.toNat = pz_whl pz_dig (M 48) (M 4 1).toNat y.toNat := by
            rw [← g5_4]
            exact (pz_whl_n (fun z => absurd z.1 (by first | decide | omega))).symm
          exact L57 _ _ _ hS (by first | omega | exact G11 | exact G32 | assumption) (by first | omega | exact G11 | exact G32 | assumption) (by first | omega | exact G11 | exact G32 | assumption) (by first | omega | exact G11 | exact G32 | assumption) (by first | omega | exact G11 | exact G32 | assumption)
        · skip
          skip
          refine And.intro (fun h19 => ?_) (fun h19 => ?_)
          · skip
            exfalso; omega
          · skip
            refine pz_nrc (c := 48) rfl ?_
            have lo28 : (0 : Int) ≤ x4 := by omega
            have tn28 : (((x4).toNat : Nat) : Int) = x4 := Int.toNat_of_nonneg lo28
            refine And.intro (lo28) (And.intro (show _ < (400 : Int) from by omega) ?_)
            intro v28 e28 a28 b28
            refine And.intro (True.intro) ?_
            intro v29 M29 a29 b29 q29
            obtain ⟨q29, z29⟩ := q29
            subst z29
            refine And.intro (fun h32 => ?_) (fun h32 => ?_)
            · skip
              have G32 : x4.toNat = pz_whl pz_dig (M 48) (M 4 1).toNat y.toNat := by
                rw [← g5_4]
                exact (pz_whl_n (fun z => (q29.resolve_left (fun y => absurd (y.1.symm.trans h32) (by decide))).2 (by rw [e28, Z48]; exact z.2))).symm
              exact L57 _ _ _ hS (by first | omega | exact G11 | exact G32 | assumption) (by first | omega | exact G11 | exact G32 | assumption) (by first | omega | exact G11 | exact G32 | assumption) (by first | omega | exact G11 | exact G32 | assumption) (by first | omega | exact G11 | exact G32 | assumption)
            · skip
              have H32 : pz_dig (M 48 x4.toNat) = true := by
                rw [← Z48, ← e28]
                exact (q29.resolve_right (fun y => h32 y.1)).2
              have H32d := pz_dig_i.mp H32
              intro v38 e38 a38 b38
              refine pz_nrc (c := 48) rfl ?_
              refine And.intro (lo28) (And.intro (show _ < (400 : Int) from by omega) ?_)
              intro v45 e45 a45 b45
              intro v46 e46 a46 b46
              intro v49 e49 a49 b49
              intro v51 e51 a51 b51
              rw [pz_wi (by first | decide | omega) (by first | decide | omega)] at e51
              have G51 : pz_whl pz_dig (M 48) (M 4 1).toNat v51.toNat = pz_whl pz_dig (M 48) (M 4 1).toNat y.toNat := by
                rw [← g5_4, show v51.toNat = x4.toNat + 1 by omega]
                exact (pz_whl_y (by first | decide | omega) H32).symm
              have G51a : pz_dvx M y v51 v49 := pz_dvx_s (by first | decide | omega) g5_5 (by first | decide | omega) g5_4 (by rw [e45, Z48]) (by rw [e45, Z48]; exact H32d) e38 e46 e49 e51
              exact ih5 _ _ _ (by first | decide | omega) hS (by first | omega | rfl | exact pz_dvx_0 | exact G51 | exact G51a | assumption) (by first | omega | rfl | exact pz_dvx_0 | exact G51 | exact G51a | assumption) (by first | omega | rfl | exact pz_dvx_0 | exact G51 | exact G51a | assumption) (by first | omega | rfl | exact pz_dvx_0 | exact G51 | exact G51a | assumption) (by first | omega | rfl | exact pz_dvx_0 | exact G51 | exact G51a | assumption) (by first | omega | rfl | exact pz_dvx_0 | exact G51 | exact G51a | assumption)
    refine hgo (fun p => Nat.beq p 5 || Nat.beq p 57) 51 0 _ [] M ?_
    exact L5 _ _ _ _ (Nat.lt_succ_self _) hS (by first | omega | rfl | exact pz_dvx_0 | exact G51 | exact G51a | assumption) (by first | omega | rfl | exact pz_dvx_0 | exact G51 | exact G51a | assumption) (by first | omega | rfl | exact pz_dvx_0 | exact G51 | exact G51a | assumption) (by first | omega | rfl | exact pz_dvx_0 | exact G51 | exact G51a | assumption) (by first | omega | rfl | exact pz_dvx_0 | exact G51 | exact G51a | assumption) (by first | omega | rfl | exact pz_dvx_0 | exact G51 | exact G51a | assumption)
theorem v_X7_takeNumber {fr lo i : Nat} {own : String} (h1 : 1 + 1 ≤ fr) (h2 : 8 + (5 + 11) + 20 ≤ lo) (h3 : .methodLink own i yX7_takeNumber ∈ lw_tbl) : pz_cV fr lo own i k_X7_takeNumber :=
  pz_cVk (maxL := 5) (fr' := 1) (lo' := 20) 2 7 h_X7_takeNumber rfl ⟨(pz_nhc_RX7 yX7_takeNumber rfl).1, (pz_nhc_RX7 yX7_takeNumber rfl).2, pz_ds10⟩ ⟨pz_wq733, pz_wq731, pz_wq732, pz_wq9⟩ (Or.inl ⟨TX7, 5, rfl⟩) (fun a M _ h => by
    have h : (match (generalizing := false) a with | [.inr (.inr (7, th)), .inl x, .inl y] => pz_ic M ∧ 0 ≤ x ∧ x ≤ 400 ∧ 0 ≤ y ∧ y < 400 ∧ y < M 4 1 ∧ ¬ pz_let (M 48 y.toNat) = true ∧ pz_dig (M 48 y.toNat) = true | _ => False) := h
    split at h
    · exact ⟨_, _, rfl⟩
    · exact h.elim) h1 h2 h3
noncomputable def k_X7_takeSign : pz_C := (3, 1, fun a M => (match a with | [.inr (.inr (7, th)), .inl x, .inl y] => pz_ic M ∧ 0 ≤ x ∧ x ≤ 400 ∧ 0 ≤ y ∧ y < 400 ∧ y < M 4 1 ∧ ¬ pz_let (M 48 y.toNat) = true ∧ ¬ pz_dig (M 48 y.toNat) = true | _ => False), fun a M r M' => (match a, r with | [.inr (.inr (7, th)), .inl x, .inl y], some (.inl v) => (v = (pz_te (M 48) (M 4 1).toNat y.toNat : Int) ∧ M' = pz_u M 49 x.toNat (pz_tt (M 48) (M 4 1).toNat y.toNat)) ∧ pz_st M M' | _, _ => False))
noncomputable abbrev ct_X7_takeSign : List (Bool × Nat × pz_C) := [(false, 49, k_X7_isSign)]
set_option maxRecDepth 100000 in
set_option maxHeartbeats 4000000 in
theorem h_X7_takeSign : pz_H yX7_takeSign cX7_takeSign 3 (some .int) k_X7_takeSign 1 20 := by
  refine pz_mk (own := RX7) (tb := t_X7_takeSign) (fl := pz_flf fl_RX7) (ci := pz_cif ci_RX7) (ct := pz_ctf ct_X7_takeSign) (rz := false) (pz_pfc_RX7 yX7_takeSign rfl) rfl t_X7_takeSign_ok (pz_flk fl_RX7_ok) (pz_cik ci_RX7_ok) ?_ ?_ (Or.inl ⟨rfl, rfl⟩) ?_ ?_
  · exact fun i k' h => pz_ctk (l := ct_X7_takeSign) (P := fun b i k => b = true → pz_cV 1 20 RX7 i k) (List.forall_mem_cons.mpr ⟨((fun z => by cases z)), fun _ h => absurd h List.not_mem_nil⟩) true i k' h rfl
  · exact fun i k' h => pz_ctk (l := ct_X7_takeSign) (P := fun b i k => b = false → (pz_cS 1 20 RX7 i k ∨ (k = pz_kac ∧ 1 ≤ 1 ∧ 60 ≤ 20 ∧ Cond.methodLink RX7 i arraycopyName ∈ pz_tbl))) (List.forall_mem_cons.mpr ⟨(fun _ => Or.inl (s_X7_isSign (by decide) (by decide) (Or.inl pz_wq738))), fun _ h => absurd h List.not_mem_nil⟩) false i k' h rfl
  · intro a M hlen hpre
    obtain ⟨th, x, y, rfl, hpre⟩ : ∃ th x y, a = [.inr (.inr (7, th)), .inl x, .inl y] ∧ (pz_ic M ∧ 0 ≤ x ∧ x ≤ 400 ∧ 0 ≤ y ∧ y < 400 ∧ y < M 4 1 ∧ ¬ pz_let (M 48 y.toNat) = true ∧ ¬ pz_dig (M 48 y.toNat) = true) := by
      have hpre : (match (generalizing := false) a with | [.inr (.inr (7, th)), .inl x, .inl y] => pz_ic M ∧ 0 ≤ x ∧ x ≤ 400 ∧ 0 ≤ y ∧ y < 400 ∧ y < M 4 1 ∧ ¬ pz_let (M 48 y.toNat) = true ∧ ¬ pz_dig (M 48 y.toNat) = true | _ => False) := hpre
      split at hpre
      · exact ⟨_, _, _, rfl, hpre⟩
      · exact hpre.elim
    exact Nat.le_of_ble_eq_true rfl
  · intro a M hlen hcan hM hpre Ok hgo
    obtain ⟨th, x, y, rfl, hpre⟩ : ∃ th x y, a = [.inr (.inr (7, th)), .inl x, .inl y] ∧ (pz_ic M ∧ 0 ≤ x ∧ x ≤ 400 ∧ 0 ≤ y ∧ y < 400 ∧ y < M 4 1 ∧ ¬ pz_let (M 48 y.toNat) = true ∧ ¬ pz_dig (M 48 y.toNat) = true) := by
      have hpre : (match (generalizing := false) a with | [.inr (.inr (7, th)), .inl x, .inl y] => pz_ic M ∧ 0 ≤ x ∧ x ≤ 400 ∧ 0 ≤ y ∧ y < 400 ∧ y < M 4 1 ∧ ¬ pz_let (M 48 y.toNat) = true ∧ ¬ pz_dig (M 48 y.toNat) = true | _ => False) := hpre
      split at hpre
      · exact ⟨_, _, _, rfl, hpre⟩
      · exact hpre.elim
    obtain ⟨k_th, hc_th⟩ := pz_tlm hcan
    have k_th : pz_kd th = 7 ∧ th < 231 := k_th
    have R_th := pz_kd7 k_th.1
    subst R_th
    obtain ⟨k_x, hc_x⟩ := pz_tlm hc_th
    have l_x : -2147483648 ≤ x := k_x.1
    have u_x : x ≤ 2147483647 := k_x.2
    obtain ⟨k_y, hc_y⟩ := pz_tlm hc_x
    have l_y : -2147483648 ≤ y := k_y.1
    have u_y : y ≤ 2147483647 := k_y.2
    have hI : pz_ic M := hpre.1
    have hI0 := hI
    have hS : pz_st M M := pz_st.rf
    obtain ⟨-, p1, p2, p3, p4, p5, p6⟩ := hpre
    have J41 := hI.2.2.2.2.1
    refine hgo (fun _ => false) 22 0 _ [] M ?_
    refine pz_nrc (c := 49) rfl ?_
    refine pz_nrc (c := 48) rfl ?_
    have lo10 : (0 : Int) ≤ y := by omega
    have tn10 : (((y).toNat : Nat) : Int) = y := Int.toNat_of_nonneg lo10
    refine And.intro (lo10) (And.intro (show _ < (400 : Int) from by omega) ?_)
    intro v10 e10 a10 b10
    refine And.intro (True.intro) ?_
    intro v11 M11 a11 b11 q11
    obtain ⟨q11, z11⟩ := q11
    subst z11
    refine And.intro (fun h14 => ?_) (fun h14 => ?_)
    · skip
      have T14 : pz_tt (M 48) (M 4 1).toNat y.toNat = 102 := by
        rw [pz_tt_s (by first | decide | omega) p6.1 p6.2]
        exact if_neg (fun z => (q11.resolve_left (fun y => absurd (y.1.symm.trans h14) (by decide))).2 (by rw [e10]; exact z))
      have lo28 : (0 : Int) ≤ x := by omega
      have tn28 : (((x).toNat : Nat) : Int) = x := Int.toNat_of_nonneg lo28
      refine And.intro (lo28) (And.intro (show _ < (401 : Int) from by omega) ?_)
      intro M28 e28
      have hS : pz_st M M28 := by
        rw [e28]
        exact pz_st_u hS (by unfold pz_md pz_kx pz_mid; first | decide | omega) (by first | decide | omega) (by unfold pz_iok; first | decide | omega)
      have hI : pz_ic M28 := hS.1.1 hI0
      intro v31 e31 a31 b31
      try rw [pz_wi (by first | decide | omega) (by first | decide | omega)] at e31
      refine And.intro rfl ?_
      have E9 : (pz_te (M 48) (M 4 1).toNat y.toNat) = y.toNat + 1 := pz_te_s (by first | decide | omega) p6.1 p6.2
      exact ⟨⟨by rw [E9]; omega, by first | (rw [e28, e22, T14]; done) | (rw [e28, T14]; done)⟩, hS⟩
    · skip
      have T14 : pz_tt (M 48) (M 4 1).toNat y.toNat = M 48 y.toNat := by
        rw [pz_tt_s (by first | decide | omega) p6.1 p6.2]
        exact if_pos (by rw [← e10]; exact (q11.resolve_right (fun y => h14 y.1)).2)
      refine pz_nrc (c := 48) rfl ?_
      refine And.intro (lo10) (And.intro (show _ < (400 : Int) from by omega) ?_)
      intro v22 e22 a22 b22
      have lo28 : (0 : Int) ≤ x := by omega
      have tn28 : (((x).toNat : Nat) : Int) = x := Int.toNat_of_nonneg lo28
      refine And.intro (lo28) (And.intro (show _ < (401 : Int) from by omega) ?_)
      intro M28 e28
      have hS : pz_st M M28 := by
        rw [e28]
        exact pz_st_u hS (by unfold pz_md pz_kx pz_mid; first | decide | omega) (by first | decide | omega) (by unfold pz_iok; first | decide | omega)
      have hI : pz_ic M28 := hS.1.1 hI0
      intro v31 e31 a31 b31
      try rw [pz_wi (by first | decide | omega) (by first | decide | omega)] at e31
      refine And.intro rfl ?_
      have E9 : (pz_te (M 48) (M 4 1).toNat y.toNat) = y.toNat + 1 := pz_te_s (by first | decide | omega) p6.1 p6.2
      exact ⟨⟨by rw [E9]; omega, by first | (rw [e28, e22, T14]; done) | (rw [e28, T14]; done)⟩, hS⟩
theorem v_X7_takeSign {fr lo i : Nat} {own : String} (h1 : 1 + 1 ≤ fr) (h2 : 8 + (3 + 11) + 20 ≤ lo) (h3 : .methodLink own i yX7_takeSign ∈ lw_tbl) : pz_cV fr lo own i k_X7_takeSign :=
  pz_cVk (maxL := 3) (fr' := 1) (lo' := 20) 2 7 h_X7_takeSign rfl ⟨(pz_nhc_RX7 yX7_takeSign rfl).1, (pz_nhc_RX7 yX7_takeSign rfl).2, pz_ds10⟩ ⟨pz_wq737, pz_wq735, pz_wq736, pz_wq9⟩ (Or.inl ⟨TX7, 5, rfl⟩) (fun a M _ h => by
    have h : (match (generalizing := false) a with | [.inr (.inr (7, th)), .inl x, .inl y] => pz_ic M ∧ 0 ≤ x ∧ x ≤ 400 ∧ 0 ≤ y ∧ y < 400 ∧ y < M 4 1 ∧ ¬ pz_let (M 48 y.toNat) = true ∧ ¬ pz_dig (M 48 y.toNat) = true | _ => False) := h
    split at h
    · exact ⟨_, _, rfl⟩
    · exact h.elim) h1 h2 h3
noncomputable def k_X7_scan : pz_C := (1, 0, fun a M => (match a with | [.inr (.inr (7, th))] => pz_ic M | _ => False), fun a M r M' => (match a, r with | [.inr (.inr (7, th))], none => (∃ c : Nat, c ≤ 400 ∧ pz_tp (M 48) (M 4 1).toNat c = (M 4 1).toNat ∧ pz_tks (M 48) (M 4 1).toNat ((c : Int) + 1) M' ∧ pz_fr M M') ∧ pz_st M M' | _, _ => False))
noncomputable abbrev ct_X7_scan : List (Bool × Nat × pz_C) := [(false, 29, k_X7_isLetter), (true, 33, k_X7_takeWord), (false, 37, k_X7_isDigit), (true, 40, k_X7_takeNumber), (true, 43, k_X7_takeSign)]
set_option maxRecDepth 100000 in
set_option maxHeartbeats 4000000 in
theorem h_X7_scan : pz_H yX7_scan cX7_scan 5 none k_X7_scan 6 135 := by
  refine pz_mk (own := RX7) (tb := t_X7_scan) (fl := pz_flf fl_RX7) (ci := pz_cif ci_RX7) (ct := pz_ctf ct_X7_scan) (rz := false) (pz_pfc_RX7 yX7_scan rfl) rfl t_X7_scan_ok (pz_flk fl_RX7_ok) (pz_cik ci_RX7_ok) ?_ ?_ (rfl) ?_ ?_
  · exact fun i k' h => pz_ctk (l := ct_X7_scan) (P := fun b i k => b = true → pz_cV 6 135 RX7 i k) (List.forall_mem_cons.mpr ⟨((fun z => by cases z)), List.forall_mem_cons.mpr ⟨(fun _ => v_X7_takeWord (by decide) (by decide) pz_wq670), List.forall_mem_cons.mpr ⟨((fun z => by cases z)), List.forall_mem_cons.mpr ⟨(fun _ => v_X7_takeNumber (by decide) (by decide) pz_wq730), List.forall_mem_cons.mpr ⟨(fun _ => v_X7_takeSign (by decide) (by decide) pz_wq734), fun _ h => absurd h List.not_mem_nil⟩⟩⟩⟩⟩) true i k' h rfl
  · exact fun i k' h => pz_ctk (l := ct_X7_scan) (P := fun b i k => b = false → (pz_cS 6 135 RX7 i k ∨ (k = pz_kac ∧ 1 ≤ 6 ∧ 60 ≤ 135 ∧ Cond.methodLink RX7 i arraycopyName ∈ pz_tbl))) (List.forall_mem_cons.mpr ⟨(fun _ => Or.inl (s_X7_isLetter (by decide) (by decide) (Or.inl pz_wq667))), List.forall_mem_cons.mpr ⟨((fun z => by cases z)), List.forall_mem_cons.mpr ⟨(fun _ => Or.inl (s_X7_isDigit (by decide) (by decide) (Or.inl pz_wq727))), List.forall_mem_cons.mpr ⟨((fun z => by cases z)), List.forall_mem_cons.mpr ⟨((fun z => by cases z)), fun _ h => absurd h List.not_mem_nil⟩⟩⟩⟩⟩) false i k' h rfl
  · intro a M hlen hpre
    obtain ⟨th, rfl, hpre⟩ : ∃ th, a = [.inr (.inr (7, th))] ∧ (pz_ic M) := by
      have hpre : (match (generalizing := false) a with | [.inr (.inr (7, th))] => pz_ic M | _ => False) := hpre
      split at hpre
      · exact ⟨_, rfl, hpre⟩
      · exact hpre.elim
    exact Nat.le_of_ble_eq_true rfl
  · intro a M hlen hcan hM hpre Ok hgo
    obtain ⟨th, rfl, hpre⟩ : ∃ th, a = [.inr (.inr (7, th))] ∧ (pz_ic M) := by
      have hpre : (match (generalizing := false) a with | [.inr (.inr (7, th))] => pz_ic M | _ => False) := hpre
      split at hpre
      · exact ⟨_, rfl, hpre⟩
      · exact hpre.elim
    obtain ⟨k_th, hc_th⟩ := pz_tlm hcan
    have k_th : pz_kd th = 7 ∧ th < 231 := k_th
    have R_th := pz_kd7 k_th.1
    subst R_th
    have hI : pz_ic M := hpre
    have hI0 := hI
    have hS : pz_st M M := pz_st.rf
    have J41 := hI.2.2.2.2.1
    have W0 : pz_tp (M 48) (M 4 1).toNat 0 = pz_whl pz_bla (M 48) (M 4 1).toNat 0 := rfl
    have L6 : ∀ (fu : Nat) (x1 : Int) (x2 : Int) (x3 : Int) (d4 : Option pz_V) (N6 : pz_M), (400 - x3).toNat < fu → (pz_st M N6) → (0 ≤ x1) → (x1 ≤ x3) → (x3 ≤ M 4 1) → (M 4 1 ≤ 400) → (0 ≤ x2) → (x2 ≤ M 4 1) → (pz_tp (M 48) (M 4 1).toNat x1.toNat = pz_whl pz_bla (M 48) (M 4 1).toNat (max x3 x2).toNat) → (pz_tks (M 48) (M 4 1).toNat x1 N6) → (pz_fr M N6) → Ok 6 [some (.inr (.inr (7, 4))), some (.inl x1), some (.inl x2), some (.inl x3), d4] [] N6 := by
      intro fu
      induction fu with
      | zero => exact fun _ _ _ _ _ hn => absurd hn (Nat.not_lt_zero _)
      | succ fu ih6 =>
        intro x1 x2 x3 d4 N6 hn6 hS g6_1 g6_2 g6_3 g6_4 g6_5 g6_6 g6_7 g6_8 g6_9
        have hI : pz_ic N6 := hS.1.1 hI0
        have Z48 : N6 48 = M 48 := funext fun j => g6_9 48 j (Or.inl (by decide))
        have Z41 : N6 4 1 = M 4 1 := g6_9 4 1 (Or.inl (by decide))
        have L99 : ∀ (x1 : Int) (x2 : Int) (x3 : Int) (x4 : Int) (N99 : pz_M), (pz_st M N99) → (0 ≤ x1) → (x1 ≤ x3 + 1) → (x3 < M 4 1) → (0 ≤ x3) → ((400 - x3).toNat < fu + 1) → (M 4 1 ≤ 400) → (0 ≤ x2) → (x2 ≤ M 4 1) → (pz_tp (M 48) (M 4 1).toNat x1.toNat = pz_whl pz_bla (M 48) (M 4 1).toNat (max (x3 + 1) x2).toNat) → (pz_tks (M 48) (M 4 1).toNat x1 N99) → (pz_fr M N99) → Ok 99 [some (.inr (.inr (7, 4))), some (.inl x1), some (.inl x2), some (.inl x3), some (.inl x4)] [] N99 := by
          intro x1 x2 x3 x4 N99 hS g99_1 g99_2 g99_3 g99_4 g99_5 g99_6 g99_7 g99_8 g99_9 g99_10 g99_11
          have hI : pz_ic N99 := hS.1.1 hI0
          refine hgo (fun p => Nat.beq p 6 || Nat.beq p 95 || Nat.beq p 99) 70 99 _ _ _ ?_
          intro v99 e99 a99 b99
          try rw [pz_wi (by first | decide | omega) (by first | decide | omega)] at e99
          exact ih6 _ _ _ _ _ (by first | decide | omega) hS (by first | omega | exact pz_tks_0 | exact (fun _ _ _ => rfl) | exact W0 | assumption | (rw [g99_9]; congr 1; omega)) (by first | omega | exact pz_tks_0 | exact (fun _ _ _ => rfl) | exact W0 | assumption | (rw [g99_9]; congr 1; omega)) (by first | omega | exact pz_tks_0 | exact (fun _ _ _ => rfl) | exact W0 | assumption | (rw [g99_9]; congr 1; omega)) (by first | omega | exact pz_tks_0 | exact (fun _ _ _ => rfl) | exact W0 | assumption | (rw [g99_9]; congr 1; omega)) (by first | omega | exact pz_tks_0 | exact (fun _ _ _ => rfl) | exact W0 | assumption | (rw [g99_9]; congr 1; omega)) (by first | omega | exact pz_tks_0 | exact (fun _ _ _ => rfl) | exact W0 | assumption | (rw [g99_9]; congr 1; omega)) (by first | omega | exact pz_tks_0 | exact (fun _ _ _ => rfl) | exact W0 | assumption | (rw [g99_9]; congr 1; omega)) (by first | omega | exact pz_tks_0 | exact (fun _ _ _ => rfl) | exact W0 | assumption | (rw [g99_9]; congr 1; omega)) (by first | omega | exact pz_tks_0 | exact (fun _ _ _ => rfl) | exact W0 | assumption | (rw [g99_9]; congr 1; omega))
        have L95 : ∀ (x1 : Int) (x2 : Int) (x3 : Int) (x4 : Int) (s0 : Int) (N95 : pz_M), (pz_st M N95) → (0 ≤ x1) → (x1 ≤ x3) → (x3 < M 4 1) → (0 ≤ x3) → ((400 - x3).toNat < fu + 1) → (M 4 1 ≤ 400) → (s0 = (pz_te (M 48) (M 4 1).toNat x3.toNat : Int)) → (pz_tp (M 48) (M 4 1).toNat x1.toNat = x3.toNat) → (pz_tks (M 48) (M 4 1).toNat (x1 + 1) N95) → (pz_fr M N95) → Ok 95 [some (.inr (.inr (7, 4))), some (.inl x1), some (.inl x2), some (.inl x3), some (.inl x4)] [.inl s0] N95 := by
          intro x1 x2 x3 x4 s0 N95 hS g95_1 g95_2 g95_3 g95_4 g95_5 g95_6 g95_7 g95_8 g95_9 g95_10
          have hI : pz_ic N95 := hS.1.1 hI0
          refine hgo (fun p => Nat.beq p 6 || Nat.beq p 95 || Nat.beq p 99) 70 95 _ _ _ ?_
          intro v96 e96 a96 b96
          rw [pz_wi (by first | decide | omega) (by first | decide | omega)] at e96
          have E96 := pz_te_lt (B := M 48) (n := (M 4 1).toNat) (p := x3.toNat) (by first | decide | omega)
          have G96 : pz_tp (M 48) (M 4 1).toNat v96.toNat = pz_whl pz_bla (M 48) (M 4 1).toNat (max (x3 + 1) s0).toNat := by
            rw [show v96.toNat = x1.toNat + 1 by omega]
            show pz_whl pz_bla (M 48) (M 4 1).toNat (pz_te (M 48) (M 4 1).toNat (pz_tp (M 48) (M 4 1).toNat x1.toNat)) = _
            rw [g95_8, show (max (x3 + 1) s0).toNat = pz_te (M 48) (M 4 1).toNat x3.toNat by omega]
          have G96a : pz_tks (M 48) (M 4 1).toNat v96 N95 := by rw [e96]; exact g95_9
          exact L99 _ _ _ _ _ hS (by first | omega | assumption | exact G31 | exact G38 | exact G45 | exact G96 | exact G96a) (by first | omega | assumption | exact G31 | exact G38 | exact G45 | exact G96 | exact G96a) (by first | omega | assumption | exact G31 | exact G38 | exact G45 | exact G96 | exact G96a) (by first | omega | assumption | exact G31 | exact G38 | exact G45 | exact G96 | exact G96a) (by first | omega | assumption | exact G31 | exact G38 | exact G45 | exact G96 | exact G96a) (by first | omega | assumption | exact G31 | exact G38 | exact G45 | exact G96 | exact G96a) (by first | omega | assumption | exact G31 | exact G38 | exact G45 | exact G96 | exact G96a) (by first | omega | assumption | exact G31 | exact G38 | exact G45 | exact G96 | exact G96a) (by first | omega | assumption | exact G31 | exact G38 | exact G45 | exact G96 | exact G96a) (by first | omega | assumption | exact G31 | exact G38 | exact G45 | exact G96 | exact G96a) (by first | omega | assumption | exact G31 | exact G38 | exact G45 | exact G96 | exact G96a)
        refine hgo (fun p => Nat.beq p 6 || Nat.beq p 95 || Nat.beq p 99) 70 6 _ _ _ ?_
        intro v8 e8 a8 b8
        have I8 := hI.2.2.2.2.1
        refine And.intro (fun h11 => ?_) (fun h11 => ?_)
        · skip
          refine pz_nrc (c := 49) rfl ?_
          have lo112 : (0 : Int) ≤ x1 := by omega
          have tn112 : (((x1).toNat : Nat) : Int) = x1 := Int.toNat_of_nonneg lo112
          refine And.intro (lo112) (And.intro (show _ < (401 : Int) from by omega) ?_)
          intro M112 e112
          have hS : pz_st M M112 := by
            rw [e112]
            exact pz_st_u hS (by unfold pz_md pz_kx pz_mid; first | decide | omega) (by first | decide | omega) (by unfold pz_iok; first | decide | omega)
          have hI : pz_ic M112 := hS.1.1 hI0
          refine pz_nrc (c := 51) rfl ?_
          intro v119 e119 a119 b119
          have I119 := hI.2.2.2.2.1
          refine And.intro (lo112) (And.intro (show _ < (401 : Int) from by omega) ?_)
          intro M122 e122
          have hS : pz_st M M122 := by
            rw [e122]
            exact pz_st_u hS (by unfold pz_md pz_kx pz_mid; first | decide | omega) (by first | decide | omega) (by unfold pz_iok; first | decide | omega)
          have hI : pz_ic M122 := hS.1.1 hI0
          refine And.intro rfl ?_
          have T11 : pz_tp (M 48) (M 4 1).toNat x1.toNat = (M 4 1).toNat := by
            rw [g6_7, show (max x3 x2).toNat = (M 4 1).toNat by omega]
            exact pz_whl_n (fun z => absurd z.1 (by first | decide | omega))
          have V119 : v119 = M 4 1 := by rw [e119, e112, pz_una (by decide), Z41]
          refine ⟨⟨x1.toNat, by omega, T11, ?_, fun b j y => ?_⟩, hS⟩
          · refine pz_tks_s g6_1 g6_8 (fun b j y => ?_) (by first | decide | omega) ?_ ?_ ?_
            · rw [e122, pz_une (by first | decide | omega), e112, pz_une (by first | decide | omega)]
            · rw [e122, pz_uu, V119, T11]; omega
            · rw [e122, pz_una (by decide), e112, pz_uu]; unfold pz_T pz_tt; rw [if_pos (by first | decide | omega)]
            · intro y; unfold pz_T pz_tt at y; rw [if_pos (by first | decide | omega)] at y; omega
          · rw [e122, pz_une (by first | decide | omega), e112, pz_une (by first | decide | omega)]; exact g6_9 b j y
        · skip
          refine And.intro (fun h18 => ?_) (fun h18 => ?_)
          · skip
            exfalso; omega
          · skip
            refine pz_nrc (c := 48) rfl ?_
            have lo26 : (0 : Int) ≤ x3 := by omega
            have tn26 : (((x3).toNat : Nat) : Int) = x3 := Int.toNat_of_nonneg lo26
            refine And.intro (lo26) (And.intro (show _ < (400 : Int) from by omega) ?_)
            intro v26 e26 a26 b26
            have X26 : v26 = M 48 x3.toNat := by rw [e26, Z48]
            refine And.intro (fun h31 => ?_) (fun h31 => ?_)
            · skip
              have G31 : pz_tp (M 48) (M 4 1).toNat x1.toNat = pz_whl pz_bla (M 48) (M 4 1).toNat (max (x3 + 1) x2).toNat := by
                rw [g6_7]
                congr 1
                omega
              exact L99 _ _ _ _ _ hS (by first | omega | assumption | exact G31 | exact G38 | exact G45 | exact G96 | exact G96a) (by first | omega | assumption | exact G31 | exact G38 | exact G45 | exact G96 | exact G96a) (by first | omega | assumption | exact G31 | exact G38 | exact G45 | exact G96 | exact G96a) (by first | omega | assumption | exact G31 | exact G38 | exact G45 | exact G96 | exact G96a) (by first | omega | assumption | exact G31 | exact G38 | exact G45 | exact G96 | exact G96a) (by first | omega | assumption | exact G31 | exact G38 | exact G45 | exact G96 | exact G96a) (by first | omega | assumption | exact G31 | exact G38 | exact G45 | exact G96 | exact G96a) (by first | omega | assumption | exact G31 | exact G38 | exact G45 | exact G96 | exact G96a) (by first | omega | assumption | exact G31 | exact G38 | exact G45 | exact G96 | exact G96a) (by first | omega | assumption | exact G31 | exact G38 | exact G45 | exact G96 | exact G96a) (by first | omega | assumption | exact G31 | exact G38 | exact G45 | exact G96 | exact G96a)
            · skip
              rw [show (max x3 x2).toNat = x3.toNat by omega] at g6_7
              refine And.intro (fun h38 => ?_) (fun h38 => ?_)
              · skip
                have G38 : pz_tp (M 48) (M 4 1).toNat x1.toNat = pz_whl pz_bla (M 48) (M 4 1).toNat (max (x3 + 1) x2).toNat := by
                  rw [g6_7, pz_whl_y (by first | decide | omega) (by rw [pz_bla_i, ← X26]; exact Or.inl h38)]
                  congr 1
                  omega
                exact L99 _ _ _ _ _ hS (by first | omega | assumption | exact G31 | exact G38 | exact G45 | exact G96 | exact G96a) (by first | omega | assumption | exact G31 | exact G38 | exact G45 | exact G96 | exact G96a) (by first | omega | assumption | exact G31 | exact G38 | exact G45 | exact G96 | exact G96a) (by first | omega | assumption | exact G31 | exact G38 | exact G45 | exact G96 | exact G96a) (by first | omega | assumption | exact G31 | exact G38 | exact G45 | exact G96 | exact G96a) (by first | omega | assumption | exact G31 | exact G38 | exact G45 | exact G96 | exact G96a) (by first | omega | assumption | exact G31 | exact G38 | exact G45 | exact G96 | exact G96a) (by first | omega | assumption | exact G31 | exact G38 | exact G45 | exact G96 | exact G96a) (by first | omega | assumption | exact G31 | exact G38 | exact G45 | exact G96 | exact G96a) (by first | omega | assumption | exact G31 | exact G38 | exact G45 | exact G96 | exact G96a) (by first | omega | assumption | exact G31 | exact G38 | exact G45 | exact G96 | exact G96a)
              · skip
                skip
                refine And.intro (fun h45 => ?_) (fun h45 => ?_)
                · skip
                  have G45 : pz_tp (M 48) (M 4 1).toNat x1.toNat = pz_whl pz_bla (M 48) (M 4 1).toNat (max (x3 + 1) x2).toNat := by
                    rw [g6_7, pz_whl_y (by first | decide | omega) (by rw [pz_bla_i, ← X26]; exact Or.inr h45)]
                    congr 1
                    omega
                  exact L99 _ _ _ _ _ hS (by first | omega | assumption | exact G31 | exact G38 | exact G45 | exact G96 | exact G96a) (by first | omega | assumption | exact G31 | exact G38 | exact G45 | exact G96 | exact G96a) (by first | omega | assumption | exact G31 | exact G38 | exact G45 | exact G96 | exact G96a) (by first | omega | assumption | exact G31 | exact G38 | exact G45 | exact G96 | exact G96a) (by first | omega | assumption | exact G31 | exact G38 | exact G45 | exact G96 | exact G96a) (by first | omega | assumption | exact G31 | exact G38 | exact G45 | exact G96 | exact G96a) (by first | omega | assumption | exact G31 | exact G38 | exact G45 | exact G96 | exact G96a) (by first | omega | assumption | exact G31 | exact G38 | exact G45 | exact G96 | exact G96a) (by first | omega | assumption | exact G31 | exact G38 | exact G45 | exact G96 | exact G96a) (by first | omega | assumption | exact G31 | exact G38 | exact G45 | exact G96 | exact G96a) (by first | omega | assumption | exact G31 | exact G38 | exact G45 | exact G96 | exact G96a)
                · skip
                  have T45 : pz_tp (M 48) (M 4 1).toNat x1.toNat = x3.toNat := by
                    rw [g6_7]
                    exact pz_whl_n (fun z => by
                      have z2 := z.2
                      rw [pz_bla_i, ← X26] at z2
                      omega)
                  refine pz_nrc (c := 51) rfl ?_
                  have lo54 : (0 : Int) ≤ x1 := by omega
                  have tn54 : (((x1).toNat : Nat) : Int) = x1 := Int.toNat_of_nonneg lo54
                  refine And.intro (lo54) (And.intro (show _ < (401 : Int) from by omega) ?_)
                  intro M54 e54
                  have hS : pz_st M M54 := by
                    rw [e54]
                    exact pz_st_u hS (by unfold pz_md pz_kx pz_mid; first | decide | omega) (by first | decide | omega) (by unfold pz_iok; first | decide | omega)
                  have hI : pz_ic M54 := hS.1.1 hI0
                  have F54 : M54 48 = M 48 := funext fun j => by rw [e54, pz_una (by decide), Z48]
                  have Z54 : M54 4 1 = M 4 1 := by rw [e54, pz_una (by decide), Z41]
                  refine And.intro (True.intro) ?_
                  intro v57 M57 a57 b57 q57
                  obtain ⟨q57, z57⟩ := q57
                  subst z57
                  refine And.intro (fun h60 => ?_) (fun h60 => ?_)
                  · skip
                    have L57 : ¬ pz_let (M 48 x3.toNat) = true := by
                      rw [← X26]
                      exact (q57.resolve_left (fun y => absurd (y.1.symm.trans h60) (by decide))).2
                    refine And.intro (True.intro) ?_
                    intro v74 M74 a74 b74 q74
                    obtain ⟨q74, z74⟩ := q74
                    subst z74
                    refine And.intro (fun h77 => ?_) (fun h77 => ?_)
                    · skip
                      have L74 : ¬ pz_dig (M 48 x3.toNat) = true := by
                        rw [← X26]
                        exact (q74.resolve_left (fun y => absurd (y.1.symm.trans h77) (by decide))).2
                      refine And.intro (And.intro hI (And.intro (by first | decide | omega) (And.intro (by first | decide | omega) (And.intro (by first | decide | omega) (And.intro (by first | decide | omega) (And.intro (by rw [show M54 4 1 = M 4 1 from (hS.2.1)]; omega) (by rw [F54]; exact ⟨L57, L74⟩))))))) ?_
                      intro v92 M92 a92 b92 q92
                      obtain ⟨q92, z92⟩ := q92
                      have hS : pz_st M M92 := hS.tr z92
                      have hI : pz_ic M92 := hS.1.1 hI0
                      obtain ⟨q92a, q92b⟩ := q92
                      rw [F54, Z54] at q92a q92b
                      have A92 : ∀ b j : Nat, ¬ (b = 49 ∧ j = x1.toNat) → ¬ (b = 50 ∧ j = x1.toNat) → M92 b j = M54 b j := fun b j y y2 => by rw [q92b, pz_une y]
                      have B92 : M92 49 x1.toNat = pz_tt (M 48) (M 4 1).toNat x3.toNat := by rw [q92b]; exact pz_uu
                      have C92 : pz_tt (M 48) (M 4 1).toNat x3.toNat = 100 → M92 50 x1.toNat = pz_tx (M 48) (M 4 1).toNat x3.toNat := fun y => absurd y (fun y8 => by rw [pz_tt_s (by first | decide | omega) L57 L74] at y8; split at y8 <;> first | omega | (rename_i y9; have := pz_sgn_i.mp y9; omega))
                      have G92a : pz_tks (M 48) (M 4 1).toNat (x1 + 1) M92 := by
                        refine pz_tks_s g6_1 g6_8 (fun b j y => ?_) rfl ?_ ?_ ?_
                        · rw [A92 b j (by first | decide | omega) (by first | decide | omega), e54, pz_une (by first | decide | omega)]
                        · rw [A92 51 _ (by first | decide | omega) (by first | decide | omega), e54, pz_uu, T45]; omega
                        · rw [B92]; unfold pz_T; rw [T45]
                        · intro y; unfold pz_T at y; unfold pz_XV; rw [T45] at y ⊢; exact C92 y
                      have G92b : pz_fr M M92 := fun b j y => by rw [A92 b j (by first | decide | omega) (by first | decide | omega), e54, pz_une (by first | decide | omega)]; exact g6_9 b j y
                      have G92c : v92 = (pz_te (M 48) (M 4 1).toNat x3.toNat : Int) := q92a
                      exact L95 _ _ _ _ _ _ hS (by first | omega | assumption | exact G66c | exact G66a | exact G66b | exact G83c | exact G83a | exact G83b | exact G92c | exact G92a | exact G92b) (by first | omega | assumption | exact G66c | exact G66a | exact G66b | exact G83c | exact G83a | exact G83b | exact G92c | exact G92a | exact G92b) (by first | omega | assumption | exact G66c | exact G66a | exact G66b | exact G83c | exact G83a | exact G83b | exact G92c | exact G92a | exact G92b) (by first | omega | assumption | exact G66c | exact G66a | exact G66b | exact G83c | exact G83a | exact G83b | exact G92c | exact G92a | exact G92b) (by first | omega | assumption | exact G66c | exact G66a | exact G66b | exact G83c | exact G83a | exact G83b | exact G92c | exact G92a | exact G92b) (by first | omega | assumption | exact G66c | exact G66a | exact G66b | exact G83c | exact G83a | exact G83b | exact G92c | exact G92a | exact G92b) (by first | omega | assumption | exact G66c | exact G66a | exact G66b | exact G83c | exact G83a | exact G83b | exact G92c | exact G92a | exact G92b) (by first | omega | assumption | exact G66c | exact G66a | exact G66b | exact G83c | exact G83a | exact G83b | exact G92c | exact G92a | exact G92b) (by first | omega | assumption | exact G66c | exact G66a | exact G66b | exact G83c | exact G83a | exact G83b | exact G92c | exact G92a | exact G92b) (by first | omega | assumption | exact G66c | exact G66a | exact G66b | exact G83c | exact G83a | exact G83b | exact G92c | exact G92a | exact G92b)
                    · skip
                      have L74 : pz_dig (M 48 x3.toNat) = true := by
                        rw [← X26]
                        exact (q74.resolve_right (fun y => h77 y.1)).2
                      refine And.intro (And.intro hI (And.intro (by first | decide | omega) (And.intro (by first | decide | omega) (And.intro (by first | decide | omega) (And.intro (by first | decide | omega) (And.intro (by rw [show M54 4 1 = M 4 1 from (hS.2.1)]; omega) (by rw [F54]; exact ⟨L57, L74⟩))))))) ?_
                      intro v83 M83 a83 b83 q83
                      obtain ⟨q83, z83⟩ := q83
                      have hS : pz_st M M83 := hS.tr z83
                      have hI : pz_ic M83 := hS.1.1 hI0
                      obtain ⟨q83a, z9, q83c, q83b⟩ := q83
                      rw [F54, Z54] at q83a q83b q83c
                      have A83 : ∀ b j : Nat, ¬ (b = 49 ∧ j = x1.toNat) → ¬ (b = 50 ∧ j = x1.toNat) → M83 b j = M54 b j := fun b j y y2 => by rw [q83b, pz_une y2, pz_une y]
                      have B83 : M83 49 x1.toNat = pz_tt (M 48) (M 4 1).toNat x3.toNat := by rw [q83b, pz_una (by decide)]; exact pz_uu
                      have C83 : pz_tt (M 48) (M 4 1).toNat x3.toNat = 100 → M83 50 x1.toNat = pz_tx (M 48) (M 4 1).toNat x3.toNat := fun y => by rw [q83b, pz_uu]; exact q83c y
                      have G83a : pz_tks (M 48) (M 4 1).toNat (x1 + 1) M83 := by
                        refine pz_tks_s g6_1 g6_8 (fun b j y => ?_) rfl ?_ ?_ ?_
                        · rw [A83 b j (by first | decide | omega) (by first | decide | omega), e54, pz_une (by first | decide | omega)]
                        · rw [A83 51 _ (by first | decide | omega) (by first | decide | omega), e54, pz_uu, T45]; omega
                        · rw [B83]; unfold pz_T; rw [T45]
                        · intro y; unfold pz_T at y; unfold pz_XV; rw [T45] at y ⊢; exact C83 y
                      have G83b : pz_fr M M83 := fun b j y => by rw [A83 b j (by first | decide | omega) (by first | decide | omega), e54, pz_une (by first | decide | omega)]; exact g6_9 b j y
                      have G83c : v83 = (pz_te (M 48) (M 4 1).toNat x3.toNat : Int) := q83a
                      exact L95 _ _ _ _ _ _ hS (by first | omega | assumption | exact G66c | exact G66a | exact G66b | exact G83c | exact G83a | exact G83b | exact G92c | exact G92a | exact G92b) (by first | omega | assumption | exact G66c | exact G66a | exact G66b | exact G83c | exact G83a | exact G83b | exact G92c | exact G92a | exact G92b) (by first | omega | assumption | exact G66c | exact G66a | exact G66b | exact G83c | exact G83a | exact G83b | exact G92c | exact G92a | exact G92b) (by first | omega | assumption | exact G66c | exact G66a | exact G66b | exact G83c | exact G83a | exact G83b | exact G92c | exact G92a | exact G92b) (by first | omega | assumption | exact G66c | exact G66a | exact G66b | exact G83c | exact G83a | exact G83b | exact G92c | exact G92a | exact G92b) (by first | omega | assumption | exact G66c | exact G66a | exact G66b | exact G83c | exact G83a | exact G83b | exact G92c | exact G92a | exact G92b) (by first | omega | assumption | exact G66c | exact G66a | exact G66b | exact G83c | exact G83a | exact G83b | exact G92c | exact G92a | exact G92b) (by first | omega | assumption | exact G66c | exact G66a | exact G66b | exact G83c | exact G83a | exact G83b | exact G92c | exact G92a | exact G92b) (by first | omega | assumption | exact G66c | exact G66a | exact G66b | exact G83c | exact G83a | exact G83b | exact G92c | exact G92a | exact G92b) (by first | omega | assumption | exact G66c | exact G66a | exact G66b | exact G83c | exact G83a | exact G83b | exact G92c | exact G92a | exact G92b)
                  · skip
                    have L57 : pz_let (M 48 x3.toNat) = true := by
                      rw [← X26]
                      exact (q57.resolve_right (fun y => h60 y.1)).2
                    refine And.intro (And.intro hI (And.intro (by first | decide | omega) (And.intro (by first | decide | omega) (And.intro (by first | decide | omega) (And.intro (by first | decide | omega) (And.intro (by rw [show M54 4 1 = M 4 1 from (hS.2.1)]; omega) (by rw [F54]; exact L57))))))) ?_
                    intro v66 M66 a66 b66 q66
                    obtain ⟨q66, z66⟩ := q66
                    have hS : pz_st M M66 := hS.tr z66
                    have hI : pz_ic M66 := hS.1.1 hI0
                    obtain ⟨q66a, q66b⟩ := q66
                    rw [F54, Z54] at q66a q66b
                    have A66 : ∀ b j : Nat, ¬ (b = 49 ∧ j = x1.toNat) → ¬ (b = 50 ∧ j = x1.toNat) → M66 b j = M54 b j := fun b j y y2 => by rw [q66b, pz_une y]
                    have B66 : M66 49 x1.toNat = pz_tt (M 48) (M 4 1).toNat x3.toNat := by rw [q66b]; exact pz_uu
                    have C66 : pz_tt (M 48) (M 4 1).toNat x3.toNat = 100 → M66 50 x1.toNat = pz_tx (M 48) (M 4 1).toNat x3.toNat := fun y => absurd y (by rw [pz_tt_l (by first | decide | omega) L57]; have := pz_wd_r (B := M 48) (p := x3.toNat) (e := pz_te (M 48) (M 4 1).toNat x3.toNat); omega)
                    have G66a : pz_tks (M 48) (M 4 1).toNat (x1 + 1) M66 := by
                      refine pz_tks_s g6_1 g6_8 (fun b j y => ?_) rfl ?_ ?_ ?_
                      · rw [A66 b j (by first | decide | omega) (by first | decide | omega), e54, pz_une (by first | decide | omega)]
                      · rw [A66 51 _ (by first | decide | omega) (by first | decide | omega), e54, pz_uu, T45]; omega
                      · rw [B66]; unfold pz_T; rw [T45]
                      · intro y; unfold pz_T at y; unfold pz_XV; rw [T45] at y ⊢; exact C66 y
                    have G66b : pz_fr M M66 := fun b j y => by rw [A66 b j (by first | decide | omega) (by first | decide | omega), e54, pz_une (by first | decide | omega)]; exact g6_9 b j y
                    have G66c : v66 = (pz_te (M 48) (M 4 1).toNat x3.toNat : Int) := q66a
                    exact L95 _ _ _ _ _ _ hS (by first | omega | assumption | exact G66c | exact G66a | exact G66b | exact G83c | exact G83a | exact G83b | exact G92c | exact G92a | exact G92b) (by first | omega | assumption | exact G66c | exact G66a | exact G66b | exact G83c | exact G83a | exact G83b | exact G92c | exact G92a | exact G92b) (by first | omega | assumption | exact G66c | exact G66a | exact G66b | exact G83c | exact G83a | exact G83b | exact G92c | exact G92a | exact G92b) (by first | omega | assumption | exact G66c | exact G66a | exact G66b | exact G83c | exact G83a | exact G83b | exact G92c | exact G92a | exact G92b) (by first | omega | assumption | exact G66c | exact G66a | exact G66b | exact G83c | exact G83a | exact G83b | exact G92c | exact G92a | exact G92b) (by first | omega | assumption | exact G66c | exact G66a | exact G66b | exact G83c | exact G83a | exact G83b | exact G92c | exact G92a | exact G92b) (by first | omega | assumption | exact G66c | exact G66a | exact G66b | exact G83c | exact G83a | exact G83b | exact G92c | exact G92a | exact G92b) (by first | omega | assumption | exact G66c | exact G66a | exact G66b | exact G83c | exact G83a | exact G83b | exact G92c | exact G92a | exact G92b) (by first | omega | assumption | exact G66c | exact G66a | exact G66b | exact G83c | exact G83a | exact G83b | exact G92c | exact G92a | exact G92b) (by first | omega | assumption | exact G66c | exact G66a | exact G66b | exact G83c | exact G83a | exact G83b | exact G92c | exact G92a | exact G92b)
    refine hgo (fun p => Nat.beq p 6 || Nat.beq p 95 || Nat.beq p 99) 70 0 _ [] M ?_
    exact L6 _ _ _ _ _ _ (Nat.lt_succ_self _) hS (by first | omega | exact pz_tks_0 | exact (fun _ _ _ => rfl) | exact W0 | assumption | (rw [g99_9]; congr 1; omega)) (by first | omega | exact pz_tks_0 | exact (fun _ _ _ => rfl) | exact W0 | assumption | (rw [g99_9]; congr 1; omega)) (by first | omega | exact pz_tks_0 | exact (fun _ _ _ => rfl) | exact W0 | assumption | (rw [g99_9]; congr 1; omega)) (by first | omega | exact pz_tks_0 | exact (fun _ _ _ => rfl) | exact W0 | assumption | (rw [g99_9]; congr 1; omega)) (by first | omega | exact pz_tks_0 | exact (fun _ _ _ => rfl) | exact W0 | assumption | (rw [g99_9]; congr 1; omega)) (by first | omega | exact pz_tks_0 | exact (fun _ _ _ => rfl) | exact W0 | assumption | (rw [g99_9]; congr 1; omega)) (by first | omega | exact pz_tks_0 | exact (fun _ _ _ => rfl) | exact W0 | assumption | (rw [g99_9]; congr 1; omega)) (by first | omega | exact pz_tks_0 | exact (fun _ _ _ => rfl) | exact W0 | assumption | (rw [g99_9]; congr 1; omega)) (by first | omega | exact pz_tks_0 | exact (fun _ _ _ => rfl) | exact W0 | assumption | (rw [g99_9]; congr 1; omega))
theorem v_X7_scan {fr lo i : Nat} {own : String} (h1 : 6 + 1 ≤ fr) (h2 : 8 + (5 + 11) + 135 ≤ lo) (h3 : .methodLink own i yX7_scan ∈ lw_tbl) : pz_cV fr lo own i k_X7_scan :=
  pz_cVk (maxL := 5) (fr' := 6) (lo' := 135) 0 7 h_X7_scan rfl ⟨(pz_nhc_RX7 yX7_scan rfl).1, (pz_nhc_RX7 yX7_scan rfl).2, pz_ds2⟩ ⟨pz_wq666, pz_wq664, pz_wq665, pz_wq9⟩ (Or.inl ⟨TX7, 5, rfl⟩) (fun a M _ h => by
    have h : (match (generalizing := false) a with | [.inr (.inr (7, th))] => pz_ic M | _ => False) := h
    split at h
    · exact ⟨_, _, rfl⟩
    · exact h.elim) h1 h2 h3
noncomputable def k_X8_forgetAll : pz_C := (1, 0, fun a M => (match a with | [.inr (.inr (8, th))] => pz_ic M | _ => False), fun a M r M' => (match a, r with | [.inr (.inr (8, th))], none => (M' = pz_u M 7 0 0) ∧ pz_st M M' | _, _ => False))
noncomputable abbrev ct_X8_forgetAll : List (Bool × Nat × pz_C) := []
set_option maxRecDepth 100000 in
set_option maxHeartbeats 4000000 in
theorem h_X8_forgetAll : pz_H yX8_forgetAll cX8_forgetAll 1 none k_X8_forgetAll 0 0 := by
  refine pz_mk (own := RX8) (tb := t_X8_forgetAll) (fl := pz_flf fl_RX8) (ci := fun _ => none) (ct := pz_ctf ct_X8_forgetAll) (rz := false) (pz_pfc_RX8 yX8_forgetAll rfl) rfl t_X8_forgetAll_ok (pz_flk fl_RX8_ok) (fun i v h => by cases h) ?_ ?_ (rfl) ?_ ?_
  · exact fun i k' h => pz_ctk (l := ct_X8_forgetAll) (P := fun b i k => b = true → pz_cV 0 0 RX8 i k) (fun _ h => absurd h List.not_mem_nil) true i k' h rfl
  · exact fun i k' h => pz_ctk (l := ct_X8_forgetAll) (P := fun b i k => b = false → (pz_cS 0 0 RX8 i k ∨ (k = pz_kac ∧ 1 ≤ 0 ∧ 60 ≤ 0 ∧ Cond.methodLink RX8 i arraycopyName ∈ pz_tbl))) (fun _ h => absurd h List.not_mem_nil) false i k' h rfl
  · intro a M hlen hpre
    obtain ⟨th, rfl, hpre⟩ : ∃ th, a = [.inr (.inr (8, th))] ∧ (pz_ic M) := by
      have hpre : (match (generalizing := false) a with | [.inr (.inr (8, th))] => pz_ic M | _ => False) := hpre
      split at hpre
      · exact ⟨_, rfl, hpre⟩
      · exact hpre.elim
    exact Nat.le_of_ble_eq_true rfl
  · intro a M hlen hcan hM hpre Ok hgo
    obtain ⟨th, rfl, hpre⟩ : ∃ th, a = [.inr (.inr (8, th))] ∧ (pz_ic M) := by
      have hpre : (match (generalizing := false) a with | [.inr (.inr (8, th))] => pz_ic M | _ => False) := hpre
      split at hpre
      · exact ⟨_, rfl, hpre⟩
      · exact hpre.elim
    obtain ⟨k_th, hc_th⟩ := pz_tlm hcan
    have k_th : pz_kd th = 8 ∧ th < 231 := k_th
    have R_th := pz_kd8 k_th.1
    subst R_th
    have hI : pz_ic M := hpre
    have hI0 := hI
    have hS : pz_st M M := pz_st.rf
    refine hgo (fun _ => false) 6 0 _ [] M ?_
    refine And.intro (by first | decide | omega) ?_
    intro M2 e2
    have hS : pz_st M M2 := by
      rw [e2]
      exact pz_st_u hS (by unfold pz_md pz_kx pz_mid; first | decide | omega) (by first | decide | omega) (by unfold pz_iok; first | decide | omega)
    have hI : pz_ic M2 := hS.1.1 hI0
    refine And.intro rfl ?_
    exact ⟨e2, hS⟩
theorem v_X8_forgetAll {fr lo i : Nat} {own : String} (h1 : 0 + 1 ≤ fr) (h2 : 8 + (1 + 11) + 0 ≤ lo) (h3 : .methodLink own i yX8_forgetAll ∈ lw_tbl) : pz_cV fr lo own i k_X8_forgetAll :=
  pz_cVk (maxL := 1) (fr' := 0) (lo' := 0) 0 8 h_X8_forgetAll rfl ⟨(pz_nhc_RX8 yX8_forgetAll rfl).1, (pz_nhc_RX8 yX8_forgetAll rfl).2, pz_ds2⟩ ⟨pz_wq439, pz_wq437, pz_wq438, pz_wq12⟩ (Or.inl ⟨TX8, 8, rfl⟩) (fun a M _ h => by
    have h : (match (generalizing := false) a with | [.inr (.inr (8, th))] => pz_ic M | _ => False) := h
    split at h
    · exact ⟨_, _, rfl⟩
    · exact h.elim) h1 h2 h3




noncomputable def k_X8_signer : pz_C := (2, 1, fun a M => (match a with | [.inr (.inr (8, th)), .inl i] => pz_ic M | _ => False), fun a M r M' => (match a, r with | [.inr (.inr (8, th)), .inl i], some (.inl v) => (True) ∧ M = M' | _, _ => False))
noncomputable abbrev ct_X8_signer : List (Bool × Nat × pz_C) := []
set_option maxRecDepth 100000 in
set_option maxHeartbeats 4000000 in
theorem h_X8_signer : pz_H yX8_signer cX8_signer 2 (some .int) k_X8_signer 0 0 := by
  refine pz_mk (own := RX8) (tb := t_X8_signer) (fl := pz_flf fl_RX8) (ci := fun _ => none) (ct := pz_ctf ct_X8_signer) (rz := false) (pz_pfc_RX8 yX8_signer rfl) rfl t_X8_signer_ok (pz_flk fl_RX8_ok) (fun i v h => by cases h) ?_ ?_ (Or.inl ⟨rfl, rfl⟩) ?_ ?_
  · exact fun i k' h => pz_ctk (l := ct_X8_signer) (P := fun b i k => b = true → pz_cV 0 0 RX8 i k) (fun _ h => absurd h List.not_mem_nil) true i k' h rfl
  · exact fun i k' h => pz_ctk (l := ct_X8_signer) (P := fun b i k => b = false → (pz_cS 0 0 RX8 i k ∨ (k = pz_kac ∧ 1 ≤ 0 ∧ 60 ≤ 0 ∧ Cond.methodLink RX8 i arraycopyName ∈ pz_tbl))) (fun _ h => absurd h List.not_mem_nil) false i k' h rfl
  · intro a M hlen hpre
    obtain ⟨th, i, rfl, hpre⟩ : ∃ th i, a = [.inr (.inr (8, th)), .inl i] ∧ (pz_ic M) := by
      have hpre : (match (generalizing := false) a with | [.inr (.inr (8, th)), .inl i] => pz_ic M | _ => False) := hpre
      split at hpre
      · exact ⟨_, _, rfl, hpre⟩
      · exact hpre.elim
    exact Nat.le_of_ble_eq_true rfl
  · intro a M hlen hcan hM hpre Ok hgo
    obtain ⟨th, i, rfl, hpre⟩ : ∃ th i, a = [.inr (.inr (8, th)), .inl i] ∧ (pz_ic M) := by
      have hpre : (match (generalizing := false) a with | [.inr (.inr (8, th)), .inl i] => pz_ic M | _ => False) := hpre
      split at hpre
      · exact ⟨_, _, rfl, hpre⟩
      · exact hpre.elim
    obtain ⟨k_th, hc_th⟩ := pz_tlm hcan
    have k_th : pz_kd th = 8 ∧ th < 231 := k_th
    have R_th := pz_kd8 k_th.1
    subst R_th
    obtain ⟨k_i, hc_i⟩ := pz_tlm hc_th
    have l_i : -2147483648 ≤ i := k_i.1
    have u_i : i ≤ 2147483647 := k_i.2
    have hI : pz_ic M := hpre
    refine hgo (fun _ => false) 19 0 _ [] M ?_
    intro v1 e1 a1 b1
    refine And.intro (fun h5 => ?_) (fun h5 => ?_)
    · skip
      refine And.intro rfl ?_
      exact ⟨trivial, rfl⟩
    · skip
      refine And.intro (fun h9 => ?_) (fun h9 => ?_)
      · skip
        refine And.intro rfl ?_
        exact ⟨trivial, rfl⟩
      · skip
        intro v14 e14 a14 b14
        have I14 := hI.2.2.2.2.2
        refine And.intro (fun h17 => ?_) (fun h17 => ?_)
        · skip
          refine And.intro rfl ?_
          exact ⟨trivial, rfl⟩
        · skip
          intro r21 e21 k21
          have R21 := pz_kdA k21 (by decide) (by decide)
          have lo25 : (0 : Int) ≤ i := by omega
          have tn25 : (((i).toNat : Nat) : Int) = i := Int.toNat_of_nonneg lo25
          refine And.intro (lo25) (And.intro (show _ < (12 : Int) from by omega) ?_)
          intro v25 e25 a25 b25
          refine And.intro rfl ?_
          exact ⟨trivial, rfl⟩
theorem v_X8_signer {fr lo i : Nat} {own : String} (h1 : 0 + 1 ≤ fr) (h2 : 8 + (2 + 11) + 0 ≤ lo) (h3 : .methodLink own i yX8_signer ∈ lw_tbl) : pz_cV fr lo own i k_X8_signer :=
  pz_cVk (maxL := 2) (fr' := 0) (lo' := 0) 1 8 h_X8_signer rfl ⟨(pz_nhc_RX8 yX8_signer rfl).1, (pz_nhc_RX8 yX8_signer rfl).2, pz_ds5⟩ ⟨pz_wq1024, pz_wq1022, pz_wq1023, pz_wq12⟩ (Or.inl ⟨TX8, 8, rfl⟩) (fun a M _ h => by
    have h : (match (generalizing := false) a with | [.inr (.inr (8, th)), .inl i] => pz_ic M | _ => False) := h
    split at h
    · exact ⟨_, _, rfl⟩
    · exact h.elim) h1 h2 h3
