section
noncomputable def k_X12_count : pz_C := (1, 1, fun a M => (match a with | [.inl x] => True | _ => False), fun a M r M' => (match a, r with | [.inl x], some (.inl v) => (True) ∧ M = M' | _, _ => False))
noncomputable abbrev ct_X12_count : List (Bool × Nat × pz_C) := []
set_option maxRecDepth 100000 in
set_option maxHeartbeats 4000000 in
theorem h_X12_count : pz_H yX12_count cX12_count 3 (some .int) k_X12_count 0 0 := by
  refine pz_mk (own := RX12) (tb := t_X12_count) (fl := pz_flf fl_RX12) (ci := pz_cif ci_RX12) (ct := pz_ctf ct_X12_count) (rz := false) (pz_pfc_RX12 yX12_count rfl) rfl t_X12_count_ok (pz_flk fl_RX12_ok) (pz_cik ci_RX12_ok) ?_ ?_ (Or.inl ⟨rfl, rfl⟩) ?_ ?_
  · exact fun i k' h => pz_ctk (l := ct_X12_count) (P := fun b i k => b = true → pz_cV 0 0 RX12 i k) (fun _ h => absurd h List.not_mem_nil) true i k' h rfl
  · exact fun i k' h => pz_ctk (l := ct_X12_count) (P := fun b i k => b = false → (pz_cS 0 0 RX12 i k ∨ (k = pz_kac ∧ 1 ≤ 0 ∧ 60 ≤ 0 ∧ Cond.methodLink RX12 i arraycopyName ∈ pz_tbl))) (fun _ h => absurd h List.not_mem_nil) false i k' h rfl
  · intro a M hlen hpre
    obtain ⟨x, rfl, hpre⟩ : ∃ x, a = [.inl x] ∧ (True) := by
      have hpre : (match (generalizing := false) a with | [.inl x] => True | _ => False) := hpre
      split at hpre
      · exact ⟨_, rfl, hpre⟩
      · exact hpre.elim
    exact Nat.le_of_ble_eq_true rfl
  · intro a M hlen hcan hM hpre Ok hgo
    obtain ⟨x, rfl, hpre⟩ : ∃ x, a = [.inl x] ∧ (True) := by
      have hpre : (match (generalizing := false) a with | [.inl x] => True | _ => False) := hpre
      split at hpre
      · exact ⟨_, rfl, hpre⟩
      · exact hpre.elim
    obtain ⟨k_x, hc_x⟩ := pz_tlm hcan
    have l_x : -2147483648 ≤ x := k_x.1
    have u_x : x ≤ 2147483647 := k_x.2
    have L4 : ∀ (fu : Nat) (x1 : Int) (x2 : Int), (12 - x2).toNat < fu → (0 ≤ x2) → Ok 4 [some (.inl x), some (.inl x1), some (.inl x2)] [] M := by
      intro fu
      induction fu with
      | zero => exact fun _ _ hn => absurd hn (Nat.not_lt_zero _)
      | succ fu ih4 =>
        intro x1 x2 hn4 g4_0
        refine hgo (fun p => Nat.beq p 4) 21 4 _ _ _ ?_
        refine And.intro (fun h7 => ?_) (fun h7 => ?_)
        · skip
          refine And.intro rfl ?_
          exact ⟨trivial, rfl⟩
        · skip
          intro v13 e13 a13 b13
          intro v15 e15 a15 b15
          intro v16 e16 a16 b16
          intro v18 e18 a18 b18
          rw [pz_wi (by omega) (by omega)] at e18
          clear a18 b18
          exact ih4 _ _ (by omega) (by omega)
    refine hgo (fun p => Nat.beq p 4) 21 0 _ [] M ?_
    exact L4 _ _ _ (Nat.lt_succ_self _) (by omega)
theorem s_X12_count {fr lo i : Nat} {own : String} (h1 : 0 + 1 ≤ fr) (h2 : 8 + (3 + 11) + 0 ≤ lo) (h3 : .methodLink own i yX12_count ∈ lw_tbl ∨ (own = RX1 ∧ i = 35 ∧ yX12_count = yX11_within)) : pz_cS fr lo own i k_X12_count := pz_cSk (maxL := 3) (fr' := 0) (lo' := 0) 1 h_X12_count rfl ⟨(pz_nhc_RX12 yX12_count rfl).1, (pz_nhc_RX12 yX12_count rfl).2, pz_ds5⟩ ⟨pz_wq1608, pz_wq1607, pz_wq13⟩ h1 h2 h3
noncomputable def k_X12_forgets : pz_C := (1, 0, fun a M => (match a with | [.inr (.inr (12, th))] => pz_im M | _ => False), fun a M r M' => (match a, r with | [.inr (.inr (12, th))], none => (M' = pz_u M 1 4 0) ∧ pz_sm M M' | _, _ => False))
noncomputable abbrev ct_X12_forgets : List (Bool × Nat × pz_C) := []
set_option maxRecDepth 100000 in
set_option maxHeartbeats 4000000 in
theorem h_X12_forgets : pz_H yX12_forgets cX12_forgets 1 none k_X12_forgets 0 0 := by
  refine pz_mk (own := RX12) (tb := t_X12_forgets) (fl := pz_flf fl_RX12) (ci := pz_cif ci_RX12) (ct := pz_ctf ct_X12_forgets) (rz := false) (pz_pfc_RX12 yX12_forgets rfl) rfl t_X12_forgets_ok (pz_flk fl_RX12_ok) (pz_cik ci_RX12_ok) ?_ ?_ (rfl) ?_ ?_
  · exact fun i k' h => pz_ctk (l := ct_X12_forgets) (P := fun b i k => b = true → pz_cV 0 0 RX12 i k) (fun _ h => absurd h List.not_mem_nil) true i k' h rfl
  · exact fun i k' h => pz_ctk (l := ct_X12_forgets) (P := fun b i k => b = false → (pz_cS 0 0 RX12 i k ∨ (k = pz_kac ∧ 1 ≤ 0 ∧ 60 ≤ 0 ∧ Cond.methodLink RX12 i arraycopyName ∈ pz_tbl))) (fun _ h => absurd h List.not_mem_nil) false i k' h rfl
  · intro a M hlen hpre
    obtain ⟨th, rfl, hpre⟩ : ∃ th, a = [.inr (.inr (12, th))] ∧ (pz_im M) := by
      have hpre : (match (generalizing := false) a with | [.inr (.inr (12, th))] => pz_im M | _ => False) := hpre
      split at hpre
      · exact ⟨_, rfl, hpre⟩
      · exact hpre.elim
    exact Nat.le_of_ble_eq_true rfl
  · intro a M hlen hcan hM hpre Ok hgo
    obtain ⟨th, rfl, hpre⟩ : ∃ th, a = [.inr (.inr (12, th))] ∧ (pz_im M) := by
      have hpre : (match (generalizing := false) a with | [.inr (.inr (12, th))] => pz_im M | _ => False) := hpre
      split at hpre
      · exact ⟨_, rfl, hpre⟩
      · exact hpre.elim
    obtain ⟨k_th, hc_th⟩ := pz_tlm hcan
    have k_th : pz_kd th = 12 ∧ th < 231 := k_th
    have R_th := pz_kd12 k_th.1
    subst R_th
    clear k_th
    have hI : pz_im M := hpre
    have hI0 := hI
    have hS : pz_sm M M := pz_sm.rf
    refine hgo (fun _ => false) 6 0 _ [] M ?_
    intro M2 e2
    have hS : pz_sm M M2 := by
      rw [e2]
      exact pz_sm_u hS (pz_mn_1 (by decide)) (by decide) (fun h => absurd h.1 (by decide)) (pz_iom_4 (by omega))
    have hI : pz_im M2 := hS.1.1.1 hI0
    refine And.intro rfl ?_
    exact ⟨e2, hS⟩
theorem v_X12_forgets {fr lo i : Nat} {own : String} (h1 : 0 + 1 ≤ fr) (h2 : 8 + (1 + 11) + 0 ≤ lo) (h3 : .methodLink own i yX12_forgets ∈ lw_tbl) : pz_cV fr lo own i k_X12_forgets :=
  pz_cVk (maxL := 1) (fr' := 0) (lo' := 0) 0 12 h_X12_forgets rfl ⟨(pz_nhc_RX12 yX12_forgets rfl).1, (pz_nhc_RX12 yX12_forgets rfl).2, pz_ds2⟩ ⟨pz_wq1212, pz_wq1211, pz_ws4, pz_wq13⟩ (Or.inl ⟨TX12, 28, rfl⟩) (fun a M _ h => by
    have h : (match (generalizing := false) a with | [.inr (.inr (12, th))] => pz_im M | _ => False) := h
    split at h
    · exact ⟨_, _, rfl⟩
    · exact h.elim) h1 h2 h3
end
