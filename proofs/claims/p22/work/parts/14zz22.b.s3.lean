noncomputable def k3_X12_count : pz_C := (1, 1, fun a M => (match a with | [.inl x] => True | _ => False), fun a M r M' => (match a, r with | [.inl x], some (.inl v) => (pz_bcx x v) ∧ M = M' | _, _ => False))
noncomputable abbrev ct3_X12_count : List (Bool × Nat × pz_C) := []
set_option maxRecDepth 100000 in
set_option maxHeartbeats 4000000 in
theorem h3_X12_count : pz_H yX12_count cX12_count 3 (some .int) k3_X12_count 0 0 := by
  refine pz_mk (own := RX12) (tb := t_X12_count) (fl := pz_flf fl_RX12) (ci := pz_cif ci_RX12) (ct := pz_ctf ct3_X12_count) (rz := false) (pz_pfc_RX12 yX12_count rfl) rfl t_X12_count_ok (pz_flk fl_RX12_ok) (pz_cik ci_RX12_ok) ?_ ?_ (Or.inl ⟨rfl, rfl⟩) ?_ ?_
  · exact fun i k' h => pz_ctk (l := ct3_X12_count) (P := fun b i k => b = true → pz_cV 0 0 RX12 i k) (fun _ h => absurd h List.not_mem_nil) true i k' h rfl
  · exact fun i k' h => pz_ctk (l := ct3_X12_count) (P := fun b i k => b = false → (pz_cS 0 0 RX12 i k ∨ (k = pz_kac ∧ 1 ≤ 0 ∧ 60 ≤ 0 ∧ Cond.methodLink RX12 i arraycopyName ∈ pz_tbl))) (fun _ h => absurd h List.not_mem_nil) false i k' h rfl
  · intro a M hlen hpre
    obtain ⟨x, rfl, hpre⟩ : ∃ x, a = [.inl x] ∧ (True) := by
      have hpre : (match (generalizing := false) a with | [.inl x] => True | _ => False) := hpre
      split at hpre
      · exact ⟨_, rfl, hpre⟩
      · exact hpre.elim
    exact Nat.le_of_ble_eq_true rfl
  · intro a M hlen hcan hM hpre Ok hgo
    obtain ⟨x, rfl, hpre⟩ : ∃ x, a = [.inl x] ∧ (True) := by
      have hpre : (match (generalizing := false) a with | [.inl x] => True | _ => False) := hpre
      split at hpre
      · exact ⟨_, rfl, hpre⟩
      · exact hpre.elim
    obtain ⟨k_x, hc_x⟩ := pz_tlm hcan
    have l_x : -2147483648 ≤ x := k_x.1
    have u_x : x ≤ 2147483647 := k_x.2
    have L4 : ∀ (fu : Nat) (x1 : Int) (x2 : Int), (12 - x2).toNat < fu → (0 ≤ x2) → (x2 ≤ 12) → (0 ≤ x1) → (x1 ≤ x2) → (∀ f : Nat → Bool, pz_zs x f → x1 = pz_cnt f x2.toNat) → Ok 4 [some (.inl x), some (.inl x1), some (.inl x2)] [] M := by
      intro fu
      induction fu with
      | zero => exact fun _ _ hn => absurd hn (Nat.not_lt_zero _)
      | succ fu ih4 =>
        intro x1 x2 hn4 g4_0 g4_1 g4_2 g4_3 g4_4
        refine hgo (fun p => Nat.beq p 4) 21 4 _ _ _ ?_
        refine And.intro (fun h7 => ?_) (fun h7 => ?_)
        · skip
          refine And.intro rfl ?_
          refine ⟨fun f hf => ?_, rfl⟩
          have a : x1 = pz_cnt f x2.toNat := (by assumption : ∀ f : Nat → Bool, pz_zs x f → x1 = pz_cnt f x2.toNat) f hf
          rw [a, show x2.toNat = 12 by omega]
        · skip
          intro v13 e13 a13 b13
          intro v15 e15 a15 b15
          have X15 := pz_a1 e15
          intro v16 e16 a16 b16
          rw [pz_wi (by first | decide | omega) (by first | decide | omega)] at e16
          clear a16 b16
          intro v18 e18 a18 b18
          rw [pz_wi (by first | decide | omega) (by first | decide | omega)] at e18
          have G18 : ∀ f : Nat → Bool, pz_zs x f → v16 = pz_cnt f v18.toNat := fun f hf => by
            have a : x1 = pz_cnt f x2.toNat := (by assumption : ∀ f : Nat → Bool, pz_zs x f → x1 = pz_cnt f x2.toNat) f hf
            have b := pz_sb_at hf (by first | decide | omega) (by first | decide | omega) e13 e15
            exact pz_cnt_s (x := x2) (by first | decide | omega) e18 a b e16
          exact ih4 _ _ (by first | decide | omega) (by first | omega | assumption | exact fun f _ => rfl) (by first | omega | assumption | exact fun f _ => rfl) (by first | omega | assumption | exact fun f _ => rfl) (by first | omega | assumption | exact fun f _ => rfl) (by first | omega | assumption | exact fun f _ => rfl)
    refine hgo (fun p => Nat.beq p 4) 21 0 _ [] M ?_
    exact L4 _ _ _ (Nat.lt_succ_self _) (by first | omega | assumption | exact fun f _ => rfl) (by first | omega | assumption | exact fun f _ => rfl) (by first | omega | assumption | exact fun f _ => rfl) (by first | omega | assumption | exact fun f _ => rfl) (by first | omega | assumption | exact fun f _ => rfl)
theorem s3_X12_count {fr lo i : Nat} {own : String} (h1 : 0 + 1 ≤ fr) (h2 : 8 + (3 + 11) + 0 ≤ lo) (h3 : .methodLink own i yX12_count ∈ lw_tbl ∨ (own = RX1 ∧ i = 35 ∧ yX12_count = yX11_within)) : pz_cS fr lo own i k3_X12_count := pz_cSk (maxL := 3) (fr' := 0) (lo' := 0) 1 h3_X12_count rfl ⟨(pz_nhc_RX12 yX12_count rfl).1, (pz_nhc_RX12 yX12_count rfl).2, pz_ds5⟩ ⟨pz_wq1608, pz_wq1607, pz_wq13⟩ h1 h2 h3
noncomputable def k3_X12_movedOnes : pz_C := (1, 1, fun a M => (match a with | [.inr (.inr (12, th))] => pz_im M | _ => False), fun a M r M' => (match a, r with | [.inr (.inr (12, th))], some (.inl v) => (pz_zs v (sd_vn (M 60))) ∧ M = M' | _, _ => False))
noncomputable abbrev ct3_X12_movedOnes : List (Bool × Nat × pz_C) := [(true, 65, k3_X12_hasMoved)]
set_option maxRecDepth 100000 in
set_option maxHeartbeats 4000000 in
theorem h3_X12_movedOnes : pz_H yX12_movedOnes cX12_movedOnes 3 (some .int) k3_X12_movedOnes 1 21 := by
  refine pz_mk (own := RX12) (tb := t_X12_movedOnes) (fl := pz_flf fl_RX12) (ci := pz_cif ci_RX12) (ct := pz_ctf ct3_X12_movedOnes) (rz := false) (pz_pfc_RX12 yX12_movedOnes rfl) rfl t_X12_movedOnes_ok (pz_flk fl_RX12_ok) (pz_cik ci_RX12_ok) ?_ ?_ (Or.inl ⟨rfl, rfl⟩) ?_ ?_
  · exact fun i k' h => pz_ctk (l := ct3_X12_movedOnes) (P := fun b i k => b = true → pz_cV 1 21 RX12 i k) (List.forall_mem_cons.mpr ⟨(fun _ => v3_X12_hasMoved (by decide) (by decide) pz_wq1423), fun _ h => absurd h List.not_mem_nil⟩) true i k' h rfl
  · exact fun i k' h => pz_ctk (l := ct3_X12_movedOnes) (P := fun b i k => b = false → (pz_cS 1 21 RX12 i k ∨ (k = pz_kac ∧ 1 ≤ 1 ∧ 60 ≤ 21 ∧ Cond.methodLink RX12 i arraycopyName ∈ pz_tbl))) (List.forall_mem_cons.mpr ⟨((fun z => by cases z)), fun _ h => absurd h List.not_mem_nil⟩) false i k' h rfl
  · intro a M hlen hpre
    obtain ⟨th, rfl, hpre⟩ : ∃ th, a = [.inr (.inr (12, th))] ∧ (pz_im M) := by
      have hpre : (match (generalizing := false) a with | [.inr (.inr (12, th))] => pz_im M | _ => False) := hpre
      split at hpre
      · exact ⟨_, rfl, hpre⟩
      · exact hpre.elim
    exact Nat.le_of_ble_eq_true rfl
  · intro a M hlen hcan hM hpre Ok hgo
    obtain ⟨th, rfl, hpre⟩ : ∃ th, a = [.inr (.inr (12, th))] ∧ (pz_im M) := by
      have hpre : (match (generalizing := false) a with | [.inr (.inr (12, th))] => pz_im M | _ => False) := hpre
      split at hpre
      · exact ⟨_, rfl, hpre⟩
      · exact hpre.elim
    obtain ⟨k_th, hc_th⟩ := pz_tlm hcan
    have k_th : pz_kd th = 12 ∧ th < 231 := k_th
    have R_th := pz_kd12 k_th.1
    subst R_th
    clear k_th
    have hI : pz_im M := hpre
    have I88 := hI.1.1
    have L4 : ∀ (fu : Nat) (x1 : Int) (x2 : Int), (12 - x2).toNat < fu → (0 ≤ x2) → (x2 ≤ 12) → (x2 ≤ M 60 88) → (pz_bt x2 (sd_vn (M 60)) x1) → Ok 4 [some (.inr (.inr (12, 1))), some (.inl x1), some (.inl x2)] [] M := by
      intro fu
      induction fu with
      | zero => exact fun _ _ hn => absurd hn (Nat.not_lt_zero _)
      | succ fu ih4 =>
        intro x1 x2 hn4 g4_0 g4_1 g4_2 g4_3
        have L31 : ∀ (x1 : Int) (x2 : Int) (s0 : Int) (s1 : Int), (0 ≤ x2) → (x2 < 12) → ((12 - x2).toNat < fu + 1) → (x2 < M 60 88) → (pz_bt x2 (sd_vn (M 60)) s0) → (pz_bO x2 (sd_vn (M 60)) s1) → Ok 31 [some (.inr (.inr (12, 1))), some (.inl x1), some (.inl x2)] [.inl s1, .inl s0] M := by
          intro x1 x2 s0 s1 g31_0 g31_1 g31_2 g31_3 g31_4 g31_5
          refine hgo (fun p => Nat.beq p 4 || Nat.beq p 31) 28 31 _ _ _ ?_
          intro v31 e31 a31 b31
          skip
          intro v33 e33 a33 b33
          rw [pz_wi (by first | decide | omega) (by first | decide | omega)] at e33
          have G33 : pz_bt v33 (sd_vn (M 60)) v31 := pz_bt_s ⟨by omega, by omega⟩ e33 g31_4 g31_5 e31
          exact ih4 _ _ (by first | decide | omega) (by first | omega | assumption | exact pz_bt_0) (by first | omega | assumption | exact pz_bt_0) (by first | omega | assumption | exact pz_bt_0) (by first | omega | assumption | exact pz_bt_0)
        refine hgo (fun p => Nat.beq p 4 || Nat.beq p 31) 28 4 _ _ _ ?_
        refine pz_nrc (c := 60) rfl ?_
        refine And.intro (by first | decide | omega) (And.intro (show _ < (1725 : Int) from by omega) ?_)
        intro v11 e11 a11 b11
        replace e11 : v11 = M 60 88 := e11
        have I11 : 0 ≤ v11 ∧ v11 ≤ 12 := by
          rw [e11]
          exact hI.1.1
        clear a11 b11
        refine And.intro (fun h12 => ?_) (fun h12 => ?_)
        · skip
          refine And.intro rfl ?_
          exact ⟨pz_bt_e g4_3 (sd_vn_e (by first | decide | omega) (by first | decide | omega)), rfl⟩
        · skip
          refine And.intro (And.intro hI (And.intro (by first | decide | omega) (by first | decide | omega))) ?_
          intro v18 M18 a18 b18 q18
          obtain ⟨q18, z18⟩ := q18
          subst z18
          clear a18 b18
          refine And.intro (fun h21 => ?_) (fun h21 => ?_)
          · skip
            replace q18 := q18.resolve_left (fun z => absurd (z.1.symm.trans h21) (by decide))
            clear h21
            exact L31 _ _ _ _ (by first | omega | assumption | exact pz_bO_y ⟨by omega, by omega⟩ (decide_eq_true ⟨by omega, by rw [← show (76 + x2).toNat = 76 + x2.toNat by omega]; omega⟩) e26 | exact pz_bO_n (decide_eq_false (fun z => by have z2 := z.2; rw [← show (76 + x2).toNat = 76 + x2.toNat by omega] at z2; omega))) (by first | omega | assumption | exact pz_bO_y ⟨by omega, by omega⟩ (decide_eq_true ⟨by omega, by rw [← show (76 + x2).toNat = 76 + x2.toNat by omega]; omega⟩) e26 | exact pz_bO_n (decide_eq_false (fun z => by have z2 := z.2; rw [← show (76 + x2).toNat = 76 + x2.toNat by omega] at z2; omega))) (by first | omega | assumption | exact pz_bO_y ⟨by omega, by omega⟩ (decide_eq_true ⟨by omega, by rw [← show (76 + x2).toNat = 76 + x2.toNat by omega]; omega⟩) e26 | exact pz_bO_n (decide_eq_false (fun z => by have z2 := z.2; rw [← show (76 + x2).toNat = 76 + x2.toNat by omega] at z2; omega))) (by first | omega | assumption | exact pz_bO_y ⟨by omega, by omega⟩ (decide_eq_true ⟨by omega, by rw [← show (76 + x2).toNat = 76 + x2.toNat by omega]; omega⟩) e26 | exact pz_bO_n (decide_eq_false (fun z => by have z2 := z.2; rw [← show (76 + x2).toNat = 76 + x2.toNat by omega] at z2; omega))) (by first | omega | assumption | exact pz_bO_y ⟨by omega, by omega⟩ (decide_eq_true ⟨by omega, by rw [← show (76 + x2).toNat = 76 + x2.toNat by omega]; omega⟩) e26 | exact pz_bO_n (decide_eq_false (fun z => by have z2 := z.2; rw [← show (76 + x2).toNat = 76 + x2.toNat by omega] at z2; omega))) (by first | omega | assumption | exact pz_bO_y ⟨by omega, by omega⟩ (decide_eq_true ⟨by omega, by rw [← show (76 + x2).toNat = 76 + x2.toNat by omega]; omega⟩) e26 | exact pz_bO_n (decide_eq_false (fun z => by have z2 := z.2; rw [← show (76 + x2).toNat = 76 + x2.toNat by omega] at z2; omega)))
          · skip
            replace q18 := q18.resolve_right (fun z => h21 z.1)
            clear h21
            intro v26 e26 a26 b26
            exact L31 _ _ _ _ (by first | omega | assumption | exact pz_bO_y ⟨by omega, by omega⟩ (decide_eq_true ⟨by omega, by rw [← show (76 + x2).toNat = 76 + x2.toNat by omega]; omega⟩) e26 | exact pz_bO_n (decide_eq_false (fun z => by have z2 := z.2; rw [← show (76 + x2).toNat = 76 + x2.toNat by omega] at z2; omega))) (by first | omega | assumption | exact pz_bO_y ⟨by omega, by omega⟩ (decide_eq_true ⟨by omega, by rw [← show (76 + x2).toNat = 76 + x2.toNat by omega]; omega⟩) e26 | exact pz_bO_n (decide_eq_false (fun z => by have z2 := z.2; rw [← show (76 + x2).toNat = 76 + x2.toNat by omega] at z2; omega))) (by first | omega | assumption | exact pz_bO_y ⟨by omega, by omega⟩ (decide_eq_true ⟨by omega, by rw [← show (76 + x2).toNat = 76 + x2.toNat by omega]; omega⟩) e26 | exact pz_bO_n (decide_eq_false (fun z => by have z2 := z.2; rw [← show (76 + x2).toNat = 76 + x2.toNat by omega] at z2; omega))) (by first | omega | assumption | exact pz_bO_y ⟨by omega, by omega⟩ (decide_eq_true ⟨by omega, by rw [← show (76 + x2).toNat = 76 + x2.toNat by omega]; omega⟩) e26 | exact pz_bO_n (decide_eq_false (fun z => by have z2 := z.2; rw [← show (76 + x2).toNat = 76 + x2.toNat by omega] at z2; omega))) (by first | omega | assumption | exact pz_bO_y ⟨by omega, by omega⟩ (decide_eq_true ⟨by omega, by rw [← show (76 + x2).toNat = 76 + x2.toNat by omega]; omega⟩) e26 | exact pz_bO_n (decide_eq_false (fun z => by have z2 := z.2; rw [← show (76 + x2).toNat = 76 + x2.toNat by omega] at z2; omega))) (by first | omega | assumption | exact pz_bO_y ⟨by omega, by omega⟩ (decide_eq_true ⟨by omega, by rw [← show (76 + x2).toNat = 76 + x2.toNat by omega]; omega⟩) e26 | exact pz_bO_n (decide_eq_false (fun z => by have z2 := z.2; rw [← show (76 + x2).toNat = 76 + x2.toNat by omega] at z2; omega)))
    refine hgo (fun p => Nat.beq p 4 || Nat.beq p 31) 28 0 _ [] M ?_
    exact L4 _ _ _ (Nat.lt_succ_self _) (by first | omega | assumption | exact pz_bt_0) (by first | omega | assumption | exact pz_bt_0) (by first | omega | assumption | exact pz_bt_0) (by first | omega | assumption | exact pz_bt_0)
theorem v3_X12_movedOnes {fr lo i : Nat} {own : String} (h1 : 1 + 1 ≤ fr) (h2 : 8 + (3 + 11) + 21 ≤ lo) (h3 : .methodLink own i yX12_movedOnes ∈ lw_tbl) : pz_cV fr lo own i k3_X12_movedOnes :=
  pz_cVk (maxL := 3) (fr' := 1) (lo' := 21) 0 12 h3_X12_movedOnes rfl ⟨(pz_nhc_RX12 yX12_movedOnes rfl).1, (pz_nhc_RX12 yX12_movedOnes rfl).2, pz_ds1⟩ ⟨pz_wq1605, pz_wq1604, pz_ws72, pz_wq13⟩ (Or.inl ⟨TX12, 28, rfl⟩) (fun a M _ h => by
    have h : (match (generalizing := false) a with | [.inr (.inr (12, th))] => pz_im M | _ => False) := h
    split at h
    · exact ⟨_, _, rfl⟩
    · exact h.elim) h1 h2 h3
noncomputable def k3_X12_latestMoved : pz_C := (1, 1, fun a M => (match a with | [.inr (.inr (12, th))] => pz_im M | _ => False), fun a M r M' => (match a, r with | [.inr (.inr (12, th))], some (.inl v) => (v = sd_lat (M 60) (sd_n (M 60)) 0 (-1)) ∧ M = M' | _, _ => False))
noncomputable abbrev ct3_X12_latestMoved : List (Bool × Nat × pz_C) := [(true, 65, k3_X12_hasMoved), (false, 51, k_X12_greater)]
set_option maxRecDepth 100000 in
set_option maxHeartbeats 4000000 in
theorem h3_X12_latestMoved : pz_H yX12_latestMoved cX12_latestMoved 3 (some .int) k3_X12_latestMoved 1 21 := by
  refine pz_mk (own := RX12) (tb := t_X12_latestMoved) (fl := pz_flf fl_RX12) (ci := pz_cif ci_RX12) (ct := pz_ctf ct3_X12_latestMoved) (rz := false) (pz_pfc_RX12 yX12_latestMoved rfl) rfl t_X12_latestMoved_ok (pz_flk fl_RX12_ok) (pz_cik ci_RX12_ok) ?_ ?_ (Or.inl ⟨rfl, rfl⟩) ?_ ?_
  · exact fun i k' h => pz_ctk (l := ct3_X12_latestMoved) (P := fun b i k => b = true → pz_cV 1 21 RX12 i k) (List.forall_mem_cons.mpr ⟨(fun _ => v3_X12_hasMoved (by decide) (by decide) pz_wq1423), List.forall_mem_cons.mpr ⟨((fun z => by cases z)), fun _ h => absurd h List.not_mem_nil⟩⟩) true i k' h rfl
  · exact fun i k' h => pz_ctk (l := ct3_X12_latestMoved) (P := fun b i k => b = false → (pz_cS 1 21 RX12 i k ∨ (k = pz_kac ∧ 1 ≤ 1 ∧ 60 ≤ 21 ∧ Cond.methodLink RX12 i arraycopyName ∈ pz_tbl))) (List.forall_mem_cons.mpr ⟨((fun z => by cases z)), List.forall_mem_cons.mpr ⟨(fun _ => Or.inl (s_X12_greater (by decide) (by decide) (Or.inl pz_wq1447))), fun _ h => absurd h List.not_mem_nil⟩⟩) false i k' h rfl
  · intro a M hlen hpre
    obtain ⟨th, rfl, hpre⟩ : ∃ th, a = [.inr (.inr (12, th))] ∧ (pz_im M) := by
      have hpre : (match (generalizing := false) a with | [.inr (.inr (12, th))] => pz_im M | _ => False) := hpre
      split at hpre
      · exact ⟨_, rfl, hpre⟩
      · exact hpre.elim
    exact Nat.le_of_ble_eq_true rfl
  · intro a M hlen hcan hM hpre Ok hgo
    obtain ⟨th, rfl, hpre⟩ : ∃ th, a = [.inr (.inr (12, th))] ∧ (pz_im M) := by
      have hpre : (match (generalizing := false) a with | [.inr (.inr (12, th))] => pz_im M | _ => False) := hpre
      split at hpre
      · exact ⟨_, rfl, hpre⟩
      · exact hpre.elim
    obtain ⟨k_th, hc_th⟩ := pz_tlm hcan
    have k_th : pz_kd th = 12 ∧ th < 231 := k_th
    have R_th := pz_kd12 k_th.1
    subst R_th
    clear k_th
    have hI : pz_im M := hpre
    have I88 := hI.1.1
    have N88 : (sd_n (M 60) : Int) = M 60 88 := by
      unfold sd_n
      omega
    have L4 : ∀ (fu : Nat) (x1 : Int) (x2 : Int), (12 - x2).toNat < fu → (0 ≤ x2) → (x2 ≤ M 60 88) → (sd_lat (M 60) (sd_n (M 60) - (x2).toNat) (x2).toNat x1 = sd_lat (M 60) (sd_n (M 60)) 0 (-1)) → Ok 4 [some (.inr (.inr (12, 1))), some (.inl x1), some (.inl x2)] [] M := by
      intro fu
      induction fu with
      | zero => exact fun _ _ hn => absurd hn (Nat.not_lt_zero _)
      | succ fu ih4 =>
        intro x1 x2 hn4 g4_0 g4_1 g4_2
        refine hgo (fun p => Nat.beq p 4) 31 4 _ _ _ ?_
        refine pz_nrc (c := 60) rfl ?_
        refine And.intro (by first | decide | omega) (And.intro (show _ < (1725 : Int) from by omega) ?_)
        intro v11 e11 a11 b11
        replace e11 : v11 = M 60 88 := e11
        have I11 : 0 ≤ v11 ∧ v11 ≤ 12 := by
          rw [e11]
          exact hI.1.1
        clear a11 b11
        refine And.intro (fun h12 => ?_) (fun h12 => ?_)
        · skip
          refine And.intro rfl ?_
          refine ⟨?_, rfl⟩
          have g2 : sd_lat (M 60) (sd_n (M 60) - (x2).toNat) (x2).toNat x1 = sd_lat (M 60) (sd_n (M 60)) 0 (-1) := by assumption
          rw [← g2, show sd_n (M 60) - x2.toNat = 0 by omega]
          rfl
        · skip
          refine And.intro (And.intro hI (And.intro (by first | decide | omega) (by first | decide | omega))) ?_
          intro v17 M17 a17 b17 q17
          obtain ⟨q17, z17⟩ := q17
          subst z17
          clear a17 b17
          refine And.intro (fun h20 => ?_) (fun h20 => ?_)
          · skip
            replace q17 := q17.resolve_right (fun z => h20 z.1)
            refine pz_nrc (c := 60) rfl ?_
            intro v33 e33 a33 b33
            rw [pz_wi (by first | decide | omega) (by first | decide | omega)] at e33
            clear a33 b33
            have lo34 : (0 : Int) ≤ v33 := by omega
            have tn34 : (((v33).toNat : Nat) : Int) = v33 := Int.toNat_of_nonneg lo34
            refine And.intro (lo34) (And.intro (show _ < (1725 : Int) from by omega) ?_)
            intro v34 e34 a34 b34
            rw [show v33.toNat = 76 + x2.toNat by omega] at e34
            refine And.intro (True.intro) ?_
            intro v35 M35 a35 b35 q35
            obtain ⟨q35, z35⟩ := q35
            subst z35
            intro v39 e39 a39 b39
            rw [pz_wi (by first | decide | omega) (by first | decide | omega)] at e39
            have G39 : sd_lat (M 60) (sd_n (M 60) - (v39).toNat) (v39).toNat v35 = sd_lat (M 60) (sd_n (M 60)) 0 (-1) := by
              have g2 : sd_lat (M 60) (sd_n (M 60) - (x2).toNat) (x2).toNat x1 = sd_lat (M 60) (sd_n (M 60)) 0 (-1) := by assumption
              rw [show (76 + x2).toNat = 76 + x2.toNat by omega] at q17
              rw [← g2, show sd_n (M 60) - x2.toNat = (sd_n (M 60) - (x2.toNat + 1)) + 1 by omega, show v39.toNat = x2.toNat + 1 by omega, show v35 = max x1 (M 60 (76 + x2.toNat)) by omega]
              exact (if_neg (by first | decide | omega)).symm
            exact ih4 _ _ (by first | decide | omega) (by first | omega | assumption | rfl) (by first | omega | assumption | rfl) (by first | omega | assumption | rfl)
          · skip
            replace q17 := q17.resolve_left (fun z => absurd (z.1.symm.trans h20) (by decide))
            refine And.intro rfl ?_
            refine ⟨?_, rfl⟩
            have g2 : sd_lat (M 60) (sd_n (M 60) - (x2).toNat) (x2).toNat x1 = sd_lat (M 60) (sd_n (M 60)) 0 (-1) := by assumption
            rw [show (76 + x2).toNat = 76 + x2.toNat by omega] at q17
            rw [← g2, show sd_n (M 60) - x2.toNat = (sd_n (M 60) - (x2.toNat + 1)) + 1 by omega]
            exact (if_pos (by first | decide | omega)).symm
    refine hgo (fun p => Nat.beq p 4) 31 0 _ [] M ?_
    exact L4 _ _ _ (Nat.lt_succ_self _) (by first | omega | assumption | rfl) (by first | omega | assumption | rfl) (by first | omega | assumption | rfl)
theorem v3_X12_latestMoved {fr lo i : Nat} {own : String} (h1 : 1 + 1 ≤ fr) (h2 : 8 + (3 + 11) + 21 ≤ lo) (h3 : .methodLink own i yX12_latestMoved ∈ lw_tbl) : pz_cV fr lo own i k3_X12_latestMoved :=
  pz_cVk (maxL := 3) (fr' := 1) (lo' := 21) 0 12 h3_X12_latestMoved rfl ⟨(pz_nhc_RX12 yX12_latestMoved rfl).1, (pz_nhc_RX12 yX12_latestMoved rfl).2, pz_ds1⟩ ⟨pz_wq1612, pz_wq1611, pz_ws73, pz_wq13⟩ (Or.inl ⟨TX12, 28, rfl⟩) (fun a M _ h => by
    have h : (match (generalizing := false) a with | [.inr (.inr (12, th))] => pz_im M | _ => False) := h
    split at h
    · exact ⟨_, _, rfl⟩
    · exact h.elim) h1 h2 h3
noncomputable def k3_X12_readyBy : pz_C := (3, 2, fun a M => (match a with | [.inr (.inr (12, th)), .inl i, .inl n] => pz_im M ∧ 0 ≤ i ∧ i < 12 | _ => False), fun a M r M' => (match a, r with | [.inr (.inr (12, th)), .inl i, .inl n], some (.inr (.inl v)) => (True) ∧ pz_rl pz_QV M M' | _, _ => False))
noncomputable abbrev ct3_X12_readyBy : List (Bool × Nat × pz_C) := [(true, 62, k3_X12_isOut), (true, 297, k3_X12_isReady), (true, 370, k3_X12_readyOf), (false, 408, k_X12_sureBy)]
theorem pz_wk_QS_QV : ∀ b j, pz_QS b j → pz_QV b j := by
  intro b j q
  unfold pz_QS at q
  unfold pz_QV
  omega
set_option maxRecDepth 100000 in
set_option maxHeartbeats 4000000 in
theorem h3_X12_readyBy : pz_H yX12_readyBy cX12_readyBy 3 (some .long) k3_X12_readyBy 5 116 := by
  refine pz_mk (own := RX12) (tb := t_X12_readyBy) (fl := pz_flf fl_RX12) (ci := pz_cif ci_RX12) (ct := pz_ctf ct3_X12_readyBy) (rz := false) (pz_pfc_RX12 yX12_readyBy rfl) rfl t_X12_readyBy_ok (pz_flk fl_RX12_ok) (pz_cik ci_RX12_ok) ?_ ?_ (rfl) ?_ ?_
  · exact fun i k' h => pz_ctk (l := ct3_X12_readyBy) (P := fun b i k => b = true → pz_cV 5 116 RX12 i k) (List.forall_mem_cons.mpr ⟨(fun _ => v3_X12_isOut (by decide) (by decide) pz_wq1419), List.forall_mem_cons.mpr ⟨(fun _ => v3_X12_isReady (by decide) (by decide) pz_wq1465), List.forall_mem_cons.mpr ⟨(fun _ => v3_X12_readyOf (by decide) (by decide) pz_wq1539), List.forall_mem_cons.mpr ⟨((fun z => by cases z)), fun _ h => absurd h List.not_mem_nil⟩⟩⟩⟩) true i k' h rfl
  · exact fun i k' h => pz_ctk (l := ct3_X12_readyBy) (P := fun b i k => b = false → (pz_cS 5 116 RX12 i k ∨ (k = pz_kac ∧ 1 ≤ 5 ∧ 60 ≤ 116 ∧ Cond.methodLink RX12 i arraycopyName ∈ pz_tbl))) (List.forall_mem_cons.mpr ⟨((fun z => by cases z)), List.forall_mem_cons.mpr ⟨((fun z => by cases z)), List.forall_mem_cons.mpr ⟨((fun z => by cases z)), List.forall_mem_cons.mpr ⟨(fun _ => Or.inl (s_X12_sureBy (by decide) (by decide) (Or.inl pz_wq1626))), fun _ h => absurd h List.not_mem_nil⟩⟩⟩⟩) false i k' h rfl
  · intro a M hlen hpre
    obtain ⟨th, i, n, rfl, hpre⟩ : ∃ th i n, a = [.inr (.inr (12, th)), .inl i, .inl n] ∧ (pz_im M ∧ 0 ≤ i ∧ i < 12) := by
      have hpre : (match (generalizing := false) a with | [.inr (.inr (12, th)), .inl i, .inl n] => pz_im M ∧ 0 ≤ i ∧ i < 12 | _ => False) := hpre
      split at hpre
      · exact ⟨_, _, _, rfl, hpre⟩
      · exact hpre.elim
    exact Nat.le_of_ble_eq_true rfl
  · intro a M hlen hcan hM hpre Ok hgo
    obtain ⟨th, i, n, rfl, hpre⟩ : ∃ th i n, a = [.inr (.inr (12, th)), .inl i, .inl n] ∧ (pz_im M ∧ 0 ≤ i ∧ i < 12) := by
      have hpre : (match (generalizing := false) a with | [.inr (.inr (12, th)), .inl i, .inl n] => pz_im M ∧ 0 ≤ i ∧ i < 12 | _ => False) := hpre
      split at hpre
      · exact ⟨_, _, _, rfl, hpre⟩
      · exact hpre.elim
    obtain ⟨k_th, hc_th⟩ := pz_tlm hcan
    have k_th : pz_kd th = 12 ∧ th < 231 := k_th
    have R_th := pz_kd12 k_th.1
    subst R_th
    clear k_th
    obtain ⟨k_i, hc_i⟩ := pz_tlm hc_th
    have l_i : -2147483648 ≤ i := k_i.1
    have u_i : i ≤ 2147483647 := k_i.2
    obtain ⟨k_n, hc_n⟩ := pz_tlm hc_i
    have l_n : -2147483648 ≤ n := k_n.1
    have u_n : n ≤ 2147483647 := k_n.2
    have hI : pz_im M := hpre.1
    have hI0 := hI
    have hS : pz_rl pz_QV M M := pz_rl.rf
    refine hgo (fun _ => false) 20 0 _ [] M ?_
    refine And.intro (And.intro hI (And.intro (by first | decide | omega) (by first | decide | omega))) ?_
    intro v2 M2 a2 b2 q2
    obtain ⟨q2, z2⟩ := q2
    subst z2
    clear a2 b2
    refine And.intro (fun h5 => ?_) (fun h5 => ?_)
    · skip
      replace q2 := q2.resolve_left (fun z => absurd (z.1.symm.trans h5) (by decide))
      clear h5
      refine And.intro (And.intro hI (And.intro (by first | decide | omega) (by first | decide | omega))) ?_
      intro v14 M14 a14 b14 q14
      obtain ⟨q14, z14⟩ := q14
      subst z14
      clear a14 b14
      refine And.intro (fun h17 => ?_) (fun h17 => ?_)
      · skip
        replace q14 := q14.resolve_left (fun z => absurd (z.1.symm.trans h17) (by decide))
        clear h17
        refine And.intro (And.intro hI (And.intro (by first | decide | omega) (by first | decide | omega))) ?_
        intro v28 M28 a28 b28 q28
        obtain ⟨q28, z28⟩ := q28
        have hS : pz_rl pz_QV M M28 := hS.tr (pz_rl.wk pz_wk_QS_QV z28)
        have hI : pz_im M28 := hS.1 hI0
        clear a28 b28
        refine And.intro (True.intro) ?_
        intro v32 M32 a32 b32 q32
        obtain ⟨q32, z32⟩ := q32
        subst z32
        refine And.intro rfl ?_
        exact ⟨trivial, hS⟩
      · skip
        replace q14 := q14.resolve_right (fun z => h17 z.1)
        clear h17
        refine And.intro rfl ?_
        exact ⟨trivial, hS⟩
    · skip
      replace q2 := q2.resolve_right (fun z => h5 z.1)
      clear h5
      refine And.intro rfl ?_
      exact ⟨trivial, hS⟩
theorem v3_X12_readyBy {fr lo i : Nat} {own : String} (h1 : 5 + 1 ≤ fr) (h2 : 8 + (3 + 11) + 116 ≤ lo) (h3 : .methodLink own i yX12_readyBy ∈ lw_tbl) : pz_cV fr lo own i k3_X12_readyBy :=
  pz_cVk (maxL := 3) (fr' := 5) (lo' := 116) 2 12 h3_X12_readyBy rfl ⟨(pz_nhc_RX12 yX12_readyBy rfl).1, (pz_nhc_RX12 yX12_readyBy rfl).2, pz_ds11⟩ ⟨pz_wq1625, pz_wq1624, pz_ws75, pz_wq13⟩ (Or.inl ⟨TX12, 28, rfl⟩) (fun a M _ h => by
    have h : (match (generalizing := false) a with | [.inr (.inr (12, th)), .inl i, .inl n] => pz_im M ∧ 0 ≤ i ∧ i < 12 | _ => False) := h
    split at h
    · exact ⟨_, _, rfl⟩
    · exact h.elim) h1 h2 h3
noncomputable def k3_X12_allBy : pz_C := (4, 2, fun a M => (match a with | [.inr (.inr (12, th)), .inl i, .inl j, .inl n] => pz_im M ∧ 0 ≤ i ∧ j < 12 | _ => False), fun a M r M' => (match a, r with | [.inr (.inr (12, th)), .inl i, .inl j, .inl n], some (.inr (.inl v)) => (True) ∧ pz_rl pz_QV M M' | _, _ => False))
noncomputable abbrev ct3_X12_allBy : List (Bool × Nat × pz_C) := [(true, 297, k3_X12_isReady), (true, 62, k3_X12_isOut), (true, 412, k3_X12_readyBy)]
set_option maxRecDepth 100000 in
set_option maxHeartbeats 4000000 in
theorem h3_X12_allBy : pz_H yX12_allBy cX12_allBy 7 (some .long) k3_X12_allBy 6 138 := by
  refine pz_mk (own := RX12) (tb := t_X12_allBy) (fl := pz_flf fl_RX12) (ci := pz_cif ci_RX12) (ct := pz_ctf ct3_X12_allBy) (rz := false) (pz_pfc_RX12 yX12_allBy rfl) rfl t_X12_allBy_ok (pz_flk fl_RX12_ok) (pz_cik ci_RX12_ok) ?_ ?_ (rfl) ?_ ?_
  · exact fun i k' h => pz_ctk (l := ct3_X12_allBy) (P := fun b i k => b = true → pz_cV 6 138 RX12 i k) (List.forall_mem_cons.mpr ⟨(fun _ => v3_X12_isReady (by decide) (by decide) pz_wq1465), List.forall_mem_cons.mpr ⟨(fun _ => v3_X12_isOut (by decide) (by decide) pz_wq1419), List.forall_mem_cons.mpr ⟨(fun _ => v3_X12_readyBy (by decide) (by decide) pz_wq1622), fun _ h => absurd h List.not_mem_nil⟩⟩⟩) true i k' h rfl
  · exact fun i k' h => pz_ctk (l := ct3_X12_allBy) (P := fun b i k => b = false → (pz_cS 6 138 RX12 i k ∨ (k = pz_kac ∧ 1 ≤ 6 ∧ 60 ≤ 138 ∧ Cond.methodLink RX12 i arraycopyName ∈ pz_tbl))) (List.forall_mem_cons.mpr ⟨((fun z => by cases z)), List.forall_mem_cons.mpr ⟨((fun z => by cases z)), List.forall_mem_cons.mpr ⟨((fun z => by cases z)), fun _ h => absurd h List.not_mem_nil⟩⟩⟩) false i k' h rfl
  · intro a M hlen hpre
    obtain ⟨th, i, j, n, rfl, hpre⟩ : ∃ th i j n, a = [.inr (.inr (12, th)), .inl i, .inl j, .inl n] ∧ (pz_im M ∧ 0 ≤ i ∧ j < 12) := by
      have hpre : (match (generalizing := false) a with | [.inr (.inr (12, th)), .inl i, .inl j, .inl n] => pz_im M ∧ 0 ≤ i ∧ j < 12 | _ => False) := hpre
      split at hpre
      · exact ⟨_, _, _, _, rfl, hpre⟩
      · exact hpre.elim
    exact Nat.le_of_ble_eq_true rfl
  · intro a M hlen hcan hM hpre Ok hgo
    obtain ⟨th, i, j, n, rfl, hpre⟩ : ∃ th i j n, a = [.inr (.inr (12, th)), .inl i, .inl j, .inl n] ∧ (pz_im M ∧ 0 ≤ i ∧ j < 12) := by
      have hpre : (match (generalizing := false) a with | [.inr (.inr (12, th)), .inl i, .inl j, .inl n] => pz_im M ∧ 0 ≤ i ∧ j < 12 | _ => False) := hpre
      split at hpre
      · exact ⟨_, _, _, _, rfl, hpre⟩
      · exact hpre.elim
    obtain ⟨k_th, hc_th⟩ := pz_tlm hcan
    have k_th : pz_kd th = 12 ∧ th < 231 := k_th
    have R_th := pz_kd12 k_th.1
    subst R_th
    clear k_th
    obtain ⟨k_i, hc_i⟩ := pz_tlm hc_th
    have l_i : -2147483648 ≤ i := k_i.1
    have u_i : i ≤ 2147483647 := k_i.2
    obtain ⟨k_j, hc_j⟩ := pz_tlm hc_i
    have l_j : -2147483648 ≤ j := k_j.1
    have u_j : j ≤ 2147483647 := k_j.2
    obtain ⟨k_n, hc_n⟩ := pz_tlm hc_j
    have l_n : -2147483648 ≤ n := k_n.1
    have u_n : n ≤ 2147483647 := k_n.2
    have hI : pz_im M := hpre.1
    have hI0 := hI
    have hS : pz_rl pz_QV M M := pz_rl.rf
    have L8 : ∀ (fu : Nat) (x4 : Int) (x6 : Int) (N8 : pz_M), (12 - x6).toNat < fu → (pz_rl pz_QV M N8) → (0 ≤ x6) → Ok 8 [some (.inr (.inr (12, 1))), some (.inl i), some (.inl j), some (.inl n), some (.inr (.inl x4)), none, some (.inl x6)] [] N8 := by
      intro fu
      induction fu with
      | zero => exact fun _ _ _ hn => absurd hn (Nat.not_lt_zero _)
      | succ fu ih8 =>
        intro x4 x6 N8 hn8 hS g8_1
        have hI : pz_im N8 := hS.1 hI0
        have L48 : ∀ (x4 : Int) (x6 : Int) (N48 : pz_M), (pz_rl pz_QV M N48) → (0 ≤ x6) → (x6 < 12) → ((12 - x6).toNat < fu + 1) → Ok 48 [some (.inr (.inr (12, 1))), some (.inl i), some (.inl j), some (.inl n), some (.inr (.inl x4)), none, some (.inl x6)] [] N48 := by
          intro x4 x6 N48 hS g48_1 g48_2 g48_3
          have hI : pz_im N48 := hS.1 hI0
          refine hgo (fun p => Nat.beq p 8 || Nat.beq p 48) 30 48 _ _ _ ?_
          intro v48 e48 a48 b48
          rw [pz_wi (by first | decide | omega) (by first | decide | omega)] at e48
          clear a48 b48
          exact ih8 _ _ _ (by first | decide | omega) hS (by first | decide | omega)
        refine hgo (fun p => Nat.beq p 8 || Nat.beq p 48) 30 8 _ _ _ ?_
        refine And.intro (fun h11 => ?_) (fun h11 => ?_)
        · skip
          refine And.intro rfl ?_
          exact ⟨trivial, hS⟩
        · skip
          refine And.intro (And.intro hI (And.intro (by first | decide | omega) (by first | decide | omega))) ?_
          intro v17 M17 a17 b17 q17
          obtain ⟨q17, z17⟩ := q17
          subst z17
          clear a17 b17
          refine And.intro (fun h20 => ?_) (fun h20 => ?_)
          · skip
            replace q17 := q17.resolve_left (fun z => absurd (z.1.symm.trans h20) (by decide))
            clear h20
            refine And.intro (And.intro hI (And.intro (by first | decide | omega) (by first | decide | omega))) ?_
            intro v38 M38 a38 b38 q38
            obtain ⟨q38, z38⟩ := q38
            have hS : pz_rl pz_QV M M38 := hS.tr z38
            have hI : pz_im M38 := hS.1 hI0
            intro v41 e41 a41 b41
            refine And.intro (by first | decide | omega) ?_
            intro v45 e45 a45 b45
            exact L48 _ _ _ hS (by first | decide | omega) (by first | decide | omega) (by first | decide | omega)
          · skip
            replace q17 := q17.resolve_right (fun z => h20 z.1)
            clear h20
            refine And.intro (And.intro hI (And.intro (by first | decide | omega) (by first | decide | omega))) ?_
            intro v26 M26 a26 b26 q26
            obtain ⟨q26, z26⟩ := q26
            subst z26
            clear a26 b26
            refine And.intro (fun h29 => ?_) (fun h29 => ?_)
            · skip
              replace q26 := q26.resolve_left (fun z => absurd (z.1.symm.trans h29) (by decide))
              clear h29
              exact L48 _ _ _ hS (by first | decide | omega) (by first | decide | omega) (by first | decide | omega)
            · skip
              replace q26 := q26.resolve_right (fun z => h29 z.1)
              clear h29
              refine And.intro (And.intro hI (And.intro (by first | decide | omega) (by first | decide | omega))) ?_
              intro v38 M38 a38 b38 q38
              obtain ⟨q38, z38⟩ := q38
              have hS : pz_rl pz_QV M M38 := hS.tr z38
              have hI : pz_im M38 := hS.1 hI0
              intro v41 e41 a41 b41
              refine And.intro (by first | decide | omega) ?_
              intro v45 e45 a45 b45
              exact L48 _ _ _ hS (by first | decide | omega) (by first | decide | omega) (by first | decide | omega)
    refine hgo (fun p => Nat.beq p 8 || Nat.beq p 48) 30 0 _ [] M ?_
    exact L8 _ _ _ _ (Nat.lt_succ_self _) hS (by first | decide | omega)
theorem v3_X12_allBy {fr lo i : Nat} {own : String} (h1 : 6 + 1 ≤ fr) (h2 : 8 + (7 + 11) + 138 ≤ lo) (h3 : .methodLink own i yX12_allBy ∈ lw_tbl) : pz_cV fr lo own i k3_X12_allBy :=
  pz_cVk (maxL := 7) (fr' := 6) (lo' := 138) 3 12 h3_X12_allBy rfl ⟨(pz_nhc_RX12 yX12_allBy rfl).1, (pz_nhc_RX12 yX12_allBy rfl).2, pz_ds15⟩ ⟨pz_wq1620, pz_wq1619, pz_ws74, pz_wq13⟩ (Or.inl ⟨TX12, 28, rfl⟩) (fun a M _ h => by
    have h : (match (generalizing := false) a with | [.inr (.inr (12, th)), .inl i, .inl j, .inl n] => pz_im M ∧ 0 ≤ i ∧ j < 12 | _ => False) := h
    split at h
    · exact ⟨_, _, rfl⟩
    · exact h.elim) h1 h2 h3
noncomputable def k3_X12_odds : pz_C := (2, 1, fun a M => (match a with | [.inr (.inr (12, th)), .inl n] => pz_im M | _ => False), fun a M r M' => (match a, r with | [.inr (.inr (12, th)), .inl n], some (.inl v) => (True) ∧ pz_rl pz_QV M M' | _, _ => False))
noncomputable abbrev ct3_X12_odds : List (Bool × Nat × pz_C) := [(false, 54, k_X12_isIn), (true, 415, k3_X12_allBy)]
set_option maxRecDepth 100000 in
set_option maxHeartbeats 4000000 in
theorem h3_X12_odds : pz_H yX12_odds cX12_odds 2 (some .int) k3_X12_odds 7 164 := by
  refine pz_mk (own := RX12) (tb := t_X12_odds) (fl := pz_flf fl_RX12) (ci := pz_cif ci_RX12) (ct := pz_ctf ct3_X12_odds) (rz := false) (pz_pfc_RX12 yX12_odds rfl) rfl t_X12_odds_ok (pz_flk fl_RX12_ok) (pz_cik ci_RX12_ok) ?_ ?_ (Or.inl ⟨rfl, rfl⟩) ?_ ?_
  · exact fun i k' h => pz_ctk (l := ct3_X12_odds) (P := fun b i k => b = true → pz_cV 7 164 RX12 i k) (List.forall_mem_cons.mpr ⟨((fun z => by cases z)), List.forall_mem_cons.mpr ⟨(fun _ => v3_X12_allBy (by decide) (by decide) pz_wq1617), fun _ h => absurd h List.not_mem_nil⟩⟩) true i k' h rfl
  · exact fun i k' h => pz_ctk (l := ct3_X12_odds) (P := fun b i k => b = false → (pz_cS 7 164 RX12 i k ∨ (k = pz_kac ∧ 1 ≤ 7 ∧ 60 ≤ 164 ∧ Cond.methodLink RX12 i arraycopyName ∈ pz_tbl))) (List.forall_mem_cons.mpr ⟨(fun _ => Or.inl (s_X12_isIn (by decide) (by decide) (Or.inl pz_wq1217))), List.forall_mem_cons.mpr ⟨((fun z => by cases z)), fun _ h => absurd h List.not_mem_nil⟩⟩) false i k' h rfl
  · intro a M hlen hpre
    obtain ⟨th, n, rfl, hpre⟩ : ∃ th n, a = [.inr (.inr (12, th)), .inl n] ∧ (pz_im M) := by
      have hpre : (match (generalizing := false) a with | [.inr (.inr (12, th)), .inl n] => pz_im M | _ => False) := hpre
      split at hpre
      · exact ⟨_, _, rfl, hpre⟩
      · exact hpre.elim
    exact Nat.le_of_ble_eq_true rfl
  · intro a M hlen hcan hM hpre Ok hgo
    obtain ⟨th, n, rfl, hpre⟩ : ∃ th n, a = [.inr (.inr (12, th)), .inl n] ∧ (pz_im M) := by
      have hpre : (match (generalizing := false) a with | [.inr (.inr (12, th)), .inl n] => pz_im M | _ => False) := hpre
      split at hpre
      · exact ⟨_, _, rfl, hpre⟩
      · exact hpre.elim
    obtain ⟨k_th, hc_th⟩ := pz_tlm hcan
    have k_th : pz_kd th = 12 ∧ th < 231 := k_th
    have R_th := pz_kd12 k_th.1
    subst R_th
    clear k_th
    obtain ⟨k_n, hc_n⟩ := pz_tlm hc_th
    have l_n : -2147483648 ≤ n := k_n.1
    have u_n : n ≤ 2147483647 := k_n.2
    have hI : pz_im M := hpre
    have hI0 := hI
    have hS : pz_rl pz_QV M M := pz_rl.rf
    refine hgo (fun _ => false) 21 0 _ [] M ?_
    refine And.intro (True.intro) ?_
    intro v4 M4 a4 b4 q4
    obtain ⟨q4, z4⟩ := q4
    subst z4
    clear a4 b4
    refine And.intro (fun h7 => ?_) (fun h7 => ?_)
    · skip
      replace q4 := q4.resolve_left (fun z => absurd (z.1.symm.trans h7) (by decide))
      clear h7
      refine And.intro rfl ?_
      exact ⟨trivial, hS⟩
    · skip
      replace q4 := q4.resolve_right (fun z => h7 z.1)
      clear h7
      refine pz_nrc (c := 60) rfl ?_
      refine And.intro (by first | decide | omega) (And.intro (show _ < (1725 : Int) from by omega) ?_)
      intro v18 e18 a18 b18
      replace e18 : v18 = M 60 88 := e18
      have I18 : 0 ≤ v18 ∧ v18 ≤ 12 := by
        rw [e18]
        exact hI.1.1
      clear a18 b18
      intro v20 e20 a20 b20
      rw [pz_wi (by first | decide | omega) (by first | decide | omega)] at e20
      clear a20 b20
      refine And.intro (And.intro hI (And.intro (by first | decide | omega) (by first | decide | omega))) ?_
      intro v22 M22 a22 b22 q22
      obtain ⟨q22, z22⟩ := q22
      have hS : pz_rl pz_QV M M22 := hS.tr z22
      have hI : pz_im M22 := hS.1 hI0
      intro v25 e25 a25 b25
      refine And.intro rfl ?_
      exact ⟨trivial, hS⟩
theorem v3_X12_odds {fr lo i : Nat} {own : String} (h1 : 7 + 1 ≤ fr) (h2 : 8 + (2 + 11) + 164 ≤ lo) (h3 : .methodLink own i yX12_odds ∈ lw_tbl) : pz_cV fr lo own i k3_X12_odds :=
  pz_cVk (maxL := 2) (fr' := 7) (lo' := 164) 1 12 h3_X12_odds rfl ⟨(pz_nhc_RX12 yX12_odds rfl).1, (pz_nhc_RX12 yX12_odds rfl).2, pz_ds5⟩ ⟨pz_wq1616, pz_wq1614, pz_wq1615, pz_wq13⟩ (Or.inl ⟨TX12, 28, rfl⟩) (fun a M _ h => by
    have h : (match (generalizing := false) a with | [.inr (.inr (12, th)), .inl n] => pz_im M | _ => False) := h
    split at h
    · exact ⟨_, _, rfl⟩
    · exact h.elim) h1 h2 h3
noncomputable def k3_X12_holds : pz_C := (3, 1, fun a M => (match a with | [.inr (.inr (12, th)), .inl n, .inl w] => pz_im M | _ => False), fun a M r M' => (match a, r with | [.inr (.inr (12, th)), .inl n, .inl w], some (.inl v) => (True) ∧ pz_rl pz_QV M M' | _, _ => False))
noncomputable abbrev ct3_X12_holds : List (Bool × Nat × pz_C) := [(false, 54, k_X12_isIn), (true, 297, k3_X12_isReady), (true, 412, k3_X12_readyBy)]
set_option maxRecDepth 100000 in
set_option maxHeartbeats 4000000 in
theorem h3_X12_holds : pz_H yX12_holds cX12_holds 5 (some .int) k3_X12_holds 6 138 := by
  refine pz_mk (own := RX12) (tb := t_X12_holds) (fl := pz_flf fl_RX12) (ci := pz_cif ci_RX12) (ct := pz_ctf ct3_X12_holds) (rz := false) (pz_pfc_RX12 yX12_holds rfl) rfl t_X12_holds_ok (pz_flk fl_RX12_ok) (pz_cik ci_RX12_ok) ?_ ?_ (Or.inl ⟨rfl, rfl⟩) ?_ ?_
  · exact fun i k' h => pz_ctk (l := ct3_X12_holds) (P := fun b i k => b = true → pz_cV 6 138 RX12 i k) (List.forall_mem_cons.mpr ⟨((fun z => by cases z)), List.forall_mem_cons.mpr ⟨(fun _ => v3_X12_isReady (by decide) (by decide) pz_wq1465), List.forall_mem_cons.mpr ⟨(fun _ => v3_X12_readyBy (by decide) (by decide) pz_wq1622), fun _ h => absurd h List.not_mem_nil⟩⟩⟩) true i k' h rfl
  · exact fun i k' h => pz_ctk (l := ct3_X12_holds) (P := fun b i k => b = false → (pz_cS 6 138 RX12 i k ∨ (k = pz_kac ∧ 1 ≤ 6 ∧ 60 ≤ 138 ∧ Cond.methodLink RX12 i arraycopyName ∈ pz_tbl))) (List.forall_mem_cons.mpr ⟨(fun _ => Or.inl (s_X12_isIn (by decide) (by decide) (Or.inl pz_wq1217))), List.forall_mem_cons.mpr ⟨((fun z => by cases z)), List.forall_mem_cons.mpr ⟨((fun z => by cases z)), fun _ h => absurd h List.not_mem_nil⟩⟩⟩) false i k' h rfl
  · intro a M hlen hpre
    obtain ⟨th, n, w, rfl, hpre⟩ : ∃ th n w, a = [.inr (.inr (12, th)), .inl n, .inl w] ∧ (pz_im M) := by
      have hpre : (match (generalizing := false) a with | [.inr (.inr (12, th)), .inl n, .inl w] => pz_im M | _ => False) := hpre
      split at hpre
      · exact ⟨_, _, _, rfl, hpre⟩
      · exact hpre.elim
    exact Nat.le_of_ble_eq_true rfl
  · intro a M hlen hcan hM hpre Ok hgo
    obtain ⟨th, n, w, rfl, hpre⟩ : ∃ th n w, a = [.inr (.inr (12, th)), .inl n, .inl w] ∧ (pz_im M) := by
      have hpre : (match (generalizing := false) a with | [.inr (.inr (12, th)), .inl n, .inl w] => pz_im M | _ => False) := hpre
      split at hpre
      · exact ⟨_, _, _, rfl, hpre⟩
      · exact hpre.elim
    obtain ⟨k_th, hc_th⟩ := pz_tlm hcan
    have k_th : pz_kd th = 12 ∧ th < 231 := k_th
    have R_th := pz_kd12 k_th.1
    subst R_th
    clear k_th
    obtain ⟨k_n, hc_n⟩ := pz_tlm hc_th
    have l_n : -2147483648 ≤ n := k_n.1
    have u_n : n ≤ 2147483647 := k_n.2
    obtain ⟨k_w, hc_w⟩ := pz_tlm hc_n
    have l_w : -2147483648 ≤ w := k_w.1
    have u_w : w ≤ 2147483647 := k_w.2
    have hI : pz_im M := hpre
    have hI0 := hI
    have hS : pz_rl pz_QV M M := pz_rl.rf
    have L26 : ∀ (fu : Nat) (x3 : Int) (x4 : Int) (N26 : pz_M), (12 - x4).toNat < fu → (pz_rl pz_QV M N26) → (0 ≤ x4) → (-1 ≤ x3) → (x3 < 12) → Ok 26 [some (.inr (.inr (12, 1))), some (.inl n), some (.inl w), some (.inl x3), some (.inl x4)] [] N26 := by
      intro fu
      induction fu with
      | zero => exact fun _ _ _ hn => absurd hn (Nat.not_lt_zero _)
      | succ fu ih26 =>
        intro x3 x4 N26 hn26 hS g26_1 g26_2 g26_3
        have hI : pz_im N26 := hS.1 hI0
        have L72 : ∀ (x3 : Int) (x4 : Int) (N72 : pz_M), (pz_rl pz_QV M N72) → (0 ≤ x4) → (x4 < 12) → ((12 - x4).toNat < fu + 1) → (-1 ≤ x3) → (x3 < 12) → Ok 72 [some (.inr (.inr (12, 1))), some (.inl n), some (.inl w), some (.inl x3), some (.inl x4)] [] N72 := by
          intro x3 x4 N72 hS g72_1 g72_2 g72_3 g72_4 g72_5
          have hI : pz_im N72 := hS.1 hI0
          refine hgo (fun p => Nat.beq p 26 || Nat.beq p 72) 58 72 _ _ _ ?_
          intro v72 e72 a72 b72
          rw [pz_wi (by first | decide | omega) (by first | decide | omega)] at e72
          clear a72 b72
          exact ih26 _ _ _ (by first | decide | omega) hS (by first | decide | omega) (by first | decide | omega) (by first | decide | omega)
        refine hgo (fun p => Nat.beq p 26 || Nat.beq p 72) 58 26 _ _ _ ?_
        refine pz_nrc (c := 60) rfl ?_
        refine And.intro (by first | decide | omega) (And.intro (show _ < (1725 : Int) from by omega) ?_)
        intro v34 e34 a34 b34
        replace e34 : v34 = N26 60 88 := e34
        have I34 : 0 ≤ v34 ∧ v34 ≤ 12 := by
          rw [e34]
          exact hI.1.1
        clear a34 b34
        refine And.intro (fun h35 => ?_) (fun h35 => ?_)
        · skip
          refine And.intro (fun h80 => ?_) (fun h80 => ?_)
          · skip
            refine And.intro rfl ?_
            exact ⟨trivial, hS⟩
          · skip
            replace h80 : 0 ≤ x3 := by omega
            refine And.intro (fun h84 => ?_) (fun h84 => ?_)
            · skip
              refine And.intro (And.intro hI (And.intro (by first | decide | omega) (by first | decide | omega))) ?_
              intro v94 M94 a94 b94 q94
              obtain ⟨q94, z94⟩ := q94
              have hS : pz_rl pz_QV M M94 := hS.tr z94
              have hI : pz_im M94 := hS.1 hI0
              intro v97 e97 a97 b97
              refine And.intro rfl ?_
              exact ⟨trivial, hS⟩
            · skip
              refine And.intro rfl ?_
              exact ⟨trivial, hS⟩
        · skip
          refine And.intro (And.intro hI (And.intro (by first | decide | omega) (by first | decide | omega))) ?_
          intro v41 M41 a41 b41 q41
          obtain ⟨q41, z41⟩ := q41
          subst z41
          clear a41 b41
          refine And.intro (fun h44 => ?_) (fun h44 => ?_)
          · skip
            replace q41 := q41.resolve_right (fun z => h44 z.1)
            clear h44
            exact L72 _ _ _ hS (by first | decide | omega) (by first | decide | omega) (by first | decide | omega) (by first | decide | omega) (by first | decide | omega)
          · skip
            replace q41 := q41.resolve_left (fun z => absurd (z.1.symm.trans h44) (by decide))
            clear h44
            refine And.intro (fun h49 => ?_) (fun h49 => ?_)
            · skip
              exact L72 _ _ _ hS (by first | decide | omega) (by first | decide | omega) (by first | decide | omega) (by first | decide | omega) (by first | decide | omega)
            · skip
              replace h49 : 0 ≤ x3 := by omega
              refine And.intro (And.intro hI (And.intro (by first | decide | omega) (by first | decide | omega))) ?_
              intro v56 M56 a56 b56 q56
              obtain ⟨q56, z56⟩ := q56
              have hS : pz_rl pz_QV M M56 := hS.tr z56
              have hI : pz_im M56 := hS.1 hI0
              refine And.intro (And.intro hI (And.intro (by first | decide | omega) (by first | decide | omega))) ?_
              intro v62 M62 a62 b62 q62
              obtain ⟨q62, z62⟩ := q62
              have hS : pz_rl pz_QV M M62 := hS.tr z62
              have hI : pz_im M62 := hS.1 hI0
              refine And.intro (fun h65 => ?_) ?_
              · skip
                refine And.intro (fun h66 => ?_) (fun h66 => ?_)
                · skip
                  exact absurd h66 (by decide)
                · skip
                  exact L72 _ _ _ hS (by first | decide | omega) (by first | decide | omega) (by first | decide | omega) (by first | decide | omega) (by first | decide | omega)
              refine And.intro (fun h65 => ?_) ?_
              · skip
                refine And.intro (fun h66 => ?_) (fun h66 => ?_)
                · skip
                  exact L72 _ _ _ hS (by first | decide | omega) (by first | decide | omega) (by first | decide | omega) (by first | decide | omega) (by first | decide | omega)
                · skip
                  exact absurd h66 (by decide)
              intro h65
              refine And.intro (fun h66 => ?_) (fun h66 => ?_)
              · skip
                exact L72 _ _ _ hS (by first | decide | omega) (by first | decide | omega) (by first | decide | omega) (by first | decide | omega) (by first | decide | omega)
              · skip
                exact absurd h66 (by decide)
    refine hgo (fun p => Nat.beq p 26 || Nat.beq p 72) 58 0 _ [] M ?_
    refine And.intro (True.intro) ?_
    intro v4 M4 a4 b4 q4
    obtain ⟨q4, z4⟩ := q4
    subst z4
    clear a4 b4
    refine And.intro (fun h7 => ?_) (fun h7 => ?_)
    · skip
      replace q4 := q4.resolve_left (fun z => absurd (z.1.symm.trans h7) (by decide))
      clear h7
      refine And.intro rfl ?_
      exact ⟨trivial, hS⟩
    · skip
      replace q4 := q4.resolve_right (fun z => h7 z.1)
      clear h7
      refine And.intro (True.intro) ?_
      intro v13 M13 a13 b13 q13
      obtain ⟨q13, z13⟩ := q13
      subst z13
      clear a13 b13
      refine And.intro (fun h16 => ?_) (fun h16 => ?_)
      · skip
        replace q13 := q13.resolve_right (fun z => h16 z.1)
        clear h16
        exact L26 _ _ _ _ (Nat.lt_succ_self _) hS (by first | decide | omega) (by first | decide | omega) (by first | decide | omega)
      · skip
        replace q13 := q13.resolve_left (fun z => absurd (z.1.symm.trans h16) (by decide))
        clear h16
        refine And.intro rfl ?_
        exact ⟨trivial, hS⟩
theorem v3_X12_holds {fr lo i : Nat} {own : String} (h1 : 6 + 1 ≤ fr) (h2 : 8 + (5 + 11) + 138 ≤ lo) (h3 : .methodLink own i yX12_holds ∈ lw_tbl) : pz_cV fr lo own i k3_X12_holds :=
  pz_cVk (maxL := 5) (fr' := 6) (lo' := 138) 2 12 h3_X12_holds rfl ⟨(pz_nhc_RX12 yX12_holds rfl).1, (pz_nhc_RX12 yX12_holds rfl).2, pz_ds10⟩ ⟨pz_wq1633, pz_wq1631, pz_wq1632, pz_wq13⟩ (Or.inl ⟨TX12, 28, rfl⟩) (fun a M _ h => by
    have h : (match (generalizing := false) a with | [.inr (.inr (12, th)), .inl n, .inl w] => pz_im M | _ => False) := h
    split at h
    · exact ⟨_, _, rfl⟩
    · exact h.elim) h1 h2 h3
noncomputable def k3_X12_leastBy : pz_C := (3, 2, fun a M => (match a with | [.inr (.inr (12, th)), .inl x, .inl n] => pz_im M | _ => False), fun a M r M' => (match a, r with | [.inr (.inr (12, th)), .inl x, .inl n], some (.inr (.inl v)) => (True) ∧ pz_rl pz_QV M M' | _, _ => False))
noncomputable abbrev ct3_X12_leastBy : List (Bool × Nat × pz_C) := [(true, 294, k3_X12_endOf), (true, 415, k3_X12_allBy)]
set_option maxRecDepth 100000 in
set_option maxHeartbeats 4000000 in
theorem h3_X12_leastBy : pz_H yX12_leastBy cX12_leastBy 9 (some .long) k3_X12_leastBy 7 164 := by
  refine pz_mk (own := RX12) (tb := t_X12_leastBy) (fl := pz_flf fl_RX12) (ci := pz_cif ci_RX12) (ct := pz_ctf ct3_X12_leastBy) (rz := false) (pz_pfc_RX12 yX12_leastBy rfl) rfl t_X12_leastBy_ok (pz_flk fl_RX12_ok) (pz_cik ci_RX12_ok) ?_ ?_ (rfl) ?_ ?_
  · exact fun i k' h => pz_ctk (l := ct3_X12_leastBy) (P := fun b i k => b = true → pz_cV 7 164 RX12 i k) (List.forall_mem_cons.mpr ⟨(fun _ => v3_X12_endOf (by decide) (by decide) pz_wq1458), List.forall_mem_cons.mpr ⟨(fun _ => v3_X12_allBy (by decide) (by decide) pz_wq1617), fun _ h => absurd h List.not_mem_nil⟩⟩) true i k' h rfl
  · exact fun i k' h => pz_ctk (l := ct3_X12_leastBy) (P := fun b i k => b = false → (pz_cS 7 164 RX12 i k ∨ (k = pz_kac ∧ 1 ≤ 7 ∧ 60 ≤ 164 ∧ Cond.methodLink RX12 i arraycopyName ∈ pz_tbl))) (List.forall_mem_cons.mpr ⟨((fun z => by cases z)), List.forall_mem_cons.mpr ⟨((fun z => by cases z)), fun _ h => absurd h List.not_mem_nil⟩⟩) false i k' h rfl
  · intro a M hlen hpre
    obtain ⟨th, x, n, rfl, hpre⟩ : ∃ th x n, a = [.inr (.inr (12, th)), .inl x, .inl n] ∧ (pz_im M) := by
      have hpre : (match (generalizing := false) a with | [.inr (.inr (12, th)), .inl x, .inl n] => pz_im M | _ => False) := hpre
      split at hpre
      · exact ⟨_, _, _, rfl, hpre⟩
      · exact hpre.elim
    exact Nat.le_of_ble_eq_true rfl
  · intro a M hlen hcan hM hpre Ok hgo
    obtain ⟨th, x, n, rfl, hpre⟩ : ∃ th x n, a = [.inr (.inr (12, th)), .inl x, .inl n] ∧ (pz_im M) := by
      have hpre : (match (generalizing := false) a with | [.inr (.inr (12, th)), .inl x, .inl n] => pz_im M | _ => False) := hpre
      split at hpre
      · exact ⟨_, _, _, rfl, hpre⟩
      · exact hpre.elim
    obtain ⟨k_th, hc_th⟩ := pz_tlm hcan
    have k_th : pz_kd th = 12 ∧ th < 231 := k_th
    have R_th := pz_kd12 k_th.1
    subst R_th
    clear k_th
    obtain ⟨k_x, hc_x⟩ := pz_tlm hc_th
    have l_x : -2147483648 ≤ x := k_x.1
    have u_x : x ≤ 2147483647 := k_x.2
    obtain ⟨k_n, hc_n⟩ := pz_tlm hc_x
    have l_n : -2147483648 ≤ n := k_n.1
    have u_n : n ≤ 2147483647 := k_n.2
    have hI : pz_im M := hpre
    have hI0 := hI
    have hS : pz_rl pz_QV M M := pz_rl.rf
    have L7 : ∀ (fu : Nat) (x3 : Int) (x5 : Int) (d6 : Option pz_V) (d7 : Option pz_V) (d8 : Option pz_V) (N7 : pz_M), (12 - x5).toNat < fu → (pz_rl pz_QV M N7) → (0 ≤ x5) → Ok 7 [some (.inr (.inr (12, 1))), some (.inl x), some (.inl n), some (.inr (.inl x3)), none, some (.inl x5), d6, d7, d8] [] N7 := by
      intro fu
      induction fu with
      | zero => exact fun _ _ _ _ _ _ hn => absurd hn (Nat.not_lt_zero _)
      | succ fu ih7 =>
        intro x3 x5 d6 d7 d8 N7 hn7 hS g7_1
        have hI : pz_im N7 := hS.1 hI0
        have F88 : N7 60 88 = M 60 88 := hS.2 60 88 (by unfold pz_QV; first | decide | omega)
        have I88 := hI0.1.1
        refine hgo (fun p => Nat.beq p 7) 49 7 _ _ _ ?_
        refine pz_nrc (c := 60) rfl ?_
        refine And.intro (by first | decide | omega) (And.intro (show _ < (1725 : Int) from by omega) ?_)
        intro v15 e15 a15 b15
        replace e15 : v15 = N7 60 88 := e15
        have I15 : 0 ≤ v15 ∧ v15 ≤ 12 := by
          rw [e15]
          exact hI.1.1
        clear a15 b15
        refine And.intro (fun h16 => ?_) (fun h16 => ?_)
        · skip
          refine And.intro rfl ?_
          exact ⟨trivial, hS⟩
        · skip
          refine And.intro (And.intro hI (And.intro (by first | decide | omega) (by first | decide | omega))) ?_
          intro v23 M23 a23 b23 q23
          obtain ⟨q23, z23⟩ := q23
          subst z23
          refine And.intro (And.intro hI (And.intro (by first | decide | omega) (by first | decide | omega))) ?_
          intro v34 M34 a34 b34 q34
          obtain ⟨q34, z34⟩ := q34
          have hS : pz_rl pz_QV M M34 := hS.tr z34
          have hI : pz_im M34 := hS.1 hI0
          have G88 : M34 60 88 = M 60 88 := hS.2 60 88 (by unfold pz_QV; first | decide | omega)
          refine And.intro (fun h42 => ?_) ?_
          · skip
            refine And.intro (fun h43 => ?_) (fun h43 => ?_)
            · skip
              exact absurd h43 (by decide)
            · skip
              refine pz_nrc (c := 60) rfl ?_
              refine And.intro (by first | decide | omega) (And.intro (show _ < (1725 : Int) from by omega) ?_)
              intro v61 e61 a61 b61
              replace e61 : v61 = M34 60 88 := e61
              have I61 : 0 ≤ v61 ∧ v61 ≤ 12 := by
                rw [e61]
                exact hI.1.1
              clear a61 b61
              intro v63 e63 a63 b63
              rw [pz_wi (by first | decide | omega) (by first | decide | omega)] at e63
              clear a63 b63
              refine And.intro (fun h64 => ?_) (fun h64 => ?_)
              · skip
                exact ih7 _ _ _ _ _ _ (by first | decide | omega) hS (by first | decide | omega)
              · skip
                refine pz_nrc (c := 60) rfl ?_
                refine And.intro (by first | decide | omega) (And.intro (show _ < (1725 : Int) from by omega) ?_)
                intro v73 e73 a73 b73
                replace e73 : v73 = M34 60 88 := e73
                have I73 : 0 ≤ v73 ∧ v73 ≤ 12 := by
                  rw [e73]
                  exact hI.1.1
                clear a73 b73
                exact ih7 _ _ _ _ _ _ (by first | decide | omega) hS (by first | decide | omega)
          refine And.intro (fun h42 => ?_) ?_
          · skip
            refine And.intro (fun h43 => ?_) (fun h43 => ?_)
            · skip
              refine pz_nrc (c := 60) rfl ?_
              refine And.intro (by first | decide | omega) (And.intro (show _ < (1725 : Int) from by omega) ?_)
              intro v61 e61 a61 b61
              replace e61 : v61 = M34 60 88 := e61
              have I61 : 0 ≤ v61 ∧ v61 ≤ 12 := by
                rw [e61]
                exact hI.1.1
              clear a61 b61
              intro v63 e63 a63 b63
              rw [pz_wi (by first | decide | omega) (by first | decide | omega)] at e63
              clear a63 b63
              refine And.intro (fun h64 => ?_) (fun h64 => ?_)
              · skip
                exact ih7 _ _ _ _ _ _ (by first | decide | omega) hS (by first | decide | omega)
              · skip
                refine pz_nrc (c := 60) rfl ?_
                refine And.intro (by first | decide | omega) (And.intro (show _ < (1725 : Int) from by omega) ?_)
                intro v73 e73 a73 b73
                replace e73 : v73 = M34 60 88 := e73
                have I73 : 0 ≤ v73 ∧ v73 ≤ 12 := by
                  rw [e73]
                  exact hI.1.1
                clear a73 b73
                exact ih7 _ _ _ _ _ _ (by first | decide | omega) hS (by first | decide | omega)
            · skip
              exact absurd h43 (by decide)
          intro h42
          refine And.intro (fun h43 => ?_) (fun h43 => ?_)
          · skip
            refine pz_nrc (c := 60) rfl ?_
            refine And.intro (by first | decide | omega) (And.intro (show _ < (1725 : Int) from by omega) ?_)
            intro v61 e61 a61 b61
            replace e61 : v61 = M34 60 88 := e61
            have I61 : 0 ≤ v61 ∧ v61 ≤ 12 := by
              rw [e61]
              exact hI.1.1
            clear a61 b61
            intro v63 e63 a63 b63
            rw [pz_wi (by first | decide | omega) (by first | decide | omega)] at e63
            clear a63 b63
            refine And.intro (fun h64 => ?_) (fun h64 => ?_)
            · skip
              exact ih7 _ _ _ _ _ _ (by first | decide | omega) hS (by first | decide | omega)
            · skip
              refine pz_nrc (c := 60) rfl ?_
              refine And.intro (by first | decide | omega) (And.intro (show _ < (1725 : Int) from by omega) ?_)
              intro v73 e73 a73 b73
              replace e73 : v73 = M34 60 88 := e73
              have I73 : 0 ≤ v73 ∧ v73 ≤ 12 := by
                rw [e73]
                exact hI.1.1
              clear a73 b73
              exact ih7 _ _ _ _ _ _ (by first | decide | omega) hS (by first | decide | omega)
          · skip
            exact absurd h43 (by decide)
    refine hgo (fun p => Nat.beq p 7) 49 0 _ [] M ?_
    exact L7 _ _ _ _ _ _ _ (Nat.lt_succ_self _) hS (by first | decide | omega)
theorem v3_X12_leastBy {fr lo i : Nat} {own : String} (h1 : 7 + 1 ≤ fr) (h2 : 8 + (9 + 11) + 164 ≤ lo) (h3 : .methodLink own i yX12_leastBy ∈ lw_tbl) : pz_cV fr lo own i k3_X12_leastBy :=
  pz_cVk (maxL := 9) (fr' := 7) (lo' := 164) 2 12 h3_X12_leastBy rfl ⟨(pz_nhc_RX12 yX12_leastBy rfl).1, (pz_nhc_RX12 yX12_leastBy rfl).2, pz_ds11⟩ ⟨pz_wq1660, pz_wq1659, pz_ws77, pz_wq13⟩ (Or.inl ⟨TX12, 28, rfl⟩) (fun a M _ h => by
    have h : (match (generalizing := false) a with | [.inr (.inr (12, th)), .inl x, .inl n] => pz_im M | _ => False) := h
    split at h
    · exact ⟨_, _, rfl⟩
    · exact h.elim) h1 h2 h3
noncomputable def k3_X12_soon : pz_C := (2, 1, fun a M => (match a with | [.inr (.inr (12, th)), .inl h] => pz_im M | _ => False), fun a M r M' => (match a, r with | [.inr (.inr (12, th)), .inl h], some (.inl v) => (True) ∧ pz_rl pz_QV M M' | _, _ => False))
noncomputable abbrev ct3_X12_soon : List (Bool × Nat × pz_C) := [(false, 54, k_X12_isIn), (true, 415, k3_X12_allBy)]
set_option maxRecDepth 100000 in
set_option maxHeartbeats 4000000 in
theorem h3_X12_soon : pz_H yX12_soon cX12_soon 3 (some .int) k3_X12_soon 7 164 := by
  refine pz_mk (own := RX12) (tb := t_X12_soon) (fl := pz_flf fl_RX12) (ci := pz_cif ci_RX12) (ct := pz_ctf ct3_X12_soon) (rz := false) (pz_pfc_RX12 yX12_soon rfl) rfl t_X12_soon_ok (pz_flk fl_RX12_ok) (pz_cik ci_RX12_ok) ?_ ?_ (Or.inl ⟨rfl, rfl⟩) ?_ ?_
  · exact fun i k' h => pz_ctk (l := ct3_X12_soon) (P := fun b i k => b = true → pz_cV 7 164 RX12 i k) (List.forall_mem_cons.mpr ⟨((fun z => by cases z)), List.forall_mem_cons.mpr ⟨(fun _ => v3_X12_allBy (by decide) (by decide) pz_wq1617), fun _ h => absurd h List.not_mem_nil⟩⟩) true i k' h rfl
  · exact fun i k' h => pz_ctk (l := ct3_X12_soon) (P := fun b i k => b = false → (pz_cS 7 164 RX12 i k ∨ (k = pz_kac ∧ 1 ≤ 7 ∧ 60 ≤ 164 ∧ Cond.methodLink RX12 i arraycopyName ∈ pz_tbl))) (List.forall_mem_cons.mpr ⟨(fun _ => Or.inl (s_X12_isIn (by decide) (by decide) (Or.inl pz_wq1217))), List.forall_mem_cons.mpr ⟨((fun z => by cases z)), fun _ h => absurd h List.not_mem_nil⟩⟩) false i k' h rfl
  · intro a M hlen hpre
    obtain ⟨th, h, rfl, hpre⟩ : ∃ th h, a = [.inr (.inr (12, th)), .inl h] ∧ (pz_im M) := by
      have hpre : (match (generalizing := false) a with | [.inr (.inr (12, th)), .inl h] => pz_im M | _ => False) := hpre
      split at hpre
      · exact ⟨_, _, rfl, hpre⟩
      · exact hpre.elim
    exact Nat.le_of_ble_eq_true rfl
  · intro a M hlen hcan hM hpre Ok hgo
    obtain ⟨th, h, rfl, hpre⟩ : ∃ th h, a = [.inr (.inr (12, th)), .inl h] ∧ (pz_im M) := by
      have hpre : (match (generalizing := false) a with | [.inr (.inr (12, th)), .inl h] => pz_im M | _ => False) := hpre
      split at hpre
      · exact ⟨_, _, rfl, hpre⟩
      · exact hpre.elim
    obtain ⟨k_th, hc_th⟩ := pz_tlm hcan
    have k_th : pz_kd th = 12 ∧ th < 231 := k_th
    have R_th := pz_kd12 k_th.1
    subst R_th
    clear k_th
    obtain ⟨k_h, hc_h⟩ := pz_tlm hc_th
    have l_h : -2147483648 ≤ h := k_h.1
    have u_h : h ≤ 2147483647 := k_h.2
    have hI : pz_im M := hpre
    have hI0 := hI
    have hS : pz_rl pz_QV M M := pz_rl.rf
    have L15 : ∀ (fu : Nat) (x2 : Int) (N15 : pz_M), (61 - x2).toNat < fu → (pz_rl pz_QV M N15) → (0 ≤ x2) → Ok 15 [some (.inr (.inr (12, 1))), some (.inl h), some (.inl x2)] [] N15 := by
      intro fu
      induction fu with
      | zero => exact fun _ _ hn => absurd hn (Nat.not_lt_zero _)
      | succ fu ih15 =>
        intro x2 N15 hn15 hS g15_1
        have hI : pz_im N15 := hS.1 hI0
        refine hgo (fun p => Nat.beq p 15) 34 15 _ _ _ ?_
        refine And.intro (fun h18 => ?_) (fun h18 => ?_)
        · skip
          refine And.intro rfl ?_
          exact ⟨trivial, hS⟩
        · skip
          refine pz_nrc (c := 60) rfl ?_
          refine And.intro (by first | decide | omega) (And.intro (show _ < (1725 : Int) from by omega) ?_)
          intro v29 e29 a29 b29
          replace e29 : v29 = N15 60 88 := e29
          have I29 : 0 ≤ v29 ∧ v29 ≤ 12 := by
            rw [e29]
            exact hI.1.1
          clear a29 b29
          intro v31 e31 a31 b31
          rw [pz_wi (by first | decide | omega) (by first | decide | omega)] at e31
          clear a31 b31
          refine And.intro (And.intro hI (And.intro (by first | decide | omega) (by first | decide | omega))) ?_
          intro v33 M33 a33 b33 q33
          obtain ⟨q33, z33⟩ := q33
          have hS : pz_rl pz_QV M M33 := hS.tr z33
          have hI : pz_im M33 := hS.1 hI0
          refine And.intro (fun h38 => ?_) ?_
          · skip
            refine And.intro (fun h39 => ?_) (fun h39 => ?_)
            · skip
              intro v44 e44 a44 b44
              rw [pz_wi (by first | decide | omega) (by first | decide | omega)] at e44
              clear a44 b44
              exact ih15 _ _ (by first | decide | omega) hS (by first | decide | omega)
            · skip
              exact absurd h39 (by decide)
          refine And.intro (fun h38 => ?_) ?_
          · skip
            refine And.intro (fun h39 => ?_) (fun h39 => ?_)
            · skip
              exact absurd h39 (by decide)
            · skip
              refine And.intro rfl ?_
              exact ⟨trivial, hS⟩
          intro h38
          refine And.intro (fun h39 => ?_) (fun h39 => ?_)
          · skip
            exact absurd h39 (by decide)
          · skip
            refine And.intro rfl ?_
            exact ⟨trivial, hS⟩
    refine hgo (fun p => Nat.beq p 15) 34 0 _ [] M ?_
    refine And.intro (True.intro) ?_
    intro v5 M5 a5 b5 q5
    obtain ⟨q5, z5⟩ := q5
    subst z5
    clear a5 b5
    refine And.intro (fun h8 => ?_) (fun h8 => ?_)
    · skip
      replace q5 := q5.resolve_right (fun z => h8 z.1)
      clear h8
      exact L15 _ _ _ (Nat.lt_succ_self _) hS (by first | decide | omega)
    · skip
      replace q5 := q5.resolve_left (fun z => absurd (z.1.symm.trans h8) (by decide))
      clear h8
      refine And.intro rfl ?_
      exact ⟨trivial, hS⟩
theorem v3_X12_soon {fr lo i : Nat} {own : String} (h1 : 7 + 1 ≤ fr) (h2 : 8 + (3 + 11) + 164 ≤ lo) (h3 : .methodLink own i yX12_soon ∈ lw_tbl) : pz_cV fr lo own i k3_X12_soon :=
  pz_cVk (maxL := 3) (fr' := 7) (lo' := 164) 1 12 h3_X12_soon rfl ⟨(pz_nhc_RX12 yX12_soon rfl).1, (pz_nhc_RX12 yX12_soon rfl).2, pz_ds5⟩ ⟨pz_wq1642, pz_wq1640, pz_wq1641, pz_wq13⟩ (Or.inl ⟨TX12, 28, rfl⟩) (fun a M _ h => by
    have h : (match (generalizing := false) a with | [.inr (.inr (12, th)), .inl h] => pz_im M | _ => False) := h
    split at h
    · exact ⟨_, _, rfl⟩
    · exact h.elim) h1 h2 h3
noncomputable def k3_X12_hurriedBy : pz_C := (3, 2, fun a M => (match a with | [.inr (.inr (12, th)), .inl i, .inl n] => pz_im M ∧ 0 ≤ i ∧ i < 12 | _ => False), fun a M r M' => (match a, r with | [.inr (.inr (12, th)), .inl i, .inl n], some (.inr (.inl v)) => (True) ∧ pz_rl pz_QV M M' | _, _ => False))
noncomputable abbrev ct3_X12_hurriedBy : List (Bool × Nat × pz_C) := [(true, 415, k3_X12_allBy)]
set_option maxRecDepth 100000 in
set_option maxHeartbeats 4000000 in
theorem h3_X12_hurriedBy : pz_H yX12_hurriedBy cX12_hurriedBy 6 (some .long) k3_X12_hurriedBy 7 164 := by
  refine pz_mk (own := RX12) (tb := t_X12_hurriedBy) (fl := pz_flf fl_RX12) (ci := pz_cif ci_RX12) (ct := pz_ctf ct3_X12_hurriedBy) (rz := false) (pz_pfc_RX12 yX12_hurriedBy rfl) rfl t_X12_hurriedBy_ok (pz_flk fl_RX12_ok) (pz_cik ci_RX12_ok) ?_ ?_ (rfl) ?_ ?_
  · exact fun i k' h => pz_ctk (l := ct3_X12_hurriedBy) (P := fun b i k => b = true → pz_cV 7 164 RX12 i k) (List.forall_mem_cons.mpr ⟨(fun _ => v3_X12_allBy (by decide) (by decide) pz_wq1617), fun _ h => absurd h List.not_mem_nil⟩) true i k' h rfl
  · exact fun i k' h => pz_ctk (l := ct3_X12_hurriedBy) (P := fun b i k => b = false → (pz_cS 7 164 RX12 i k ∨ (k = pz_kac ∧ 1 ≤ 7 ∧ 60 ≤ 164 ∧ Cond.methodLink RX12 i arraycopyName ∈ pz_tbl))) (List.forall_mem_cons.mpr ⟨((fun z => by cases z)), fun _ h => absurd h List.not_mem_nil⟩) false i k' h rfl
  · intro a M hlen hpre
    obtain ⟨th, i, n, rfl, hpre⟩ : ∃ th i n, a = [.inr (.inr (12, th)), .inl i, .inl n] ∧ (pz_im M ∧ 0 ≤ i ∧ i < 12) := by
      have hpre : (match (generalizing := false) a with | [.inr (.inr (12, th)), .inl i, .inl n] => pz_im M ∧ 0 ≤ i ∧ i < 12 | _ => False) := hpre
      split at hpre
      · exact ⟨_, _, _, rfl, hpre⟩
      · exact hpre.elim
    exact Nat.le_of_ble_eq_true rfl
  · intro a M hlen hcan hM hpre Ok hgo
    obtain ⟨th, i, n, rfl, hpre⟩ : ∃ th i n, a = [.inr (.inr (12, th)), .inl i, .inl n] ∧ (pz_im M ∧ 0 ≤ i ∧ i < 12) := by
      have hpre : (match (generalizing := false) a with | [.inr (.inr (12, th)), .inl i, .inl n] => pz_im M ∧ 0 ≤ i ∧ i < 12 | _ => False) := hpre
      split at hpre
      · exact ⟨_, _, _, rfl, hpre⟩
      · exact hpre.elim
    obtain ⟨k_th, hc_th⟩ := pz_tlm hcan
    have k_th : pz_kd th = 12 ∧ th < 231 := k_th
    have R_th := pz_kd12 k_th.1
    subst R_th
    clear k_th
    obtain ⟨k_i, hc_i⟩ := pz_tlm hc_th
    have l_i : -2147483648 ≤ i := k_i.1
    have u_i : i ≤ 2147483647 := k_i.2
    obtain ⟨k_n, hc_n⟩ := pz_tlm hc_i
    have l_n : -2147483648 ≤ n := k_n.1
    have u_n : n ≤ 2147483647 := k_n.2
    have hI : pz_im M := hpre.1
    have hI0 := hI
    have hS : pz_rl pz_QV M M := pz_rl.rf
    refine hgo (fun _ => false) 36 0 _ [] M ?_
    refine pz_nrc (c := 60) rfl ?_
    intro v7 e7 a7 b7
    rw [pz_wi (by first | decide | omega) (by first | decide | omega)] at e7
    clear a7 b7
    have lo8 : (0 : Int) ≤ v7 := by omega
    have tn8 : (((v7).toNat : Nat) : Int) = v7 := Int.toNat_of_nonneg lo8
    refine And.intro (lo8) (And.intro (show _ < (1725 : Int) from by omega) ?_)
    intro v8 e8 a8 b8
    refine pz_nrc (c := 60) rfl ?_
    intro v17 e17 a17 b17
    rw [pz_wi (by first | decide | omega) (by first | decide | omega)] at e17
    clear a17 b17
    have lo19 : (0 : Int) ≤ v17 := by omega
    have tn19 : (((v17).toNat : Nat) : Int) = v17 := Int.toNat_of_nonneg lo19
    refine And.intro (lo19) (And.intro (show _ < (1725 : Int) from by omega) ?_)
    intro M19 e19
    have hS : pz_rl (pz_Qh (93 + i).toNat) M M19 := by
      rw [e19]
      exact pz_rl_u hS.vh (by unfold pz_Qh; first | decide | omega) (by exact pz_iom_w2 (by first | decide | omega) (by first | decide | omega))
    have hI : pz_im M19 := hS.1 hI0
    have T19_0 := pz_uve e19 60 (93 + i).toNat
    refine pz_nrc (c := 60) rfl ?_
    refine And.intro (by first | decide | omega) (And.intro (show _ < (1725 : Int) from by omega) ?_)
    intro v28 e28 a28 b28
    replace e28 : v28 = M19 60 88 := e28
    have I28 : 0 ≤ v28 ∧ v28 ≤ 12 := by
      rw [e28]
      exact hI.1.1
    clear a28 b28
    intro v30 e30 a30 b30
    rw [pz_wi (by first | decide | omega) (by first | decide | omega)] at e30
    clear a30 b30
    refine And.intro (And.intro hI (And.intro (by first | decide | omega) (by first | decide | omega))) ?_
    intro v32 M32 a32 b32 q32
    obtain ⟨q32, z32⟩ := q32
    have hS : pz_rl (pz_Qh (93 + i).toNat) M M32 := hS.tr z32.vh
    have hI : pz_im M32 := hS.1 hI0
    refine pz_nrc (c := 60) rfl ?_
    intro v44 e44 a44 b44
    rw [pz_wi (by first | decide | omega) (by first | decide | omega)] at e44
    clear a44 b44
    have lo46 : (0 : Int) ≤ v44 := by omega
    have tn46 : (((v44).toNat : Nat) : Int) = v44 := Int.toNat_of_nonneg lo46
    refine And.intro (lo46) (And.intro (show _ < (1725 : Int) from by omega) ?_)
    intro M46 e46
    have hS : pz_rl (pz_Qh (93 + i).toNat) M M46 := by
      rw [e46]
      exact pz_rl_u hS (by unfold pz_Qh; first | decide | omega) (by exact pz_iom_w2 (by first | decide | omega) (by first | decide | omega))
    have hI : pz_im M46 := hS.1 hI0
    have T46_0 := pz_uve e46 60 (93 + i).toNat
    refine And.intro rfl ?_
    exact ⟨trivial, pz_rl.hv hS (by rw [e46, pz_ue ⟨rfl, by omega⟩, e8]; congr 1; omega)⟩
theorem v3_X12_hurriedBy {fr lo i : Nat} {own : String} (h1 : 7 + 1 ≤ fr) (h2 : 8 + (6 + 11) + 164 ≤ lo) (h3 : .methodLink own i yX12_hurriedBy ∈ lw_tbl) : pz_cV fr lo own i k3_X12_hurriedBy :=
  pz_cVk (maxL := 6) (fr' := 7) (lo' := 164) 2 12 h3_X12_hurriedBy rfl ⟨(pz_nhc_RX12 yX12_hurriedBy rfl).1, (pz_nhc_RX12 yX12_hurriedBy rfl).2, pz_ds11⟩ ⟨pz_wq1651, pz_wq1650, pz_ws76, pz_wq13⟩ (Or.inl ⟨TX12, 28, rfl⟩) (fun a M _ h => by
    have h : (match (generalizing := false) a with | [.inr (.inr (12, th)), .inl i, .inl n] => pz_im M ∧ 0 ≤ i ∧ i < 12 | _ => False) := h
    split at h
    · exact ⟨_, _, rfl⟩
    · exact h.elim) h1 h2 h3
noncomputable def k3_X12_hurry : pz_C := (3, 1, fun a M => (match a with | [.inr (.inr (12, th)), .inl n, .inl w] => pz_im M | _ => False), fun a M r M' => (match a, r with | [.inr (.inr (12, th)), .inl n, .inl w], some (.inl v) => (True) ∧ pz_rl pz_QV M M' | _, _ => False))
noncomputable abbrev ct3_X12_hurry : List (Bool × Nat × pz_C) := [(false, 54, k_X12_isIn), (true, 422, k3_X12_hurriedBy)]
set_option maxRecDepth 100000 in
set_option maxHeartbeats 4000000 in
theorem h3_X12_hurry : pz_H yX12_hurry cX12_hurry 5 (some .int) k3_X12_hurry 8 189 := by
  refine pz_mk (own := RX12) (tb := t_X12_hurry) (fl := pz_flf fl_RX12) (ci := pz_cif ci_RX12) (ct := pz_ctf ct3_X12_hurry) (rz := false) (pz_pfc_RX12 yX12_hurry rfl) rfl t_X12_hurry_ok (pz_flk fl_RX12_ok) (pz_cik ci_RX12_ok) ?_ ?_ (Or.inl ⟨rfl, rfl⟩) ?_ ?_
  · exact fun i k' h => pz_ctk (l := ct3_X12_hurry) (P := fun b i k => b = true → pz_cV 8 189 RX12 i k) (List.forall_mem_cons.mpr ⟨((fun z => by cases z)), List.forall_mem_cons.mpr ⟨(fun _ => v3_X12_hurriedBy (by decide) (by decide) pz_wq1648), fun _ h => absurd h List.not_mem_nil⟩⟩) true i k' h rfl
  · exact fun i k' h => pz_ctk (l := ct3_X12_hurry) (P := fun b i k => b = false → (pz_cS 8 189 RX12 i k ∨ (k = pz_kac ∧ 1 ≤ 8 ∧ 60 ≤ 189 ∧ Cond.methodLink RX12 i arraycopyName ∈ pz_tbl))) (List.forall_mem_cons.mpr ⟨(fun _ => Or.inl (s_X12_isIn (by decide) (by decide) (Or.inl pz_wq1217))), List.forall_mem_cons.mpr ⟨((fun z => by cases z)), fun _ h => absurd h List.not_mem_nil⟩⟩) false i k' h rfl
  · intro a M hlen hpre
    obtain ⟨th, n, w, rfl, hpre⟩ : ∃ th n w, a = [.inr (.inr (12, th)), .inl n, .inl w] ∧ (pz_im M) := by
      have hpre : (match (generalizing := false) a with | [.inr (.inr (12, th)), .inl n, .inl w] => pz_im M | _ => False) := hpre
      split at hpre
      · exact ⟨_, _, _, rfl, hpre⟩
      · exact hpre.elim
    exact Nat.le_of_ble_eq_true rfl
  · intro a M hlen hcan hM hpre Ok hgo
    obtain ⟨th, n, w, rfl, hpre⟩ : ∃ th n w, a = [.inr (.inr (12, th)), .inl n, .inl w] ∧ (pz_im M) := by
      have hpre : (match (generalizing := false) a with | [.inr (.inr (12, th)), .inl n, .inl w] => pz_im M | _ => False) := hpre
      split at hpre
      · exact ⟨_, _, _, rfl, hpre⟩
      · exact hpre.elim
    obtain ⟨k_th, hc_th⟩ := pz_tlm hcan
    have k_th : pz_kd th = 12 ∧ th < 231 := k_th
    have R_th := pz_kd12 k_th.1
    subst R_th
    clear k_th
    obtain ⟨k_n, hc_n⟩ := pz_tlm hc_th
    have l_n : -2147483648 ≤ n := k_n.1
    have u_n : n ≤ 2147483647 := k_n.2
    obtain ⟨k_w, hc_w⟩ := pz_tlm hc_n
    have l_w : -2147483648 ≤ w := k_w.1
    have u_w : w ≤ 2147483647 := k_w.2
    have hI : pz_im M := hpre
    have hI0 := hI
    have hS : pz_rl pz_QV M M := pz_rl.rf
    have L36 : ∀ (fu : Nat) (x3 : Int) (x4 : Int) (N36 : pz_M), (12 - x4).toNat < fu → (pz_rl pz_QV M N36) → (0 ≤ x4) → (0 ≤ x3) → (x3 < 12) → Ok 36 [some (.inr (.inr (12, 1))), some (.inl n), some (.inl w), some (.inl x3), some (.inl x4)] [] N36 := by
      intro fu
      induction fu with
      | zero => exact fun _ _ _ hn => absurd hn (Nat.not_lt_zero _)
      | succ fu ih36 =>
        intro x3 x4 N36 hn36 hS g36_1 g36_2 g36_3
        have hI : pz_im N36 := hS.1 hI0
        refine hgo (fun p => Nat.beq p 36) 53 36 _ _ _ ?_
        refine pz_nrc (c := 60) rfl ?_
        refine And.intro (by first | decide | omega) (And.intro (show _ < (1725 : Int) from by omega) ?_)
        intro v44 e44 a44 b44
        replace e44 : v44 = N36 60 88 := e44
        have I44 : 0 ≤ v44 ∧ v44 ≤ 12 := by
          rw [e44]
          exact hI.1.1
        clear a44 b44
        refine And.intro (fun h45 => ?_) (fun h45 => ?_)
        · skip
          refine And.intro (fun h75 => ?_) (fun h75 => ?_)
          · skip
            refine And.intro (And.intro hI (And.intro (by first | decide | omega) (by first | decide | omega))) ?_
            intro v85 M85 a85 b85 q85
            obtain ⟨q85, z85⟩ := q85
            have hS : pz_rl pz_QV M M85 := hS.tr z85
            have hI : pz_im M85 := hS.1 hI0
            intro v88 e88 a88 b88
            refine And.intro rfl ?_
            exact ⟨trivial, hS⟩
          · skip
            refine And.intro rfl ?_
            exact ⟨trivial, hS⟩
        · skip
          refine And.intro (And.intro hI (And.intro (by first | decide | omega) (by first | decide | omega))) ?_
          intro v52 M52 a52 b52 q52
          obtain ⟨q52, z52⟩ := q52
          have hS : pz_rl pz_QV M M52 := hS.tr z52
          have hI : pz_im M52 := hS.1 hI0
          refine And.intro (And.intro hI (And.intro (by first | decide | omega) (by first | decide | omega))) ?_
          intro v58 M58 a58 b58 q58
          obtain ⟨q58, z58⟩ := q58
          have hS : pz_rl pz_QV M M58 := hS.tr z58
          have hI : pz_im M58 := hS.1 hI0
          refine And.intro (fun h61 => ?_) ?_
          · skip
            refine And.intro (fun h62 => ?_) (fun h62 => ?_)
            · skip
              intro v68 e68 a68 b68
              rw [pz_wi (by first | decide | omega) (by first | decide | omega)] at e68
              clear a68 b68
              exact ih36 _ _ _ (by first | decide | omega) hS (by first | decide | omega) (by first | decide | omega) (by first | decide | omega)
            · skip
              exact absurd h62 (by decide)
          refine And.intro (fun h61 => ?_) ?_
          · skip
            refine And.intro (fun h62 => ?_) (fun h62 => ?_)
            · skip
              intro v68 e68 a68 b68
              rw [pz_wi (by first | decide | omega) (by first | decide | omega)] at e68
              clear a68 b68
              exact ih36 _ _ _ (by first | decide | omega) hS (by first | decide | omega) (by first | decide | omega) (by first | decide | omega)
            · skip
              exact absurd h62 (by decide)
          intro h61
          refine And.intro (fun h62 => ?_) (fun h62 => ?_)
          · skip
            exact absurd h62 (by decide)
          · skip
            intro v68 e68 a68 b68
            rw [pz_wi (by first | decide | omega) (by first | decide | omega)] at e68
            clear a68 b68
            exact ih36 _ _ _ (by first | decide | omega) hS (by first | decide | omega) (by first | decide | omega) (by first | decide | omega)
    refine hgo (fun p => Nat.beq p 36) 53 0 _ [] M ?_
    refine And.intro (True.intro) ?_
    intro v4 M4 a4 b4 q4
    obtain ⟨q4, z4⟩ := q4
    subst z4
    clear a4 b4
    refine And.intro (fun h7 => ?_) (fun h7 => ?_)
    · skip
      replace q4 := q4.resolve_left (fun z => absurd (z.1.symm.trans h7) (by decide))
      clear h7
      refine And.intro rfl ?_
      exact ⟨trivial, hS⟩
    · skip
      replace q4 := q4.resolve_right (fun z => h7 z.1)
      clear h7
      refine And.intro (True.intro) ?_
      intro v13 M13 a13 b13 q13
      obtain ⟨q13, z13⟩ := q13
      subst z13
      clear a13 b13
      refine And.intro (fun h16 => ?_) (fun h16 => ?_)
      · skip
        replace q13 := q13.resolve_left (fun z => absurd (z.1.symm.trans h16) (by decide))
        clear h16
        refine And.intro rfl ?_
        exact ⟨trivial, hS⟩
      · skip
        replace q13 := q13.resolve_right (fun z => h16 z.1)
        clear h16
        refine pz_nrc (c := 60) rfl ?_
        refine And.intro (by first | decide | omega) (And.intro (show _ < (1725 : Int) from by omega) ?_)
        intro v25 e25 a25 b25
        replace e25 : v25 = M 60 88 := e25
        have I25 : 0 ≤ v25 ∧ v25 ≤ 12 := by
          rw [e25]
          exact hI.1.1
        clear a25 b25
        refine And.intro (fun h26 => ?_) (fun h26 => ?_)
        · skip
          replace h26 : 1 ≤ v25 := by omega
          exact L36 _ _ _ _ (Nat.lt_succ_self _) hS (by first | decide | omega) (by first | decide | omega) (by first | decide | omega)
        · skip
          refine And.intro rfl ?_
          exact ⟨trivial, hS⟩
theorem v3_X12_hurry {fr lo i : Nat} {own : String} (h1 : 8 + 1 ≤ fr) (h2 : 8 + (5 + 11) + 189 ≤ lo) (h3 : .methodLink own i yX12_hurry ∈ lw_tbl) : pz_cV fr lo own i k3_X12_hurry :=
  pz_cVk (maxL := 5) (fr' := 8) (lo' := 189) 2 12 h3_X12_hurry rfl ⟨(pz_nhc_RX12 yX12_hurry rfl).1, (pz_nhc_RX12 yX12_hurry rfl).2, pz_ds10⟩ ⟨pz_wq1647, pz_wq1645, pz_wq1646, pz_wq13⟩ (Or.inl ⟨TX12, 28, rfl⟩) (fun a M _ h => by
    have h : (match (generalizing := false) a with | [.inr (.inr (12, th)), .inl n, .inl w] => pz_im M | _ => False) := h
    split at h
    · exact ⟨_, _, rfl⟩
    · exact h.elim) h1 h2 h3
noncomputable def k3_X12_split : pz_C := (3, 1, fun a M => (match a with | [.inr (.inr (12, th)), .inl n, .inl w] => pz_im M | _ => False), fun a M r M' => (match a, r with | [.inr (.inr (12, th)), .inl n, .inl w], some (.inl v) => (True) ∧ pz_rl pz_QV M M' | _, _ => False))
noncomputable abbrev ct3_X12_split : List (Bool × Nat × pz_C) := [(false, 54, k_X12_isIn), (true, 336, k3_X12_canBridge), (true, 291, k3_X12_bridgedOnes), (true, 427, k3_X12_leastBy)]
set_option maxRecDepth 100000 in
set_option maxHeartbeats 4000000 in
theorem h3_X12_split : pz_H yX12_split cX12_split 9 (some .int) k3_X12_split 8 192 := by
  refine pz_mk (own := RX12) (tb := t_X12_split) (fl := pz_flf fl_RX12) (ci := pz_cif ci_RX12) (ct := pz_ctf ct3_X12_split) (rz := false) (pz_pfc_RX12 yX12_split rfl) rfl t_X12_split_ok (pz_flk fl_RX12_ok) (pz_cik ci_RX12_ok) ?_ ?_ (Or.inl ⟨rfl, rfl⟩) ?_ ?_
  · exact fun i k' h => pz_ctk (l := ct3_X12_split) (P := fun b i k => b = true → pz_cV 8 192 RX12 i k) (List.forall_mem_cons.mpr ⟨((fun z => by cases z)), List.forall_mem_cons.mpr ⟨(fun _ => v3_X12_canBridge (by decide) (by decide) pz_wq1491), List.forall_mem_cons.mpr ⟨(fun _ => v3_X12_bridgedOnes (by decide) (by decide) pz_wq1454), List.forall_mem_cons.mpr ⟨(fun _ => v3_X12_leastBy (by decide) (by decide) pz_wq1657), fun _ h => absurd h List.not_mem_nil⟩⟩⟩⟩) true i k' h rfl
  · exact fun i k' h => pz_ctk (l := ct3_X12_split) (P := fun b i k => b = false → (pz_cS 8 192 RX12 i k ∨ (k = pz_kac ∧ 1 ≤ 8 ∧ 60 ≤ 192 ∧ Cond.methodLink RX12 i arraycopyName ∈ pz_tbl))) (List.forall_mem_cons.mpr ⟨(fun _ => Or.inl (s_X12_isIn (by decide) (by decide) (Or.inl pz_wq1217))), List.forall_mem_cons.mpr ⟨((fun z => by cases z)), List.forall_mem_cons.mpr ⟨((fun z => by cases z)), List.forall_mem_cons.mpr ⟨((fun z => by cases z)), fun _ h => absurd h List.not_mem_nil⟩⟩⟩⟩) false i k' h rfl
  · intro a M hlen hpre
    obtain ⟨th, n, w, rfl, hpre⟩ : ∃ th n w, a = [.inr (.inr (12, th)), .inl n, .inl w] ∧ (pz_im M) := by
      have hpre : (match (generalizing := false) a with | [.inr (.inr (12, th)), .inl n, .inl w] => pz_im M | _ => False) := hpre
      split at hpre
      · exact ⟨_, _, _, rfl, hpre⟩
      · exact hpre.elim
    exact Nat.le_of_ble_eq_true rfl
  · intro a M hlen hcan hM hpre Ok hgo
    obtain ⟨th, n, w, rfl, hpre⟩ : ∃ th n w, a = [.inr (.inr (12, th)), .inl n, .inl w] ∧ (pz_im M) := by
      have hpre : (match (generalizing := false) a with | [.inr (.inr (12, th)), .inl n, .inl w] => pz_im M | _ => False) := hpre
      split at hpre
      · exact ⟨_, _, _, rfl, hpre⟩
      · exact hpre.elim
    obtain ⟨k_th, hc_th⟩ := pz_tlm hcan
    have k_th : pz_kd th = 12 ∧ th < 231 := k_th
    have R_th := pz_kd12 k_th.1
    subst R_th
    clear k_th
    obtain ⟨k_n, hc_n⟩ := pz_tlm hc_th
    have l_n : -2147483648 ≤ n := k_n.1
    have u_n : n ≤ 2147483647 := k_n.2
    obtain ⟨k_w, hc_w⟩ := pz_tlm hc_n
    have l_w : -2147483648 ≤ w := k_w.1
    have u_w : w ≤ 2147483647 := k_w.2
    have hI : pz_im M := hpre
    have hI0 := hI
    have hS : pz_rl pz_QV M M := pz_rl.rf
    have L31 : ∀ (fu : Nat) (x3 : Int) (x4 : Int) (x6 : Int) (d7 : Option pz_V) (d8 : Option pz_V) (N31 : pz_M), (12 - x6).toNat < fu → (pz_rl pz_QV M N31) → (0 ≤ x6) → Ok 31 [some (.inr (.inr (12, 1))), some (.inl n), some (.inl w), some (.inl x3), some (.inr (.inl x4)), none, some (.inl x6), d7, d8] [] N31 := by
      intro fu
      induction fu with
      | zero => exact fun _ _ _ _ _ _ hn => absurd hn (Nat.not_lt_zero _)
      | succ fu ih31 =>
        intro x3 x4 x6 d7 d8 N31 hn31 hS g31_1
        have hI : pz_im N31 := hS.1 hI0
        have L92 : ∀ (x3 : Int) (x4 : Int) (x6 : Int) (x7 : Int) (N92 : pz_M), (pz_rl pz_QV M N92) → (0 ≤ x6) → (x6 < 12) → ((12 - x6).toNat < fu + 1) → Ok 92 [some (.inr (.inr (12, 1))), some (.inl n), some (.inl w), some (.inl x3), some (.inr (.inl x4)), none, some (.inl x6), some (.inr (.inl x7)), none] [] N92 := by
          intro x3 x4 x6 x7 N92 hS g92_1 g92_2 g92_3
          have hI : pz_im N92 := hS.1 hI0
          refine hgo (fun p => Nat.beq p 31 || Nat.beq p 72 || Nat.beq p 92) 63 92 _ _ _ ?_
          intro v92 e92 a92 b92
          rw [pz_wi (by first | decide | omega) (by first | decide | omega)] at e92
          clear a92 b92
          exact ih31 _ _ _ _ _ _ (by first | decide | omega) hS (by first | decide | omega)
        have L72 : ∀ (x3 : Int) (x4 : Int) (x6 : Int) (d7 : Option pz_V) (d8 : Option pz_V) (s0 : Int) (N72 : pz_M), (pz_rl pz_QV M N72) → (0 ≤ x6) → (x6 < 12) → ((12 - x6).toNat < fu + 1) → Ok 72 [some (.inr (.inr (12, 1))), some (.inl n), some (.inl w), some (.inl x3), some (.inr (.inl x4)), none, some (.inl x6), d7, d8] [.inr (.inl s0)] N72 := by
          intro x3 x4 x6 d7 d8 s0 N72 hS g72_1 g72_2 g72_3
          have hI : pz_im N72 := hS.1 hI0
          refine hgo (fun p => Nat.beq p 31 || Nat.beq p 72 || Nat.beq p 92) 63 72 _ _ _ ?_
          refine And.intro (fun h78 => ?_) ?_
          · skip
            refine And.intro (fun h79 => ?_) (fun h79 => ?_)
            · skip
              exact absurd h79 (by decide)
            · skip
              exact L92 _ _ _ _ _ hS (by first | decide | omega) (by first | decide | omega) (by first | decide | omega)
          refine And.intro (fun h78 => ?_) ?_
          · skip
            refine And.intro (fun h79 => ?_) (fun h79 => ?_)
            · skip
              exact absurd h79 (by decide)
            · skip
              exact L92 _ _ _ _ _ hS (by first | decide | omega) (by first | decide | omega) (by first | decide | omega)
          intro h78
          refine And.intro (fun h79 => ?_) (fun h79 => ?_)
          · skip
            exact L92 _ _ _ _ _ hS (by first | decide | omega) (by first | decide | omega) (by first | decide | omega)
          · skip
            exact absurd h79 (by decide)
        refine hgo (fun p => Nat.beq p 31 || Nat.beq p 72 || Nat.beq p 92) 63 31 _ _ _ ?_
        refine pz_nrc (c := 60) rfl ?_
        refine And.intro (by first | decide | omega) (And.intro (show _ < (1725 : Int) from by omega) ?_)
        intro v39 e39 a39 b39
        replace e39 : v39 = N31 60 88 := e39
        have I39 : 0 ≤ v39 ∧ v39 ≤ 12 := by
          rw [e39]
          exact hI.1.1
        clear a39 b39
        refine And.intro (fun h40 => ?_) (fun h40 => ?_)
        · skip
          refine And.intro (fun h100 => ?_) (fun h100 => ?_)
          · skip
            refine And.intro rfl ?_
            exact ⟨trivial, hS⟩
          · skip
            refine And.intro (fun h104 => ?_) (fun h104 => ?_)
            · skip
              intro v113 e113 a113 b113
              refine And.intro rfl ?_
              exact ⟨trivial, hS⟩
            · skip
              refine And.intro rfl ?_
              exact ⟨trivial, hS⟩
        · skip
          refine And.intro (hI) ?_
          intro v46 M46 a46 b46 q46
          obtain ⟨q46, z46⟩ := q46
          subst z46
          clear a46 b46
          refine And.intro (fun h49 => ?_) (fun h49 => ?_)
          · skip
            replace q46 := q46.resolve_left (fun z => absurd (z.1.symm.trans h49) (by decide))
            clear h49
            exact L72 _ _ _ _ _ _ _ hS (by first | decide | omega) (by first | decide | omega) (by first | decide | omega)
          · skip
            replace q46 := q46.resolve_right (fun z => h49 z.1)
            clear h49
            refine And.intro (hI) ?_
            intro v54 M54 a54 b54 q54
            obtain ⟨q54, z54⟩ := q54
            subst z54
            intro v60 e60 a60 b60
            intro v61 e61 a61 b61
            refine And.intro (hI) ?_
            intro v63 M63 a63 b63 q63
            obtain ⟨q63, z63⟩ := q63
            have hS : pz_rl pz_QV M M63 := hS.tr z63
            have hI : pz_im M63 := hS.1 hI0
            exact L72 _ _ _ _ _ _ _ hS (by first | decide | omega) (by first | decide | omega) (by first | decide | omega)
    refine hgo (fun p => Nat.beq p 31 || Nat.beq p 72 || Nat.beq p 92) 63 0 _ [] M ?_
    refine And.intro (True.intro) ?_
    intro v4 M4 a4 b4 q4
    obtain ⟨q4, z4⟩ := q4
    subst z4
    clear a4 b4
    refine And.intro (fun h7 => ?_) (fun h7 => ?_)
    · skip
      replace q4 := q4.resolve_left (fun z => absurd (z.1.symm.trans h7) (by decide))
      clear h7
      refine And.intro rfl ?_
      exact ⟨trivial, hS⟩
    · skip
      replace q4 := q4.resolve_right (fun z => h7 z.1)
      clear h7
      refine And.intro (True.intro) ?_
      intro v13 M13 a13 b13 q13
      obtain ⟨q13, z13⟩ := q13
      subst z13
      clear a13 b13
      refine And.intro (fun h16 => ?_) (fun h16 => ?_)
      · skip
        replace q13 := q13.resolve_right (fun z => h16 z.1)
        clear h16
        exact L31 _ _ _ _ _ _ _ (Nat.lt_succ_self _) hS (by first | decide | omega)
      · skip
        replace q13 := q13.resolve_left (fun z => absurd (z.1.symm.trans h16) (by decide))
        clear h16
        refine And.intro rfl ?_
        exact ⟨trivial, hS⟩
theorem v3_X12_split {fr lo i : Nat} {own : String} (h1 : 8 + 1 ≤ fr) (h2 : 8 + (9 + 11) + 192 ≤ lo) (h3 : .methodLink own i yX12_split ∈ lw_tbl) : pz_cV fr lo own i k3_X12_split :=
  pz_cVk (maxL := 9) (fr' := 8) (lo' := 192) 2 12 h3_X12_split rfl ⟨(pz_nhc_RX12 yX12_split rfl).1, (pz_nhc_RX12 yX12_split rfl).2, pz_ds10⟩ ⟨pz_wq1655, pz_wq1653, pz_wq1654, pz_wq13⟩ (Or.inl ⟨TX12, 28, rfl⟩) (fun a M _ h => by
    have h : (match (generalizing := false) a with | [.inr (.inr (12, th)), .inl n, .inl w] => pz_im M | _ => False) := h
    split at h
    · exact ⟨_, _, rfl⟩
    · exact h.elim) h1 h2 h3
noncomputable def k3_X12_costsOf : pz_C := (2, 1, fun a M => (match a with | [.inr (.inr (12, th)), .inl x] => pz_im M | _ => False), fun a M r M' => (match a, r with | [.inr (.inr (12, th)), .inl x], some (.inl v) => (True) ∧ pz_rl pz_QV M M' | _, _ => False))
noncomputable abbrev ct3_X12_costsOf : List (Bool × Nat × pz_C) := [(true, 385, k3_X12_costOf)]
set_option maxRecDepth 100000 in
set_option maxHeartbeats 4000000 in
theorem h3_X12_costsOf : pz_H yX12_costsOf cX12_costsOf 4 (some .int) k3_X12_costsOf 5 116 := by
  refine pz_mk (own := RX12) (tb := t_X12_costsOf) (fl := pz_flf fl_RX12) (ci := pz_cif ci_RX12) (ct := pz_ctf ct3_X12_costsOf) (rz := false) (pz_pfc_RX12 yX12_costsOf rfl) rfl t_X12_costsOf_ok (pz_flk fl_RX12_ok) (pz_cik ci_RX12_ok) ?_ ?_ (Or.inl ⟨rfl, rfl⟩) ?_ ?_
  · exact fun i k' h => pz_ctk (l := ct3_X12_costsOf) (P := fun b i k => b = true → pz_cV 5 116 RX12 i k) (List.forall_mem_cons.mpr ⟨(fun _ => v3_X12_costOf (by decide) (by decide) pz_wq1577), fun _ h => absurd h List.not_mem_nil⟩) true i k' h rfl
  · exact fun i k' h => pz_ctk (l := ct3_X12_costsOf) (P := fun b i k => b = false → (pz_cS 5 116 RX12 i k ∨ (k = pz_kac ∧ 1 ≤ 5 ∧ 60 ≤ 116 ∧ Cond.methodLink RX12 i arraycopyName ∈ pz_tbl))) (List.forall_mem_cons.mpr ⟨((fun z => by cases z)), fun _ h => absurd h List.not_mem_nil⟩) false i k' h rfl
  · intro a M hlen hpre
    obtain ⟨th, x, rfl, hpre⟩ : ∃ th x, a = [.inr (.inr (12, th)), .inl x] ∧ (pz_im M) := by
      have hpre : (match (generalizing := false) a with | [.inr (.inr (12, th)), .inl x] => pz_im M | _ => False) := hpre
      split at hpre
      · exact ⟨_, _, rfl, hpre⟩
      · exact hpre.elim
    exact Nat.le_of_ble_eq_true rfl
  · intro a M hlen hcan hM hpre Ok hgo
    obtain ⟨th, x, rfl, hpre⟩ : ∃ th x, a = [.inr (.inr (12, th)), .inl x] ∧ (pz_im M) := by
      have hpre : (match (generalizing := false) a with | [.inr (.inr (12, th)), .inl x] => pz_im M | _ => False) := hpre
      split at hpre
      · exact ⟨_, _, rfl, hpre⟩
      · exact hpre.elim
    obtain ⟨k_th, hc_th⟩ := pz_tlm hcan
    have k_th : pz_kd th = 12 ∧ th < 231 := k_th
    have R_th := pz_kd12 k_th.1
    subst R_th
    clear k_th
    obtain ⟨k_x, hc_x⟩ := pz_tlm hc_th
    have l_x : -2147483648 ≤ x := k_x.1
    have u_x : x ≤ 2147483647 := k_x.2
    have hI : pz_im M := hpre
    have hI0 := hI
    have hS : pz_rl pz_QV M M := pz_rl.rf
    have L4 : ∀ (fu : Nat) (x2 : Int) (x3 : Int) (N4 : pz_M), (12 - x3).toNat < fu → (pz_rl pz_QV M N4) → (0 ≤ x3) → Ok 4 [some (.inr (.inr (12, 1))), some (.inl x), some (.inl x2), some (.inl x3)] [] N4 := by
      intro fu
      induction fu with
      | zero => exact fun _ _ _ hn => absurd hn (Nat.not_lt_zero _)
      | succ fu ih4 =>
        intro x2 x3 N4 hn4 hS g4_1
        have hI : pz_im N4 := hS.1 hI0
        have L34 : ∀ (x2 : Int) (x3 : Int) (s0 : Int) (s1 : Int) (N34 : pz_M), (pz_rl pz_QV M N34) → (0 ≤ x3) → (x3 < 12) → ((12 - x3).toNat < fu + 1) → Ok 34 [some (.inr (.inr (12, 1))), some (.inl x), some (.inl x2), some (.inl x3)] [.inl s1, .inl s0] N34 := by
          intro x2 x3 s0 s1 N34 hS g34_1 g34_2 g34_3
          have hI : pz_im N34 := hS.1 hI0
          refine hgo (fun p => Nat.beq p 4 || Nat.beq p 34) 31 34 _ _ _ ?_
          intro v34 e34 a34 b34
          intro v36 e36 a36 b36
          rw [pz_wi (by first | decide | omega) (by first | decide | omega)] at e36
          clear a36 b36
          exact ih4 _ _ _ (by first | decide | omega) hS (by first | decide | omega)
        refine hgo (fun p => Nat.beq p 4 || Nat.beq p 34) 31 4 _ _ _ ?_
        refine pz_nrc (c := 60) rfl ?_
        refine And.intro (by first | decide | omega) (And.intro (show _ < (1725 : Int) from by omega) ?_)
        intro v11 e11 a11 b11
        replace e11 : v11 = N4 60 88 := e11
        have I11 : 0 ≤ v11 ∧ v11 ≤ 12 := by
          rw [e11]
          exact hI.1.1
        clear a11 b11
        refine And.intro (fun h12 => ?_) (fun h12 => ?_)
        · skip
          refine And.intro rfl ?_
          exact ⟨trivial, hS⟩
        · skip
          intro v18 e18 a18 b18
          intro v20 e20 a20 b20
          refine And.intro (fun h22 => ?_) (fun h22 => ?_)
          · skip
            exact L34 _ _ _ _ _ hS (by first | decide | omega) (by first | decide | omega) (by first | decide | omega)
          · skip
            refine And.intro (And.intro hI (And.intro (by first | decide | omega) (by first | decide | omega))) ?_
            intro v27 M27 a27 b27 q27
            obtain ⟨q27, z27⟩ := q27
            have hS : pz_rl pz_QV M M27 := hS.tr (pz_rl.wk pz_wk_QS_QV z27)
            have hI : pz_im M27 := hS.1 hI0
            clear a27 b27
            exact L34 _ _ _ _ _ hS (by first | decide | omega) (by first | decide | omega) (by first | decide | omega)
    refine hgo (fun p => Nat.beq p 4 || Nat.beq p 34) 31 0 _ [] M ?_
    exact L4 _ _ _ _ (Nat.lt_succ_self _) hS (by first | decide | omega)
theorem v3_X12_costsOf {fr lo i : Nat} {own : String} (h1 : 5 + 1 ≤ fr) (h2 : 8 + (4 + 11) + 116 ≤ lo) (h3 : .methodLink own i yX12_costsOf ∈ lw_tbl) : pz_cV fr lo own i k3_X12_costsOf :=
  pz_cVk (maxL := 4) (fr' := 5) (lo' := 116) 1 12 h3_X12_costsOf rfl ⟨(pz_nhc_RX12 yX12_costsOf rfl).1, (pz_nhc_RX12 yX12_costsOf rfl).2, pz_ds5⟩ ⟨pz_wq1672, pz_wq1671, pz_ws79, pz_wq13⟩ (Or.inl ⟨TX12, 28, rfl⟩) (fun a M _ h => by
    have h : (match (generalizing := false) a with | [.inr (.inr (12, th)), .inl x] => pz_im M | _ => False) := h
    split at h
    · exact ⟨_, _, rfl⟩
    · exact h.elim) h1 h2 h3
noncomputable def k3_X12_bridges : pz_C := (4, 1, fun a M => (match a with | [.inr (.inr (12, th)), .inl n, .inl h, .inl w] => pz_im M | _ => False), fun a M r M' => (match a, r with | [.inr (.inr (12, th)), .inl n, .inl h, .inl w], some (.inl v) => (True) ∧ pz_rl pz_QV M M' | _, _ => False))
noncomputable abbrev ct3_X12_bridges : List (Bool × Nat × pz_C) := [(false, 54, k_X12_isIn), (true, 430, k_X12_bridgeable), (true, 433, k3_X12_costsOf), (false, 398, k3_X12_count), (true, 291, k3_X12_bridgedOnes), (true, 427, k3_X12_leastBy)]
set_option maxRecDepth 100000 in
set_option maxHeartbeats 4000000 in
theorem h3_X12_bridges : pz_H yX12_bridges cX12_bridges 8 (some .int) k3_X12_bridges 8 192 := by
  refine pz_mk (own := RX12) (tb := t_X12_bridges) (fl := pz_flf fl_RX12) (ci := pz_cif ci_RX12) (ct := pz_ctf ct3_X12_bridges) (rz := false) (pz_pfc_RX12 yX12_bridges rfl) rfl t_X12_bridges_ok (pz_flk fl_RX12_ok) (pz_cik ci_RX12_ok) ?_ ?_ (Or.inl ⟨rfl, rfl⟩) ?_ ?_
  · exact fun i k' h => pz_ctk (l := ct3_X12_bridges) (P := fun b i k => b = true → pz_cV 8 192 RX12 i k) (List.forall_mem_cons.mpr ⟨((fun z => by cases z)), List.forall_mem_cons.mpr ⟨(fun _ => v_X12_bridgeable (by decide) (by decide) pz_wq1665), List.forall_mem_cons.mpr ⟨(fun _ => v3_X12_costsOf (by decide) (by decide) pz_wq1669), List.forall_mem_cons.mpr ⟨((fun z => by cases z)), List.forall_mem_cons.mpr ⟨(fun _ => v3_X12_bridgedOnes (by decide) (by decide) pz_wq1454), List.forall_mem_cons.mpr ⟨(fun _ => v3_X12_leastBy (by decide) (by decide) pz_wq1657), fun _ h => absurd h List.not_mem_nil⟩⟩⟩⟩⟩⟩) true i k' h rfl
  · exact fun i k' h => pz_ctk (l := ct3_X12_bridges) (P := fun b i k => b = false → (pz_cS 8 192 RX12 i k ∨ (k = pz_kac ∧ 1 ≤ 8 ∧ 60 ≤ 192 ∧ Cond.methodLink RX12 i arraycopyName ∈ pz_tbl))) (List.forall_mem_cons.mpr ⟨(fun _ => Or.inl (s_X12_isIn (by decide) (by decide) (Or.inl pz_wq1217))), List.forall_mem_cons.mpr ⟨((fun z => by cases z)), List.forall_mem_cons.mpr ⟨((fun z => by cases z)), List.forall_mem_cons.mpr ⟨(fun _ => Or.inl (s3_X12_count (by decide) (by decide) (Or.inl pz_wq1606))), List.forall_mem_cons.mpr ⟨((fun z => by cases z)), List.forall_mem_cons.mpr ⟨((fun z => by cases z)), fun _ h => absurd h List.not_mem_nil⟩⟩⟩⟩⟩⟩) false i k' h rfl
  · intro a M hlen hpre
    obtain ⟨th, n, h, w, rfl, hpre⟩ : ∃ th n h w, a = [.inr (.inr (12, th)), .inl n, .inl h, .inl w] ∧ (pz_im M) := by
      have hpre : (match (generalizing := false) a with | [.inr (.inr (12, th)), .inl n, .inl h, .inl w] => pz_im M | _ => False) := hpre
      split at hpre
      · exact ⟨_, _, _, _, rfl, hpre⟩
      · exact hpre.elim
    exact Nat.le_of_ble_eq_true rfl
  · intro a M hlen hcan hM hpre Ok hgo
    obtain ⟨th, n, h, w, rfl, hpre⟩ : ∃ th n h w, a = [.inr (.inr (12, th)), .inl n, .inl h, .inl w] ∧ (pz_im M) := by
      have hpre : (match (generalizing := false) a with | [.inr (.inr (12, th)), .inl n, .inl h, .inl w] => pz_im M | _ => False) := hpre
      split at hpre
      · exact ⟨_, _, _, _, rfl, hpre⟩
      · exact hpre.elim
    obtain ⟨k_th, hc_th⟩ := pz_tlm hcan
    have k_th : pz_kd th = 12 ∧ th < 231 := k_th
    have R_th := pz_kd12 k_th.1
    subst R_th
    clear k_th
    obtain ⟨k_n, hc_n⟩ := pz_tlm hc_th
    have l_n : -2147483648 ≤ n := k_n.1
    have u_n : n ≤ 2147483647 := k_n.2
    obtain ⟨k_h, hc_h⟩ := pz_tlm hc_n
    have l_h : -2147483648 ≤ h := k_h.1
    have u_h : h ≤ 2147483647 := k_h.2
    obtain ⟨k_w, hc_w⟩ := pz_tlm hc_h
    have l_w : -2147483648 ≤ w := k_w.1
    have u_w : w ≤ 2147483647 := k_w.2
    have hI : pz_im M := hpre
    have hI0 := hI
    have hS : pz_rl pz_QV M M := pz_rl.rf
    have L44 : ∀ (fu : Nat) (x4 : Int) (x5 : Int) (x6 : Int) (d7 : Option pz_V) (N44 : pz_M), (4096 - x6).toNat < fu → (pz_rl pz_QV M N44) → (0 ≤ x6) → (x4 ≤ 4095) → Ok 44 [some (.inr (.inr (12, 1))), some (.inl n), some (.inl h), some (.inl w), some (.inl x4), some (.inl x5), some (.inl x6), d7] [] N44 := by
      intro fu
      induction fu with
      | zero => exact fun _ _ _ _ _ hn => absurd hn (Nat.not_lt_zero _)
      | succ fu ih44 =>
        intro x4 x5 x6 d7 N44 hn44 hS g44_1 g44_2
        have hI : pz_im N44 := hS.1 hI0
        have L137 : ∀ (x4 : Int) (x5 : Int) (x6 : Int) (d7 : Option pz_V) (N137 : pz_M), (pz_rl pz_QV M N137) → (0 ≤ x6) → (x6 ≤ 4095) → (x4 ≤ 4095) → ((4096 - x6).toNat < fu + 1) → Ok 137 [some (.inr (.inr (12, 1))), some (.inl n), some (.inl h), some (.inl w), some (.inl x4), some (.inl x5), some (.inl x6), d7] [] N137 := by
          intro x4 x5 x6 d7 N137 hS g137_1 g137_2 g137_3 g137_4
          have hI : pz_im N137 := hS.1 hI0
          refine hgo (fun p => Nat.beq p 44 || Nat.beq p 87 || Nat.beq p 112 || Nat.beq p 137) 88 137 _ _ _ ?_
          intro v137 e137 a137 b137
          rw [pz_wi (by first | decide | omega) (by first | decide | omega)] at e137
          clear a137 b137
          exact ih44 _ _ _ _ _ (by first | decide | omega) hS (by first | decide | omega) (by first | decide | omega)
        have L112 : ∀ (x4 : Int) (x5 : Int) (x6 : Int) (x7 : Int) (N112 : pz_M), (pz_rl pz_QV M N112) → (0 ≤ x6) → (x6 ≤ 4095) → (x4 ≤ 4095) → ((4096 - x6).toNat < fu + 1) → Ok 112 [some (.inr (.inr (12, 1))), some (.inl n), some (.inl h), some (.inl w), some (.inl x4), some (.inl x5), some (.inl x6), some (.inl x7)] [] N112 := by
          intro x4 x5 x6 x7 N112 hS g112_1 g112_2 g112_3 g112_4
          have hI : pz_im N112 := hS.1 hI0
          refine hgo (fun p => Nat.beq p 44 || Nat.beq p 87 || Nat.beq p 112 || Nat.beq p 137) 88 112 _ _ _ ?_
          refine And.intro (hI) ?_
          intro v114 M114 a114 b114 q114
          obtain ⟨q114, z114⟩ := q114
          subst z114
          intro v119 e119 a119 b119
          refine And.intro (hI) ?_
          intro v121 M121 a121 b121 q121
          obtain ⟨q121, z121⟩ := q121
          have hS : pz_rl pz_QV M M121 := hS.tr z121
          have hI : pz_im M121 := hS.1 hI0
          refine And.intro (fun h126 => ?_) ?_
          · skip
            refine And.intro (fun h127 => ?_) (fun h127 => ?_)
            · skip
              exact absurd h127 (by decide)
            · skip
              exact L137 _ _ _ _ _ hS (by first | decide | omega) (by first | decide | omega) (by first | decide | omega) (by first | decide | omega)
          refine And.intro (fun h126 => ?_) ?_
          · skip
            refine And.intro (fun h127 => ?_) (fun h127 => ?_)
            · skip
              exact L137 _ _ _ _ _ hS (by first | decide | omega) (by first | decide | omega) (by first | decide | omega) (by first | decide | omega)
            · skip
              exact absurd h127 (by decide)
          intro h126
          refine And.intro (fun h127 => ?_) (fun h127 => ?_)
          · skip
            exact L137 _ _ _ _ _ hS (by first | decide | omega) (by first | decide | omega) (by first | decide | omega) (by first | decide | omega)
          · skip
            exact absurd h127 (by decide)
        have L87 : ∀ (x4 : Int) (x5 : Int) (x6 : Int) (d7 : Option pz_V) (s0 : Int) (N87 : pz_M), (pz_rl pz_QV M N87) → (0 ≤ x6) → (x6 ≤ 4095) → (x4 ≤ 4095) → ((4096 - x6).toNat < fu + 1) → Ok 87 [some (.inr (.inr (12, 1))), some (.inl n), some (.inl h), some (.inl w), some (.inl x4), some (.inl x5), some (.inl x6), d7] [.inl s0] N87 := by
          intro x4 x5 x6 d7 s0 N87 hS g87_1 g87_2 g87_3 g87_4
          have hI : pz_im N87 := hS.1 hI0
          refine hgo (fun p => Nat.beq p 44 || Nat.beq p 87 || Nat.beq p 112 || Nat.beq p 137) 88 87 _ _ _ ?_
          refine And.intro (fun h91 => ?_) (fun h91 => ?_)
          · skip
            exact L137 _ _ _ _ _ hS (by first | decide | omega) (by first | decide | omega) (by first | decide | omega) (by first | decide | omega)
          · skip
            refine And.intro (fun h96 => ?_) (fun h96 => ?_)
            · skip
              replace h96 : s0 ≤ -1 := by omega
              exact L112 _ _ _ _ _ hS (by first | decide | omega) (by first | decide | omega) (by first | decide | omega) (by first | decide | omega)
            · skip
              refine And.intro (True.intro) ?_
              intro v101 M101 a101 b101 q101
              obtain ⟨q101, z101⟩ := q101
              subst z101
              refine And.intro (True.intro) ?_
              intro v106 M106 a106 b106 q106
              obtain ⟨q106, z106⟩ := q106
              subst z106
              refine And.intro (fun h109 => ?_) (fun h109 => ?_)
              · skip
                exact L137 _ _ _ _ _ hS (by first | decide | omega) (by first | decide | omega) (by first | decide | omega) (by first | decide | omega)
              · skip
                exact L112 _ _ _ _ _ hS (by first | decide | omega) (by first | decide | omega) (by first | decide | omega) (by first | decide | omega)
        refine hgo (fun p => Nat.beq p 44 || Nat.beq p 87 || Nat.beq p 112 || Nat.beq p 137) 88 44 _ _ _ ?_
        refine And.intro (fun h48 => ?_) (fun h48 => ?_)
        · skip
          refine And.intro (fun h146 => ?_) (fun h146 => ?_)
          · skip
            refine And.intro rfl ?_
            exact ⟨trivial, hS⟩
          · skip
            refine And.intro (fun h151 => ?_) (fun h151 => ?_)
            · skip
              refine And.intro (hI) ?_
              intro v163 M163 a163 b163 q163
              obtain ⟨q163, z163⟩ := q163
              have hS : pz_rl pz_QV M M163 := hS.tr z163
              have hI : pz_im M163 := hS.1 hI0
              intro v166 e166 a166 b166
              refine And.intro rfl ?_
              exact ⟨trivial, hS⟩
            · skip
              refine And.intro rfl ?_
              exact ⟨trivial, hS⟩
        · skip
          intro v56 e56 a56 b56
          intro v57 e57 a57 b57
          refine And.intro (fun h58 => ?_) (fun h58 => ?_)
          · skip
            refine And.intro (fun h67 => ?_) (fun h67 => ?_)
            · skip
              refine And.intro (hI) ?_
              intro v77 M77 a77 b77 q77
              obtain ⟨q77, z77⟩ := q77
              have hS : pz_rl pz_QV M M77 := hS.tr z77
              have hI : pz_im M77 := hS.1 hI0
              refine And.intro (hI) ?_
              intro v83 M83 a83 b83 q83
              obtain ⟨q83, z83⟩ := q83
              have hS : pz_rl pz_QV M M83 := hS.tr z83
              have hI : pz_im M83 := hS.1 hI0
              intro v86 e86 a86 b86
              exact L87 _ _ _ _ _ _ hS (by first | decide | omega) (by first | decide | omega) (by first | decide | omega) (by first | decide | omega)
            · skip
              exact L87 _ _ _ _ _ _ hS (by first | decide | omega) (by first | decide | omega) (by first | decide | omega) (by first | decide | omega)
          · skip
            exact L137 _ _ _ _ _ hS (by first | decide | omega) (by first | decide | omega) (by first | decide | omega) (by first | decide | omega)
    refine hgo (fun p => Nat.beq p 44 || Nat.beq p 87 || Nat.beq p 112 || Nat.beq p 137) 88 0 _ [] M ?_
    refine And.intro (True.intro) ?_
    intro v4 M4 a4 b4 q4
    obtain ⟨q4, z4⟩ := q4
    subst z4
    clear a4 b4
    refine And.intro (fun h7 => ?_) (fun h7 => ?_)
    · skip
      replace q4 := q4.resolve_left (fun z => absurd (z.1.symm.trans h7) (by decide))
      clear h7
      refine And.intro rfl ?_
      exact ⟨trivial, hS⟩
    · skip
      replace q4 := q4.resolve_right (fun z => h7 z.1)
      clear h7
      refine And.intro (True.intro) ?_
      intro v15 M15 a15 b15 q15
      obtain ⟨q15, z15⟩ := q15
      subst z15
      clear a15 b15
      refine And.intro (fun h18 => ?_) (fun h18 => ?_)
      · skip
        replace q15 := q15.resolve_left (fun z => absurd (z.1.symm.trans h18) (by decide))
        clear h18
        refine And.intro rfl ?_
        exact ⟨trivial, hS⟩
      · skip
        replace q15 := q15.resolve_right (fun z => h18 z.1)
        clear h18
        refine And.intro (True.intro) ?_
        intro v24 M24 a24 b24 q24
        obtain ⟨q24, z24⟩ := q24
        subst z24
        clear a24 b24
        refine And.intro (fun h27 => ?_) (fun h27 => ?_)
        · skip
          replace q24 := q24.resolve_right (fun z => h27 z.1)
          clear h27
          refine And.intro (hI) ?_
          intro v33 M33 a33 b33 q33
          obtain ⟨q33, z33⟩ := q33
          subst z33
          clear a33 b33
          exact L44 _ _ _ _ _ _ (Nat.lt_succ_self _) hS (by first | decide | omega) (by first | decide | omega)
        · skip
          replace q24 := q24.resolve_left (fun z => absurd (z.1.symm.trans h27) (by decide))
          clear h27
          refine And.intro rfl ?_
          exact ⟨trivial, hS⟩
theorem v3_X12_bridges {fr lo i : Nat} {own : String} (h1 : 8 + 1 ≤ fr) (h2 : 8 + (8 + 11) + 192 ≤ lo) (h3 : .methodLink own i yX12_bridges ∈ lw_tbl) : pz_cV fr lo own i k3_X12_bridges :=
  pz_cVk (maxL := 8) (fr' := 8) (lo' := 192) 3 12 h3_X12_bridges rfl ⟨(pz_nhc_RX12 yX12_bridges rfl).1, (pz_nhc_RX12 yX12_bridges rfl).2, pz_ds14⟩ ⟨pz_wq1664, pz_wq1662, pz_wq1663, pz_wq13⟩ (Or.inl ⟨TX12, 28, rfl⟩) (fun a M _ h => by
    have h : (match (generalizing := false) a with | [.inr (.inr (12, th)), .inl n, .inl h, .inl w] => pz_im M | _ => False) := h
    split at h
    · exact ⟨_, _, rfl⟩
    · exact h.elim) h1 h2 h3
noncomputable def k3_X12_laysSigns : pz_C := (3, 0, fun a M => (match a with | [.inr (.inr (12, th)), .inl x, .inl y] => pz_im M | _ => False), fun a M r M' => (match a, r with | [.inr (.inr (12, th)), .inl x, .inl y], none => (True) ∧ pz_rl pz_QV M M' | _, _ => False))
noncomputable abbrev ct3_X12_laysSigns : List (Bool × Nat × pz_C) := [(false, 51, k_X12_greater), (false, 47, k_X12_lesser)]
set_option maxRecDepth 100000 in
set_option maxHeartbeats 4000000 in
theorem h3_X12_laysSigns : pz_H yX12_laysSigns cX12_laysSigns 7 none k3_X12_laysSigns 1 21 := by
  refine pz_mk (own := RX12) (tb := t_X12_laysSigns) (fl := pz_flf fl_RX12) (ci := pz_cif ci_RX12) (ct := pz_ctf ct3_X12_laysSigns) (rz := false) (pz_pfc_RX12 yX12_laysSigns rfl) rfl t_X12_laysSigns_ok (pz_flk fl_RX12_ok) (pz_cik ci_RX12_ok) ?_ ?_ (rfl) ?_ ?_
  · exact fun i k' h => pz_ctk (l := ct3_X12_laysSigns) (P := fun b i k => b = true → pz_cV 1 21 RX12 i k) (List.forall_mem_cons.mpr ⟨((fun z => by cases z)), List.forall_mem_cons.mpr ⟨((fun z => by cases z)), fun _ h => absurd h List.not_mem_nil⟩⟩) true i k' h rfl
  · exact fun i k' h => pz_ctk (l := ct3_X12_laysSigns) (P := fun b i k => b = false → (pz_cS 1 21 RX12 i k ∨ (k = pz_kac ∧ 1 ≤ 1 ∧ 60 ≤ 21 ∧ Cond.methodLink RX12 i arraycopyName ∈ pz_tbl))) (List.forall_mem_cons.mpr ⟨(fun _ => Or.inl (s_X12_greater (by decide) (by decide) (Or.inl pz_wq1447))), List.forall_mem_cons.mpr ⟨(fun _ => Or.inl (s_X12_lesser (by decide) (by decide) (Or.inl pz_wq1462))), fun _ h => absurd h List.not_mem_nil⟩⟩) false i k' h rfl
  · intro a M hlen hpre
    obtain ⟨th, x, y, rfl, hpre⟩ : ∃ th x y, a = [.inr (.inr (12, th)), .inl x, .inl y] ∧ (pz_im M) := by
      have hpre : (match (generalizing := false) a with | [.inr (.inr (12, th)), .inl x, .inl y] => pz_im M | _ => False) := hpre
      split at hpre
      · exact ⟨_, _, _, rfl, hpre⟩
      · exact hpre.elim
    exact Nat.le_of_ble_eq_true rfl
  · intro a M hlen hcan hM hpre Ok hgo
    obtain ⟨th, x, y, rfl, hpre⟩ : ∃ th x y, a = [.inr (.inr (12, th)), .inl x, .inl y] ∧ (pz_im M) := by
      have hpre : (match (generalizing := false) a with | [.inr (.inr (12, th)), .inl x, .inl y] => pz_im M | _ => False) := hpre
      split at hpre
      · exact ⟨_, _, _, rfl, hpre⟩
      · exact hpre.elim
    obtain ⟨k_th, hc_th⟩ := pz_tlm hcan
    have k_th : pz_kd th = 12 ∧ th < 231 := k_th
    have R_th := pz_kd12 k_th.1
    subst R_th
    clear k_th
    obtain ⟨k_x, hc_x⟩ := pz_tlm hc_th
    have l_x : -2147483648 ≤ x := k_x.1
    have u_x : x ≤ 2147483647 := k_x.2
    obtain ⟨k_y, hc_y⟩ := pz_tlm hc_x
    have l_y : -2147483648 ≤ y := k_y.1
    have u_y : y ≤ 2147483647 := k_y.2
    have hI : pz_im M := hpre
    have hI0 := hI
    have hS : pz_rl pz_QV M M := pz_rl.rf
    have L15 : ∀ (fo : Nat) (x3 : Int) (x4 : Int) (d5 : Option pz_V) (d6 : Option pz_V) (N15 : pz_M), (4096 - x4).toNat < fo → (pz_rl pz_QV M N15) → (0 ≤ x4) → (x3 ≤ 4095) → Ok 15 [some (.inr (.inr (12, 1))), some (.inl x), some (.inl y), some (.inl x3), some (.inl x4), d5, d6] [] N15 := by
      intro fo
      induction fo with
      | zero => exact fun _ _ _ _ _ hn => absurd hn (Nat.not_lt_zero _)
      | succ fo ih15 =>
        intro x3 x4 d5 d6 N15 hn15 hS g15_1 g15_2
        have hI : pz_im N15 := hS.1 hI0
        have L168 : ∀ (x3 : Int) (x4 : Int) (d5 : Option pz_V) (d6 : Option pz_V) (N168 : pz_M), (pz_rl pz_QV M N168) → (0 ≤ x4) → (x4 ≤ 4095) → (x3 ≤ 4095) → ((4096 - x4).toNat < fo + 1) → Ok 168 [some (.inr (.inr (12, 1))), some (.inl x), some (.inl y), some (.inl x3), some (.inl x4), d5, d6] [] N168 := by
          intro x3 x4 d5 d6 N168 hS g168_1 g168_2 g168_3 g168_4
          have hI : pz_im N168 := hS.1 hI0
          refine hgo (fun p => Nat.beq p 15 || Nat.beq p 51 || Nat.beq p 55 || Nat.beq p 162 || Nat.beq p 168) 103 168 _ _ _ ?_
          intro v168 e168 a168 b168
          rw [pz_wi (by first | decide | omega) (by first | decide | omega)] at e168
          clear a168 b168
          exact ih15 _ _ _ _ _ (by first | decide | omega) hS (by first | decide | omega) (by first | decide | omega)
        have L55 : ∀ (fu : Nat) (x3 : Int) (x4 : Int) (x5 : Int) (d6 : Option pz_V) (N55 : pz_M), (12 - x5).toNat < fu → (pz_rl pz_QV M N55) → (0 ≤ x5) → (0 ≤ x4) → (x4 ≤ 4095) → (x3 ≤ 4095) → ((4096 - x4).toNat < fo + 1) → Ok 55 [some (.inr (.inr (12, 1))), some (.inl x), some (.inl y), some (.inl x3), some (.inl x4), some (.inl x5), d6] [] N55 := by
          intro fu
          induction fu with
          | zero => exact fun _ _ _ _ _ hn => absurd hn (Nat.not_lt_zero _)
          | succ fu ih55 =>
            intro x3 x4 x5 d6 N55 hn55 hS g55_1 g55_2 g55_3 g55_4 g55_5
            have hI : pz_im N55 := hS.1 hI0
            have L162 : ∀ (x3 : Int) (x4 : Int) (x5 : Int) (d6 : Option pz_V) (N162 : pz_M), (pz_rl pz_QV M N162) → (0 ≤ x5) → (x5 < 12) → ((12 - x5).toNat < fu + 1) → (0 ≤ x4) → (x4 ≤ 4095) → (x3 ≤ 4095) → ((4096 - x4).toNat < fo + 1) → Ok 162 [some (.inr (.inr (12, 1))), some (.inl x), some (.inl y), some (.inl x3), some (.inl x4), some (.inl x5), d6] [] N162 := by
              intro x3 x4 x5 d6 N162 hS g162_1 g162_2 g162_3 g162_4 g162_5 g162_6 g162_7
              have hI : pz_im N162 := hS.1 hI0
              refine hgo (fun p => Nat.beq p 15 || Nat.beq p 51 || Nat.beq p 55 || Nat.beq p 162 || Nat.beq p 168) 103 162 _ _ _ ?_
              intro v162 e162 a162 b162
              rw [pz_wi (by first | decide | omega) (by first | decide | omega)] at e162
              clear a162 b162
              exact ih55 _ _ _ _ _ (by first | decide | omega) hS (by first | decide | omega) (by first | decide | omega) (by first | decide | omega) (by first | decide | omega) (by first | decide | omega)
            refine hgo (fun p => Nat.beq p 15 || Nat.beq p 51 || Nat.beq p 55 || Nat.beq p 162 || Nat.beq p 168) 103 55 _ _ _ ?_
            refine pz_nrc (c := 60) rfl ?_
            refine And.intro (by first | decide | omega) (And.intro (show _ < (1725 : Int) from by omega) ?_)
            intro v63 e63 a63 b63
            replace e63 : v63 = N55 60 88 := e63
            have I63 : 0 ≤ v63 ∧ v63 ≤ 12 := by
              rw [e63]
              exact hI.1.1
            clear a63 b63
            refine And.intro (fun h64 => ?_) (fun h64 => ?_)
            · skip
              exact L168 _ _ _ _ _ hS (by first | decide | omega) (by first | decide | omega) (by first | decide | omega) (by first | decide | omega)
            · skip
              intro v71 e71 a71 b71
              intro v73 e73 a73 b73
              refine And.intro (fun h74 => ?_) (fun h74 => ?_)
              · skip
                exact L162 _ _ _ _ _ hS (by first | decide | omega) (by first | decide | omega) (by first | decide | omega) (by first | decide | omega) (by first | decide | omega) (by first | decide | omega) (by first | decide | omega)
              · skip
                intro v80 e80 a80 b80
                intro v82 e82 a82 b82
                refine And.intro (fun h84 => ?_) (fun h84 => ?_)
                · skip
                  refine pz_nrc (c := 70) rfl ?_
                  intro v99 e99 a99 b99
                  intro v101 e101 a101 b101
                  intro v102 e102 a102 b102
                  have X102 := pz_and12 (x := x4) (y := v101) (by first | decide | omega) (by first | decide | omega)
                  rw [← e102] at X102
                  have lo103 : (0 : Int) ≤ v102 := by omega
                  have tn103 : (((v102).toNat : Nat) : Int) = v102 := Int.toNat_of_nonneg lo103
                  refine And.intro (lo103) (And.intro (show _ < (4096 : Int) from by omega) ?_)
                  intro v103 e103 a103 b103
                  refine pz_nrc (c := 60) rfl ?_
                  intro v113 e113 a113 b113
                  rw [pz_wi (by first | decide | omega) (by first | decide | omega)] at e113
                  clear a113 b113
                  intro v114 e114 a114 b114
                  rw [pz_wi (by first | decide | omega) (by first | decide | omega)] at e114
                  clear a114 b114
                  have lo115 : (0 : Int) ≤ v114 := by omega
                  have tn115 : (((v114).toNat : Nat) : Int) = v114 := Int.toNat_of_nonneg lo115
                  refine And.intro (lo115) (And.intro (show _ < (1725 : Int) from by omega) ?_)
                  intro v115 e115 a115 b115
                  refine And.intro (True.intro) ?_
                  intro v116 M116 a116 b116 q116
                  obtain ⟨q116, z116⟩ := q116
                  subst z116
                  replace q116 : v103 ≤ v116 ∧ v115 ≤ v116 := by omega
                  intro v121 e121 a121 b121
                  refine pz_nrc (c := 60) rfl ?_
                  intro v135 e135 a135 b135
                  rw [pz_wi (by first | decide | omega) (by first | decide | omega)] at e135
                  clear a135 b135
                  intro v136 e136 a136 b136
                  rw [pz_wi (by first | decide | omega) (by first | decide | omega)] at e136
                  clear a136 b136
                  intro v138 e138 a138 b138
                  rw [pz_wi (by first | decide | omega) (by first | decide | omega)] at e138
                  clear a138 b138
                  have lo139 : (0 : Int) ≤ v138 := by omega
                  have tn139 : (((v138).toNat : Nat) : Int) = v138 := Int.toNat_of_nonneg lo139
                  refine And.intro (lo139) (And.intro (show _ < (1725 : Int) from by omega) ?_)
                  intro v139 e139 a139 b139
                  refine And.intro (fun h140 => ?_) (fun h140 => ?_)
                  · skip
                    exact L162 _ _ _ _ _ hS (by first | decide | omega) (by first | decide | omega) (by first | decide | omega) (by first | decide | omega) (by first | decide | omega) (by first | decide | omega) (by first | decide | omega)
                  · skip
                    refine pz_nrc (c := 70) rfl ?_
                    refine pz_nrc (c := 70) rfl ?_
                    have lo155 : (0 : Int) ≤ x4 := by omega
                    have tn155 : (((x4).toNat : Nat) : Int) = x4 := Int.toNat_of_nonneg lo155
                    refine And.intro (lo155) (And.intro (show _ < (4096 : Int) from by omega) ?_)
                    intro v155 e155 a155 b155
                    refine And.intro (True.intro) ?_
                    intro v158 M158 a158 b158 q158
                    obtain ⟨q158, z158⟩ := q158
                    subst z158
                    replace q158 : v158 ≤ v155 ∧ v158 ≤ v121 := by omega
                    refine And.intro (lo155) (And.intro (show _ < (4096 : Int) from by omega) ?_)
                    intro M161 e161
                    have hS : pz_rl pz_QV M M161 := by
                      rw [e161]
                      exact pz_rl_u hS (by unfold pz_QV; first | decide | omega) (pz_iom_a (by decide))
                    have hI : pz_im M161 := hS.1 hI0
                    exact L162 _ _ _ _ _ hS (by first | decide | omega) (by first | decide | omega) (by first | decide | omega) (by first | decide | omega) (by first | decide | omega) (by first | decide | omega) (by first | decide | omega)
                · skip
                  exact L162 _ _ _ _ _ hS (by first | decide | omega) (by first | decide | omega) (by first | decide | omega) (by first | decide | omega) (by first | decide | omega) (by first | decide | omega) (by first | decide | omega)
        have L51 : ∀ (x3 : Int) (x4 : Int) (d5 : Option pz_V) (d6 : Option pz_V) (sr0 : Nat) (s1 : Int) (s2 : Int) (N51 : pz_M), (pz_kd sr0 = 22) → (pz_rl pz_QV M N51) → (sr0 = 70) → (s1 = x4) → (0 ≤ x4) → (x4 ≤ 4095) → (x3 ≤ 4095) → ((4096 - x4).toNat < fo + 1) → Ok 51 [some (.inr (.inr (12, 1))), some (.inl x), some (.inl y), some (.inl x3), some (.inl x4), d5, d6] [.inl s2, .inl s1, .inr (.inr (22, sr0))] N51 := by
          intro x3 x4 d5 d6 sr0 s1 s2 N51 K_sr0 hS g51_2 g51_3 g51_4 g51_5 g51_6 g51_7
          have hI : pz_im N51 := hS.1 hI0
          refine hgo (fun p => Nat.beq p 15 || Nat.beq p 51 || Nat.beq p 55 || Nat.beq p 162 || Nat.beq p 168) 103 51 _ _ _ ?_
          have lo51 : (0 : Int) ≤ s1 := by omega
          have tn51 : (((s1).toNat : Nat) : Int) = s1 := Int.toNat_of_nonneg lo51
          refine And.intro (lo51) (And.intro (show _ < (4096 : Int) from by omega) ?_)
          intro M51 e51
          have hS : pz_rl pz_QV M M51 := by
            rw [e51]
            exact pz_rl_u hS (by rw [g51_2]; unfold pz_QV; omega) (by rw [g51_2]; exact pz_iom_a (by decide))
          have hI : pz_im M51 := hS.1 hI0
          exact L55 _ _ _ _ _ _ (Nat.lt_succ_self _) hS (by first | decide | omega) (by first | decide | omega) (by first | decide | omega) (by first | decide | omega) (by first | decide | omega)
        refine hgo (fun p => Nat.beq p 15 || Nat.beq p 51 || Nat.beq p 55 || Nat.beq p 162 || Nat.beq p 168) 103 15 _ _ _ ?_
        refine And.intro (fun h18 => ?_) (fun h18 => ?_)
        · skip
          refine And.intro rfl ?_
          exact ⟨trivial, hS⟩
        · skip
          intro v24 e24 a24 b24
          refine And.intro (fun h26 => ?_) (fun h26 => ?_)
          · skip
            refine pz_nrc (c := 70) rfl ?_
            refine And.intro (fun h41 => ?_) (fun h41 => ?_)
            · skip
              exact L51 _ _ _ _ _ _ _ _ (by first | assumption | rfl) hS (by first | decide | omega) (by first | decide | omega) (by first | decide | omega) (by first | decide | omega) (by first | decide | omega) (by first | decide | omega)
            · skip
              exact L51 _ _ _ _ _ _ _ _ (by first | assumption | rfl) hS (by first | decide | omega) (by first | decide | omega) (by first | decide | omega) (by first | decide | omega) (by first | decide | omega) (by first | decide | omega)
          · skip
            exact L168 _ _ _ _ _ hS (by first | decide | omega) (by first | decide | omega) (by first | decide | omega) (by first | decide | omega)
    refine hgo (fun p => Nat.beq p 15 || Nat.beq p 51 || Nat.beq p 55 || Nat.beq p 162 || Nat.beq p 168) 103 0 _ [] M ?_
    refine pz_nrc (c := 60) rfl ?_
    refine And.intro (by first | decide | omega) (And.intro (show _ < (1725 : Int) from by omega) ?_)
    intro v7 e7 a7 b7
    replace e7 : v7 = M 60 88 := e7
    have I7 : 0 ≤ v7 ∧ v7 ≤ 12 := by
      rw [e7]
      exact hI.1.1
    clear a7 b7
    intro v8 e8 a8 b8
    have S8 := pz_shl1 (c := v7) (by first | decide | omega) (by first | decide | omega)
    rw [← e8] at S8
    intro v10 e10 a10 b10
    rw [pz_wi (by first | decide | omega) (by first | decide | omega)] at e10
    clear a10 b10
    exact L15 _ _ _ _ _ _ (Nat.lt_succ_self _) hS (by first | decide | omega) (by first | decide | omega)
theorem v3_X12_laysSigns {fr lo i : Nat} {own : String} (h1 : 1 + 1 ≤ fr) (h2 : 8 + (7 + 11) + 21 ≤ lo) (h3 : .methodLink own i yX12_laysSigns ∈ lw_tbl) : pz_cV fr lo own i k3_X12_laysSigns :=
  pz_cVk (maxL := 7) (fr' := 1) (lo' := 21) 2 12 h3_X12_laysSigns rfl ⟨(pz_nhc_RX12 yX12_laysSigns rfl).1, (pz_nhc_RX12 yX12_laysSigns rfl).2, pz_ds12⟩ ⟨pz_wq1719, pz_wq1718, pz_ws83, pz_wq13⟩ (Or.inl ⟨TX12, 28, rfl⟩) (fun a M _ h => by
    have h : (match (generalizing := false) a with | [.inr (.inr (12, th)), .inl x, .inl y] => pz_im M | _ => False) := h
    split at h
    · exact ⟨_, _, rfl⟩
    · exact h.elim) h1 h2 h3
noncomputable def k3_X12_signsNext : pz_C := (4, 1, fun a M => (match a with | [.inr (.inr (12, th)), .inl x, .inl y, .inl z] => pz_im M | _ => False), fun a M r M' => (match a, r with | [.inr (.inr (12, th)), .inl x, .inl y, .inl z], some (.inl v) => (-1 ≤ v ∧ v < 12) ∧ pz_rl pz_QV M M' | _, _ => False))
noncomputable abbrev ct3_X12_signsNext : List (Bool × Nat × pz_C) := [(false, 51, k_X12_greater), (true, 449, k3_X12_laysSigns)]
set_option maxRecDepth 100000 in
set_option maxHeartbeats 4000000 in
theorem h3_X12_signsNext : pz_H yX12_signsNext cX12_signsNext 7 (some .int) k3_X12_signsNext 2 47 := by
  refine pz_mk (own := RX12) (tb := t_X12_signsNext) (fl := pz_flf fl_RX12) (ci := pz_cif ci_RX12) (ct := pz_ctf ct3_X12_signsNext) (rz := false) (pz_pfc_RX12 yX12_signsNext rfl) rfl t_X12_signsNext_ok (pz_flk fl_RX12_ok) (pz_cik ci_RX12_ok) ?_ ?_ (Or.inl ⟨rfl, rfl⟩) ?_ ?_
  · exact fun i k' h => pz_ctk (l := ct3_X12_signsNext) (P := fun b i k => b = true → pz_cV 2 47 RX12 i k) (List.forall_mem_cons.mpr ⟨((fun z => by cases z)), List.forall_mem_cons.mpr ⟨(fun _ => v3_X12_laysSigns (by decide) (by decide) pz_wq1716), fun _ h => absurd h List.not_mem_nil⟩⟩) true i k' h rfl
  · exact fun i k' h => pz_ctk (l := ct3_X12_signsNext) (P := fun b i k => b = false → (pz_cS 2 47 RX12 i k ∨ (k = pz_kac ∧ 1 ≤ 2 ∧ 60 ≤ 47 ∧ Cond.methodLink RX12 i arraycopyName ∈ pz_tbl))) (List.forall_mem_cons.mpr ⟨(fun _ => Or.inl (s_X12_greater (by decide) (by decide) (Or.inl pz_wq1447))), List.forall_mem_cons.mpr ⟨((fun z => by cases z)), fun _ h => absurd h List.not_mem_nil⟩⟩) false i k' h rfl
  · intro a M hlen hpre
    obtain ⟨th, x, y, z, rfl, hpre⟩ : ∃ th x y z, a = [.inr (.inr (12, th)), .inl x, .inl y, .inl z] ∧ (pz_im M) := by
      have hpre : (match (generalizing := false) a with | [.inr (.inr (12, th)), .inl x, .inl y, .inl z] => pz_im M | _ => False) := hpre
      split at hpre
      · exact ⟨_, _, _, _, rfl, hpre⟩
      · exact hpre.elim
    exact Nat.le_of_ble_eq_true rfl
  · intro a M hlen hcan hM hpre Ok hgo
    obtain ⟨th, x, y, z, rfl, hpre⟩ : ∃ th x y z, a = [.inr (.inr (12, th)), .inl x, .inl y, .inl z] ∧ (pz_im M) := by
      have hpre : (match (generalizing := false) a with | [.inr (.inr (12, th)), .inl x, .inl y, .inl z] => pz_im M | _ => False) := hpre
      split at hpre
      · exact ⟨_, _, _, _, rfl, hpre⟩
      · exact hpre.elim
    obtain ⟨k_th, hc_th⟩ := pz_tlm hcan
    have k_th : pz_kd th = 12 ∧ th < 231 := k_th
    have R_th := pz_kd12 k_th.1
    subst R_th
    clear k_th
    obtain ⟨k_x, hc_x⟩ := pz_tlm hc_th
    have l_x : -2147483648 ≤ x := k_x.1
    have u_x : x ≤ 2147483647 := k_x.2
    obtain ⟨k_y, hc_y⟩ := pz_tlm hc_x
    have l_y : -2147483648 ≤ y := k_y.1
    have u_y : y ≤ 2147483647 := k_y.2
    obtain ⟨k_z, hc_z⟩ := pz_tlm hc_y
    have l_z : -2147483648 ≤ z := k_z.1
    have u_z : z ≤ 2147483647 := k_z.2
    have hI : pz_im M := hpre
    have hI0 := hI
    have hS : pz_rl pz_QV M M := pz_rl.rf
    have L16 : ∀ (fu : Nat) (x4 : Int) (x5 : Int) (d6 : Option pz_V) (N16 : pz_M), (12 - x5).toNat < fu → (pz_rl pz_QV M N16) → (0 ≤ x5) → (0 ≤ x4) → (x4 ≤ 4095) → Ok 16 [some (.inr (.inr (12, 1))), some (.inl x), some (.inl y), some (.inl z), some (.inl x4), some (.inl x5), d6] [] N16 := by
      intro fu
      induction fu with
      | zero => exact fun _ _ _ _ hn => absurd hn (Nat.not_lt_zero _)
      | succ fu ih16 =>
        intro x4 x5 d6 N16 hn16 hS g16_1 g16_2 g16_3
        have hI : pz_im N16 := hS.1 hI0
        have L107 : ∀ (x4 : Int) (x5 : Int) (x6 : Int) (N107 : pz_M), (pz_rl pz_QV M N107) → (0 ≤ x5) → (x5 < 12) → ((12 - x5).toNat < fu + 1) → (0 ≤ x4) → (x4 ≤ 4095) → Ok 107 [some (.inr (.inr (12, 1))), some (.inl x), some (.inl y), some (.inl z), some (.inl x4), some (.inl x5), some (.inl x6)] [] N107 := by
          intro x4 x5 x6 N107 hS g107_1 g107_2 g107_3 g107_4 g107_5
          have hI : pz_im N107 := hS.1 hI0
          refine hgo (fun p => Nat.beq p 16 || Nat.beq p 107) 72 107 _ _ _ ?_
          intro v107 e107 a107 b107
          rw [pz_wi (by first | decide | omega) (by first | decide | omega)] at e107
          clear a107 b107
          exact ih16 _ _ _ _ (by first | decide | omega) hS (by first | decide | omega) (by first | decide | omega) (by first | decide | omega)
        refine hgo (fun p => Nat.beq p 16 || Nat.beq p 107) 72 16 _ _ _ ?_
        refine pz_nrc (c := 60) rfl ?_
        refine And.intro (by first | decide | omega) (And.intro (show _ < (1725 : Int) from by omega) ?_)
        intro v24 e24 a24 b24
        replace e24 : v24 = N16 60 88 := e24
        have I24 : 0 ≤ v24 ∧ v24 ≤ 12 := by
          rw [e24]
          exact hI.1.1
        clear a24 b24
        refine And.intro (fun h25 => ?_) (fun h25 => ?_)
        · skip
          refine And.intro rfl ?_
          exact ⟨by omega, hS⟩
        · skip
          refine pz_nrc (c := 60) rfl ?_
          intro v38 e38 a38 b38
          rw [pz_wi (by first | decide | omega) (by first | decide | omega)] at e38
          clear a38 b38
          intro v39 e39 a39 b39
          rw [pz_wi (by first | decide | omega) (by first | decide | omega)] at e39
          clear a39 b39
          have lo40 : (0 : Int) ≤ v39 := by omega
          have tn40 : (((v39).toNat : Nat) : Int) = v39 := Int.toNat_of_nonneg lo40
          refine And.intro (lo40) (And.intro (show _ < (1725 : Int) from by omega) ?_)
          intro v40 e40 a40 b40
          refine And.intro (True.intro) ?_
          intro v41 M41 a41 b41 q41
          obtain ⟨q41, z41⟩ := q41
          subst z41
          replace q41 : x ≤ v41 ∧ v40 ≤ v41 := by omega
          intro v46 e46 a46 b46
          intro v52 e52 a52 b52
          intro v54 e54 a54 b54
          refine And.intro (fun h56 => ?_) (fun h56 => ?_)
          · skip
            exact L107 _ _ _ _ hS (by first | decide | omega) (by first | decide | omega) (by first | decide | omega) (by first | decide | omega) (by first | decide | omega)
          · skip
            refine pz_nrc (c := 60) rfl ?_
            intro v70 e70 a70 b70
            rw [pz_wi (by first | decide | omega) (by first | decide | omega)] at e70
            clear a70 b70
            intro v71 e71 a71 b71
            rw [pz_wi (by first | decide | omega) (by first | decide | omega)] at e71
            clear a71 b71
            intro v73 e73 a73 b73
            rw [pz_wi (by first | decide | omega) (by first | decide | omega)] at e73
            clear a73 b73
            have lo74 : (0 : Int) ≤ v73 := by omega
            have tn74 : (((v73).toNat : Nat) : Int) = v73 := Int.toNat_of_nonneg lo74
            refine And.intro (lo74) (And.intro (show _ < (1725 : Int) from by omega) ?_)
            intro v74 e74 a74 b74
            refine And.intro (fun h75 => ?_) (fun h75 => ?_)
            · skip
              intro v88 e88 a88 b88
              intro v89 e89 a89 b89
              refine And.intro (hI) ?_
              intro M90 q90
              obtain ⟨q90, z90⟩ := q90
              have hS : pz_rl pz_QV M M90 := hS.tr z90
              have hI : pz_im M90 := hS.1 hI0
              refine pz_nrc (c := 70) rfl ?_
              have lo99 : (0 : Int) ≤ x4 := by omega
              have tn99 : (((x4).toNat : Nat) : Int) = x4 := Int.toNat_of_nonneg lo99
              refine And.intro (lo99) (And.intro (show _ < (4096 : Int) from by omega) ?_)
              intro v99 e99 a99 b99
              refine And.intro (fun h101 => ?_) (fun h101 => ?_)
              · skip
                exact L107 _ _ _ _ hS (by first | decide | omega) (by first | decide | omega) (by first | decide | omega) (by first | decide | omega) (by first | decide | omega)
              · skip
                refine And.intro rfl ?_
                exact ⟨by omega, hS⟩
            · skip
              exact L107 _ _ _ _ hS (by first | decide | omega) (by first | decide | omega) (by first | decide | omega) (by first | decide | omega) (by first | decide | omega)
    refine hgo (fun p => Nat.beq p 16 || Nat.beq p 107) 72 0 _ [] M ?_
    refine pz_nrc (c := 60) rfl ?_
    refine And.intro (by first | decide | omega) (And.intro (show _ < (1725 : Int) from by omega) ?_)
    intro v7 e7 a7 b7
    replace e7 : v7 = M 60 88 := e7
    have I7 : 0 ≤ v7 ∧ v7 ≤ 12 := by
      rw [e7]
      exact hI.1.1
    clear a7 b7
    intro v8 e8 a8 b8
    have S8 := pz_shl1 (c := v7) (by first | decide | omega) (by first | decide | omega)
    rw [← e8] at S8
    intro v10 e10 a10 b10
    rw [pz_wi (by first | decide | omega) (by first | decide | omega)] at e10
    clear a10 b10
    exact L16 _ _ _ _ _ (Nat.lt_succ_self _) hS (by first | decide | omega) (by first | decide | omega) (by first | decide | omega)
theorem v3_X12_signsNext {fr lo i : Nat} {own : String} (h1 : 2 + 1 ≤ fr) (h2 : 8 + (7 + 11) + 47 ≤ lo) (h3 : .methodLink own i yX12_signsNext ∈ lw_tbl) : pz_cV fr lo own i k3_X12_signsNext :=
  pz_cVk (maxL := 7) (fr' := 2) (lo' := 47) 3 12 h3_X12_signsNext rfl ⟨(pz_nhc_RX12 yX12_signsNext rfl).1, (pz_nhc_RX12 yX12_signsNext rfl).2, pz_ds14⟩ ⟨pz_wq1728, pz_wq1727, pz_ws85, pz_wq13⟩ (Or.inl ⟨TX12, 28, rfl⟩) (fun a M _ h => by
    have h : (match (generalizing := false) a with | [.inr (.inr (12, th)), .inl x, .inl y, .inl z] => pz_im M | _ => False) := h
    split at h
    · exact ⟨_, _, rfl⟩
    · exact h.elim) h1 h2 h3
noncomputable def k3_X12_signs : pz_C := (2, 1, fun a M => (match a with | [.inr (.inr (12, th)), .inl w] => pz_im M | _ => False), fun a M r M' => (match a, r with | [.inr (.inr (12, th)), .inl w], some (.inl v) => (True) ∧ pz_rl pz_QV M M' | _, _ => False))
noncomputable abbrev ct3_X12_signs : List (Bool × Nat × pz_C) := [(true, 449, k3_X12_laysSigns), (true, 452, k_X12_mostSigned), (false, 54, k_X12_isIn), (true, 455, k3_X12_signsNext), (false, 51, k_X12_greater)]
set_option maxRecDepth 100000 in
set_option maxHeartbeats 4000000 in
theorem h3_X12_signs : pz_H yX12_signs cX12_signs 8 (some .int) k3_X12_signs 3 73 := by
  refine pz_mk (own := RX12) (tb := t_X12_signs) (fl := pz_flf fl_RX12) (ci := pz_cif ci_RX12) (ct := pz_ctf ct3_X12_signs) (rz := false) (pz_pfc_RX12 yX12_signs rfl) rfl t_X12_signs_ok (pz_flk fl_RX12_ok) (pz_cik ci_RX12_ok) ?_ ?_ (Or.inl ⟨rfl, rfl⟩) ?_ ?_
  · exact fun i k' h => pz_ctk (l := ct3_X12_signs) (P := fun b i k => b = true → pz_cV 3 73 RX12 i k) (List.forall_mem_cons.mpr ⟨(fun _ => v3_X12_laysSigns (by decide) (by decide) pz_wq1716), List.forall_mem_cons.mpr ⟨(fun _ => v_X12_mostSigned (by decide) (by decide) pz_wq1721), List.forall_mem_cons.mpr ⟨((fun z => by cases z)), List.forall_mem_cons.mpr ⟨(fun _ => v3_X12_signsNext (by decide) (by decide) pz_wq1725), List.forall_mem_cons.mpr ⟨((fun z => by cases z)), fun _ h => absurd h List.not_mem_nil⟩⟩⟩⟩⟩) true i k' h rfl
  · exact fun i k' h => pz_ctk (l := ct3_X12_signs) (P := fun b i k => b = false → (pz_cS 3 73 RX12 i k ∨ (k = pz_kac ∧ 1 ≤ 3 ∧ 60 ≤ 73 ∧ Cond.methodLink RX12 i arraycopyName ∈ pz_tbl))) (List.forall_mem_cons.mpr ⟨((fun z => by cases z)), List.forall_mem_cons.mpr ⟨((fun z => by cases z)), List.forall_mem_cons.mpr ⟨(fun _ => Or.inl (s_X12_isIn (by decide) (by decide) (Or.inl pz_wq1217))), List.forall_mem_cons.mpr ⟨((fun z => by cases z)), List.forall_mem_cons.mpr ⟨(fun _ => Or.inl (s_X12_greater (by decide) (by decide) (Or.inl pz_wq1447))), fun _ h => absurd h List.not_mem_nil⟩⟩⟩⟩⟩) false i k' h rfl
  · intro a M hlen hpre
    obtain ⟨th, w, rfl, hpre⟩ : ∃ th w, a = [.inr (.inr (12, th)), .inl w] ∧ (pz_im M) := by
      have hpre : (match (generalizing := false) a with | [.inr (.inr (12, th)), .inl w] => pz_im M | _ => False) := hpre
      split at hpre
      · exact ⟨_, _, rfl, hpre⟩
      · exact hpre.elim
    exact Nat.le_of_ble_eq_true rfl
  · intro a M hlen hcan hM hpre Ok hgo
    obtain ⟨th, w, rfl, hpre⟩ : ∃ th w, a = [.inr (.inr (12, th)), .inl w] ∧ (pz_im M) := by
      have hpre : (match (generalizing := false) a with | [.inr (.inr (12, th)), .inl w] => pz_im M | _ => False) := hpre
      split at hpre
      · exact ⟨_, _, rfl, hpre⟩
      · exact hpre.elim
    obtain ⟨k_th, hc_th⟩ := pz_tlm hcan
    have k_th : pz_kd th = 12 ∧ th < 231 := k_th
    have R_th := pz_kd12 k_th.1
    subst R_th
    clear k_th
    obtain ⟨k_w, hc_w⟩ := pz_tlm hc_th
    have l_w : -2147483648 ≤ w := k_w.1
    have u_w : w ≤ 2147483647 := k_w.2
    have hI : pz_im M := hpre
    have hI0 := hI
    have hS : pz_rl pz_QV M M := pz_rl.rf
    have L80 : ∀ (fu : Nat) (x2 : Int) (x3 : Int) (x4 : Int) (x5 : Int) (x6 : Int) (x7 : Int) (N80 : pz_M), (101 - x7).toNat < fu → (pz_rl pz_QV M N80) → (0 ≤ x7) → (-1 ≤ x6 ∨ x7 = 10) → (w ≤ 100) → Ok 80 [some (.inr (.inr (12, 1))), some (.inl w), some (.inl x2), some (.inl x3), some (.inl x4), some (.inl x5), some (.inl x6), some (.inl x7)] [] N80 := by
      intro fu
      induction fu with
      | zero => exact fun _ _ _ _ _ _ _ hn => absurd hn (Nat.not_lt_zero _)
      | succ fu ih80 =>
        intro x2 x3 x4 x5 x6 x7 N80 hn80 hS g80_1 g80_2 g80_3
        have hI : pz_im N80 := hS.1 hI0
        refine hgo (fun p => Nat.beq p 80) 83 80 _ _ _ ?_
        refine And.intro (fun h83 => ?_) (fun h83 => ?_)
        · skip
          refine And.intro rfl ?_
          exact ⟨trivial, hS⟩
        · skip
          refine And.intro (hI) ?_
          intro v92 M92 a92 b92 q92
          obtain ⟨q92, z92⟩ := q92
          have hS : pz_rl pz_QV M M92 := hS.tr z92
          have hI : pz_im M92 := hS.1 hI0
          clear a92 b92
          refine pz_nrc (c := 60) rfl ?_
          intro v108 e108 a108 b108
          rw [pz_wi (by first | decide | omega) (by first | decide | omega)] at e108
          clear a108 b108
          intro v109 e109 a109 b109
          rw [pz_wi (by first | decide | omega) (by first | decide | omega)] at e109
          clear a109 b109
          have lo110 : (0 : Int) ≤ v109 := by omega
          have tn110 : (((v109).toNat : Nat) : Int) = v109 := Int.toNat_of_nonneg lo110
          refine And.intro (lo110) (And.intro (show _ < (1725 : Int) from by omega) ?_)
          intro v110 e110 a110 b110
          refine And.intro (True.intro) ?_
          intro v111 M111 a111 b111 q111
          obtain ⟨q111, z111⟩ := q111
          subst z111
          replace q111 : x4 ≤ v111 ∧ v110 ≤ v111 := by omega
          intro v116 e116 a116 b116
          intro v124 e124 a124 b124
          intro v125 e125 a125 b125
          intro v128 e128 a128 b128
          rw [pz_wi (by first | decide | omega) (by first | decide | omega)] at e128
          clear a128 b128
          exact ih80 _ _ _ _ _ _ _ (by first | decide | omega) hS (by first | decide | omega) (by first | decide | omega) (by first | decide | omega)
    refine hgo (fun p => Nat.beq p 80) 83 0 _ [] M ?_
    refine pz_nrc (c := 60) rfl ?_
    refine And.intro (by first | decide | omega) (And.intro (show _ < (1725 : Int) from by omega) ?_)
    intro v7 e7 a7 b7
    replace e7 : v7 = M 60 88 := e7
    have I7 : 0 ≤ v7 ∧ v7 ≤ 12 := by
      rw [e7]
      exact hI.1.1
    clear a7 b7
    intro v8 e8 a8 b8
    have S8 := pz_shl1 (c := v7) (by first | decide | omega) (by first | decide | omega)
    rw [← e8] at S8
    intro v10 e10 a10 b10
    rw [pz_wi (by first | decide | omega) (by first | decide | omega)] at e10
    clear a10 b10
    refine And.intro (hI) ?_
    intro M15 q15
    obtain ⟨q15, z15⟩ := q15
    have hS : pz_rl pz_QV M M15 := hS.tr z15
    have hI : pz_im M15 := hS.1 hI0
    refine And.intro (fun h20 => ?_) (fun h20 => ?_)
    · skip
      refine pz_nrc (c := 70) rfl ?_
      have lo33 : (0 : Int) ≤ v10 := by omega
      have tn33 : (((v10).toNat : Nat) : Int) = v10 := Int.toNat_of_nonneg lo33
      refine And.intro (lo33) (And.intro (show _ < (4096 : Int) from by omega) ?_)
      intro v33 e33 a33 b33
      refine And.intro (fun h39 => ?_) (fun h39 => ?_)
      · skip
        refine And.intro rfl ?_
        exact ⟨trivial, hS⟩
      · skip
        refine And.intro (fun h43 => ?_) (fun h43 => ?_)
        · skip
          exact L80 _ _ _ _ _ _ _ _ (Nat.lt_succ_self _) hS (by first | decide | omega) (by first | decide | omega) (by first | decide | omega)
        · skip
          refine pz_nrc (c := 60) rfl ?_
          refine And.intro (by first | decide | omega) (And.intro (show _ < (1725 : Int) from by omega) ?_)
          intro v57 e57 a57 b57
          replace e57 : v57 = M15 60 88 := e57
          have I57 : 0 ≤ v57 ∧ v57 ≤ 12 := by
            rw [e57]
            exact hI.1.1
          clear a57 b57
          intro v58 e58 a58 b58
          rw [pz_wi (by first | decide | omega) (by first | decide | omega)] at e58
          clear a58 b58
          refine And.intro (True.intro) ?_
          intro v59 M59 a59 b59 q59
          obtain ⟨q59, z59⟩ := q59
          subst z59
          clear a59 b59
          refine And.intro (fun h62 => ?_) (fun h62 => ?_)
          · skip
            replace q59 := q59.resolve_right (fun z => h62 z.1)
            clear h62
            exact L80 _ _ _ _ _ _ _ _ (Nat.lt_succ_self _) hS (by first | decide | omega) (by first | decide | omega) (by first | decide | omega)
          · skip
            replace q59 := q59.resolve_left (fun z => absurd (z.1.symm.trans h62) (by decide))
            clear h62
            refine And.intro rfl ?_
            exact ⟨trivial, hS⟩
    · skip
      refine And.intro (hI) ?_
      intro v24 M24 a24 b24 q24
      obtain ⟨q24, z24⟩ := q24
      subst z24
      refine And.intro rfl ?_
      exact ⟨trivial, hS⟩
theorem v3_X12_signs {fr lo i : Nat} {own : String} (h1 : 3 + 1 ≤ fr) (h2 : 8 + (8 + 11) + 73 ≤ lo) (h3 : .methodLink own i yX12_signs ∈ lw_tbl) : pz_cV fr lo own i k3_X12_signs :=
  pz_cVk (maxL := 8) (fr' := 3) (lo' := 73) 1 12 h3_X12_signs rfl ⟨(pz_nhc_RX12 yX12_signs rfl).1, (pz_nhc_RX12 yX12_signs rfl).2, pz_ds5⟩ ⟨pz_wq1715, pz_wq1713, pz_wq1714, pz_wq13⟩ (Or.inl ⟨TX12, 28, rfl⟩) (fun a M _ h => by
    have h : (match (generalizing := false) a with | [.inr (.inr (12, th)), .inl w] => pz_im M | _ => False) := h
    split at h
    · exact ⟨_, _, rfl⟩
    · exact h.elim) h1 h2 h3
