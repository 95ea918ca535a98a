
noncomputable def k_X12_mostSigned : pz_C := (1, 1, fun a M => (match a with | [.inr (.inr (12, th))] => pz_im M | _ => False), fun a M r M' => (match a, r with | [.inr (.inr (12, th))], some (.inl v) => (True) ∧ M = M' | _, _ => False))
noncomputable abbrev ct_X12_mostSigned : List (Bool × Nat × pz_C) := [(false, 398, k_X12_count), (false, 51, k_X12_greater)]
set_option maxRecDepth 100000 in
set_option maxHeartbeats 4000000 in
theorem h_X12_mostSigned : pz_H yX12_mostSigned cX12_mostSigned 3 (some .int) k_X12_mostSigned 1 22 := by
  refine pz_mk (own := RX12) (tb := t_X12_mostSigned) (fl := pz_flf fl_RX12) (ci := pz_cif ci_RX12) (ct := pz_ctf ct_X12_mostSigned) (rz := false) (pz_pfc_RX12 yX12_mostSigned rfl) rfl t_X12_mostSigned_ok (pz_flk fl_RX12_ok) (pz_cik ci_RX12_ok) ?_ ?_ (Or.inl ⟨rfl, rfl⟩) ?_ ?_
  · exact fun i k' h => pz_ctk (l := ct_X12_mostSigned) (P := fun b i k => b = true → pz_cV 1 22 RX12 i k) (List.forall_mem_cons.mpr ⟨((fun z => by cases z)), List.forall_mem_cons.mpr ⟨((fun z => by cases z)), fun _ h => absurd h List.not_mem_nil⟩⟩) true i k' h rfl
  · exact fun i k' h => pz_ctk (l := ct_X12_mostSigned) (P := fun b i k => b = false → (pz_cS 1 22 RX12 i k ∨ (k = pz_kac ∧ 1 ≤ 1 ∧ 60 ≤ 22 ∧ Cond.methodLink RX12 i arraycopyName ∈ pz_tbl))) (List.forall_mem_cons.mpr ⟨(fun _ => Or.inl (s_X12_count (by decide) (by decide) (Or.inl pz_wq1606))), List.forall_mem_cons.mpr ⟨(fun _ => Or.inl (s_X12_greater (by decide) (by decide) (Or.inl pz_wq1447))), fun _ h => absurd h List.not_mem_nil⟩⟩) false i k' h rfl
  · intro a M hlen hpre
    obtain ⟨th, rfl, hpre⟩ : ∃ th, a = [.inr (.inr (12, th))] ∧ (pz_im M) := by
      have hpre : (match (generalizing := false) a with | [.inr (.inr (12, th))] => pz_im M | _ => False) := hpre
      split at hpre
      · exact ⟨_, rfl, hpre⟩
      · exact hpre.elim
    exact Nat.le_of_ble_eq_true rfl
  · intro a M hlen hcan hM hpre Ok hgo
    obtain ⟨th, rfl, hpre⟩ : ∃ th, a = [.inr (.inr (12, th))] ∧ (pz_im M) := by
      have hpre : (match (generalizing := false) a with | [.inr (.inr (12, th))] => pz_im M | _ => False) := hpre
      split at hpre
      · exact ⟨_, rfl, hpre⟩
      · exact hpre.elim
    obtain ⟨k_th, hc_th⟩ := pz_tlm hcan
    have k_th : pz_kd th = 12 ∧ th < 231 := k_th
    have R_th := pz_kd12 k_th.1
    subst R_th
    clear k_th
    have hI : pz_im M := hpre
    have L4 : ∀ (fu : Nat) (x1 : Int) (x2 : Int), (4096 - x2).toNat < fu → (0 ≤ x2) → Ok 4 [some (.inr (.inr (12, 1))), some (.inl x1), some (.inl x2)] [] M := by
      intro fu
      induction fu with
      | zero => exact fun _ _ hn => absurd hn (Nat.not_lt_zero _)
      | succ fu ih4 =>
        intro x1 x2 hn4 g4_0
        have L41 : ∀ (x1 : Int) (x2 : Int) (s0 : Int), (0 ≤ x2) → (x2 < 4096) → ((4096 - x2).toNat < fu + 1) → Ok 41 [some (.inr (.inr (12, 1))), some (.inl x1), some (.inl x2)] [.inl s0] M := by
          intro x1 x2 s0 g41_0 g41_1 g41_2
          refine hgo (fun p => Nat.beq p 4 || Nat.beq p 41) 31 41 _ _ _ ?_
          intro v42 e42 a42 b42
          rw [pz_wi (by first | decide | omega) (by first | decide | omega)] at e42
          clear a42 b42
          exact ih4 _ _ (by first | decide | omega) (by first | decide | omega)
        refine hgo (fun p => Nat.beq p 4 || Nat.beq p 41) 31 4 _ _ _ ?_
        refine pz_nrc (c := 60) rfl ?_
        refine And.intro (by first | decide | omega) (And.intro (show _ < (1725 : Int) from by omega) ?_)
        intro v12 e12 a12 b12
        replace e12 : v12 = M 60 88 := e12
        have I12 : 0 ≤ v12 ∧ v12 ≤ 12 := by
          rw [e12]
          exact hI.1.1
        clear a12 b12
        intro v13 e13 a13 b13
        have S13 := pz_shl1 (c := v12) (by first | decide | omega) (by first | decide | omega)
        rw [← e13] at S13
        refine And.intro (fun h14 => ?_) (fun h14 => ?_)
        · skip
          refine And.intro rfl ?_
          exact ⟨trivial, rfl⟩
        · skip
          refine pz_nrc (c := 70) rfl ?_
          have lo22 : (0 : Int) ≤ x2 := by omega
          have tn22 : (((x2).toNat : Nat) : Int) = x2 := Int.toNat_of_nonneg lo22
          refine And.intro (lo22) (And.intro (show _ < (4096 : Int) from by omega) ?_)
          intro v22 e22 a22 b22
          refine And.intro (fun h26 => ?_) (fun h26 => ?_)
          · skip
            exact L41 _ _ _ (by first | decide | omega) (by first | decide | omega) (by first | decide | omega)
          · skip
            refine And.intro (True.intro) ?_
            intro v31 M31 a31 b31 q31
            obtain ⟨q31, z31⟩ := q31
            subst z31
            refine And.intro (True.intro) ?_
            intro v34 M34 a34 b34 q34
            obtain ⟨q34, z34⟩ := q34
            subst z34
            replace q34 : x1 ≤ v34 ∧ v31 ≤ v34 := by omega
            exact L41 _ _ _ (by first | decide | omega) (by first | decide | omega) (by first | decide | omega)
    refine hgo (fun p => Nat.beq p 4 || Nat.beq p 41) 31 0 _ [] M ?_
    exact L4 _ _ _ (Nat.lt_succ_self _) (by first | decide | omega)
theorem v_X12_mostSigned {fr lo i : Nat} {own : String} (h1 : 1 + 1 ≤ fr) (h2 : 8 + (3 + 11) + 22 ≤ lo) (h3 : .methodLink own i yX12_mostSigned ∈ lw_tbl) : pz_cV fr lo own i k_X12_mostSigned :=
  pz_cVk (maxL := 3) (fr' := 1) (lo' := 22) 0 12 h_X12_mostSigned rfl ⟨(pz_nhc_RX12 yX12_mostSigned rfl).1, (pz_nhc_RX12 yX12_mostSigned rfl).2, pz_ds1⟩ ⟨pz_wq1724, pz_wq1723, pz_ws84, pz_wq13⟩ (Or.inl ⟨TX12, 28, rfl⟩) (fun a M _ h => by
    have h : (match (generalizing := false) a with | [.inr (.inr (12, th))] => pz_im M | _ => False) := h
    split at h
    · exact ⟨_, _, rfl⟩
    · exact h.elim) h1 h2 h3


noncomputable def k_X12_money : pz_C := (3, 1, fun a M => (match a with | [.inr (.inr (12, th)), .inl t, .inl m] => pz_im M | _ => False), fun a M r M' => (match a, r with | [.inr (.inr (12, th)), .inl t, .inl m], some (.inl v) => (v = (if 0 ≤ t ∧ t ≤ 600 ∧ 0 ≤ m ∧ m ≤ 600 then pz_mo (fun k => M 60 (93 + k)) m (M 60 88).toNat 0 t (-1) else -1)) ∧ M = M' | _, _ => False))
noncomputable abbrev ct_X12_money : List (Bool × Nat × pz_C) := [(false, 54, k_X12_isIn)]
set_option maxRecDepth 100000 in
set_option maxHeartbeats 4000000 in
theorem h_X12_money : pz_H yX12_money cX12_money 6 (some .int) k_X12_money 1 22 := by
  refine pz_mk (own := RX12) (tb := t_X12_money) (fl := pz_flf fl_RX12) (ci := pz_cif ci_RX12) (ct := pz_ctf ct_X12_money) (rz := false) (pz_pfc_RX12 yX12_money rfl) rfl t_X12_money_ok (pz_flk fl_RX12_ok) (pz_cik ci_RX12_ok) ?_ ?_ (Or.inl ⟨rfl, rfl⟩) ?_ ?_
  · exact fun i k' h => pz_ctk (l := ct_X12_money) (P := fun b i k => b = true → pz_cV 1 22 RX12 i k) (List.forall_mem_cons.mpr ⟨((fun z => by cases z)), fun _ h => absurd h List.not_mem_nil⟩) true i k' h rfl
  · exact fun i k' h => pz_ctk (l := ct_X12_money) (P := fun b i k => b = false → (pz_cS 1 22 RX12 i k ∨ (k = pz_kac ∧ 1 ≤ 1 ∧ 60 ≤ 22 ∧ Cond.methodLink RX12 i arraycopyName ∈ pz_tbl))) (List.forall_mem_cons.mpr ⟨(fun _ => Or.inl (s_X12_isIn (by decide) (by decide) (Or.inl pz_wq1217))), fun _ h => absurd h List.not_mem_nil⟩) false i k' h rfl
  · intro a M hlen hpre
    obtain ⟨th, t, m, rfl, hpre⟩ : ∃ th t m, a = [.inr (.inr (12, th)), .inl t, .inl m] ∧ (pz_im M) := by
      have hpre : (match (generalizing := false) a with | [.inr (.inr (12, th)), .inl t, .inl m] => pz_im M | _ => False) := hpre
      split at hpre
      · exact ⟨_, _, _, rfl, hpre⟩
      · exact hpre.elim
    exact Nat.le_of_ble_eq_true rfl
  · intro a M hlen hcan hM hpre Ok hgo
    obtain ⟨th, t, m, rfl, hpre⟩ : ∃ th t m, a = [.inr (.inr (12, th)), .inl t, .inl m] ∧ (pz_im M) := by
      have hpre : (match (generalizing := false) a with | [.inr (.inr (12, th)), .inl t, .inl m] => pz_im M | _ => False) := hpre
      split at hpre
      · exact ⟨_, _, _, rfl, hpre⟩
      · exact hpre.elim
    obtain ⟨k_th, hc_th⟩ := pz_tlm hcan
    have k_th : pz_kd th = 12 ∧ th < 231 := k_th
    have R_th := pz_kd12 k_th.1
    subst R_th
    clear k_th
    obtain ⟨k_t, hc_t⟩ := pz_tlm hc_th
    have l_t : -2147483648 ≤ t := k_t.1
    have u_t : t ≤ 2147483647 := k_t.2
    obtain ⟨k_m, hc_m⟩ := pz_tlm hc_t
    have l_m : -2147483648 ≤ m := k_m.1
    have u_m : m ≤ 2147483647 := k_m.2
    have hI : pz_im M := hpre
    have I88 := hI.1.1
    have L32 : ∀ (fu : Nat) (x3 : Int) (x4 : Int) (x5 : Int), (12 - x5).toNat < fu → (0 ≤ x5) → (x5 ≤ M 60 88) → (M 60 88 ≤ 12) → (0 ≤ t ∧ t ≤ 600 ∧ 0 ≤ m ∧ m ≤ 600) → (pz_mo (fun k => M 60 (93 + k)) m (M 60 88 - x5).toNat x5.toNat x4 x3 = pz_mo (fun k => M 60 (93 + k)) m (M 60 88).toNat 0 t (-1)) → Ok 32 [some (.inr (.inr (12, 1))), some (.inl t), some (.inl m), some (.inl x3), some (.inl x4), some (.inl x5)] [] M := by
      intro fu
      induction fu with
      | zero => exact fun _ _ _ hn => absurd hn (Nat.not_lt_zero _)
      | succ fu ih32 =>
        intro x3 x4 x5 hn32 g32_0 g32_1 g32_2 g32_3 g32_4
        have L74 : ∀ (x3 : Int) (x4 : Int) (x5 : Int) (s0 : Int), (0 ≤ x5) → (x5 < 12) → ((12 - x5).toNat < fu + 1) → (x5 < M 60 88) → (M 60 88 ≤ 12) → (0 ≤ t ∧ t ≤ 600 ∧ 0 ≤ m ∧ m ≤ 600) → (pz_mo (fun k => M 60 (93 + k)) m (M 60 88 - x5 - 1).toNat (x5.toNat + 1) x4 s0 = pz_mo (fun k => M 60 (93 + k)) m (M 60 88).toNat 0 t (-1)) → Ok 74 [some (.inr (.inr (12, 1))), some (.inl t), some (.inl m), some (.inl x3), some (.inl x4), some (.inl x5)] [.inl s0] M := by
          intro x3 x4 x5 s0 g74_0 g74_1 g74_2 g74_3 g74_4 g74_5 g74_6
          refine hgo (fun p => Nat.beq p 32 || Nat.beq p 74) 48 74 _ _ _ ?_
          intro v75 e75 a75 b75
          rw [pz_wi (by first | decide | omega) (by first | decide | omega)] at e75
          have G75 : pz_mo (fun k => M 60 (93 + k)) m (M 60 88 - v75).toNat v75.toNat x4 s0 = pz_mo (fun k => M 60 (93 + k)) m (M 60 88).toNat 0 t (-1) := by
            rw [show (M 60 88 - v75).toNat = (M 60 88 - x5 - 1).toNat by omega, show v75.toNat = x5.toNat + 1 by omega]
            exact g74_6
          exact ih32 _ _ _ (by first | decide | omega) (by first | omega | (rw [show (M 60 88 - 0).toNat = (M 60 88).toNat by omega]; rfl) | exact G75) (by first | omega | (rw [show (M 60 88 - 0).toNat = (M 60 88).toNat by omega]; rfl) | exact G75) (by first | omega | (rw [show (M 60 88 - 0).toNat = (M 60 88).toNat by omega]; rfl) | exact G75) (by first | omega | (rw [show (M 60 88 - 0).toNat = (M 60 88).toNat by omega]; rfl) | exact G75) (by first | omega | (rw [show (M 60 88 - 0).toNat = (M 60 88).toNat by omega]; rfl) | exact G75)
        refine hgo (fun p => Nat.beq p 32 || Nat.beq p 74) 48 32 _ _ _ ?_
        refine pz_nrc (c := 60) rfl ?_
        refine And.intro (by first | decide | omega) (And.intro (show _ < (1725 : Int) from by omega) ?_)
        intro v40 e40 a40 b40
        replace e40 : v40 = M 60 88 := e40
        have I40 : 0 ≤ v40 ∧ v40 ≤ 12 := by
          rw [e40]
          exact hI.1.1
        clear a40 b40
        refine And.intro (fun h41 => ?_) (fun h41 => ?_)
        · skip
          refine And.intro rfl ?_
          refine ⟨?_, rfl⟩
          rw [if_pos g32_3, ← g32_4, pz_mo0 (by first | decide | omega)]
        · skip
          refine pz_nrc (c := 60) rfl ?_
          intro v56 e56 a56 b56
          rw [pz_wi (by first | decide | omega) (by first | decide | omega)] at e56
          clear a56 b56
          have lo57 : (0 : Int) ≤ v56 := by omega
          have tn57 : (((v56).toNat : Nat) : Int) = v56 := Int.toNat_of_nonneg lo57
          refine And.intro (lo57) (And.intro (show _ < (1725 : Int) from by omega) ?_)
          intro v57 e57 a57 b57
          rw [show v56.toNat = 93 + x5.toNat by omega] at e57
          intro v58 e58 a58 b58
          intro v59 e59 a59 b59
          have E59 : v59 = pz_w (x4 + pz_w (10 + M 60 (93 + x5.toNat))) := by
            rw [← e57, ← e58]
            exact e59
          refine And.intro (fun h65 => ?_) (fun h65 => ?_)
          · skip
            have G65 : pz_mo (fun k => M 60 (93 + k)) m (M 60 88 - x5 - 1).toNat (x5.toNat + 1) v59 x3 = pz_mo (fun k => M 60 (93 + k)) m (M 60 88).toNat 0 t (-1) := Eq.trans (by exact pz_moS (n := (M 60 88 - x5).toNat) (by first | decide | omega) rfl E59 (by first | decide | omega)) g32_4
            exact L74 _ _ _ _ (by first | omega | exact G65) (by first | omega | exact G65) (by first | omega | exact G65) (by first | omega | exact G65) (by first | omega | exact G65) (by first | omega | exact G65) (by first | omega | exact G65)
          · skip
            have G65 : pz_mo (fun k => M 60 (93 + k)) m (M 60 88 - x5 - 1).toNat (x5.toNat + 1) v59 x5 = pz_mo (fun k => M 60 (93 + k)) m (M 60 88).toNat 0 t (-1) := Eq.trans (by exact pz_moS (n := (M 60 88 - x5).toNat) (by first | decide | omega) rfl E59 (by first | decide | omega)) g32_4
            exact L74 _ _ _ _ (by first | omega | exact G65) (by first | omega | exact G65) (by first | omega | exact G65) (by first | omega | exact G65) (by first | omega | exact G65) (by first | omega | exact G65) (by first | omega | exact G65)
    refine hgo (fun p => Nat.beq p 32 || Nat.beq p 74) 48 0 _ [] M ?_
    refine And.intro (True.intro) ?_
    intro v5 M5 a5 b5 q5
    obtain ⟨q5, z5⟩ := q5
    subst z5
    clear a5 b5
    refine And.intro (fun h8 => ?_) (fun h8 => ?_)
    · skip
      replace q5 := q5.resolve_left (fun z => absurd (z.1.symm.trans h8) (by decide))
      clear h8
      refine And.intro rfl ?_
      refine ⟨?_, rfl⟩
      rw [if_neg]
      intro z
      omega
    · skip
      replace q5 := q5.resolve_right (fun z => h8 z.1)
      clear h8
      refine And.intro (True.intro) ?_
      intro v16 M16 a16 b16 q16
      obtain ⟨q16, z16⟩ := q16
      subst z16
      clear a16 b16
      refine And.intro (fun h19 => ?_) (fun h19 => ?_)
      · skip
        replace q16 := q16.resolve_right (fun z => h19 z.1)
        clear h19
        exact L32 _ _ _ _ (Nat.lt_succ_self _) (by first | omega | (rw [show (M 60 88 - 0).toNat = (M 60 88).toNat by omega]; rfl) | exact G75) (by first | omega | (rw [show (M 60 88 - 0).toNat = (M 60 88).toNat by omega]; rfl) | exact G75) (by first | omega | (rw [show (M 60 88 - 0).toNat = (M 60 88).toNat by omega]; rfl) | exact G75) (by first | omega | (rw [show (M 60 88 - 0).toNat = (M 60 88).toNat by omega]; rfl) | exact G75) (by first | omega | (rw [show (M 60 88 - 0).toNat = (M 60 88).toNat by omega]; rfl) | exact G75)
      · skip
        replace q16 := q16.resolve_left (fun z => absurd (z.1.symm.trans h19) (by decide))
        clear h19
        refine And.intro rfl ?_
        refine ⟨?_, rfl⟩
        rw [if_neg]
        intro z
        omega
theorem v_X12_money {fr lo i : Nat} {own : String} (h1 : 1 + 1 ≤ fr) (h2 : 8 + (6 + 11) + 22 ≤ lo) (h3 : .methodLink own i yX12_money ∈ lw_tbl) : pz_cV fr lo own i k_X12_money :=
  pz_cVk (maxL := 6) (fr' := 1) (lo' := 22) 2 12 h_X12_money rfl ⟨(pz_nhc_RX12 yX12_money rfl).1, (pz_nhc_RX12 yX12_money rfl).2, pz_ds10⟩ ⟨pz_wq1732, pz_wq1730, pz_wq1731, pz_wq13⟩ (Or.inl ⟨TX12, 28, rfl⟩) (fun a M _ h => by
    have h : (match (generalizing := false) a with | [.inr (.inr (12, th)), .inl t, .inl m] => pz_im M | _ => False) := h
    split at h
    · exact ⟨_, _, rfl⟩
    · exact h.elim) h1 h2 h3
noncomputable def k_X12_ill : pz_C := (3, 1, fun a M => (match a with | [.inr (.inr (12, th)), .inl a1, .inl k] => pz_im M | _ => False), fun a M r M' => (match a, r with | [.inr (.inr (12, th)), .inl a1, .inl k], some (.inl v) => (pz_il2 M a1 k v) ∧ M = M' | _, _ => False))
noncomputable abbrev ct_X12_ill : List (Bool × Nat × pz_C) := [(false, 54, k_X12_isIn), (true, 392, k_X12_recordsOf)]
set_option maxRecDepth 100000 in
set_option maxHeartbeats 4000000 in
theorem h_X12_ill : pz_H yX12_ill cX12_ill 5 (some .int) k_X12_ill 2 47 := by
  refine pz_mk (own := RX12) (tb := t_X12_ill) (fl := pz_flf fl_RX12) (ci := pz_cif ci_RX12) (ct := pz_ctf ct_X12_ill) (rz := false) (pz_pfc_RX12 yX12_ill rfl) rfl t_X12_ill_ok (pz_flk fl_RX12_ok) (pz_cik ci_RX12_ok) ?_ ?_ (Or.inl ⟨rfl, rfl⟩) ?_ ?_
  · exact fun i k' h => pz_ctk (l := ct_X12_ill) (P := fun b i k => b = true → pz_cV 2 47 RX12 i k) (List.forall_mem_cons.mpr ⟨((fun z => by cases z)), List.forall_mem_cons.mpr ⟨(fun _ => v_X12_recordsOf (by decide) (by decide) pz_wq1590), fun _ h => absurd h List.not_mem_nil⟩⟩) true i k' h rfl
  · exact fun i k' h => pz_ctk (l := ct_X12_ill) (P := fun b i k => b = false → (pz_cS 2 47 RX12 i k ∨ (k = pz_kac ∧ 1 ≤ 2 ∧ 60 ≤ 47 ∧ Cond.methodLink RX12 i arraycopyName ∈ pz_tbl))) (List.forall_mem_cons.mpr ⟨(fun _ => Or.inl (s_X12_isIn (by decide) (by decide) (Or.inl pz_wq1217))), List.forall_mem_cons.mpr ⟨((fun z => by cases z)), fun _ h => absurd h List.not_mem_nil⟩⟩) false i k' h rfl
  · intro a M hlen hpre
    obtain ⟨th, a1, k, rfl, hpre⟩ : ∃ th a1 k, a = [.inr (.inr (12, th)), .inl a1, .inl k] ∧ (pz_im M) := by
      have hpre : (match (generalizing := false) a with | [.inr (.inr (12, th)), .inl a1, .inl k] => pz_im M | _ => False) := hpre
      split at hpre
      · exact ⟨_, _, _, rfl, hpre⟩
      · exact hpre.elim
    exact Nat.le_of_ble_eq_true rfl
  · intro a M hlen hcan hM hpre Ok hgo
    obtain ⟨th, a1, k, rfl, hpre⟩ : ∃ th a1 k, a = [.inr (.inr (12, th)), .inl a1, .inl k] ∧ (pz_im M) := by
      have hpre : (match (generalizing := false) a with | [.inr (.inr (12, th)), .inl a1, .inl k] => pz_im M | _ => False) := hpre
      split at hpre
      · exact ⟨_, _, _, rfl, hpre⟩
      · exact hpre.elim
    obtain ⟨k_th, hc_th⟩ := pz_tlm hcan
    have k_th : pz_kd th = 12 ∧ th < 231 := k_th
    have R_th := pz_kd12 k_th.1
    subst R_th
    clear k_th
    obtain ⟨k_a1, hc_a1⟩ := pz_tlm hc_th
    have l_a1 : -2147483648 ≤ a1 := k_a1.1
    have u_a1 : a1 ≤ 2147483647 := k_a1.2
    obtain ⟨k_k, hc_k⟩ := pz_tlm hc_a1
    have l_k : -2147483648 ≤ k := k_k.1
    have u_k : k ≤ 2147483647 := k_k.2
    have hI : pz_im M := hpre
    have I88 := hI.1.1
    have L28 : ∀ (fu : Nat) (x3 : Int) (x4 : Int), (12 - x4).toNat < fu → (0 ≤ x4) → (x4 ≤ 12) → (x4 ≤ M 60 88) → (0 ≤ a1) → (a1 ≤ 999) → (1 ≤ k) → (k ≤ 30) → (pz_zs x3 (fun j => decide (j < x4.toNat) && pz_ilf M a1 (a1 + k - 1) j)) → Ok 28 [some (.inr (.inr (12, 1))), some (.inl a1), some (.inl k), some (.inl x3), some (.inl x4)] [] M := by
      intro fu
      induction fu with
      | zero => exact fun _ _ hn => absurd hn (Nat.not_lt_zero _)
      | succ fu ih28 =>
        intro x3 x4 hn28 g28_0 g28_1 g28_2 g28_3 g28_4 g28_5 g28_6 g28_7
        have L64 : ∀ (x3 : Int) (x4 : Int) (s0 : Int) (s1 : Int), (0 ≤ x4) → (x4 < 12) → ((12 - x4).toNat < fu + 1) → (x4 < M 60 88) → (0 ≤ a1) → (a1 ≤ 999) → (1 ≤ k) → (k ≤ 30) → (pz_zs s0 (fun j => decide (j < x4.toNat) && pz_ilf M a1 (a1 + k - 1) j)) → (pz_zs s1 (fun j => decide (x4.toNat = j) && pz_ilf M a1 (a1 + k - 1) j)) → Ok 64 [some (.inr (.inr (12, 1))), some (.inl a1), some (.inl k), some (.inl x3), some (.inl x4)] [.inl s1, .inl s0] M := by
          intro x3 x4 s0 s1 g64_0 g64_1 g64_2 g64_3 g64_4 g64_5 g64_6 g64_7 g64_8 g64_9
          refine hgo (fun p => Nat.beq p 28 || Nat.beq p 64) 46 64 _ _ _ ?_
          intro v64 e64 a64 b64
          intro v66 e66 a66 b66
          rw [pz_wi (by first | decide | omega) (by first | decide | omega)] at e66
          have G66 : pz_zs v64 (fun j => decide (j < v66.toNat) && pz_ilf M a1 (a1 + k - 1) j) := pz_il_s (x := x4) ⟨by omega, by omega⟩ (by first | decide | omega) g64_8 g64_9 e64
          exact ih28 _ _ (by first | decide | omega) (by first | omega | assumption | exact pz_il_0) (by first | omega | assumption | exact pz_il_0) (by first | omega | assumption | exact pz_il_0) (by first | omega | assumption | exact pz_il_0) (by first | omega | assumption | exact pz_il_0) (by first | omega | assumption | exact pz_il_0) (by first | omega | assumption | exact pz_il_0) (by first | omega | assumption | exact pz_il_0)
        refine hgo (fun p => Nat.beq p 28 || Nat.beq p 64) 46 28 _ _ _ ?_
        refine pz_nrc (c := 60) rfl ?_
        refine And.intro (by first | decide | omega) (And.intro (show _ < (1725 : Int) from by omega) ?_)
        intro v36 e36 a36 b36
        replace e36 : v36 = M 60 88 := e36
        have I36 : 0 ≤ v36 ∧ v36 ≤ 12 := by
          rw [e36]
          exact hI.1.1
        clear a36 b36
        refine And.intro (fun h37 => ?_) (fun h37 => ?_)
        · skip
          refine And.intro rfl ?_
          exact ⟨⟨fun y => by omega, fun _ => by rw [show (M 60 88).toNat = x4.toNat by omega]; exact g28_7⟩, rfl⟩
        · skip
          intro v47 e47 a47 b47
          rw [pz_wi (by first | decide | omega) (by first | decide | omega)] at e47
          clear a47 b47
          intro v49 e49 a49 b49
          rw [pz_wi (by first | decide | omega) (by first | decide | omega)] at e49
          clear a49 b49
          refine And.intro (hI) ?_
          intro v50 M50 a50 b50 q50
          obtain ⟨q50, z50⟩ := q50
          subst z50
          rw [show v49 = a1 + k - 1 by omega] at q50
          refine And.intro (fun h53 => ?_) (fun h53 => ?_)
          · skip
            exact L64 _ _ _ _ (by first | omega | assumption | exact pz_il_y ⟨by omega, by omega⟩ q50 (by first | decide | omega) e59 | exact pz_il_n (by first | decide | omega) q50 (by first | decide | omega)) (by first | omega | assumption | exact pz_il_y ⟨by omega, by omega⟩ q50 (by first | decide | omega) e59 | exact pz_il_n (by first | decide | omega) q50 (by first | decide | omega)) (by first | omega | assumption | exact pz_il_y ⟨by omega, by omega⟩ q50 (by first | decide | omega) e59 | exact pz_il_n (by first | decide | omega) q50 (by first | decide | omega)) (by first | omega | assumption | exact pz_il_y ⟨by omega, by omega⟩ q50 (by first | decide | omega) e59 | exact pz_il_n (by first | decide | omega) q50 (by first | decide | omega)) (by first | omega | assumption | exact pz_il_y ⟨by omega, by omega⟩ q50 (by first | decide | omega) e59 | exact pz_il_n (by first | decide | omega) q50 (by first | decide | omega)) (by first | omega | assumption | exact pz_il_y ⟨by omega, by omega⟩ q50 (by first | decide | omega) e59 | exact pz_il_n (by first | decide | omega) q50 (by first | decide | omega)) (by first | omega | assumption | exact pz_il_y ⟨by omega, by omega⟩ q50 (by first | decide | omega) e59 | exact pz_il_n (by first | decide | omega) q50 (by first | decide | omega)) (by first | omega | assumption | exact pz_il_y ⟨by omega, by omega⟩ q50 (by first | decide | omega) e59 | exact pz_il_n (by first | decide | omega) q50 (by first | decide | omega)) (by first | omega | assumption | exact pz_il_y ⟨by omega, by omega⟩ q50 (by first | decide | omega) e59 | exact pz_il_n (by first | decide | omega) q50 (by first | decide | omega)) (by first | omega | assumption | exact pz_il_y ⟨by omega, by omega⟩ q50 (by first | decide | omega) e59 | exact pz_il_n (by first | decide | omega) q50 (by first | decide | omega))
          · skip
            intro v59 e59 a59 b59
            exact L64 _ _ _ _ (by first | omega | assumption | exact pz_il_y ⟨by omega, by omega⟩ q50 (by first | decide | omega) e59 | exact pz_il_n (by first | decide | omega) q50 (by first | decide | omega)) (by first | omega | assumption | exact pz_il_y ⟨by omega, by omega⟩ q50 (by first | decide | omega) e59 | exact pz_il_n (by first | decide | omega) q50 (by first | decide | omega)) (by first | omega | assumption | exact pz_il_y ⟨by omega, by omega⟩ q50 (by first | decide | omega) e59 | exact pz_il_n (by first | decide | omega) q50 (by first | decide | omega)) (by first | omega | assumption | exact pz_il_y ⟨by omega, by omega⟩ q50 (by first | decide | omega) e59 | exact pz_il_n (by first | decide | omega) q50 (by first | decide | omega)) (by first | omega | assumption | exact pz_il_y ⟨by omega, by omega⟩ q50 (by first | decide | omega) e59 | exact pz_il_n (by first | decide | omega) q50 (by first | decide | omega)) (by first | omega | assumption | exact pz_il_y ⟨by omega, by omega⟩ q50 (by first | decide | omega) e59 | exact pz_il_n (by first | decide | omega) q50 (by first | decide | omega)) (by first | omega | assumption | exact pz_il_y ⟨by omega, by omega⟩ q50 (by first | decide | omega) e59 | exact pz_il_n (by first | decide | omega) q50 (by first | decide | omega)) (by first | omega | assumption | exact pz_il_y ⟨by omega, by omega⟩ q50 (by first | decide | omega) e59 | exact pz_il_n (by first | decide | omega) q50 (by first | decide | omega)) (by first | omega | assumption | exact pz_il_y ⟨by omega, by omega⟩ q50 (by first | decide | omega) e59 | exact pz_il_n (by first | decide | omega) q50 (by first | decide | omega)) (by first | omega | assumption | exact pz_il_y ⟨by omega, by omega⟩ q50 (by first | decide | omega) e59 | exact pz_il_n (by first | decide | omega) q50 (by first | decide | omega))
    refine hgo (fun p => Nat.beq p 28 || Nat.beq p 64) 46 0 _ [] M ?_
    refine And.intro (True.intro) ?_
    intro v5 M5 a5 b5 q5
    obtain ⟨q5, z5⟩ := q5
    subst z5
    clear a5 b5
    refine And.intro (fun h8 => ?_) (fun h8 => ?_)
    · skip
      replace q5 := q5.resolve_left (fun z => absurd (z.1.symm.trans h8) (by decide))
      clear h8
      refine And.intro rfl ?_
      exact ⟨⟨fun _ => rfl, fun y => by omega⟩, rfl⟩
    · skip
      replace q5 := q5.resolve_right (fun z => h8 z.1)
      clear h8
      refine And.intro (True.intro) ?_
      intro v15 M15 a15 b15 q15
      obtain ⟨q15, z15⟩ := q15
      subst z15
      clear a15 b15
      refine And.intro (fun h18 => ?_) (fun h18 => ?_)
      · skip
        replace q15 := q15.resolve_right (fun z => h18 z.1)
        clear h18
        exact L28 _ _ _ (Nat.lt_succ_self _) (by first | omega | assumption | exact pz_il_0) (by first | omega | assumption | exact pz_il_0) (by first | omega | assumption | exact pz_il_0) (by first | omega | assumption | exact pz_il_0) (by first | omega | assumption | exact pz_il_0) (by first | omega | assumption | exact pz_il_0) (by first | omega | assumption | exact pz_il_0) (by first | omega | assumption | exact pz_il_0)
      · skip
        replace q15 := q15.resolve_left (fun z => absurd (z.1.symm.trans h18) (by decide))
        clear h18
        refine And.intro rfl ?_
        exact ⟨⟨fun _ => rfl, fun y => by omega⟩, rfl⟩
theorem v_X12_ill {fr lo i : Nat} {own : String} (h1 : 2 + 1 ≤ fr) (h2 : 8 + (5 + 11) + 47 ≤ lo) (h3 : .methodLink own i yX12_ill ∈ lw_tbl) : pz_cV fr lo own i k_X12_ill :=
  pz_cVk (maxL := 5) (fr' := 2) (lo' := 47) 2 12 h_X12_ill rfl ⟨(pz_nhc_RX12 yX12_ill rfl).1, (pz_nhc_RX12 yX12_ill rfl).2, pz_ds10⟩ ⟨pz_wq1736, pz_wq1734, pz_wq1735, pz_wq13⟩ (Or.inl ⟨TX12, 28, rfl⟩) (fun a M _ h => by
    have h : (match (generalizing := false) a with | [.inr (.inr (12, th)), .inl a1, .inl k] => pz_im M | _ => False) := h
    split at h
    · exact ⟨_, _, rfl⟩
    · exact h.elim) h1 h2 h3
noncomputable def k_X12_greaterBy : pz_C := (2, 1, fun a M => (match a with | [.inr (.inr (12, th)), .inl x] => pz_im M | _ => False), fun a M r M' => (match a, r with | [.inr (.inr (12, th)), .inl x], some (.inl v) => (v = pz_ev (pz_gmr M) (M 60 92).toNat (M 60 88).toNat x ∧ 0 ≤ v ∧ v ≤ 12) ∧ M = M' | _, _ => False))
noncomputable abbrev ct_X12_greaterBy : List (Bool × Nat × pz_C) := [(true, 392, k_X12_recordsOf), (false, 51, k_X12_greater)]
set_option maxRecDepth 100000 in
set_option maxHeartbeats 4000000 in
theorem h_X12_greaterBy : pz_H yX12_greaterBy cX12_greaterBy 4 (some .int) k_X12_greaterBy 2 47 := by
  refine pz_mk (own := RX12) (tb := t_X12_greaterBy) (fl := pz_flf fl_RX12) (ci := pz_cif ci_RX12) (ct := pz_ctf ct_X12_greaterBy) (rz := false) (pz_pfc_RX12 yX12_greaterBy rfl) rfl t_X12_greaterBy_ok (pz_flk fl_RX12_ok) (pz_cik ci_RX12_ok) ?_ ?_ (Or.inl ⟨rfl, rfl⟩) ?_ ?_
  · exact fun i k' h => pz_ctk (l := ct_X12_greaterBy) (P := fun b i k => b = true → pz_cV 2 47 RX12 i k) (List.forall_mem_cons.mpr ⟨(fun _ => v_X12_recordsOf (by decide) (by decide) pz_wq1590), List.forall_mem_cons.mpr ⟨((fun z => by cases z)), fun _ h => absurd h List.not_mem_nil⟩⟩) true i k' h rfl
  · exact fun i k' h => pz_ctk (l := ct_X12_greaterBy) (P := fun b i k => b = false → (pz_cS 2 47 RX12 i k ∨ (k = pz_kac ∧ 1 ≤ 2 ∧ 60 ≤ 47 ∧ Cond.methodLink RX12 i arraycopyName ∈ pz_tbl))) (List.forall_mem_cons.mpr ⟨((fun z => by cases z)), List.forall_mem_cons.mpr ⟨(fun _ => Or.inl (s_X12_greater (by decide) (by decide) (Or.inl pz_wq1447))), fun _ h => absurd h List.not_mem_nil⟩⟩) false i k' h rfl
  · intro a M hlen hpre
    obtain ⟨th, x, rfl, hpre⟩ : ∃ th x, a = [.inr (.inr (12, th)), .inl x] ∧ (pz_im M) := by
      have hpre : (match (generalizing := false) a with | [.inr (.inr (12, th)), .inl x] => pz_im M | _ => False) := hpre
      split at hpre
      · exact ⟨_, _, rfl, hpre⟩
      · exact hpre.elim
    exact Nat.le_of_ble_eq_true rfl
  · intro a M hlen hcan hM hpre Ok hgo
    obtain ⟨th, x, rfl, hpre⟩ : ∃ th x, a = [.inr (.inr (12, th)), .inl x] ∧ (pz_im M) := by
      have hpre : (match (generalizing := false) a with | [.inr (.inr (12, th)), .inl x] => pz_im M | _ => False) := hpre
      split at hpre
      · exact ⟨_, _, rfl, hpre⟩
      · exact hpre.elim
    obtain ⟨k_th, hc_th⟩ := pz_tlm hcan
    have k_th : pz_kd th = 12 ∧ th < 231 := k_th
    have R_th := pz_kd12 k_th.1
    subst R_th
    clear k_th
    obtain ⟨k_x, hc_x⟩ := pz_tlm hc_th
    have l_x : -2147483648 ≤ x := k_x.1
    have u_x : x ≤ 2147483647 := k_x.2
    have hI : pz_im M := hpre
    have I88 := hI.1.1
    have L4 : ∀ (fu : Nat) (x2 : Int) (x3 : Int), (12 - x3).toNat < fu → (0 ≤ x3) → (x3 ≤ 12) → (x3 ≤ M 60 88) → (0 ≤ x2) → (x2 ≤ x3) → (x2 ≤ 12) → (x2 = pz_cnt (fun k => decide (pz_rcd (pz_gmr M) (k : Int) 0 x (M 60 92).toNat ≠ 0)) x3.toNat) → Ok 4 [some (.inr (.inr (12, 1))), some (.inl x), some (.inl x2), some (.inl x3)] [] M := by
      intro fu
      induction fu with
      | zero => exact fun _ _ hn => absurd hn (Nat.not_lt_zero _)
      | succ fu ih4 =>
        intro x2 x3 hn4 g4_0 g4_1 g4_2 g4_3 g4_4 g4_5 g4_6
        have L31 : ∀ (x2 : Int) (x3 : Int) (s0 : Int) (s1 : Int), (0 ≤ x3) → (x3 < 12) → ((12 - x3).toNat < fu + 1) → (x3 < M 60 88) → (0 ≤ s0) → (s0 ≤ x3) → (s0 ≤ 12) → (0 ≤ s1) → (s1 ≤ 1) → (s0 = pz_cnt (fun k => decide (pz_rcd (pz_gmr M) (k : Int) 0 x (M 60 92).toNat ≠ 0)) x3.toNat) → (s1 = if (fun k => decide (pz_rcd (pz_gmr M) (k : Int) 0 x (M 60 92).toNat ≠ 0)) x3.toNat = true then 1 else 0) → Ok 31 [some (.inr (.inr (12, 1))), some (.inl x), some (.inl x2), some (.inl x3)] [.inl s1, .inl s0] M := by
          intro x2 x3 s0 s1 g31_0 g31_1 g31_2 g31_3 g31_4 g31_5 g31_6 g31_7 g31_8 g31_9 g31_10
          refine hgo (fun p => Nat.beq p 4 || Nat.beq p 31) 35 31 _ _ _ ?_
          intro v31 e31 a31 b31
          rw [pz_wi (by first | decide | omega) (by first | decide | omega)] at e31
          clear a31 b31
          intro v33 e33 a33 b33
          rw [pz_wi (by first | decide | omega) (by first | decide | omega)] at e33
          have G33 : v31 = pz_cnt (fun k => decide (pz_rcd (pz_gmr M) (k : Int) 0 x (M 60 92).toNat ≠ 0)) v33.toNat := pz_cnt_s (x := x3) g31_0 (by first | decide | omega) g31_9 g31_10 (by first | decide | omega)
          exact ih4 _ _ (by first | decide | omega) (by first | omega | assumption | rfl) (by first | omega | assumption | rfl) (by first | omega | assumption | rfl) (by first | omega | assumption | rfl) (by first | omega | assumption | rfl) (by first | omega | assumption | rfl) (by first | omega | assumption | rfl)
        refine hgo (fun p => Nat.beq p 4 || Nat.beq p 31) 35 4 _ _ _ ?_
        refine pz_nrc (c := 60) rfl ?_
        refine And.intro (by first | decide | omega) (And.intro (show _ < (1725 : Int) from by omega) ?_)
        intro v11 e11 a11 b11
        replace e11 : v11 = M 60 88 := e11
        have I11 : 0 ≤ v11 ∧ v11 ≤ 12 := by
          rw [e11]
          exact hI.1.1
        clear a11 b11
        refine And.intro (fun h12 => ?_) (fun h12 => ?_)
        · skip
          refine pz_nrc (c := 60) rfl ?_
          refine And.intro (by first | decide | omega) (And.intro (show _ < (1725 : Int) from by omega) ?_)
          intro v46 e46 a46 b46
          replace e46 : v46 = M 60 88 := e46
          have I46 : 0 ≤ v46 ∧ v46 ≤ 12 := by
            rw [e46]
            exact hI.1.1
          clear a46 b46
          intro v48 e48 a48 b48
          rw [pz_wi (by first | decide | omega) (by first | decide | omega)] at e48
          clear a48 b48
          refine And.intro (True.intro) ?_
          intro v49 M49 a49 b49 q49
          obtain ⟨q49, z49⟩ := q49
          subst z49
          refine And.intro rfl ?_
          exact ⟨⟨pz_ev_of (c := x2) (by rw [show (M 60 88).toNat = x3.toNat by omega]; exact g4_6) (by first | decide | omega), by omega, by omega⟩, rfl⟩
        · skip
          refine And.intro (hI) ?_
          intro v20 M20 a20 b20 q20
          obtain ⟨q20, z20⟩ := q20
          subst z20
          have B20 := pz_rcd_b (g := pz_gmr M) (l := x3) (lo := 0) (hi := x) (M 60 92).toNat
          have Q20 : v20 = pz_rcd (pz_gmr M) ((x3.toNat : Nat) : Int) 0 x (M 60 92).toNat := by
            rw [show ((x3.toNat : Nat) : Int) = x3 by omega]
            exact q20
          rw [← q20] at B20
          refine And.intro (fun h23 => ?_) (fun h23 => ?_)
          · skip
            have G23 : (0 : Int) = if (fun k => decide (pz_rcd (pz_gmr M) (k : Int) 0 x (M 60 92).toNat ≠ 0)) x3.toNat = true then 1 else 0 := by
              show _ = if decide (pz_rcd (pz_gmr M) ((x3.toNat : Nat) : Int) 0 x (M 60 92).toNat ≠ 0) = true then 1 else 0
              rw [← Q20, decide_eq_false (by first | decide | omega)]
              rfl
            exact L31 _ _ _ _ (by first | omega | assumption | exact G23) (by first | omega | assumption | exact G23) (by first | omega | assumption | exact G23) (by first | omega | assumption | exact G23) (by first | omega | assumption | exact G23) (by first | omega | assumption | exact G23) (by first | omega | assumption | exact G23) (by first | omega | assumption | exact G23) (by first | omega | assumption | exact G23) (by first | omega | assumption | exact G23) (by first | omega | assumption | exact G23)
          · skip
            have G23 : (1 : Int) = if (fun k => decide (pz_rcd (pz_gmr M) (k : Int) 0 x (M 60 92).toNat ≠ 0)) x3.toNat = true then 1 else 0 := by
              show _ = if decide (pz_rcd (pz_gmr M) ((x3.toNat : Nat) : Int) 0 x (M 60 92).toNat ≠ 0) = true then 1 else 0
              rw [← Q20, decide_eq_true (by first | decide | omega)]
              rfl
            exact L31 _ _ _ _ (by first | omega | assumption | exact G23) (by first | omega | assumption | exact G23) (by first | omega | assumption | exact G23) (by first | omega | assumption | exact G23) (by first | omega | assumption | exact G23) (by first | omega | assumption | exact G23) (by first | omega | assumption | exact G23) (by first | omega | assumption | exact G23) (by first | omega | assumption | exact G23) (by first | omega | assumption | exact G23) (by first | omega | assumption | exact G23)
    refine hgo (fun p => Nat.beq p 4 || Nat.beq p 31) 35 0 _ [] M ?_
    exact L4 _ _ _ (Nat.lt_succ_self _) (by first | omega | assumption | rfl) (by first | omega | assumption | rfl) (by first | omega | assumption | rfl) (by first | omega | assumption | rfl) (by first | omega | assumption | rfl) (by first | omega | assumption | rfl) (by first | omega | assumption | rfl)
theorem v_X12_greaterBy {fr lo i : Nat} {own : String} (h1 : 2 + 1 ≤ fr) (h2 : 8 + (4 + 11) + 47 ≤ lo) (h3 : .methodLink own i yX12_greaterBy ∈ lw_tbl) : pz_cV fr lo own i k_X12_greaterBy :=
  pz_cVk (maxL := 4) (fr' := 2) (lo' := 47) 1 12 h_X12_greaterBy rfl ⟨(pz_nhc_RX12 yX12_greaterBy rfl).1, (pz_nhc_RX12 yX12_greaterBy rfl).2, pz_ds5⟩ ⟨pz_wq1744, pz_wq1743, pz_ws86, pz_wq13⟩ (Or.inl ⟨TX12, 28, rfl⟩) (fun a M _ h => by
    have h : (match (generalizing := false) a with | [.inr (.inr (12, th)), .inl x] => pz_im M | _ => False) := h
    split at h
    · exact ⟨_, _, rfl⟩
    · exact h.elim) h1 h2 h3
noncomputable def k_X12_wrote : pz_C := (1, 1, fun a M => (match a with | [.inr (.inr (12, th))] => pz_im M | _ => False), fun a M r M' => (match a, r with | [.inr (.inr (12, th))], some (.inl v) => (pz_wr2 M v) ∧ M = M' | _, _ => False))
noncomputable abbrev ct_X12_wrote : List (Bool × Nat × pz_C) := [(true, 458, k_X12_greaterBy)]
set_option maxRecDepth 100000 in
set_option maxHeartbeats 4000000 in
theorem h_X12_wrote : pz_H yX12_wrote cX12_wrote 3 (some .int) k_X12_wrote 3 70 := by
  refine pz_mk (own := RX12) (tb := t_X12_wrote) (fl := pz_flf fl_RX12) (ci := pz_cif ci_RX12) (ct := pz_ctf ct_X12_wrote) (rz := false) (pz_pfc_RX12 yX12_wrote rfl) rfl t_X12_wrote_ok (pz_flk fl_RX12_ok) (pz_cik ci_RX12_ok) ?_ ?_ (Or.inl ⟨rfl, rfl⟩) ?_ ?_
  · exact fun i k' h => pz_ctk (l := ct_X12_wrote) (P := fun b i k => b = true → pz_cV 3 70 RX12 i k) (List.forall_mem_cons.mpr ⟨(fun _ => v_X12_greaterBy (by decide) (by decide) pz_wq1741), fun _ h => absurd h List.not_mem_nil⟩) true i k' h rfl
  · exact fun i k' h => pz_ctk (l := ct_X12_wrote) (P := fun b i k => b = false → (pz_cS 3 70 RX12 i k ∨ (k = pz_kac ∧ 1 ≤ 3 ∧ 60 ≤ 70 ∧ Cond.methodLink RX12 i arraycopyName ∈ pz_tbl))) (List.forall_mem_cons.mpr ⟨((fun z => by cases z)), fun _ h => absurd h List.not_mem_nil⟩) false i k' h rfl
  · intro a M hlen hpre
    obtain ⟨th, rfl, hpre⟩ : ∃ th, a = [.inr (.inr (12, th))] ∧ (pz_im M) := by
      have hpre : (match (generalizing := false) a with | [.inr (.inr (12, th))] => pz_im M | _ => False) := hpre
      split at hpre
      · exact ⟨_, rfl, hpre⟩
      · exact hpre.elim
    exact Nat.le_of_ble_eq_true rfl
  · intro a M hlen hcan hM hpre Ok hgo
    obtain ⟨th, rfl, hpre⟩ : ∃ th, a = [.inr (.inr (12, th))] ∧ (pz_im M) := by
      have hpre : (match (generalizing := false) a with | [.inr (.inr (12, th))] => pz_im M | _ => False) := hpre
      split at hpre
      · exact ⟨_, rfl, hpre⟩
      · exact hpre.elim
    obtain ⟨k_th, hc_th⟩ := pz_tlm hcan
    have k_th : pz_kd th = 12 ∧ th < 231 := k_th
    have R_th := pz_kd12 k_th.1
    subst R_th
    clear k_th
    have hI : pz_im M := hpre
    have I88 := hI.1.1
    have L17 : ∀ (fu : Nat) (x1 : Int) (x2 : Int), (100 - x2).toNat < fu → (1 ≤ x2) → (x2 ≤ 100) → (0 ≤ x1) → (2 ≤ M 60 88) → (x1 = ((pz_am (fun d => pz_ev (pz_gmr M) (M 60 92).toNat (M 60 88).toNat (d : Int)) (x2 - 1).toNat : Nat) : Int)) → Ok 17 [some (.inr (.inr (12, 1))), some (.inl x1), some (.inl x2)] [] M := by
      intro fu
      induction fu with
      | zero => exact fun _ _ hn => absurd hn (Nat.not_lt_zero _)
      | succ fu ih17 =>
        intro x1 x2 hn17 g17_0 g17_1 g17_2 g17_3 g17_4
        refine hgo (fun p => Nat.beq p 17) 30 17 _ _ _ ?_
        refine And.intro (fun h20 => ?_) (fun h20 => ?_)
        · skip
          refine And.intro rfl ?_
          exact ⟨⟨fun y => absurd y (by first | decide | omega), fun _ => by rw [g17_4, show (x2 - 1).toNat = 99 by omega]⟩, rfl⟩
        · skip
          refine And.intro (hI) ?_
          intro v25 M25 a25 b25 q25
          obtain ⟨q25, z25⟩ := q25
          subst z25
          clear a25 b25
          refine And.intro (hI) ?_
          intro v30 M30 a30 b30 q30
          obtain ⟨q30, z30⟩ := q30
          subst z30
          clear a30 b30
          refine And.intro (fun h33 => ?_) (fun h33 => ?_)
          · skip
            intro v38 e38 a38 b38
            rw [pz_wi (by first | decide | omega) (by first | decide | omega)] at e38
            have X25 : v25 = (fun d => pz_ev (pz_gmr M) (M 60 92).toNat (M 60 88).toNat (d : Int)) x2.toNat := by
              show v25 = pz_ev (pz_gmr M) (M 60 92).toNat (M 60 88).toNat ((x2.toNat : Nat) : Int)
              rw [show ((x2.toNat : Nat) : Int) = x2 by omega]
              exact q25.1
            have X30 : v30 = (fun d => pz_ev (pz_gmr M) (M 60 92).toNat (M 60 88).toNat (d : Int)) x1.toNat := by
              show v30 = pz_ev (pz_gmr M) (M 60 92).toNat (M 60 88).toNat ((x1.toNat : Nat) : Int)
              rw [show ((x1.toNat : Nat) : Int) = x1 by omega]
              exact q30.1
            first
              | (have G38 : x2 = ((pz_am (fun d => pz_ev (pz_gmr M) (M 60 92).toNat (M 60 88).toNat (d : Int)) (v38 - 1).toNat : Nat) : Int) := pz_am_s g17_0 (by first | decide | omega) g17_4 X25 X30 (Or.inl ⟨by omega, rfl⟩))
              | (have G38 : x1 = ((pz_am (fun d => pz_ev (pz_gmr M) (M 60 92).toNat (M 60 88).toNat (d : Int)) (v38 - 1).toNat : Nat) : Int) := pz_am_s g17_0 (by first | decide | omega) g17_4 X25 X30 (Or.inr ⟨by omega, rfl⟩))
            exact ih17 _ _ (by first | decide | omega) (by first | omega | assumption | rfl) (by first | omega | assumption | rfl) (by first | omega | assumption | rfl) (by first | omega | assumption | rfl) (by first | omega | assumption | rfl)
          · skip
            intro v38 e38 a38 b38
            rw [pz_wi (by first | decide | omega) (by first | decide | omega)] at e38
            have X25 : v25 = (fun d => pz_ev (pz_gmr M) (M 60 92).toNat (M 60 88).toNat (d : Int)) x2.toNat := by
              show v25 = pz_ev (pz_gmr M) (M 60 92).toNat (M 60 88).toNat ((x2.toNat : Nat) : Int)
              rw [show ((x2.toNat : Nat) : Int) = x2 by omega]
              exact q25.1
            have X30 : v30 = (fun d => pz_ev (pz_gmr M) (M 60 92).toNat (M 60 88).toNat (d : Int)) x1.toNat := by
              show v30 = pz_ev (pz_gmr M) (M 60 92).toNat (M 60 88).toNat ((x1.toNat : Nat) : Int)
              rw [show ((x1.toNat : Nat) : Int) = x1 by omega]
              exact q30.1
            first
              | (have G38 : x2 = ((pz_am (fun d => pz_ev (pz_gmr M) (M 60 92).toNat (M 60 88).toNat (d : Int)) (v38 - 1).toNat : Nat) : Int) := pz_am_s g17_0 (by first | decide | omega) g17_4 X25 X30 (Or.inl ⟨by omega, rfl⟩))
              | (have G38 : x1 = ((pz_am (fun d => pz_ev (pz_gmr M) (M 60 92).toNat (M 60 88).toNat (d : Int)) (v38 - 1).toNat : Nat) : Int) := pz_am_s g17_0 (by first | decide | omega) g17_4 X25 X30 (Or.inr ⟨by omega, rfl⟩))
            exact ih17 _ _ (by first | decide | omega) (by first | omega | assumption | rfl) (by first | omega | assumption | rfl) (by first | omega | assumption | rfl) (by first | omega | assumption | rfl) (by first | omega | assumption | rfl)
    refine hgo (fun p => Nat.beq p 17) 30 0 _ [] M ?_
    refine pz_nrc (c := 60) rfl ?_
    refine And.intro (by first | decide | omega) (And.intro (show _ < (1725 : Int) from by omega) ?_)
    intro v6 e6 a6 b6
    replace e6 : v6 = M 60 88 := e6
    have I6 : 0 ≤ v6 ∧ v6 ≤ 12 := by
      rw [e6]
      exact hI.1.1
    clear a6 b6
    refine And.intro (fun h8 => ?_) (fun h8 => ?_)
    · skip
      exact L17 _ _ _ (Nat.lt_succ_self _) (by first | omega | assumption | rfl) (by first | omega | assumption | rfl) (by first | omega | assumption | rfl) (by first | omega | assumption | rfl) (by first | omega | assumption | rfl)
    · skip
      refine And.intro rfl ?_
      exact ⟨⟨fun _ => rfl, fun y => absurd y (by first | decide | omega)⟩, rfl⟩
theorem v_X12_wrote {fr lo i : Nat} {own : String} (h1 : 3 + 1 ≤ fr) (h2 : 8 + (3 + 11) + 70 ≤ lo) (h3 : .methodLink own i yX12_wrote ∈ lw_tbl) : pz_cV fr lo own i k_X12_wrote :=
  pz_cVk (maxL := 3) (fr' := 3) (lo' := 70) 0 12 h_X12_wrote rfl ⟨(pz_nhc_RX12 yX12_wrote rfl).1, (pz_nhc_RX12 yX12_wrote rfl).2, pz_ds1⟩ ⟨pz_wq1740, pz_wq1738, pz_wq1739, pz_wq13⟩ (Or.inl ⟨TX12, 28, rfl⟩) (fun a M _ h => by
    have h : (match (generalizing := false) a with | [.inr (.inr (12, th))] => pz_im M | _ => False) := h
    split at h
    · exact ⟨_, _, rfl⟩
    · exact h.elim) h1 h2 h3

noncomputable def k_X12_heapOf : pz_C := (2, 1, fun a M => (match a with | [.inr (.inr (12, th)), .inl i] => pz_im M ∧ 0 ≤ i ∧ i < 12 | _ => False), fun a M r M' => (match a, r with | [.inr (.inr (12, th)), .inl i], some (.inl v) => (True) ∧ M = M' | _, _ => False))
noncomputable abbrev ct_X12_heapOf : List (Bool × Nat × pz_C) := [(true, 65, k_X12_hasMoved)]
set_option maxRecDepth 100000 in
set_option maxHeartbeats 4000000 in
theorem h_X12_heapOf : pz_H yX12_heapOf cX12_heapOf 2 (some .int) k_X12_heapOf 1 21 := by
  refine pz_mk (own := RX12) (tb := t_X12_heapOf) (fl := pz_flf fl_RX12) (ci := pz_cif ci_RX12) (ct := pz_ctf ct_X12_heapOf) (rz := false) (pz_pfc_RX12 yX12_heapOf rfl) rfl t_X12_heapOf_ok (pz_flk fl_RX12_ok) (pz_cik ci_RX12_ok) ?_ ?_ (Or.inl ⟨rfl, rfl⟩) ?_ ?_
  · exact fun i k' h => pz_ctk (l := ct_X12_heapOf) (P := fun b i k => b = true → pz_cV 1 21 RX12 i k) (List.forall_mem_cons.mpr ⟨(fun _ => v_X12_hasMoved (by decide) (by decide) pz_wq1423), fun _ h => absurd h List.not_mem_nil⟩) true i k' h rfl
  · exact fun i k' h => pz_ctk (l := ct_X12_heapOf) (P := fun b i k => b = false → (pz_cS 1 21 RX12 i k ∨ (k = pz_kac ∧ 1 ≤ 1 ∧ 60 ≤ 21 ∧ Cond.methodLink RX12 i arraycopyName ∈ pz_tbl))) (List.forall_mem_cons.mpr ⟨((fun z => by cases z)), fun _ h => absurd h List.not_mem_nil⟩) false i k' h rfl
  · intro a M hlen hpre
    obtain ⟨th, i, rfl, hpre⟩ : ∃ th i, a = [.inr (.inr (12, th)), .inl i] ∧ (pz_im M ∧ 0 ≤ i ∧ i < 12) := by
      have hpre : (match (generalizing := false) a with | [.inr (.inr (12, th)), .inl i] => pz_im M ∧ 0 ≤ i ∧ i < 12 | _ => False) := hpre
      split at hpre
      · exact ⟨_, _, rfl, hpre⟩
      · exact hpre.elim
    exact Nat.le_of_ble_eq_true rfl
  · intro a M hlen hcan hM hpre Ok hgo
    obtain ⟨th, i, rfl, hpre⟩ : ∃ th i, a = [.inr (.inr (12, th)), .inl i] ∧ (pz_im M ∧ 0 ≤ i ∧ i < 12) := by
      have hpre : (match (generalizing := false) a with | [.inr (.inr (12, th)), .inl i] => pz_im M ∧ 0 ≤ i ∧ i < 12 | _ => False) := hpre
      split at hpre
      · exact ⟨_, _, rfl, hpre⟩
      · exact hpre.elim
    obtain ⟨k_th, hc_th⟩ := pz_tlm hcan
    have k_th : pz_kd th = 12 ∧ th < 231 := k_th
    have R_th := pz_kd12 k_th.1
    subst R_th
    clear k_th
    obtain ⟨k_i, hc_i⟩ := pz_tlm hc_th
    have l_i : -2147483648 ≤ i := k_i.1
    have u_i : i ≤ 2147483647 := k_i.2
    have hI : pz_im M := hpre.1
    refine hgo (fun _ => false) 15 0 _ [] M ?_
    refine And.intro (And.intro hI (And.intro (by first | decide | omega) (by first | decide | omega))) ?_
    intro v2 M2 a2 b2 q2
    obtain ⟨q2, z2⟩ := q2
    subst z2
    clear a2 b2
    refine And.intro (fun h5 => ?_) (fun h5 => ?_)
    · skip
      clear h5 q2
      refine pz_nrc (c := 60) rfl ?_
      intro v19 e19 a19 b19
      rw [pz_wi (by first | decide | omega) (by first | decide | omega)] at e19
      clear a19 b19
      have lo20 : (0 : Int) ≤ v19 := by omega
      have tn20 : (((v19).toNat : Nat) : Int) = v19 := Int.toNat_of_nonneg lo20
      refine And.intro (lo20) (And.intro (show _ < (1725 : Int) from by omega) ?_)
      intro v20 e20 a20 b20
      refine And.intro rfl ?_
      exact ⟨trivial, rfl⟩
    · skip
      clear h5 q2
      refine And.intro rfl ?_
      exact ⟨trivial, rfl⟩
theorem v_X12_heapOf {fr lo i : Nat} {own : String} (h1 : 1 + 1 ≤ fr) (h2 : 8 + (2 + 11) + 21 ≤ lo) (h3 : .methodLink own i yX12_heapOf ∈ lw_tbl) : pz_cV fr lo own i k_X12_heapOf :=
  pz_cVk (maxL := 2) (fr' := 1) (lo' := 21) 1 12 h_X12_heapOf rfl ⟨(pz_nhc_RX12 yX12_heapOf rfl).1, (pz_nhc_RX12 yX12_heapOf rfl).2, pz_ds5⟩ ⟨pz_wq1756, pz_wq1755, pz_ws87, pz_wq13⟩ (Or.inl ⟨TX12, 28, rfl⟩) (fun a M _ h => by
    have h : (match (generalizing := false) a with | [.inr (.inr (12, th)), .inl i] => pz_im M ∧ 0 ≤ i ∧ i < 12 | _ => False) := h
    split at h
    · exact ⟨_, _, rfl⟩
    · exact h.elim) h1 h2 h3
noncomputable def k_X12_game : pz_C := (2, 1, fun a M => (match a with | [.inr (.inr (12, th)), .inl w] => pz_im M | _ => False), fun a M r M' => (match a, r with | [.inr (.inr (12, th)), .inl w], some (.inl v) => (True) ∧ M = M' | _, _ => False))
noncomputable abbrev ct_X12_game : List (Bool × Nat × pz_C) := [(false, 54, k_X12_isIn), (true, 461, k_X12_heapOf), (false, 47, k_X12_lesser)]
set_option maxRecDepth 100000 in
set_option maxHeartbeats 4000000 in
theorem h_X12_game : pz_H yX12_game cX12_game 5 (some .int) k_X12_game 2 42 := by
  refine pz_mk (own := RX12) (tb := t_X12_game) (fl := pz_flf fl_RX12) (ci := pz_cif ci_RX12) (ct := pz_ctf ct_X12_game) (rz := false) (pz_pfc_RX12 yX12_game rfl) rfl t_X12_game_ok (pz_flk fl_RX12_ok) (pz_cik ci_RX12_ok) ?_ ?_ (Or.inl ⟨rfl, rfl⟩) ?_ ?_
  · exact fun i k' h => pz_ctk (l := ct_X12_game) (P := fun b i k => b = true → pz_cV 2 42 RX12 i k) (List.forall_mem_cons.mpr ⟨((fun z => by cases z)), List.forall_mem_cons.mpr ⟨(fun _ => v_X12_heapOf (by decide) (by decide) pz_wq1753), List.forall_mem_cons.mpr ⟨((fun z => by cases z)), fun _ h => absurd h List.not_mem_nil⟩⟩⟩) true i k' h rfl
  · exact fun i k' h => pz_ctk (l := ct_X12_game) (P := fun b i k => b = false → (pz_cS 2 42 RX12 i k ∨ (k = pz_kac ∧ 1 ≤ 2 ∧ 60 ≤ 42 ∧ Cond.methodLink RX12 i arraycopyName ∈ pz_tbl))) (List.forall_mem_cons.mpr ⟨(fun _ => Or.inl (s_X12_isIn (by decide) (by decide) (Or.inl pz_wq1217))), List.forall_mem_cons.mpr ⟨((fun z => by cases z)), List.forall_mem_cons.mpr ⟨(fun _ => Or.inl (s_X12_lesser (by decide) (by decide) (Or.inl pz_wq1462))), fun _ h => absurd h List.not_mem_nil⟩⟩⟩) false i k' h rfl
  · intro a M hlen hpre
    obtain ⟨th, w, rfl, hpre⟩ : ∃ th w, a = [.inr (.inr (12, th)), .inl w] ∧ (pz_im M) := by
      have hpre : (match (generalizing := false) a with | [.inr (.inr (12, th)), .inl w] => pz_im M | _ => False) := hpre
      split at hpre
      · exact ⟨_, _, rfl, hpre⟩
      · exact hpre.elim
    exact Nat.le_of_ble_eq_true rfl
  · intro a M hlen hcan hM hpre Ok hgo
    obtain ⟨th, w, rfl, hpre⟩ : ∃ th w, a = [.inr (.inr (12, th)), .inl w] ∧ (pz_im M) := by
      have hpre : (match (generalizing := false) a with | [.inr (.inr (12, th)), .inl w] => pz_im M | _ => False) := hpre
      split at hpre
      · exact ⟨_, _, rfl, hpre⟩
      · exact hpre.elim
    obtain ⟨k_th, hc_th⟩ := pz_tlm hcan
    have k_th : pz_kd th = 12 ∧ th < 231 := k_th
    have R_th := pz_kd12 k_th.1
    subst R_th
    clear k_th
    obtain ⟨k_w, hc_w⟩ := pz_tlm hc_th
    have l_w : -2147483648 ≤ w := k_w.1
    have u_w : w ≤ 2147483647 := k_w.2
    have hI : pz_im M := hpre
    have L44 : ∀ (fo : Nat) (x2 : Int) (x3 : Int) (d4 : Option pz_V), (12 - x3).toNat < fo → (0 ≤ x3) → Ok 44 [some (.inr (.inr (12, 1))), some (.inl w), some (.inl x2), some (.inl x3), d4] [] M := by
      intro fo
      induction fo with
      | zero => exact fun _ _ _ hn => absurd hn (Nat.not_lt_zero _)
      | succ fo ih44 =>
        intro x2 x3 d4 hn44 g44_0
        have L58 : ∀ (fu : Nat) (x2 : Int) (x3 : Int) (x4 : Int), (4 - x4).toNat < fu → (0 ≤ x4) → (0 ≤ x3) → (x3 < 12) → ((12 - x3).toNat < fo + 1) → Ok 58 [some (.inr (.inr (12, 1))), some (.inl w), some (.inl x2), some (.inl x3), some (.inl x4)] [] M := by
          intro fu
          induction fu with
          | zero => exact fun _ _ _ hn => absurd hn (Nat.not_lt_zero _)
          | succ fu ih58 =>
            intro x2 x3 x4 hn58 g58_0 g58_1 g58_2 g58_3
            refine hgo (fun p => Nat.beq p 15 || Nat.beq p 44 || Nat.beq p 58) 73 58 _ _ _ ?_
            refine And.intro (And.intro hI (And.intro (by first | decide | omega) (by first | decide | omega))) ?_
            intro v63 M63 a63 b63 q63
            obtain ⟨q63, z63⟩ := q63
            subst z63
            refine And.intro (True.intro) ?_
            intro v66 M66 a66 b66 q66
            obtain ⟨q66, z66⟩ := q66
            subst z66
            replace q66 : v66 ≤ (3) ∧ v66 ≤ v63 := by omega
            refine And.intro (fun h69 => ?_) (fun h69 => ?_)
            · skip
              intro v111 e111 a111 b111
              rw [pz_wi (by first | decide | omega) (by first | decide | omega)] at e111
              clear a111 b111
              exact ih44 _ _ _ (by first | decide | omega) (by first | decide | omega)
            · skip
              refine And.intro (And.intro hI (And.intro (by first | decide | omega) (by first | decide | omega))) ?_
              intro v75 M75 a75 b75 q75
              obtain ⟨q75, z75⟩ := q75
              subst z75
              refine And.intro (by first | decide | omega) ?_
              intro v79 e79 a79 b79
              intro v80 e80 a80 b80
              refine And.intro (And.intro hI (And.intro (by first | decide | omega) (by first | decide | omega))) ?_
              intro v83 M83 a83 b83 q83
              obtain ⟨q83, z83⟩ := q83
              subst z83
              intro v88 e88 a88 b88
              refine And.intro (by first | decide | omega) ?_
              intro v90 e90 a90 b90
              refine And.intro (fun h91 => ?_) (fun h91 => ?_)
              · skip
                intro v105 e105 a105 b105
                rw [pz_wi (by first | decide | omega) (by first | decide | omega)] at e105
                clear a105 b105
                exact ih58 _ _ _ (by first | decide | omega) (by first | decide | omega) (by first | decide | omega) (by first | decide | omega) (by first | decide | omega)
              · skip
                refine And.intro (fun h95 => ?_) (fun h95 => ?_)
                · skip
                  refine And.intro rfl ?_
                  exact ⟨trivial, rfl⟩
                · skip
                  refine And.intro rfl ?_
                  exact ⟨trivial, rfl⟩
        refine hgo (fun p => Nat.beq p 15 || Nat.beq p 44 || Nat.beq p 58) 73 44 _ _ _ ?_
        refine pz_nrc (c := 60) rfl ?_
        refine And.intro (by first | decide | omega) (And.intro (show _ < (1725 : Int) from by omega) ?_)
        intro v51 e51 a51 b51
        replace e51 : v51 = M 60 88 := e51
        have I51 : 0 ≤ v51 ∧ v51 ≤ 12 := by
          rw [e51]
          exact hI.1.1
        clear a51 b51
        refine And.intro (fun h52 => ?_) (fun h52 => ?_)
        · skip
          refine And.intro rfl ?_
          exact ⟨trivial, rfl⟩
        · skip
          exact L58 _ _ _ _ (Nat.lt_succ_self _) (by first | decide | omega) (by first | decide | omega) (by first | decide | omega) (by first | decide | omega)
    have L15 : ∀ (fu : Nat) (x2 : Int) (x3 : Int) (d4 : Option pz_V), (12 - x3).toNat < fu → (0 ≤ x3) → Ok 15 [some (.inr (.inr (12, 1))), some (.inl w), some (.inl x2), some (.inl x3), d4] [] M := by
      intro fu
      induction fu with
      | zero => exact fun _ _ _ hn => absurd hn (Nat.not_lt_zero _)
      | succ fu ih15 =>
        intro x2 x3 d4 hn15 g15_0
        refine hgo (fun p => Nat.beq p 15 || Nat.beq p 44 || Nat.beq p 58) 73 15 _ _ _ ?_
        refine pz_nrc (c := 60) rfl ?_
        refine And.intro (by first | decide | omega) (And.intro (show _ < (1725 : Int) from by omega) ?_)
        intro v22 e22 a22 b22
        replace e22 : v22 = M 60 88 := e22
        have I22 : 0 ≤ v22 ∧ v22 ≤ 12 := by
          rw [e22]
          exact hI.1.1
        clear a22 b22
        refine And.intro (fun h23 => ?_) (fun h23 => ?_)
        · skip
          exact L44 _ _ _ _ (Nat.lt_succ_self _) (by first | decide | omega)
        · skip
          refine And.intro (And.intro hI (And.intro (by first | decide | omega) (by first | decide | omega))) ?_
          intro v29 M29 a29 b29 q29
          obtain ⟨q29, z29⟩ := q29
          subst z29
          refine And.intro (by first | decide | omega) ?_
          intro v33 e33 a33 b33
          intro v34 e34 a34 b34
          intro v36 e36 a36 b36
          rw [pz_wi (by first | decide | omega) (by first | decide | omega)] at e36
          clear a36 b36
          exact ih15 _ _ _ (by first | decide | omega) (by first | decide | omega)
    refine hgo (fun p => Nat.beq p 15 || Nat.beq p 44 || Nat.beq p 58) 73 0 _ [] M ?_
    refine And.intro (True.intro) ?_
    intro v3 M3 a3 b3 q3
    obtain ⟨q3, z3⟩ := q3
    subst z3
    clear a3 b3
    refine And.intro (fun h6 => ?_) (fun h6 => ?_)
    · skip
      replace q3 := q3.resolve_right (fun z => h6 z.1)
      clear h6
      exact L15 _ _ _ _ (Nat.lt_succ_self _) (by first | decide | omega)
    · skip
      replace q3 := q3.resolve_left (fun z => absurd (z.1.symm.trans h6) (by decide))
      clear h6
      refine And.intro rfl ?_
      exact ⟨trivial, rfl⟩
theorem v_X12_game {fr lo i : Nat} {own : String} (h1 : 2 + 1 ≤ fr) (h2 : 8 + (5 + 11) + 42 ≤ lo) (h3 : .methodLink own i yX12_game ∈ lw_tbl) : pz_cV fr lo own i k_X12_game :=
  pz_cVk (maxL := 5) (fr' := 2) (lo' := 42) 1 12 h_X12_game rfl ⟨(pz_nhc_RX12 yX12_game rfl).1, (pz_nhc_RX12 yX12_game rfl).2, pz_ds5⟩ ⟨pz_wq1752, pz_wq1750, pz_wq1751, pz_wq13⟩ (Or.inl ⟨TX12, 28, rfl⟩) (fun a M _ h => by
    have h : (match (generalizing := false) a with | [.inr (.inr (12, th)), .inl w] => pz_im M | _ => False) := h
    split at h
    · exact ⟨_, _, rfl⟩
    · exact h.elim) h1 h2 h3

noncomputable def k_X12_fault : pz_C := (2, 1, fun a M => (match a with | [.inr (.inr (12, th)), .inl i] => pz_im M | _ => False), fun a M r M' => (match a, r with | [.inr (.inr (12, th)), .inl i], some (.inl v) => ((i = 0 → v = M 1 23) ∧ (i = 1 → v = M 1 25) ∧ (¬ (i = 0 ∨ i = 1) → v = -1)) ∧ M = M' | _, _ => False))
noncomputable abbrev ct_X12_fault : List (Bool × Nat × pz_C) := []
set_option maxRecDepth 100000 in
set_option maxHeartbeats 4000000 in
theorem h_X12_fault : pz_H yX12_fault cX12_fault 2 (some .int) k_X12_fault 0 0 := by
  refine pz_mk (own := RX12) (tb := t_X12_fault) (fl := pz_flf fl_RX12) (ci := pz_cif ci_RX12) (ct := pz_ctf ct_X12_fault) (rz := false) (pz_pfc_RX12 yX12_fault rfl) rfl t_X12_fault_ok (pz_flk fl_RX12_ok) (pz_cik ci_RX12_ok) ?_ ?_ (Or.inl ⟨rfl, rfl⟩) ?_ ?_
  · exact fun i k' h => pz_ctk (l := ct_X12_fault) (P := fun b i k => b = true → pz_cV 0 0 RX12 i k) (fun _ h => absurd h List.not_mem_nil) true i k' h rfl
  · exact fun i k' h => pz_ctk (l := ct_X12_fault) (P := fun b i k => b = false → (pz_cS 0 0 RX12 i k ∨ (k = pz_kac ∧ 1 ≤ 0 ∧ 60 ≤ 0 ∧ Cond.methodLink RX12 i arraycopyName ∈ pz_tbl))) (fun _ h => absurd h List.not_mem_nil) false i k' h rfl
  · intro a M hlen hpre
    obtain ⟨th, i, rfl, hpre⟩ : ∃ th i, a = [.inr (.inr (12, th)), .inl i] ∧ (pz_im M) := by
      have hpre : (match (generalizing := false) a with | [.inr (.inr (12, th)), .inl i] => pz_im M | _ => False) := hpre
      split at hpre
      · exact ⟨_, _, rfl, hpre⟩
      · exact hpre.elim
    exact Nat.le_of_ble_eq_true rfl
  · intro a M hlen hcan hM hpre Ok hgo
    obtain ⟨th, i, rfl, hpre⟩ : ∃ th i, a = [.inr (.inr (12, th)), .inl i] ∧ (pz_im M) := by
      have hpre : (match (generalizing := false) a with | [.inr (.inr (12, th)), .inl i] => pz_im M | _ => False) := hpre
      split at hpre
      · exact ⟨_, _, rfl, hpre⟩
      · exact hpre.elim
    obtain ⟨k_th, hc_th⟩ := pz_tlm hcan
    have k_th : pz_kd th = 12 ∧ th < 231 := k_th
    have R_th := pz_kd12 k_th.1
    subst R_th
    clear k_th
    obtain ⟨k_i, hc_i⟩ := pz_tlm hc_th
    have l_i : -2147483648 ≤ i := k_i.1
    have u_i : i ≤ 2147483647 := k_i.2
    have hI : pz_im M := hpre
    refine hgo (fun _ => false) 15 0 _ [] M ?_
    refine And.intro (fun h1 => ?_) (fun h1 => ?_)
    · skip
      refine And.intro (fun h13 => ?_) (fun h13 => ?_)
      · skip
        refine And.intro rfl ?_
        exact ⟨by omega, rfl⟩
      · skip
        intro v17 e17 a17 b17
        refine And.intro rfl ?_
        exact ⟨by omega, rfl⟩
    · skip
      intro v5 e5 a5 b5
      refine And.intro rfl ?_
      exact ⟨by omega, rfl⟩
theorem v_X12_fault {fr lo i : Nat} {own : String} (h1 : 0 + 1 ≤ fr) (h2 : 8 + (2 + 11) + 0 ≤ lo) (h3 : .methodLink own i yX12_fault ∈ lw_tbl) : pz_cV fr lo own i k_X12_fault :=
  pz_cVk (maxL := 2) (fr' := 0) (lo' := 0) 1 12 h_X12_fault rfl ⟨(pz_nhc_RX12 yX12_fault rfl).1, (pz_nhc_RX12 yX12_fault rfl).2, pz_ds5⟩ ⟨pz_wq1402, pz_wq1400, pz_wq1401, pz_wq13⟩ (Or.inl ⟨TX12, 28, rfl⟩) (fun a M _ h => by
    have h : (match (generalizing := false) a with | [.inr (.inr (12, th)), .inl i] => pz_im M | _ => False) := h
    split at h
    · exact ⟨_, _, rfl⟩
    · exact h.elim) h1 h2 h3
