noncomputable def k_X12_sureBy : pz_C := (2, 2, fun a M => (match a with | [.inl x, .inl y] => True | _ => False), fun a M r M' => (match a, r with | [.inl x, .inl y], some (.inr (.inl v)) => (pz_chx x y v) ∧ M = M' | _, _ => False))
noncomputable abbrev ct_X12_sureBy : List (Bool × Nat × pz_C) := []
set_option maxRecDepth 100000 in
set_option maxHeartbeats 4000000 in
theorem h_X12_sureBy : pz_H yX12_sureBy cX12_sureBy 5 (some .long) k_X12_sureBy 0 0 := by
  refine pz_mk (own := RX12) (tb := t_X12_sureBy) (fl := pz_flf fl_RX12) (ci := pz_cif ci_RX12) (ct := pz_ctf ct_X12_sureBy) (rz := false) (by decide +kernel) rfl t_X12_sureBy_ok (pz_flk fl_RX12_ok) (pz_cik ci_RX12_ok) ?_ ?_ (rfl) ?_ ?_
  · exact fun i k' h => pz_ctk (l := ct_X12_sureBy) (P := fun b i k => b = true → pz_cV 0 0 RX12 i k) (fun _ h => absurd h List.not_mem_nil) true i k' h rfl
  · exact fun i k' h => pz_ctk (l := ct_X12_sureBy) (P := fun b i k => b = false → (pz_cS 0 0 RX12 i k ∨ (k = pz_kac ∧ 1 ≤ 0 ∧ 60 ≤ 0 ∧ Cond.methodLink RX12 i arraycopyName ∈ pz_tbl))) (fun _ h => absurd h List.not_mem_nil) false i k' h rfl
  · intro a M hlen hpre
    obtain ⟨x, y, rfl, hpre⟩ : ∃ x y, a = [.inl x, .inl y] ∧ (True) := by
      have hpre : (match (generalizing := false) a with | [.inl x, .inl y] => True | _ => False) := hpre
      split at hpre
      · exact ⟨_, _, rfl, hpre⟩
      · exact hpre.elim
    exact Nat.le_of_ble_eq_true rfl
  · intro a M hlen hcan hM hpre Ok hgo
    obtain ⟨x, y, rfl, hpre⟩ : ∃ x y, a = [.inl x, .inl y] ∧ (True) := by
      have hpre : (match (generalizing := false) a with | [.inl x, .inl y] => True | _ => False) := hpre
      split at hpre
      · exact ⟨_, _, rfl, hpre⟩
      · exact hpre.elim
    obtain ⟨k_x, hc_x⟩ := pz_tlm hcan
    have l_x : -2147483648 ≤ x := k_x.1
    have u_x : x ≤ 2147483647 := k_x.2
    obtain ⟨k_y, hc_y⟩ := pz_tlm hc_x
    have l_y : -2147483648 ≤ y := k_y.1
    have u_y : y ≤ 2147483647 := k_y.2
    have G0 : pz_lax x 0 1000000 := fun _ _ _ => rfl
    have L7 : ∀ (fu : Nat) (x2 : Int) (x4 : Int), (y - x4).toNat < fu → (0 ≤ x4) → (0 ≤ y → x4 ≤ y) → (pz_lax x x4 x2) → Ok 7 [some (.inl x), some (.inl y), some (.inr (.inl x2)), none, some (.inl x4)] [] M := by
      intro fu
      induction fu with
      | zero => exact fun _ _ hn => absurd hn (Nat.not_lt_zero _)
      | succ fu ih7 =>
        intro x2 x4 hn7 g7_0 g7_1 g7_2
        refine hgo (fun p => Nat.beq p 7) 24 7 _ _ _ ?_
        refine And.intro (fun h10 => ?_) (fun h10 => ?_)
        · skip
          intro v36 e36 a36 b36
          refine And.intro rfl ?_
          exact ⟨fun h0 h1 h2 => by
            have a := g7_2 h0 h1 (by omega)
            have b := pz_lf_b h0 h1 x4.toNat
            rw [pz_wli (by omega) (by omega)] at e36
            rw [e36, a, show x4 = y by omega], rfl⟩
        · skip
          intro v18 e18 a18 b18
          intro v20 e20 a20 b20
          refine And.intro (by omega) ?_
          intro v24 e24 a24 b24
          intro v26 e26 a26 b26
          try rw [pz_wi (by omega) (by omega)] at e26
          have G26 : pz_lax x v26 v24 := fun h0 h1 h2 => by
            have a := g7_2 h0 h1 (by omega)
            have b := pz_lf_b h0 h1 x4.toNat
            have B := pz_m9 (x := pz_lf x x4.toNat) (y := 1000 - x) (a := 1000000) (b := 1000) b.1 b.2 (by omega) (by omega)
            rw [pz_wi (by omega) (by omega)] at e18
            rw [e18, a] at e20
            rw [pz_wli (by omega) (by omega)] at e20
            rw [e20, Int.tdiv_eq_ediv_of_nonneg (by omega), pz_wli (by omega) (by omega)] at e24
            rw [e24, show v26.toNat = x4.toNat + 1 by omega]
            rfl
          exact ih7 _ _ (by omega) (by first | omega | assumption) (by first | omega | assumption) (by first | omega | assumption)
    refine hgo (fun p => Nat.beq p 7) 24 0 _ [] M ?_
    exact L7 _ _ _ (Nat.lt_succ_self _) (by first | omega | assumption) (by first | omega | assumption) (by first | omega | assumption)
theorem s_X12_sureBy {fr lo i : Nat} {own : String} (h1 : 0 + 1 ≤ fr) (h2 : 8 + (5 + 11) + 0 ≤ lo) (h3 : .methodLink own i yX12_sureBy ∈ lw_tbl ∨ (own = RX1 ∧ i = 35 ∧ yX12_sureBy = yX11_within)) : pz_cS fr lo own i k_X12_sureBy := pz_cSk (maxL := 5) (fr' := 0) (lo' := 0) 2 h_X12_sureBy rfl ⟨by decide +kernel, by decide +kernel, by decide +kernel⟩ ⟨(pz_mt 1628 (by decide +kernel)), (pz_mt 1627 (by decide +kernel)), (pz_mt 13 (by decide +kernel))⟩ h1 h2 h3




noncomputable def k_X12_many : pz_C := (3, 1, fun a M => (match a with | [.inr (.inr (12, th)), .inl p, .inl n] => pz_im M | _ => False), fun a M r M' => (match a, r with | [.inr (.inr (12, th)), .inl p, .inl n], some (.inl v) => (v = (if 0 ≤ p ∧ p ≤ 1000 ∧ 1 ≤ n ∧ n ≤ 60 then pz_mc (1000000 - pz_lf p n.toNat) 60 1000000 0 else -1)) ∧ M = M' | _, _ => False))
noncomputable abbrev ct_X12_many : List (Bool × Nat × pz_C) := [(false, 54, k_X12_isIn), (false, 408, k_X12_sureBy)]
set_option maxRecDepth 100000 in
set_option maxHeartbeats 4000000 in
theorem h_X12_many : pz_H yX12_many cX12_many 6 (some .int) k_X12_many 1 24 := by
  refine pz_mk (own := RX12) (tb := t_X12_many) (fl := pz_flf fl_RX12) (ci := pz_cif ci_RX12) (ct := pz_ctf ct_X12_many) (rz := false) (by decide +kernel) rfl t_X12_many_ok (pz_flk fl_RX12_ok) (pz_cik ci_RX12_ok) ?_ ?_ (Or.inl ⟨rfl, rfl⟩) ?_ ?_
  · exact fun i k' h => pz_ctk (l := ct_X12_many) (P := fun b i k => b = true → pz_cV 1 24 RX12 i k) (List.forall_mem_cons.mpr ⟨((fun z => by cases z)), List.forall_mem_cons.mpr ⟨((fun z => by cases z)), fun _ h => absurd h List.not_mem_nil⟩⟩) true i k' h rfl
  · exact fun i k' h => pz_ctk (l := ct_X12_many) (P := fun b i k => b = false → (pz_cS 1 24 RX12 i k ∨ (k = pz_kac ∧ 1 ≤ 1 ∧ 60 ≤ 24 ∧ Cond.methodLink RX12 i arraycopyName ∈ pz_tbl))) (List.forall_mem_cons.mpr ⟨(fun _ => Or.inl (s_X12_isIn (by decide) (by decide) (Or.inl (pz_mt 1217 (by decide +kernel))))), List.forall_mem_cons.mpr ⟨(fun _ => Or.inl (s_X12_sureBy (by decide) (by decide) (Or.inl (pz_mt 1626 (by decide +kernel))))), fun _ h => absurd h List.not_mem_nil⟩⟩) false i k' h rfl
  · intro a M hlen hpre
    obtain ⟨th, p, n, rfl, hpre⟩ : ∃ th p n, a = [.inr (.inr (12, th)), .inl p, .inl n] ∧ (pz_im M) := by
      have hpre : (match (generalizing := false) a with | [.inr (.inr (12, th)), .inl p, .inl n] => pz_im M | _ => False) := hpre
      split at hpre
      · exact ⟨_, _, _, rfl, hpre⟩
      · exact hpre.elim
    exact Nat.le_of_ble_eq_true rfl
  · intro a M hlen hcan hM hpre Ok hgo
    obtain ⟨th, p, n, rfl, hpre⟩ : ∃ th p n, a = [.inr (.inr (12, th)), .inl p, .inl n] ∧ (pz_im M) := by
      have hpre : (match (generalizing := false) a with | [.inr (.inr (12, th)), .inl p, .inl n] => pz_im M | _ => False) := hpre
      split at hpre
      · exact ⟨_, _, _, rfl, hpre⟩
      · exact hpre.elim
    obtain ⟨k_th, hc_th⟩ := pz_tlm hcan
    have k_th : pz_kd th = 12 ∧ th < 231 := k_th
    have R_th := pz_kd12 k_th.1
    subst R_th
    clear k_th
    obtain ⟨k_p, hc_p⟩ := pz_tlm hc_th
    have l_p : -2147483648 ≤ p := k_p.1
    have u_p : p ≤ 2147483647 := k_p.2
    obtain ⟨k_n, hc_n⟩ := pz_tlm hc_p
    have l_n : -2147483648 ≤ n := k_n.1
    have u_n : n ≤ 2147483647 := k_n.2
    have hI : pz_im M := hpre
    have L30 : ∀ (fu : Nat) (x3 : Int) (x5 : Int), (60 - x5).toNat < fu → (0 ≤ x5) → (x5 ≤ 60) → (0 ≤ p ∧ p ≤ 1000 ∧ 1 ≤ n ∧ n ≤ 60) → (0 ≤ x3 ∧ x3 ≤ 1000000) → (pz_mc (1000000 - pz_lf p n.toNat) (60 - x5).toNat x3 x5 = pz_mc (1000000 - pz_lf p n.toNat) 60 1000000 0) → Ok 30 [some (.inr (.inr (12, 1))), some (.inl p), some (.inl n), some (.inr (.inl x3)), none, some (.inl x5)] [] M := by
      intro fu
      induction fu with
      | zero => exact fun _ _ hn => absurd hn (Nat.not_lt_zero _)
      | succ fu ih30 =>
        intro x3 x5 hn30 g30_0 g30_1 g30_2 g30_3 g30_4
        have P30 := g30_2
        have B30 := pz_lf_b P30.1 P30.2.1 n.toNat
        refine hgo (fun p => Nat.beq p 30) 43 30 _ _ _ ?_
        refine And.intro (fun h34 => ?_) (fun h34 => ?_)
        · skip
          refine And.intro rfl ?_
          refine ⟨?_, rfl⟩
          rw [if_pos g30_2, ← g30_4]
          first
            | rw [pz_mcR (n := (60 - x5).toNat) (m := (59 - x5).toNat) (by omega) e47 (by omega)]
            | rw [pz_mc0 (e := 1000000 - pz_lf p n.toNat) (a := x3) (i := x5) (n := (60 - x5).toNat) (by omega)]
        · skip
          refine And.intro (True.intro) ?_
          intro v40 M40 a40 b40 q40
          obtain ⟨q40, z40⟩ := q40
          subst z40
          have q40 := q40 P30.1 P30.2.1 (by omega)
          have C40 := pz_m9 (x := x3) (y := 1000000 - pz_lf p n.toNat) (a := 1000000) (b := 1000000) (by omega) (by omega) (by omega) (by omega)
          intro v43 e43 a43 b43
          rw [q40] at e43
          rw [pz_wli (by omega) (by omega)] at e43
          refine And.intro (by omega) ?_
          intro v47 e47 a47 b47
          rw [e43, Int.tdiv_eq_ediv_of_nonneg (by omega), pz_wli (by omega) (by omega)] at e47
          refine And.intro (fun h51 => ?_) ?_
          · skip
            refine And.intro (fun h52 => ?_) (fun h52 => ?_)
            · skip
              refine And.intro rfl ?_
              refine ⟨?_, rfl⟩
              rw [if_pos g30_2, ← g30_4]
              first
                | rw [pz_mcR (n := (60 - x5).toNat) (m := (59 - x5).toNat) (by omega) e47 (by omega)]
                | rw [pz_mc0 (e := 1000000 - pz_lf p n.toNat) (a := x3) (i := x5) (n := (60 - x5).toNat) (by omega)]
            · skip
              refine And.intro (True.intro) ?_
              intro v58 M58 a58 b58 q58
              obtain ⟨q58, z58⟩ := q58
              subst z58
              have q58 := q58 P30.1 P30.2.1 (by omega)
              have C58 := pz_m9 (x := x3) (y := 1000000 - pz_lf p n.toNat) (a := 1000000) (b := 1000000) (by omega) (by omega) (by omega) (by omega)
              intro v61 e61 a61 b61
              rw [q58] at e61
              rw [pz_wli (by omega) (by omega)] at e61
              refine And.intro (by omega) ?_
              intro v65 e65 a65 b65
              rw [e61, Int.tdiv_eq_ediv_of_nonneg (by omega), pz_wli (by omega) (by omega)] at e65
              intro v67 e67 a67 b67
              try rw [pz_wi (by omega) (by omega)] at e67
              have G67 : pz_mc (1000000 - pz_lf p n.toNat) (60 - v67).toNat v65 v67 = pz_mc (1000000 - pz_lf p n.toNat) 60 1000000 0 := by
                rw [← g30_4, pz_mcS (n := (60 - x5).toNat) (m := (60 - v67).toNat) (by omega) e65 (by omega), e67]
              exact ih30 _ _ (by omega) (by first | omega | assumption | rfl) (by first | omega | assumption | rfl) (by first | omega | assumption | rfl) (by first | omega | assumption | rfl) (by first | omega | assumption | rfl)
          refine And.intro (fun h51 => ?_) ?_
          · skip
            refine And.intro (fun h52 => ?_) (fun h52 => ?_)
            · skip
              refine And.intro rfl ?_
              refine ⟨?_, rfl⟩
              rw [if_pos g30_2, ← g30_4]
              first
                | rw [pz_mcR (n := (60 - x5).toNat) (m := (59 - x5).toNat) (by omega) e47 (by omega)]
                | rw [pz_mc0 (e := 1000000 - pz_lf p n.toNat) (a := x3) (i := x5) (n := (60 - x5).toNat) (by omega)]
            · skip
              refine And.intro (True.intro) ?_
              intro v58 M58 a58 b58 q58
              obtain ⟨q58, z58⟩ := q58
              subst z58
              have q58 := q58 P30.1 P30.2.1 (by omega)
              have C58 := pz_m9 (x := x3) (y := 1000000 - pz_lf p n.toNat) (a := 1000000) (b := 1000000) (by omega) (by omega) (by omega) (by omega)
              intro v61 e61 a61 b61
              rw [q58] at e61
              rw [pz_wli (by omega) (by omega)] at e61
              refine And.intro (by omega) ?_
              intro v65 e65 a65 b65
              rw [e61, Int.tdiv_eq_ediv_of_nonneg (by omega), pz_wli (by omega) (by omega)] at e65
              intro v67 e67 a67 b67
              try rw [pz_wi (by omega) (by omega)] at e67
              have G67 : pz_mc (1000000 - pz_lf p n.toNat) (60 - v67).toNat v65 v67 = pz_mc (1000000 - pz_lf p n.toNat) 60 1000000 0 := by
                rw [← g30_4, pz_mcS (n := (60 - x5).toNat) (m := (60 - v67).toNat) (by omega) e65 (by omega), e67]
              exact ih30 _ _ (by omega) (by first | omega | assumption | rfl) (by first | omega | assumption | rfl) (by first | omega | assumption | rfl) (by first | omega | assumption | rfl) (by first | omega | assumption | rfl)
          intro h51
          refine And.intro (fun h52 => ?_) (fun h52 => ?_)
          · skip
            refine And.intro rfl ?_
            refine ⟨?_, rfl⟩
            rw [if_pos g30_2, ← g30_4]
            first
              | rw [pz_mcR (n := (60 - x5).toNat) (m := (59 - x5).toNat) (by omega) e47 (by omega)]
              | rw [pz_mc0 (e := 1000000 - pz_lf p n.toNat) (a := x3) (i := x5) (n := (60 - x5).toNat) (by omega)]
          · skip
            refine And.intro (True.intro) ?_
            intro v58 M58 a58 b58 q58
            obtain ⟨q58, z58⟩ := q58
            subst z58
            have q58 := q58 P30.1 P30.2.1 (by omega)
            have C58 := pz_m9 (x := x3) (y := 1000000 - pz_lf p n.toNat) (a := 1000000) (b := 1000000) (by omega) (by omega) (by omega) (by omega)
            intro v61 e61 a61 b61
            rw [q58] at e61
            rw [pz_wli (by omega) (by omega)] at e61
            refine And.intro (by omega) ?_
            intro v65 e65 a65 b65
            rw [e61, Int.tdiv_eq_ediv_of_nonneg (by omega), pz_wli (by omega) (by omega)] at e65
            intro v67 e67 a67 b67
            try rw [pz_wi (by omega) (by omega)] at e67
            have G67 : pz_mc (1000000 - pz_lf p n.toNat) (60 - v67).toNat v65 v67 = pz_mc (1000000 - pz_lf p n.toNat) 60 1000000 0 := by
              rw [← g30_4, pz_mcS (n := (60 - x5).toNat) (m := (60 - v67).toNat) (by omega) e65 (by omega), e67]
            exact ih30 _ _ (by omega) (by first | omega | assumption | rfl) (by first | omega | assumption | rfl) (by first | omega | assumption | rfl) (by first | omega | assumption | rfl) (by first | omega | assumption | rfl)
    refine hgo (fun p => Nat.beq p 30) 43 0 _ [] M ?_
    refine And.intro (True.intro) ?_
    intro v5 M5 a5 b5 q5
    obtain ⟨q5, z5⟩ := q5
    subst z5
    clear a5 b5
    refine And.intro (fun h8 => ?_) (fun h8 => ?_)
    · skip
      replace q5 := q5.resolve_left (fun z => absurd (z.1.symm.trans h8) (by decide))
      clear h8
      refine And.intro rfl ?_
      refine ⟨?_, rfl⟩
      rw [if_neg]
      intro z
      omega
    · skip
      replace q5 := q5.resolve_right (fun z => h8 z.1)
      clear h8
      refine And.intro (True.intro) ?_
      intro v15 M15 a15 b15 q15
      obtain ⟨q15, z15⟩ := q15
      subst z15
      clear a15 b15
      refine And.intro (fun h18 => ?_) (fun h18 => ?_)
      · skip
        replace q15 := q15.resolve_right (fun z => h18 z.1)
        clear h18
        exact L30 _ _ _ (Nat.lt_succ_self _) (by first | omega | assumption | rfl) (by first | omega | assumption | rfl) (by first | omega | assumption | rfl) (by first | omega | assumption | rfl) (by first | omega | assumption | rfl)
      · skip
        replace q15 := q15.resolve_left (fun z => absurd (z.1.symm.trans h18) (by decide))
        clear h18
        refine And.intro rfl ?_
        refine ⟨?_, rfl⟩
        rw [if_neg]
        intro z
        omega
theorem v_X12_many {fr lo i : Nat} {own : String} (h1 : 1 + 1 ≤ fr) (h2 : 8 + (6 + 11) + 24 ≤ lo) (h3 : .methodLink own i yX12_many ∈ lw_tbl) : pz_cV fr lo own i k_X12_many :=
  pz_cVk (maxL := 6) (fr' := 1) (lo' := 24) 2 12 h_X12_many rfl ⟨by decide +kernel, by decide +kernel, by decide +kernel⟩ ⟨(pz_mt 1637 (by decide +kernel)), (pz_mt 1635 (by decide +kernel)), (pz_mt 1636 (by decide +kernel)), (pz_mt 13 (by decide +kernel))⟩ (Or.inl ⟨TX12, 28, rfl⟩) (fun a M _ h => by
    have h : (match (generalizing := false) a with | [.inr (.inr (12, th)), .inl p, .inl n] => pz_im M | _ => False) := h
    split at h
    · exact ⟨_, _, rfl⟩
    · exact h.elim) h1 h2 h3






noncomputable def k_X12_bridgeable : pz_C := (1, 1, fun a M => (match a with | [.inr (.inr (12, th))] => pz_im M | _ => False), fun a M r M' => (match a, r with | [.inr (.inr (12, th))], some (.inl v) => (0 ≤ v ∧ v ≤ 4095) ∧ M = M' | _, _ => False))
noncomputable abbrev ct_X12_bridgeable : List (Bool × Nat × pz_C) := [(true, 336, k_X12_canBridge)]
set_option maxRecDepth 100000 in
set_option maxHeartbeats 4000000 in
theorem h_X12_bridgeable : pz_H yX12_bridgeable cX12_bridgeable 3 (some .int) k_X12_bridgeable 4 85 := by
  refine pz_mk (own := RX12) (tb := t_X12_bridgeable) (fl := pz_flf fl_RX12) (ci := pz_cif ci_RX12) (ct := pz_ctf ct_X12_bridgeable) (rz := false) (by decide +kernel) rfl t_X12_bridgeable_ok (pz_flk fl_RX12_ok) (pz_cik ci_RX12_ok) ?_ ?_ (Or.inl ⟨rfl, rfl⟩) ?_ ?_
  · exact fun i k' h => pz_ctk (l := ct_X12_bridgeable) (P := fun b i k => b = true → pz_cV 4 85 RX12 i k) (List.forall_mem_cons.mpr ⟨(fun _ => v_X12_canBridge (by decide) (by decide) (pz_mt 1491 (by decide +kernel))), fun _ h => absurd h List.not_mem_nil⟩) true i k' h rfl
  · exact fun i k' h => pz_ctk (l := ct_X12_bridgeable) (P := fun b i k => b = false → (pz_cS 4 85 RX12 i k ∨ (k = pz_kac ∧ 1 ≤ 4 ∧ 60 ≤ 85 ∧ Cond.methodLink RX12 i arraycopyName ∈ pz_tbl))) (List.forall_mem_cons.mpr ⟨((fun z => by cases z)), fun _ h => absurd h List.not_mem_nil⟩) false i k' h rfl
  · intro a M hlen hpre
    obtain ⟨th, rfl, hpre⟩ : ∃ th, a = [.inr (.inr (12, th))] ∧ (pz_im M) := by
      have hpre : (match (generalizing := false) a with | [.inr (.inr (12, th))] => pz_im M | _ => False) := hpre
      split at hpre
      · exact ⟨_, rfl, hpre⟩
      · exact hpre.elim
    exact Nat.le_of_ble_eq_true rfl
  · intro a M hlen hcan hM hpre Ok hgo
    obtain ⟨th, rfl, hpre⟩ : ∃ th, a = [.inr (.inr (12, th))] ∧ (pz_im M) := by
      have hpre : (match (generalizing := false) a with | [.inr (.inr (12, th))] => pz_im M | _ => False) := hpre
      split at hpre
      · exact ⟨_, rfl, hpre⟩
      · exact hpre.elim
    obtain ⟨k_th, hc_th⟩ := pz_tlm hcan
    have k_th : pz_kd th = 12 ∧ th < 231 := k_th
    have R_th := pz_kd12 k_th.1
    subst R_th
    clear k_th
    have hI : pz_im M := hpre
    have L4 : ∀ (fu : Nat) (x1 : Int) (x2 : Int), (12 - x2).toNat < fu → (0 ≤ x2) → (0 ≤ x1) → (x1 ≤ 4095) → Ok 4 [some (.inr (.inr (12, 1))), some (.inl x1), some (.inl x2)] [] M := by
      intro fu
      induction fu with
      | zero => exact fun _ _ hn => absurd hn (Nat.not_lt_zero _)
      | succ fu ih4 =>
        intro x1 x2 hn4 g4_0 g4_1 g4_2
        have L31 : ∀ (x1 : Int) (x2 : Int) (s0 : Int) (s1 : Int), (0 ≤ x2) → (x2 < 12) → (0 ≤ s0) → (s0 ≤ 4095) → (0 ≤ s1) → (s1 ≤ 4095) → ((12 - x2).toNat < fu + 1) → Ok 31 [some (.inr (.inr (12, 1))), some (.inl x1), some (.inl x2)] [.inl s1, .inl s0] M := by
          intro x1 x2 s0 s1 g31_0 g31_1 g31_2 g31_3 g31_4 g31_5 g31_6
          refine hgo (fun p => Nat.beq p 4 || Nat.beq p 31) 28 31 _ _ _ ?_
          intro v31 e31 a31 b31
          have X31 := pz_or12 (x := s0) (y := s1) (by omega) (by omega) (by omega) (by omega)
          rw [← e31] at X31
          intro v33 e33 a33 b33
          rw [pz_wi (by omega) (by omega)] at e33
          clear a33 b33
          exact ih4 _ _ (by omega) (by omega) (by omega) (by omega)
        refine hgo (fun p => Nat.beq p 4 || Nat.beq p 31) 28 4 _ _ _ ?_
        refine pz_nrc (c := 60) rfl ?_
        refine And.intro (by omega) (And.intro (show _ < (1725 : Int) from by omega) ?_)
        intro v11 e11 a11 b11
        replace e11 : v11 = M 60 88 := e11
        have I11 : 0 ≤ v11 ∧ v11 ≤ 12 := by
          rw [e11]
          exact hI.1.1
        clear a11 b11
        refine And.intro (fun h12 => ?_) (fun h12 => ?_)
        · skip
          refine And.intro rfl ?_
          exact ⟨by omega, rfl⟩
        · skip
          refine And.intro (hI) ?_
          intro v18 M18 a18 b18 q18
          obtain ⟨q18, z18⟩ := q18
          subst z18
          clear a18 b18
          refine And.intro (fun h21 => ?_) (fun h21 => ?_)
          · skip
            replace q18 := q18.resolve_left (fun z => absurd (z.1.symm.trans h21) (by decide))
            clear h21 q18
            exact L31 _ _ _ _ (by omega) (by omega) (by omega) (by omega) (by omega) (by omega) (by omega)
          · skip
            replace q18 := q18.resolve_right h21
            clear h21
            intro v26 e26 a26 b26
            have S26 := pz_shl1 (c := x2) (by omega) (by omega)
            rw [← e26] at S26
            exact L31 _ _ _ _ (by omega) (by omega) (by omega) (by omega) (by omega) (by omega) (by omega)
    refine hgo (fun p => Nat.beq p 4 || Nat.beq p 31) 28 0 _ [] M ?_
    exact L4 _ _ _ (Nat.lt_succ_self _) (by omega) (by omega) (by omega)
theorem v_X12_bridgeable {fr lo i : Nat} {own : String} (h1 : 4 + 1 ≤ fr) (h2 : 8 + (3 + 11) + 85 ≤ lo) (h3 : .methodLink own i yX12_bridgeable ∈ lw_tbl) : pz_cV fr lo own i k_X12_bridgeable :=
  pz_cVk (maxL := 3) (fr' := 4) (lo' := 85) 0 12 h_X12_bridgeable rfl ⟨by decide +kernel, by decide +kernel, by decide +kernel⟩ ⟨(pz_mt 1668 (by decide +kernel)), (pz_mt 1667 (by decide +kernel)), (pz_ms 78 (by decide +kernel)), (pz_mt 13 (by decide +kernel))⟩ (Or.inl ⟨TX12, 28, rfl⟩) (fun a M _ h => by
    have h : (match (generalizing := false) a with | [.inr (.inr (12, th))] => pz_im M | _ => False) := h
    split at h
    · exact ⟨_, _, rfl⟩
    · exact h.elim) h1 h2 h3

