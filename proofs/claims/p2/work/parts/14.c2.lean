def k_X12_days : pz_C := (2, 1, fun a M => (match a with | [.inr (.inr (12, th)), .inl n] => pz_im M | _ => False), fun a M r M' => (match a, r with | [.inr (.inr (12, th)), .inl n], some (.inl v) => (True) ∧ pz_sm M M' | _, _ => False))
abbrev ct_X12_days : List (Bool × Nat × pz_C) := [(false, 54, k_X12_isIn), (true, 330, k_X12_keeps), (true, 388, k_X12_aDay)]
set_option maxRecDepth 100000 in
set_option maxHeartbeats 4000000 in
theorem h_X12_days : pz_H yX12_days cX12_days 4 (some .int) k_X12_days 8 184 := by
  refine pz_mk (own := RX12) (tb := t_X12_days) (fl := pz_flf fl_RX12) (ci := pz_cif ci_RX12) (ct := pz_ctf ct_X12_days) (rz := false) (by decide +kernel) rfl t_X12_days_ok (pz_flk fl_RX12_ok) (pz_cik ci_RX12_ok) ?_ ?_ (Or.inl ⟨rfl, rfl⟩) ?_ ?_
  · exact fun i k' h => pz_ctk (l := ct_X12_days) (P := fun b i k => b = true → pz_cV 8 184 RX12 i k) (List.forall_mem_cons.mpr ⟨((fun z => by cases z)), List.forall_mem_cons.mpr ⟨(fun _ => v_X12_keeps (by decide) (by decide) (pz_mt 1427 (by decide +kernel))), List.forall_mem_cons.mpr ⟨(fun _ => v_X12_aDay (by decide) (by decide) (pz_mt 1531 (by decide +kernel))), fun _ h => absurd h List.not_mem_nil⟩⟩⟩) true i k' h rfl
  · exact fun i k' h => pz_ctk (l := ct_X12_days) (P := fun b i k => b = false → (pz_cS 8 184 RX12 i k ∨ (k = pz_kac ∧ 1 ≤ 8 ∧ 60 ≤ 184 ∧ Cond.methodLink RX12 i arraycopyName ∈ pz_tbl))) (List.forall_mem_cons.mpr ⟨(fun _ => Or.inl (s_X12_isIn (by decide) (by decide) (Or.inl (pz_mt 1217 (by decide +kernel))))), List.forall_mem_cons.mpr ⟨((fun z => by cases z)), List.forall_mem_cons.mpr ⟨((fun z => by cases z)), fun _ h => absurd h List.not_mem_nil⟩⟩⟩) false i k' h rfl
  · intro a M hlen hpre
    obtain ⟨th, n, rfl, hpre⟩ : ∃ th n, a = [.inr (.inr (12, th)), .inl n] ∧ (pz_im M) := by
      have hpre : (match (generalizing := false) a with | [.inr (.inr (12, th)), .inl n] => pz_im M | _ => False) := hpre
      split at hpre
      · exact ⟨_, _, rfl, hpre⟩
      · exact hpre.elim
    exact Nat.le_of_ble_eq_true rfl
  · intro a M hlen hcan hM hpre Ok hgo
    obtain ⟨th, n, rfl, hpre⟩ : ∃ th n, a = [.inr (.inr (12, th)), .inl n] ∧ (pz_im M) := by
      have hpre : (match (generalizing := false) a with | [.inr (.inr (12, th)), .inl n] => pz_im M | _ => False) := hpre
      split at hpre
      · exact ⟨_, _, rfl, hpre⟩
      · exact hpre.elim
    obtain ⟨k_th, hc_th⟩ := pz_tlm hcan
    have k_th : pz_kd th = 12 ∧ th < 231 := k_th
    have R_th := pz_kd12 k_th.1
    subst R_th
    clear k_th
    obtain ⟨k_n, hc_n⟩ := pz_tlm hc_th
    have l_n : -2147483648 ≤ n := k_n.1
    have u_n : n ≤ 2147483647 := k_n.2
    have hI : pz_im M := hpre
    have hI0 := hI
    have hS : pz_sm M M := pz_sm.rf
    have L30 : ∀ (fu : Nat) (x2 : Int) (x3 : Int) (N30 : pz_M), (60 - x3).toNat < fu → (pz_sm M N30) → (0 ≤ x3) → (n ≤ 60) → Ok 30 [some (.inr (.inr (12, 1))), some (.inl n), some (.inl x2), some (.inl x3)] [] N30 := by
      intro fu
      induction fu with
      | zero => exact fun _ _ _ hn => absurd hn (Nat.not_lt_zero _)
      | succ fu ih30 =>
        intro x2 x3 N30 hn30 hS g30_1 g30_2
        have hI : pz_im N30 := hS.1.1.1 hI0
        refine hgo (fun p => Nat.beq p 30) 35 30 _ _ _ ?_
        refine And.intro (fun h32 => ?_) (fun h32 => ?_)
        · skip
          refine And.intro rfl ?_
          exact ⟨trivial, hS⟩
        · skip
          refine And.intro (hI) ?_
          intro M36 q36
          obtain ⟨q36, z36⟩ := q36
          have hS : pz_sm M M36 := hS.tr z36
          have hI : pz_im M36 := hS.1.1.1 hI0
          refine And.intro (hI) ?_
          intro v41 M41 a41 b41 q41
          obtain ⟨q41, z41⟩ := q41
          have hS : pz_sm M M41 := hS.tr z41
          have hI : pz_im M41 := hS.1.1.1 hI0
          intro v44 e44 a44 b44
          intro v46 e46 a46 b46
          rw [pz_wi (by omega) (by omega)] at e46
          clear a46 b46
          exact ih30 _ _ _ (by omega) hS (by omega) (by omega)
    refine hgo (fun p => Nat.beq p 30) 35 0 _ [] M ?_
    refine And.intro (True.intro) ?_
    intro v4 M4 a4 b4 q4
    obtain ⟨q4, z4⟩ := q4
    subst z4
    clear a4 b4
    refine And.intro (fun h7 => ?_) (fun h7 => ?_)
    · skip
      replace q4 := q4.resolve_left (fun z => absurd (z.1.symm.trans h7) (by decide))
      clear h7
      refine And.intro rfl ?_
      exact ⟨trivial, hS⟩
    · skip
      replace q4 := q4.resolve_right (fun z => h7 z.1)
      clear h7
      refine pz_nrc (c := 60) rfl ?_
      refine And.intro (by omega) (And.intro (show _ < (1725 : Int) from by omega) ?_)
      intro v15 e15 a15 b15
      replace e15 : v15 = M 60 0 := e15
      intro v17 e17 a17 b17
      refine And.intro (fun h21 => ?_) (fun h21 => ?_)
      · skip
        exact L30 _ _ _ _ (Nat.lt_succ_self _) hS (by omega) (by omega)
      · skip
        refine And.intro rfl ?_
        exact ⟨trivial, hS⟩
theorem v_X12_days {fr lo i : Nat} {own : String} (h1 : 8 + 1 ≤ fr) (h2 : 8 + (4 + 11) + 184 ≤ lo) (h3 : .methodLink own i yX12_days ∈ lw_tbl) : pz_cV fr lo own i k_X12_days :=
  pz_cVk (maxL := 4) (fr' := 8) (lo' := 184) 1 12 h_X12_days rfl ⟨by decide +kernel, by decide +kernel, by decide +kernel⟩ ⟨(pz_mt 1530 (by decide +kernel)), (pz_mt 1528 (by decide +kernel)), (pz_mt 1529 (by decide +kernel)), (pz_mt 13 (by decide +kernel))⟩ (Or.inl ⟨TX12, 28, rfl⟩) (fun a M _ h => by
    have h : (match (generalizing := false) a with | [.inr (.inr (12, th)), .inl n] => pz_im M | _ => False) := h
    split at h
    · exact ⟨_, _, rfl⟩
    · exact h.elim) h1 h2 h3
def k_X12_of : pz_C := (3, 1, fun a M => (match a with | [.inr (.inr (12, th)), .inl i, .inl n] => pz_im M | _ => False), fun a M r M' => (match a, r with | [.inr (.inr (12, th)), .inl i, .inl n], some (.inl v) => (True) ∧ pz_sm M M' | _, _ => False))
abbrev ct_X12_of : List (Bool × Nat × pz_C) := [(true, 58, k_X12_isLink), (true, 370, k_X12_readyOf), (true, 376, k_X12_leaveOf), (true, 320, k_X12_giveOf), (true, 385, k_X12_costOf), (true, 361, k_X12_canPay), (true, 300, k_X12_lacksOf), (false, 54, k_X12_isIn)]
set_option maxRecDepth 100000 in
set_option maxHeartbeats 4000000 in
theorem h_X12_of : pz_H yX12_of cX12_of 3 (some .int) k_X12_of 5 116 := by
  refine pz_mk (own := RX12) (tb := t_X12_of) (fl := pz_flf fl_RX12) (ci := pz_cif ci_RX12) (ct := pz_ctf ct_X12_of) (rz := false) (by decide +kernel) rfl t_X12_of_ok (pz_flk fl_RX12_ok) (pz_cik ci_RX12_ok) ?_ ?_ (Or.inl ⟨rfl, rfl⟩) ?_ ?_
  · exact fun i k' h => pz_ctk (l := ct_X12_of) (P := fun b i k => b = true → pz_cV 5 116 RX12 i k) (List.forall_mem_cons.mpr ⟨(fun _ => v_X12_isLink (by decide) (by decide) (pz_mt 1224 (by decide +kernel))), List.forall_mem_cons.mpr ⟨(fun _ => v_X12_readyOf (by decide) (by decide) (pz_mt 1539 (by decide +kernel))), List.forall_mem_cons.mpr ⟨(fun _ => v_X12_leaveOf (by decide) (by decide) (pz_mt 1553 (by decide +kernel))), List.forall_mem_cons.mpr ⟨(fun _ => v_X12_giveOf (by decide) (by decide) (pz_mt 1435 (by decide +kernel))), List.forall_mem_cons.mpr ⟨(fun _ => v_X12_costOf (by decide) (by decide) (pz_mt 1577 (by decide +kernel))), List.forall_mem_cons.mpr ⟨(fun _ => v_X12_canPay (by decide) (by decide) (pz_mt 1573 (by decide +kernel))), List.forall_mem_cons.mpr ⟨(fun _ => v_X12_lacksOf (by decide) (by decide) (pz_mt 1443 (by decide +kernel))), List.forall_mem_cons.mpr ⟨((fun z => by cases z)), fun _ h => absurd h List.not_mem_nil⟩⟩⟩⟩⟩⟩⟩⟩) true i k' h rfl
  · exact fun i k' h => pz_ctk (l := ct_X12_of) (P := fun b i k => b = false → (pz_cS 5 116 RX12 i k ∨ (k = pz_kac ∧ 1 ≤ 5 ∧ 60 ≤ 116 ∧ Cond.methodLink RX12 i arraycopyName ∈ pz_tbl))) (List.forall_mem_cons.mpr ⟨((fun z => by cases z)), List.forall_mem_cons.mpr ⟨((fun z => by cases z)), List.forall_mem_cons.mpr ⟨((fun z => by cases z)), List.forall_mem_cons.mpr ⟨((fun z => by cases z)), List.forall_mem_cons.mpr ⟨((fun z => by cases z)), List.forall_mem_cons.mpr ⟨((fun z => by cases z)), List.forall_mem_cons.mpr ⟨((fun z => by cases z)), List.forall_mem_cons.mpr ⟨(fun _ => Or.inl (s_X12_isIn (by decide) (by decide) (Or.inl (pz_mt 1217 (by decide +kernel))))), fun _ h => absurd h List.not_mem_nil⟩⟩⟩⟩⟩⟩⟩⟩) false i k' h rfl
  · intro a M hlen hpre
    obtain ⟨th, i, n, rfl, hpre⟩ : ∃ th i n, a = [.inr (.inr (12, th)), .inl i, .inl n] ∧ (pz_im M) := by
      have hpre : (match (generalizing := false) a with | [.inr (.inr (12, th)), .inl i, .inl n] => pz_im M | _ => False) := hpre
      split at hpre
      · exact ⟨_, _, _, rfl, hpre⟩
      · exact hpre.elim
    exact Nat.le_of_ble_eq_true rfl
  · intro a M hlen hcan hM hpre Ok hgo
    obtain ⟨th, i, n, rfl, hpre⟩ : ∃ th i n, a = [.inr (.inr (12, th)), .inl i, .inl n] ∧ (pz_im M) := by
      have hpre : (match (generalizing := false) a with | [.inr (.inr (12, th)), .inl i, .inl n] => pz_im M | _ => False) := hpre
      split at hpre
      · exact ⟨_, _, _, rfl, hpre⟩
      · exact hpre.elim
    obtain ⟨k_th, hc_th⟩ := pz_tlm hcan
    have k_th : pz_kd th = 12 ∧ th < 231 := k_th
    have R_th := pz_kd12 k_th.1
    subst R_th
    clear k_th
    obtain ⟨k_i, hc_i⟩ := pz_tlm hc_th
    have l_i : -2147483648 ≤ i := k_i.1
    have u_i : i ≤ 2147483647 := k_i.2
    obtain ⟨k_n, hc_n⟩ := pz_tlm hc_i
    have l_n : -2147483648 ≤ n := k_n.1
    have u_n : n ≤ 2147483647 := k_n.2
    have hI : pz_im M := hpre
    have hI0 := hI
    have hS : pz_sm M M := pz_sm.rf
    refine hgo (fun _ => false) 70 0 _ [] M ?_
    refine And.intro (hI) ?_
    intro v2 M2 a2 b2 q2
    obtain ⟨q2, z2⟩ := q2
    subst z2
    clear a2 b2
    refine And.intro (fun h5 => ?_) (fun h5 => ?_)
    · skip
      replace q2 := q2.resolve_right (fun z => h5 z.1)
      clear h5
      refine And.intro ?_ ?_
      · skip
        refine And.intro (fun h13 => ?_) ?_
        · skip
          refine pz_nrc (c := 60) rfl ?_
          intro v79 e79 a79 b79
          rw [pz_wi (by omega) (by omega)] at e79
          clear a79 b79
          refine And.intro (by omega) (And.intro (show _ < (1725 : Int) from by omega) ?_)
          intro v80 e80 a80 b80
          refine And.intro rfl ?_
          exact ⟨trivial, hS⟩
        refine And.intro (fun h13 => ?_) ?_
        · skip
          refine And.intro (True.intro) ?_
          intro v130 M130 a130 b130 q130
          obtain ⟨q130, z130⟩ := q130
          subst z130
          clear a130 b130
          refine And.intro (fun h133 => ?_) (fun h133 => ?_)
          · skip
            replace q130 := q130.resolve_left (fun z => absurd (z.1.symm.trans h133) (by decide))
            clear h133
            refine And.intro rfl ?_
            exact ⟨trivial, hS⟩
          · skip
            replace q130 := q130.resolve_right (fun z => h133 z.1)
            clear h133
            refine pz_nrc (c := 60) rfl ?_
            refine And.intro (fun h145 => ?_) (fun h145 => ?_)
            · skip
              intro v154 e154 a154 b154
              rw [pz_wi (by omega) (by omega)] at e154
              clear a154 b154
              intro v155 e155 a155 b155
              rw [pz_wi (by omega) (by omega)] at e155
              clear a155 b155
              intro v156 e156 a156 b156
              rw [pz_wi (by omega) (by omega)] at e156
              clear a156 b156
              intro v158 e158 a158 b158
              rw [pz_wi (by omega) (by omega)] at e158
              clear a158 b158
              refine And.intro (by omega) (And.intro (show _ < (1725 : Int) from by omega) ?_)
              intro v159 e159 a159 b159
              refine And.intro rfl ?_
              exact ⟨trivial, hS⟩
            · skip
              intro v155 e155 a155 b155
              rw [pz_wi (by omega) (by omega)] at e155
              clear a155 b155
              intro v156 e156 a156 b156
              rw [pz_wi (by omega) (by omega)] at e156
              clear a156 b156
              intro v158 e158 a158 b158
              rw [pz_wi (by omega) (by omega)] at e158
              clear a158 b158
              refine And.intro (by omega) (And.intro (show _ < (1725 : Int) from by omega) ?_)
              intro v159 e159 a159 b159
              refine And.intro rfl ?_
              exact ⟨trivial, hS⟩
        refine And.intro (fun h13 => ?_) ?_
        · skip
          refine And.intro (True.intro) ?_
          intro v130 M130 a130 b130 q130
          obtain ⟨q130, z130⟩ := q130
          subst z130
          clear a130 b130
          refine And.intro (fun h133 => ?_) (fun h133 => ?_)
          · skip
            replace q130 := q130.resolve_left (fun z => absurd (z.1.symm.trans h133) (by decide))
            clear h133
            refine And.intro rfl ?_
            exact ⟨trivial, hS⟩
          · skip
            replace q130 := q130.resolve_right (fun z => h133 z.1)
            clear h133
            refine pz_nrc (c := 60) rfl ?_
            refine And.intro (fun h145 => ?_) (fun h145 => ?_)
            · skip
              intro v154 e154 a154 b154
              rw [pz_wi (by omega) (by omega)] at e154
              clear a154 b154
              intro v155 e155 a155 b155
              rw [pz_wi (by omega) (by omega)] at e155
              clear a155 b155
              intro v156 e156 a156 b156
              rw [pz_wi (by omega) (by omega)] at e156
              clear a156 b156
              intro v158 e158 a158 b158
              rw [pz_wi (by omega) (by omega)] at e158
              clear a158 b158
              refine And.intro (by omega) (And.intro (show _ < (1725 : Int) from by omega) ?_)
              intro v159 e159 a159 b159
              refine And.intro rfl ?_
              exact ⟨trivial, hS⟩
            · skip
              intro v155 e155 a155 b155
              rw [pz_wi (by omega) (by omega)] at e155
              clear a155 b155
              intro v156 e156 a156 b156
              rw [pz_wi (by omega) (by omega)] at e156
              clear a156 b156
              intro v158 e158 a158 b158
              rw [pz_wi (by omega) (by omega)] at e158
              clear a158 b158
              refine And.intro (by omega) (And.intro (show _ < (1725 : Int) from by omega) ?_)
              intro v159 e159 a159 b159
              refine And.intro rfl ?_
              exact ⟨trivial, hS⟩
        refine And.intro (fun h13 => ?_) ?_
        · skip
          refine And.intro (True.intro) ?_
          intro v130 M130 a130 b130 q130
          obtain ⟨q130, z130⟩ := q130
          subst z130
          clear a130 b130
          refine And.intro (fun h133 => ?_) (fun h133 => ?_)
          · skip
            replace q130 := q130.resolve_left (fun z => absurd (z.1.symm.trans h133) (by decide))
            clear h133
            refine And.intro rfl ?_
            exact ⟨trivial, hS⟩
          · skip
            replace q130 := q130.resolve_right (fun z => h133 z.1)
            clear h133
            refine pz_nrc (c := 60) rfl ?_
            refine And.intro (fun h145 => ?_) (fun h145 => ?_)
            · skip
              intro v154 e154 a154 b154
              rw [pz_wi (by omega) (by omega)] at e154
              clear a154 b154
              intro v155 e155 a155 b155
              rw [pz_wi (by omega) (by omega)] at e155
              clear a155 b155
              intro v156 e156 a156 b156
              rw [pz_wi (by omega) (by omega)] at e156
              clear a156 b156
              intro v158 e158 a158 b158
              rw [pz_wi (by omega) (by omega)] at e158
              clear a158 b158
              refine And.intro (by omega) (And.intro (show _ < (1725 : Int) from by omega) ?_)
              intro v159 e159 a159 b159
              refine And.intro rfl ?_
              exact ⟨trivial, hS⟩
            · skip
              intro v155 e155 a155 b155
              rw [pz_wi (by omega) (by omega)] at e155
              clear a155 b155
              intro v156 e156 a156 b156
              rw [pz_wi (by omega) (by omega)] at e156
              clear a156 b156
              intro v158 e158 a158 b158
              rw [pz_wi (by omega) (by omega)] at e158
              clear a158 b158
              refine And.intro (by omega) (And.intro (show _ < (1725 : Int) from by omega) ?_)
              intro v159 e159 a159 b159
              refine And.intro rfl ?_
              exact ⟨trivial, hS⟩
        refine And.intro (fun h13 => ?_) ?_
        · skip
          refine And.intro (True.intro) ?_
          intro v130 M130 a130 b130 q130
          obtain ⟨q130, z130⟩ := q130
          subst z130
          clear a130 b130
          refine And.intro (fun h133 => ?_) (fun h133 => ?_)
          · skip
            replace q130 := q130.resolve_left (fun z => absurd (z.1.symm.trans h133) (by decide))
            clear h133
            refine And.intro rfl ?_
            exact ⟨trivial, hS⟩
          · skip
            replace q130 := q130.resolve_right (fun z => h133 z.1)
            clear h133
            refine pz_nrc (c := 60) rfl ?_
            refine And.intro (fun h145 => ?_) (fun h145 => ?_)
            · skip
              intro v154 e154 a154 b154
              rw [pz_wi (by omega) (by omega)] at e154
              clear a154 b154
              intro v155 e155 a155 b155
              rw [pz_wi (by omega) (by omega)] at e155
              clear a155 b155
              intro v156 e156 a156 b156
              rw [pz_wi (by omega) (by omega)] at e156
              clear a156 b156
              intro v158 e158 a158 b158
              rw [pz_wi (by omega) (by omega)] at e158
              clear a158 b158
              refine And.intro (by omega) (And.intro (show _ < (1725 : Int) from by omega) ?_)
              intro v159 e159 a159 b159
              refine And.intro rfl ?_
              exact ⟨trivial, hS⟩
            · skip
              intro v155 e155 a155 b155
              rw [pz_wi (by omega) (by omega)] at e155
              clear a155 b155
              intro v156 e156 a156 b156
              rw [pz_wi (by omega) (by omega)] at e156
              clear a156 b156
              intro v158 e158 a158 b158
              rw [pz_wi (by omega) (by omega)] at e158
              clear a158 b158
              refine And.intro (by omega) (And.intro (show _ < (1725 : Int) from by omega) ?_)
              intro v159 e159 a159 b159
              refine And.intro rfl ?_
              exact ⟨trivial, hS⟩
        refine And.intro (fun h13 => ?_) ?_
        · skip
          refine And.intro (And.intro hI (And.intro (by omega) (by omega))) ?_
          intro v84 M84 a84 b84 q84
          obtain ⟨q84, z84⟩ := q84
          have hS : pz_sm M M84 := hS.tr z84
          have hI : pz_im M84 := hS.1.1.1 hI0
          refine And.intro rfl ?_
          exact ⟨trivial, hS⟩
        refine And.intro (fun h13 => ?_) ?_
        · skip
          refine And.intro (And.intro hI (And.intro (by omega) (by omega))) ?_
          intro v90 M90 a90 b90 q90
          obtain ⟨q90, z90⟩ := q90
          have hS : pz_sm M M90 := hS.tr z90
          have hI : pz_im M90 := hS.1.1.1 hI0
          refine And.intro rfl ?_
          exact ⟨trivial, hS⟩
        refine And.intro (fun h13 => ?_) ?_
        · skip
          refine And.intro (And.intro hI (And.intro (by omega) (by omega))) ?_
          intro v96 M96 a96 b96 q96
          obtain ⟨q96, z96⟩ := q96
          have hS : pz_sm M M96 := hS.tr z96
          have hI : pz_im M96 := hS.1.1.1 hI0
          refine And.intro rfl ?_
          exact ⟨trivial, hS⟩
        refine And.intro (fun h13 => ?_) ?_
        · skip
          refine And.intro (And.intro hI (And.intro (by omega) (by omega))) ?_
          intro v102 M102 a102 b102 q102
          obtain ⟨q102, z102⟩ := q102
          have hS : pz_sm M M102 := hS.tr z102
          have hI : pz_im M102 := hS.1.1.1 hI0
          refine And.intro rfl ?_
          exact ⟨trivial, hS⟩
        refine And.intro (fun h13 => ?_) ?_
        · skip
          refine And.intro (And.intro hI (And.intro (by omega) (by omega))) ?_
          intro v108 M108 a108 b108 q108
          obtain ⟨q108, z108⟩ := q108
          subst z108
          clear a108 b108
          refine And.intro (fun h111 => ?_) (fun h111 => ?_)
          · skip
            clear h111 q108
            refine And.intro rfl ?_
            exact ⟨trivial, hS⟩
          · skip
            clear h111 q108
            refine And.intro rfl ?_
            exact ⟨trivial, hS⟩
        refine And.intro (fun h13 => ?_) ?_
        · skip
          refine And.intro (And.intro hI (And.intro (by omega) (by omega))) ?_
          intro v122 M122 a122 b122 q122
          obtain ⟨q122, z122⟩ := q122
          subst z122
          refine And.intro rfl ?_
          exact ⟨trivial, hS⟩
        exact True.intro
      · intro h13
        refine And.intro (True.intro) ?_
        intro v130 M130 a130 b130 q130
        obtain ⟨q130, z130⟩ := q130
        subst z130
        clear a130 b130
        refine And.intro (fun h133 => ?_) (fun h133 => ?_)
        · skip
          replace q130 := q130.resolve_left (fun z => absurd (z.1.symm.trans h133) (by decide))
          clear h133
          refine And.intro rfl ?_
          exact ⟨trivial, hS⟩
        · skip
          replace q130 := q130.resolve_right (fun z => h133 z.1)
          clear h133
          refine pz_nrc (c := 60) rfl ?_
          refine And.intro (fun h145 => ?_) (fun h145 => ?_)
          · skip
            intro v154 e154 a154 b154
            rw [pz_wi (by omega) (by omega)] at e154
            clear a154 b154
            intro v155 e155 a155 b155
            rw [pz_wi (by omega) (by omega)] at e155
            clear a155 b155
            intro v156 e156 a156 b156
            rw [pz_wi (by omega) (by omega)] at e156
            clear a156 b156
            intro v158 e158 a158 b158
            rw [pz_wi (by omega) (by omega)] at e158
            clear a158 b158
            refine And.intro (by omega) (And.intro (show _ < (1725 : Int) from by omega) ?_)
            intro v159 e159 a159 b159
            refine And.intro rfl ?_
            exact ⟨trivial, hS⟩
          · skip
            intro v155 e155 a155 b155
            rw [pz_wi (by omega) (by omega)] at e155
            clear a155 b155
            intro v156 e156 a156 b156
            rw [pz_wi (by omega) (by omega)] at e156
            clear a156 b156
            intro v158 e158 a158 b158
            rw [pz_wi (by omega) (by omega)] at e158
            clear a158 b158
            refine And.intro (by omega) (And.intro (show _ < (1725 : Int) from by omega) ?_)
            intro v159 e159 a159 b159
            refine And.intro rfl ?_
            exact ⟨trivial, hS⟩
    · skip
      replace q2 := q2.resolve_left (fun z => absurd (z.1.symm.trans h5) (by decide))
      clear h5
      refine And.intro rfl ?_
      exact ⟨trivial, hS⟩
theorem v_X12_of {fr lo i : Nat} {own : String} (h1 : 5 + 1 ≤ fr) (h2 : 8 + (3 + 11) + 116 ≤ lo) (h3 : .methodLink own i yX12_of ∈ lw_tbl) : pz_cV fr lo own i k_X12_of :=
  pz_cVk (maxL := 3) (fr' := 5) (lo' := 116) 2 12 h_X12_of rfl ⟨by decide +kernel, by decide +kernel, by decide +kernel⟩ ⟨(pz_mt 1584 (by decide +kernel)), (pz_mt 1582 (by decide +kernel)), (pz_mt 1583 (by decide +kernel)), (pz_mt 13 (by decide +kernel))⟩ (Or.inl ⟨TX12, 28, rfl⟩) (fun a M _ h => by
    have h : (match (generalizing := false) a with | [.inr (.inr (12, th)), .inl i, .inl n] => pz_im M | _ => False) := h
    split at h
    · exact ⟨_, _, rfl⟩
    · exact h.elim) h1 h2 h3
def k_X12_recordsOf : pz_C := (4, 1, fun a M => (match a with | [.inr (.inr (12, th)), .inl i, .inl x, .inl y] => pz_im M | _ => False), fun a M r M' => (match a, r with | [.inr (.inr (12, th)), .inl i, .inl x, .inl y], some (.inl v) => (v = pz_rcd (pz_gmr M) i x y (M 60 92).toNat) ∧ M = M' | _, _ => False))
abbrev ct_X12_recordsOf : List (Bool × Nat × pz_C) := [(false, 54, k_X12_isIn)]
set_option maxRecDepth 100000 in
set_option maxHeartbeats 4000000 in
theorem h_X12_recordsOf : pz_H yX12_recordsOf cX12_recordsOf 6 (some .int) k_X12_recordsOf 1 22 := by
  refine pz_mk (own := RX12) (tb := t_X12_recordsOf) (fl := pz_flf fl_RX12) (ci := pz_cif ci_RX12) (ct := pz_ctf ct_X12_recordsOf) (rz := false) (by decide +kernel) rfl t_X12_recordsOf_ok (pz_flk fl_RX12_ok) (pz_cik ci_RX12_ok) ?_ ?_ (Or.inl ⟨rfl, rfl⟩) ?_ ?_
  · exact fun i k' h => pz_ctk (l := ct_X12_recordsOf) (P := fun b i k => b = true → pz_cV 1 22 RX12 i k) (List.forall_mem_cons.mpr ⟨((fun z => by cases z)), fun _ h => absurd h List.not_mem_nil⟩) true i k' h rfl
  · exact fun i k' h => pz_ctk (l := ct_X12_recordsOf) (P := fun b i k => b = false → (pz_cS 1 22 RX12 i k ∨ (k = pz_kac ∧ 1 ≤ 1 ∧ 60 ≤ 22 ∧ Cond.methodLink RX12 i arraycopyName ∈ pz_tbl))) (List.forall_mem_cons.mpr ⟨(fun _ => Or.inl (s_X12_isIn (by decide) (by decide) (Or.inl (pz_mt 1217 (by decide +kernel))))), fun _ h => absurd h List.not_mem_nil⟩) false i k' h rfl
  · intro a M hlen hpre
    obtain ⟨th, i, x, y, rfl, hpre⟩ : ∃ th i x y, a = [.inr (.inr (12, th)), .inl i, .inl x, .inl y] ∧ (pz_im M) := by
      have hpre : (match (generalizing := false) a with | [.inr (.inr (12, th)), .inl i, .inl x, .inl y] => pz_im M | _ => False) := hpre
      split at hpre
      · exact ⟨_, _, _, _, rfl, hpre⟩
      · exact hpre.elim
    exact Nat.le_of_ble_eq_true rfl
  · intro a M hlen hcan hM hpre Ok hgo
    obtain ⟨th, i, x, y, rfl, hpre⟩ : ∃ th i x y, a = [.inr (.inr (12, th)), .inl i, .inl x, .inl y] ∧ (pz_im M) := by
      have hpre : (match (generalizing := false) a with | [.inr (.inr (12, th)), .inl i, .inl x, .inl y] => pz_im M | _ => False) := hpre
      split at hpre
      · exact ⟨_, _, _, _, rfl, hpre⟩
      · exact hpre.elim
    obtain ⟨k_th, hc_th⟩ := pz_tlm hcan
    have k_th : pz_kd th = 12 ∧ th < 231 := k_th
    have R_th := pz_kd12 k_th.1
    subst R_th
    clear k_th
    obtain ⟨k_i, hc_i⟩ := pz_tlm hc_th
    have l_i : -2147483648 ≤ i := k_i.1
    have u_i : i ≤ 2147483647 := k_i.2
    obtain ⟨k_x, hc_x⟩ := pz_tlm hc_i
    have l_x : -2147483648 ≤ x := k_x.1
    have u_x : x ≤ 2147483647 := k_x.2
    obtain ⟨k_y, hc_y⟩ := pz_tlm hc_x
    have l_y : -2147483648 ≤ y := k_y.1
    have u_y : y ≤ 2147483647 := k_y.2
    have hI : pz_im M := hpre
    have I92 := hI.1.2.2.2.1
    have L6 : ∀ (fu : Nat) (x4 : Int) (x5 : Int), (16 - x5).toNat < fu → (0 ≤ x5) → (x5 ≤ 16) → (x5 ≤ M 60 92) → (0 ≤ x4) → (x4 ≤ x5) → (x4 ≤ 16) → (x4 = pz_rcd (pz_gmr M) i x y x5.toNat) → Ok 6 [some (.inr (.inr (12, 1))), some (.inl i), some (.inl x), some (.inl y), some (.inl x4), some (.inl x5)] [] M := by
      intro fu
      induction fu with
      | zero => exact fun _ _ hn => absurd hn (Nat.not_lt_zero _)
      | succ fu ih6 =>
        intro x4 x5 hn6 g6_0 g6_1 g6_2 g6_3 g6_4 g6_5 g6_6
        have L65 : ∀ (x4 : Int) (x5 : Int) (s0 : Int) (s1 : Int), (0 ≤ x5) → (x5 < 16) → ((16 - x5).toNat < fu + 1) → (x5 < M 60 92) → (0 ≤ s0) → (s0 ≤ x5) → (s0 ≤ 16) → (0 ≤ s1) → (s1 ≤ 1) → (s0 = pz_rcd (pz_gmr M) i x y x5.toNat) → (s1 = (if pz_gmr M x5.toNat 1 = i ∧ x ≤ pz_gmr M x5.toNat 0 ∧ pz_gmr M x5.toNat 0 ≤ y then 1 else 0)) → Ok 65 [some (.inr (.inr (12, 1))), some (.inl i), some (.inl x), some (.inl y), some (.inl x4), some (.inl x5)] [.inl s1, .inl s0] M := by
          intro x4 x5 s0 s1 g65_0 g65_1 g65_2 g65_3 g65_4 g65_5 g65_6 g65_7 g65_8 g65_9 g65_10
          refine hgo (fun p => Nat.beq p 6 || Nat.beq p 65) 46 65 _ _ _ ?_
          intro v65 e65 a65 b65
          rw [pz_wi (by omega) (by omega)] at e65
          clear a65 b65
          intro v68 e68 a68 b68
          rw [pz_wi (by omega) (by omega)] at e68
          have G68 : v65 = pz_rcd (pz_gmr M) i x y v68.toNat := by
            rw [show v68.toNat = x5.toNat + 1 by omega]
            show v65 = pz_rcd (pz_gmr M) i x y x5.toNat + (if pz_gmr M x5.toNat 1 = i ∧ x ≤ pz_gmr M x5.toNat 0 ∧ pz_gmr M x5.toNat 0 ≤ y then 1 else 0)
            rw [← g65_9, ← g65_10]
            omega
          exact ih6 _ _ (by omega) (by first | omega | assumption | rfl) (by first | omega | assumption | rfl) (by first | omega | assumption | rfl) (by first | omega | assumption | rfl) (by first | omega | assumption | rfl) (by first | omega | assumption | rfl) (by first | omega | assumption | rfl)
        refine hgo (fun p => Nat.beq p 6 || Nat.beq p 65) 46 6 _ _ _ ?_
        refine pz_nrc (c := 60) rfl ?_
        refine And.intro (by omega) (And.intro (show _ < (1725 : Int) from by omega) ?_)
        intro v14 e14 a14 b14
        replace e14 : v14 = M 60 92 := e14
        have I14 : 0 ≤ v14 ∧ v14 ≤ 16 := by
          rw [e14]
          exact hI.1.2.2.2.1
        clear a14 b14
        refine And.intro (fun h15 => ?_) (fun h15 => ?_)
        · skip
          refine And.intro rfl ?_
          exact ⟨by rw [show (M 60 92).toNat = x5.toNat by omega]; exact g6_6, rfl⟩
        · skip
          refine pz_nrc (c := 60) rfl ?_
          intro v30 e30 a30 b30
          rw [pz_wi (by omega) (by omega)] at e30
          clear a30 b30
          intro v31 e31 a31 b31
          rw [pz_wi (by omega) (by omega)] at e31
          clear a31 b31
          intro v33 e33 a33 b33
          rw [pz_wi (by omega) (by omega)] at e33
          clear a33 b33
          refine And.intro (by omega) (And.intro (show _ < (1725 : Int) from by omega) ?_)
          intro v34 e34 a34 b34
          have Q34 : v34 = pz_gmr M x5.toNat 1 := by
            rw [e34, show v33.toNat = 209 + (2 * x5.toNat + 1) by omega]
            rfl
          refine And.intro (fun h36 => ?_) (fun h36 => ?_)
          · skip
            exact L65 _ _ _ _ (by first | omega | assumption | (rw [if_pos ⟨by omega, by omega, by omega⟩]) | (rw [if_neg (by omega)])) (by first | omega | assumption | (rw [if_pos ⟨by omega, by omega, by omega⟩]) | (rw [if_neg (by omega)])) (by first | omega | assumption | (rw [if_pos ⟨by omega, by omega, by omega⟩]) | (rw [if_neg (by omega)])) (by first | omega | assumption | (rw [if_pos ⟨by omega, by omega, by omega⟩]) | (rw [if_neg (by omega)])) (by first | omega | assumption | (rw [if_pos ⟨by omega, by omega, by omega⟩]) | (rw [if_neg (by omega)])) (by first | omega | assumption | (rw [if_pos ⟨by omega, by omega, by omega⟩]) | (rw [if_neg (by omega)])) (by first | omega | assumption | (rw [if_pos ⟨by omega, by omega, by omega⟩]) | (rw [if_neg (by omega)])) (by first | omega | assumption | (rw [if_pos ⟨by omega, by omega, by omega⟩]) | (rw [if_neg (by omega)])) (by first | omega | assumption | (rw [if_pos ⟨by omega, by omega, by omega⟩]) | (rw [if_neg (by omega)])) (by first | omega | assumption | (rw [if_pos ⟨by omega, by omega, by omega⟩]) | (rw [if_neg (by omega)])) (by first | omega | assumption | (rw [if_pos ⟨by omega, by omega, by omega⟩]) | (rw [if_neg (by omega)]))
          · skip
            refine pz_nrc (c := 60) rfl ?_
            intro v49 e49 a49 b49
            rw [pz_wi (by omega) (by omega)] at e49
            clear a49 b49
            intro v50 e50 a50 b50
            rw [pz_wi (by omega) (by omega)] at e50
            clear a50 b50
            refine And.intro (by omega) (And.intro (show _ < (1725 : Int) from by omega) ?_)
            intro v51 e51 a51 b51
            have Q51 : v51 = pz_gmr M x5.toNat 0 := by
              rw [e51, show v50.toNat = 209 + (2 * x5.toNat + 0) by omega]
              rfl
            refine And.intro (True.intro) ?_
            intro v54 M54 a54 b54 q54
            obtain ⟨q54, z54⟩ := q54
            subst z54
            clear a54 b54
            refine And.intro (fun h57 => ?_) (fun h57 => ?_)
            · skip
              replace q54 := q54.resolve_left (fun z => absurd (z.1.symm.trans h57) (by decide))
              clear h57
              exact L65 _ _ _ _ (by first | omega | assumption | (rw [if_pos ⟨by omega, by omega, by omega⟩]) | (rw [if_neg (by omega)])) (by first | omega | assumption | (rw [if_pos ⟨by omega, by omega, by omega⟩]) | (rw [if_neg (by omega)])) (by first | omega | assumption | (rw [if_pos ⟨by omega, by omega, by omega⟩]) | (rw [if_neg (by omega)])) (by first | omega | assumption | (rw [if_pos ⟨by omega, by omega, by omega⟩]) | (rw [if_neg (by omega)])) (by first | omega | assumption | (rw [if_pos ⟨by omega, by omega, by omega⟩]) | (rw [if_neg (by omega)])) (by first | omega | assumption | (rw [if_pos ⟨by omega, by omega, by omega⟩]) | (rw [if_neg (by omega)])) (by first | omega | assumption | (rw [if_pos ⟨by omega, by omega, by omega⟩]) | (rw [if_neg (by omega)])) (by first | omega | assumption | (rw [if_pos ⟨by omega, by omega, by omega⟩]) | (rw [if_neg (by omega)])) (by first | omega | assumption | (rw [if_pos ⟨by omega, by omega, by omega⟩]) | (rw [if_neg (by omega)])) (by first | omega | assumption | (rw [if_pos ⟨by omega, by omega, by omega⟩]) | (rw [if_neg (by omega)])) (by first | omega | assumption | (rw [if_pos ⟨by omega, by omega, by omega⟩]) | (rw [if_neg (by omega)]))
            · skip
              replace q54 := q54.resolve_right (fun z => h57 z.1)
              clear h57
              exact L65 _ _ _ _ (by first | omega | assumption | (rw [if_pos ⟨by omega, by omega, by omega⟩]) | (rw [if_neg (by omega)])) (by first | omega | assumption | (rw [if_pos ⟨by omega, by omega, by omega⟩]) | (rw [if_neg (by omega)])) (by first | omega | assumption | (rw [if_pos ⟨by omega, by omega, by omega⟩]) | (rw [if_neg (by omega)])) (by first | omega | assumption | (rw [if_pos ⟨by omega, by omega, by omega⟩]) | (rw [if_neg (by omega)])) (by first | omega | assumption | (rw [if_pos ⟨by omega, by omega, by omega⟩]) | (rw [if_neg (by omega)])) (by first | omega | assumption | (rw [if_pos ⟨by omega, by omega, by omega⟩]) | (rw [if_neg (by omega)])) (by first | omega | assumption | (rw [if_pos ⟨by omega, by omega, by omega⟩]) | (rw [if_neg (by omega)])) (by first | omega | assumption | (rw [if_pos ⟨by omega, by omega, by omega⟩]) | (rw [if_neg (by omega)])) (by first | omega | assumption | (rw [if_pos ⟨by omega, by omega, by omega⟩]) | (rw [if_neg (by omega)])) (by first | omega | assumption | (rw [if_pos ⟨by omega, by omega, by omega⟩]) | (rw [if_neg (by omega)])) (by first | omega | assumption | (rw [if_pos ⟨by omega, by omega, by omega⟩]) | (rw [if_neg (by omega)]))
    refine hgo (fun p => Nat.beq p 6 || Nat.beq p 65) 46 0 _ [] M ?_
    exact L6 _ _ _ (Nat.lt_succ_self _) (by first | omega | assumption | rfl) (by first | omega | assumption | rfl) (by first | omega | assumption | rfl) (by first | omega | assumption | rfl) (by first | omega | assumption | rfl) (by first | omega | assumption | rfl) (by first | omega | assumption | rfl)
theorem v_X12_recordsOf {fr lo i : Nat} {own : String} (h1 : 1 + 1 ≤ fr) (h2 : 8 + (6 + 11) + 22 ≤ lo) (h3 : .methodLink own i yX12_recordsOf ∈ lw_tbl) : pz_cV fr lo own i k_X12_recordsOf :=
  pz_cVk (maxL := 6) (fr' := 1) (lo' := 22) 3 12 h_X12_recordsOf rfl ⟨by decide +kernel, by decide +kernel, by decide +kernel⟩ ⟨(pz_mt 1593 (by decide +kernel)), (pz_mt 1592 (by decide +kernel)), (pz_ms 71 (by decide +kernel)), (pz_mt 13 (by decide +kernel))⟩ (Or.inl ⟨TX12, 28, rfl⟩) (fun a M _ h => by
    have h : (match (generalizing := false) a with | [.inr (.inr (12, th)), .inl i, .inl x, .inl y] => pz_im M | _ => False) := h
    split at h
    · exact ⟨_, _, rfl⟩
    · exact h.elim) h1 h2 h3
def k_X12_phone : pz_C := (3, 1, fun a M => (match a with | [.inr (.inr (12, th)), .inl i, .inl n] => pz_im M | _ => False), fun a M r M' => (match a, r with | [.inr (.inr (12, th)), .inl i, .inl n], some (.inl v) => (pz_pn2 M i n v) ∧ M = M' | _, _ => False))
abbrev ct_X12_phone : List (Bool × Nat × pz_C) := [(true, 58, k_X12_isLink), (false, 54, k_X12_isIn), (true, 392, k_X12_recordsOf)]
set_option maxRecDepth 100000 in
set_option maxHeartbeats 4000000 in
theorem h_X12_phone : pz_H yX12_phone cX12_phone 3 (some .int) k_X12_phone 2 47 := by
  refine pz_mk (own := RX12) (tb := t_X12_phone) (fl := pz_flf fl_RX12) (ci := pz_cif ci_RX12) (ct := pz_ctf ct_X12_phone) (rz := false) (by decide +kernel) rfl t_X12_phone_ok (pz_flk fl_RX12_ok) (pz_cik ci_RX12_ok) ?_ ?_ (Or.inl ⟨rfl, rfl⟩) ?_ ?_
  · exact fun i k' h => pz_ctk (l := ct_X12_phone) (P := fun b i k => b = true → pz_cV 2 47 RX12 i k) (List.forall_mem_cons.mpr ⟨(fun _ => v_X12_isLink (by decide) (by decide) (pz_mt 1224 (by decide +kernel))), List.forall_mem_cons.mpr ⟨((fun z => by cases z)), List.forall_mem_cons.mpr ⟨(fun _ => v_X12_recordsOf (by decide) (by decide) (pz_mt 1590 (by decide +kernel))), fun _ h => absurd h List.not_mem_nil⟩⟩⟩) true i k' h rfl
  · exact fun i k' h => pz_ctk (l := ct_X12_phone) (P := fun b i k => b = false → (pz_cS 2 47 RX12 i k ∨ (k = pz_kac ∧ 1 ≤ 2 ∧ 60 ≤ 47 ∧ Cond.methodLink RX12 i arraycopyName ∈ pz_tbl))) (List.forall_mem_cons.mpr ⟨((fun z => by cases z)), List.forall_mem_cons.mpr ⟨(fun _ => Or.inl (s_X12_isIn (by decide) (by decide) (Or.inl (pz_mt 1217 (by decide +kernel))))), List.forall_mem_cons.mpr ⟨((fun z => by cases z)), fun _ h => absurd h List.not_mem_nil⟩⟩⟩) false i k' h rfl
  · intro a M hlen hpre
    obtain ⟨th, i, n, rfl, hpre⟩ : ∃ th i n, a = [.inr (.inr (12, th)), .inl i, .inl n] ∧ (pz_im M) := by
      have hpre : (match (generalizing := false) a with | [.inr (.inr (12, th)), .inl i, .inl n] => pz_im M | _ => False) := hpre
      split at hpre
      · exact ⟨_, _, _, rfl, hpre⟩
      · exact hpre.elim
    exact Nat.le_of_ble_eq_true rfl
  · intro a M hlen hcan hM hpre Ok hgo
    obtain ⟨th, i, n, rfl, hpre⟩ : ∃ th i n, a = [.inr (.inr (12, th)), .inl i, .inl n] ∧ (pz_im M) := by
      have hpre : (match (generalizing := false) a with | [.inr (.inr (12, th)), .inl i, .inl n] => pz_im M | _ => False) := hpre
      split at hpre
      · exact ⟨_, _, _, rfl, hpre⟩
      · exact hpre.elim
    obtain ⟨k_th, hc_th⟩ := pz_tlm hcan
    have k_th : pz_kd th = 12 ∧ th < 231 := k_th
    have R_th := pz_kd12 k_th.1
    subst R_th
    clear k_th
    obtain ⟨k_i, hc_i⟩ := pz_tlm hc_th
    have l_i : -2147483648 ≤ i := k_i.1
    have u_i : i ≤ 2147483647 := k_i.2
    obtain ⟨k_n, hc_n⟩ := pz_tlm hc_i
    have l_n : -2147483648 ≤ n := k_n.1
    have u_n : n ≤ 2147483647 := k_n.2
    have hI : pz_im M := hpre
    refine hgo (fun _ => false) 33 0 _ [] M ?_
    refine And.intro (hI) ?_
    intro v2 M2 a2 b2 q2
    obtain ⟨q2, z2⟩ := q2
    subst z2
    clear a2 b2
    refine And.intro (fun h5 => ?_) (fun h5 => ?_)
    · skip
      replace q2 := q2.resolve_left (fun z => absurd (z.1.symm.trans h5) (by decide))
      clear h5
      refine And.intro rfl ?_
      exact ⟨⟨fun _ => rfl, fun y => ⟨fun z => by omega, fun z => by omega, fun z => by omega, fun _ => rfl⟩⟩, rfl⟩
    · skip
      replace q2 := q2.resolve_right (fun z => h5 z.1)
      clear h5
      refine And.intro (True.intro) ?_
      intro v11 M11 a11 b11 q11
      obtain ⟨q11, z11⟩ := q11
      subst z11
      clear a11 b11
      refine And.intro (fun h14 => ?_) (fun h14 => ?_)
      · skip
        replace q11 := q11.resolve_right (fun z => h14 z.1)
        clear h14
        refine And.intro (fun h21 => ?_) (fun h21 => ?_)
        · skip
          replace h21 : n ≤ 1 := by omega
          refine pz_nrc (c := 60) rfl ?_
          intro v44 e44 a44 b44
          rw [pz_wi (by omega) (by omega)] at e44
          clear a44 b44
          intro v45 e45 a45 b45
          rw [pz_wi (by omega) (by omega)] at e45
          clear a45 b45
          intro v47 e47 a47 b47
          rw [pz_wi (by omega) (by omega)] at e47
          clear a47 b47
          refine And.intro (by omega) (And.intro (show _ < (1725 : Int) from by omega) ?_)
          intro v48 e48 a48 b48
          refine And.intro rfl ?_
          first
            | exact ⟨⟨fun y => absurd ⟨by omega, by omega⟩ y, fun _ => ⟨fun z => absurd z (by omega), fun z => absurd z (by omega), fun _ => q30, fun z => absurd ⟨by omega, by omega⟩ z⟩⟩, rfl⟩
            | exact ⟨⟨fun y => absurd ⟨by omega, by omega⟩ y, fun _ => ⟨fun z => by rw [e48, show v47.toNat = 105 + 2 * i.toNat by omega], fun z => by rw [e48, show v47.toNat = 106 + 2 * i.toNat by omega], fun z => absurd z (by omega), fun z => absurd ⟨by omega, by omega⟩ z⟩⟩, rfl⟩
        · skip
          refine And.intro (hI) ?_
          intro v30 M30 a30 b30 q30
          obtain ⟨q30, z30⟩ := q30
          subst z30
          refine And.intro rfl ?_
          first
            | exact ⟨⟨fun y => absurd ⟨by omega, by omega⟩ y, fun _ => ⟨fun z => absurd z (by omega), fun z => absurd z (by omega), fun _ => q30, fun z => absurd ⟨by omega, by omega⟩ z⟩⟩, rfl⟩
            | exact ⟨⟨fun y => absurd ⟨by omega, by omega⟩ y, fun _ => ⟨fun z => by rw [e48, show v47.toNat = 105 + 2 * i.toNat by omega], fun z => by rw [e48, show v47.toNat = 106 + 2 * i.toNat by omega], fun z => absurd z (by omega), fun z => absurd ⟨by omega, by omega⟩ z⟩⟩, rfl⟩
      · skip
        replace q11 := q11.resolve_left (fun z => absurd (z.1.symm.trans h14) (by decide))
        clear h14
        refine And.intro rfl ?_
        exact ⟨⟨fun _ => rfl, fun y => ⟨fun z => by omega, fun z => by omega, fun z => by omega, fun _ => rfl⟩⟩, rfl⟩
theorem v_X12_phone {fr lo i : Nat} {own : String} (h1 : 2 + 1 ≤ fr) (h2 : 8 + (3 + 11) + 47 ≤ lo) (h3 : .methodLink own i yX12_phone ∈ lw_tbl) : pz_cV fr lo own i k_X12_phone :=
  pz_cVk (maxL := 3) (fr' := 2) (lo' := 47) 2 12 h_X12_phone rfl ⟨by decide +kernel, by decide +kernel, by decide +kernel⟩ ⟨(pz_mt 1589 (by decide +kernel)), (pz_mt 1587 (by decide +kernel)), (pz_mt 1588 (by decide +kernel)), (pz_mt 13 (by decide +kernel))⟩ (Or.inl ⟨TX12, 28, rfl⟩) (fun a M _ h => by
    have h : (match (generalizing := false) a with | [.inr (.inr (12, th)), .inl i, .inl n] => pz_im M | _ => False) := h
    split at h
    · exact ⟨_, _, rfl⟩
    · exact h.elim) h1 h2 h3
def k_X12_book : pz_C := (3, 1, fun a M => (match a with | [.inr (.inr (12, th)), .inl i, .inl n] => pz_im M | _ => False), fun a M r M' => (match a, r with | [.inr (.inr (12, th)), .inl i, .inl n], some (.inl v) => (True) ∧ M = M' | _, _ => False))
abbrev ct_X12_book : List (Bool × Nat × pz_C) := [(false, 54, k_X12_isIn)]
set_option maxRecDepth 100000 in
set_option maxHeartbeats 4000000 in
theorem h_X12_book : pz_H yX12_book cX12_book 3 (some .int) k_X12_book 1 22 := by
  refine pz_mk (own := RX12) (tb := t_X12_book) (fl := pz_flf fl_RX12) (ci := pz_cif ci_RX12) (ct := pz_ctf ct_X12_book) (rz := false) (by decide +kernel) rfl t_X12_book_ok (pz_flk fl_RX12_ok) (pz_cik ci_RX12_ok) ?_ ?_ (Or.inl ⟨rfl, rfl⟩) ?_ ?_
  · exact fun i k' h => pz_ctk (l := ct_X12_book) (P := fun b i k => b = true → pz_cV 1 22 RX12 i k) (List.forall_mem_cons.mpr ⟨((fun z => by cases z)), fun _ h => absurd h List.not_mem_nil⟩) true i k' h rfl
  · exact fun i k' h => pz_ctk (l := ct_X12_book) (P := fun b i k => b = false → (pz_cS 1 22 RX12 i k ∨ (k = pz_kac ∧ 1 ≤ 1 ∧ 60 ≤ 22 ∧ Cond.methodLink RX12 i arraycopyName ∈ pz_tbl))) (List.forall_mem_cons.mpr ⟨(fun _ => Or.inl (s_X12_isIn (by decide) (by decide) (Or.inl (pz_mt 1217 (by decide +kernel))))), fun _ h => absurd h List.not_mem_nil⟩) false i k' h rfl
  · intro a M hlen hpre
    obtain ⟨th, i, n, rfl, hpre⟩ : ∃ th i n, a = [.inr (.inr (12, th)), .inl i, .inl n] ∧ (pz_im M) := by
      have hpre : (match (generalizing := false) a with | [.inr (.inr (12, th)), .inl i, .inl n] => pz_im M | _ => False) := hpre
      split at hpre
      · exact ⟨_, _, _, rfl, hpre⟩
      · exact hpre.elim
    exact Nat.le_of_ble_eq_true rfl
  · intro a M hlen hcan hM hpre Ok hgo
    obtain ⟨th, i, n, rfl, hpre⟩ : ∃ th i n, a = [.inr (.inr (12, th)), .inl i, .inl n] ∧ (pz_im M) := by
      have hpre : (match (generalizing := false) a with | [.inr (.inr (12, th)), .inl i, .inl n] => pz_im M | _ => False) := hpre
      split at hpre
      · exact ⟨_, _, _, rfl, hpre⟩
      · exact hpre.elim
    obtain ⟨k_th, hc_th⟩ := pz_tlm hcan
    have k_th : pz_kd th = 12 ∧ th < 231 := k_th
    have R_th := pz_kd12 k_th.1
    subst R_th
    clear k_th
    obtain ⟨k_i, hc_i⟩ := pz_tlm hc_th
    have l_i : -2147483648 ≤ i := k_i.1
    have u_i : i ≤ 2147483647 := k_i.2
    obtain ⟨k_n, hc_n⟩ := pz_tlm hc_i
    have l_n : -2147483648 ≤ n := k_n.1
    have u_n : n ≤ 2147483647 := k_n.2
    have hI : pz_im M := hpre
    refine hgo (fun _ => false) 30 0 _ [] M ?_
    refine pz_nrc (c := 60) rfl ?_
    refine And.intro (by omega) (And.intro (show _ < (1725 : Int) from by omega) ?_)
    intro v7 e7 a7 b7
    replace e7 : v7 = M 60 3 := e7
    have I7 : 0 ≤ v7 ∧ v7 ≤ 150 := by
      rw [e7]
      exact hI.1.2.2.2.2
    clear a7 b7
    intro v9 e9 a9 b9
    rw [pz_wi (by omega) (by omega)] at e9
    clear a9 b9
    refine And.intro (True.intro) ?_
    intro v10 M10 a10 b10 q10
    obtain ⟨q10, z10⟩ := q10
    subst z10
    clear a10 b10
    refine And.intro (fun h13 => ?_) (fun h13 => ?_)
    · skip
      replace q10 := q10.resolve_left (fun z => absurd (z.1.symm.trans h13) (by decide))
      clear h13
      refine And.intro rfl ?_
      exact ⟨trivial, rfl⟩
    · skip
      replace q10 := q10.resolve_right (fun z => h13 z.1)
      clear h13
      refine And.intro (True.intro) ?_
      intro v19 M19 a19 b19 q19
      obtain ⟨q19, z19⟩ := q19
      subst z19
      clear a19 b19
      refine And.intro (fun h22 => ?_) (fun h22 => ?_)
      · skip
        replace q19 := q19.resolve_left (fun z => absurd (z.1.symm.trans h22) (by decide))
        clear h22
        refine And.intro rfl ?_
        exact ⟨trivial, rfl⟩
      · skip
        replace q19 := q19.resolve_right (fun z => h22 z.1)
        clear h22
        refine pz_nrc (c := 60) rfl ?_
        intro v34 e34 a34 b34
        rw [pz_wi (by omega) (by omega)] at e34
        clear a34 b34
        intro v35 e35 a35 b35
        rw [pz_wi (by omega) (by omega)] at e35
        clear a35 b35
        intro v37 e37 a37 b37
        rw [pz_wi (by omega) (by omega)] at e37
        clear a37 b37
        refine And.intro (by omega) (And.intro (show _ < (1725 : Int) from by omega) ?_)
        intro v38 e38 a38 b38
        refine And.intro rfl ?_
        exact ⟨trivial, rfl⟩
theorem v_X12_book {fr lo i : Nat} {own : String} (h1 : 1 + 1 ≤ fr) (h2 : 8 + (3 + 11) + 22 ≤ lo) (h3 : .methodLink own i yX12_book ∈ lw_tbl) : pz_cV fr lo own i k_X12_book :=
  pz_cVk (maxL := 3) (fr' := 1) (lo' := 22) 2 12 h_X12_book rfl ⟨by decide +kernel, by decide +kernel, by decide +kernel⟩ ⟨(pz_mt 1597 (by decide +kernel)), (pz_mt 1595 (by decide +kernel)), (pz_mt 1596 (by decide +kernel)), (pz_mt 13 (by decide +kernel))⟩ (Or.inl ⟨TX12, 28, rfl⟩) (fun a M _ h => by
    have h : (match (generalizing := false) a with | [.inr (.inr (12, th)), .inl i, .inl n] => pz_im M | _ => False) := h
    split at h
    · exact ⟨_, _, rfl⟩
    · exact h.elim) h1 h2 h3
def k_X12_movedOnes : pz_C := (1, 1, fun a M => (match a with | [.inr (.inr (12, th))] => pz_im M | _ => False), fun a M r M' => (match a, r with | [.inr (.inr (12, th))], some (.inl v) => (True) ∧ M = M' | _, _ => False))
abbrev ct_X12_movedOnes : List (Bool × Nat × pz_C) := [(true, 65, k_X12_hasMoved)]
set_option maxRecDepth 100000 in
set_option maxHeartbeats 4000000 in
theorem h_X12_movedOnes : pz_H yX12_movedOnes cX12_movedOnes 3 (some .int) k_X12_movedOnes 1 21 := by
  refine pz_mk (own := RX12) (tb := t_X12_movedOnes) (fl := pz_flf fl_RX12) (ci := pz_cif ci_RX12) (ct := pz_ctf ct_X12_movedOnes) (rz := false) (by decide +kernel) rfl t_X12_movedOnes_ok (pz_flk fl_RX12_ok) (pz_cik ci_RX12_ok) ?_ ?_ (Or.inl ⟨rfl, rfl⟩) ?_ ?_
  · exact fun i k' h => pz_ctk (l := ct_X12_movedOnes) (P := fun b i k => b = true → pz_cV 1 21 RX12 i k) (List.forall_mem_cons.mpr ⟨(fun _ => v_X12_hasMoved (by decide) (by decide) (pz_mt 1423 (by decide +kernel))), fun _ h => absurd h List.not_mem_nil⟩) true i k' h rfl
  · exact fun i k' h => pz_ctk (l := ct_X12_movedOnes) (P := fun b i k => b = false → (pz_cS 1 21 RX12 i k ∨ (k = pz_kac ∧ 1 ≤ 1 ∧ 60 ≤ 21 ∧ Cond.methodLink RX12 i arraycopyName ∈ pz_tbl))) (List.forall_mem_cons.mpr ⟨((fun z => by cases z)), fun _ h => absurd h List.not_mem_nil⟩) false i k' h rfl
  · intro a M hlen hpre
    obtain ⟨th, rfl, hpre⟩ : ∃ th, a = [.inr (.inr (12, th))] ∧ (pz_im M) := by
      have hpre : (match (generalizing := false) a with | [.inr (.inr (12, th))] => pz_im M | _ => False) := hpre
      split at hpre
      · exact ⟨_, rfl, hpre⟩
      · exact hpre.elim
    exact Nat.le_of_ble_eq_true rfl
  · intro a M hlen hcan hM hpre Ok hgo
    obtain ⟨th, rfl, hpre⟩ : ∃ th, a = [.inr (.inr (12, th))] ∧ (pz_im M) := by
      have hpre : (match (generalizing := false) a with | [.inr (.inr (12, th))] => pz_im M | _ => False) := hpre
      split at hpre
      · exact ⟨_, rfl, hpre⟩
      · exact hpre.elim
    obtain ⟨k_th, hc_th⟩ := pz_tlm hcan
    have k_th : pz_kd th = 12 ∧ th < 231 := k_th
    have R_th := pz_kd12 k_th.1
    subst R_th
    clear k_th
    have hI : pz_im M := hpre
    have L4 : ∀ (fu : Nat) (x1 : Int) (x2 : Int), (12 - x2).toNat < fu → (0 ≤ x2) → Ok 4 [some (.inr (.inr (12, 1))), some (.inl x1), some (.inl x2)] [] M := by
      intro fu
      induction fu with
      | zero => exact fun _ _ hn => absurd hn (Nat.not_lt_zero _)
      | succ fu ih4 =>
        intro x1 x2 hn4 g4_0
        have L31 : ∀ (x1 : Int) (x2 : Int) (s0 : Int) (s1 : Int), (0 ≤ x2) → (x2 < 12) → ((12 - x2).toNat < fu + 1) → Ok 31 [some (.inr (.inr (12, 1))), some (.inl x1), some (.inl x2)] [.inl s1, .inl s0] M := by
          intro x1 x2 s0 s1 g31_0 g31_1 g31_2
          refine hgo (fun p => Nat.beq p 4 || Nat.beq p 31) 28 31 _ _ _ ?_
          intro v31 e31 a31 b31
          intro v33 e33 a33 b33
          rw [pz_wi (by omega) (by omega)] at e33
          clear a33 b33
          exact ih4 _ _ (by omega) (by omega)
        refine hgo (fun p => Nat.beq p 4 || Nat.beq p 31) 28 4 _ _ _ ?_
        refine pz_nrc (c := 60) rfl ?_
        refine And.intro (by omega) (And.intro (show _ < (1725 : Int) from by omega) ?_)
        intro v11 e11 a11 b11
        replace e11 : v11 = M 60 88 := e11
        have I11 : 0 ≤ v11 ∧ v11 ≤ 12 := by
          rw [e11]
          exact hI.1.1
        clear a11 b11
        refine And.intro (fun h12 => ?_) (fun h12 => ?_)
        · skip
          refine And.intro rfl ?_
          exact ⟨trivial, rfl⟩
        · skip
          refine And.intro (And.intro hI (And.intro (by omega) (by omega))) ?_
          intro v18 M18 a18 b18 q18
          obtain ⟨q18, z18⟩ := q18
          subst z18
          clear a18 b18
          refine And.intro (fun h21 => ?_) (fun h21 => ?_)
          · skip
            clear h21 q18
            exact L31 _ _ _ _ (by omega) (by omega) (by omega)
          · skip
            clear h21 q18
            intro v26 e26 a26 b26
            exact L31 _ _ _ _ (by omega) (by omega) (by omega)
    refine hgo (fun p => Nat.beq p 4 || Nat.beq p 31) 28 0 _ [] M ?_
    exact L4 _ _ _ (Nat.lt_succ_self _) (by omega)
theorem v_X12_movedOnes {fr lo i : Nat} {own : String} (h1 : 1 + 1 ≤ fr) (h2 : 8 + (3 + 11) + 21 ≤ lo) (h3 : .methodLink own i yX12_movedOnes ∈ lw_tbl) : pz_cV fr lo own i k_X12_movedOnes :=
  pz_cVk (maxL := 3) (fr' := 1) (lo' := 21) 0 12 h_X12_movedOnes rfl ⟨by decide +kernel, by decide +kernel, by decide +kernel⟩ ⟨(pz_mt 1605 (by decide +kernel)), (pz_mt 1604 (by decide +kernel)), (pz_ms 72 (by decide +kernel)), (pz_mt 13 (by decide +kernel))⟩ (Or.inl ⟨TX12, 28, rfl⟩) (fun a M _ h => by
    have h : (match (generalizing := false) a with | [.inr (.inr (12, th))] => pz_im M | _ => False) := h
    split at h
    · exact ⟨_, _, rfl⟩
    · exact h.elim) h1 h2 h3
def k_X12_latestMoved : pz_C := (1, 1, fun a M => (match a with | [.inr (.inr (12, th))] => pz_im M | _ => False), fun a M r M' => (match a, r with | [.inr (.inr (12, th))], some (.inl v) => (True) ∧ M = M' | _, _ => False))
abbrev ct_X12_latestMoved : List (Bool × Nat × pz_C) := [(true, 65, k_X12_hasMoved), (false, 51, k_X12_greater)]
set_option maxRecDepth 100000 in
set_option maxHeartbeats 4000000 in
theorem h_X12_latestMoved : pz_H yX12_latestMoved cX12_latestMoved 3 (some .int) k_X12_latestMoved 1 21 := by
  refine pz_mk (own := RX12) (tb := t_X12_latestMoved) (fl := pz_flf fl_RX12) (ci := pz_cif ci_RX12) (ct := pz_ctf ct_X12_latestMoved) (rz := false) (by decide +kernel) rfl t_X12_latestMoved_ok (pz_flk fl_RX12_ok) (pz_cik ci_RX12_ok) ?_ ?_ (Or.inl ⟨rfl, rfl⟩) ?_ ?_
  · exact fun i k' h => pz_ctk (l := ct_X12_latestMoved) (P := fun b i k => b = true → pz_cV 1 21 RX12 i k) (List.forall_mem_cons.mpr ⟨(fun _ => v_X12_hasMoved (by decide) (by decide) (pz_mt 1423 (by decide +kernel))), List.forall_mem_cons.mpr ⟨((fun z => by cases z)), fun _ h => absurd h List.not_mem_nil⟩⟩) true i k' h rfl
  · exact fun i k' h => pz_ctk (l := ct_X12_latestMoved) (P := fun b i k => b = false → (pz_cS 1 21 RX12 i k ∨ (k = pz_kac ∧ 1 ≤ 1 ∧ 60 ≤ 21 ∧ Cond.methodLink RX12 i arraycopyName ∈ pz_tbl))) (List.forall_mem_cons.mpr ⟨((fun z => by cases z)), List.forall_mem_cons.mpr ⟨(fun _ => Or.inl (s_X12_greater (by decide) (by decide) (Or.inl (pz_mt 1447 (by decide +kernel))))), fun _ h => absurd h List.not_mem_nil⟩⟩) false i k' h rfl
  · intro a M hlen hpre
    obtain ⟨th, rfl, hpre⟩ : ∃ th, a = [.inr (.inr (12, th))] ∧ (pz_im M) := by
      have hpre : (match (generalizing := false) a with | [.inr (.inr (12, th))] => pz_im M | _ => False) := hpre
      split at hpre
      · exact ⟨_, rfl, hpre⟩
      · exact hpre.elim
    exact Nat.le_of_ble_eq_true rfl
  · intro a M hlen hcan hM hpre Ok hgo
    obtain ⟨th, rfl, hpre⟩ : ∃ th, a = [.inr (.inr (12, th))] ∧ (pz_im M) := by
      have hpre : (match (generalizing := false) a with | [.inr (.inr (12, th))] => pz_im M | _ => False) := hpre
      split at hpre
      · exact ⟨_, rfl, hpre⟩
      · exact hpre.elim
    obtain ⟨k_th, hc_th⟩ := pz_tlm hcan
    have k_th : pz_kd th = 12 ∧ th < 231 := k_th
    have R_th := pz_kd12 k_th.1
    subst R_th
    clear k_th
    have hI : pz_im M := hpre
    have L4 : ∀ (fu : Nat) (x1 : Int) (x2 : Int), (12 - x2).toNat < fu → (0 ≤ x2) → Ok 4 [some (.inr (.inr (12, 1))), some (.inl x1), some (.inl x2)] [] M := by
      intro fu
      induction fu with
      | zero => exact fun _ _ hn => absurd hn (Nat.not_lt_zero _)
      | succ fu ih4 =>
        intro x1 x2 hn4 g4_0
        refine hgo (fun p => Nat.beq p 4) 31 4 _ _ _ ?_
        refine pz_nrc (c := 60) rfl ?_
        refine And.intro (by omega) (And.intro (show _ < (1725 : Int) from by omega) ?_)
        intro v11 e11 a11 b11
        replace e11 : v11 = M 60 88 := e11
        have I11 : 0 ≤ v11 ∧ v11 ≤ 12 := by
          rw [e11]
          exact hI.1.1
        clear a11 b11
        refine And.intro (fun h12 => ?_) (fun h12 => ?_)
        · skip
          refine And.intro rfl ?_
          exact ⟨trivial, rfl⟩
        · skip
          refine And.intro (And.intro hI (And.intro (by omega) (by omega))) ?_
          intro v17 M17 a17 b17 q17
          obtain ⟨q17, z17⟩ := q17
          subst z17
          clear a17 b17
          refine And.intro (fun h20 => ?_) (fun h20 => ?_)
          · skip
            clear h20 q17
            refine pz_nrc (c := 60) rfl ?_
            intro v33 e33 a33 b33
            rw [pz_wi (by omega) (by omega)] at e33
            clear a33 b33
            refine And.intro (by omega) (And.intro (show _ < (1725 : Int) from by omega) ?_)
            intro v34 e34 a34 b34
            refine And.intro (True.intro) ?_
            intro v35 M35 a35 b35 q35
            obtain ⟨q35, z35⟩ := q35
            subst z35
            replace q35 : x1 ≤ v35 ∧ v34 ≤ v35 := by omega
            intro v39 e39 a39 b39
            rw [pz_wi (by omega) (by omega)] at e39
            clear a39 b39
            exact ih4 _ _ (by omega) (by omega)
          · skip
            clear h20 q17
            refine And.intro rfl ?_
            exact ⟨trivial, rfl⟩
    refine hgo (fun p => Nat.beq p 4) 31 0 _ [] M ?_
    exact L4 _ _ _ (Nat.lt_succ_self _) (by omega)
theorem v_X12_latestMoved {fr lo i : Nat} {own : String} (h1 : 1 + 1 ≤ fr) (h2 : 8 + (3 + 11) + 21 ≤ lo) (h3 : .methodLink own i yX12_latestMoved ∈ lw_tbl) : pz_cV fr lo own i k_X12_latestMoved :=
  pz_cVk (maxL := 3) (fr' := 1) (lo' := 21) 0 12 h_X12_latestMoved rfl ⟨by decide +kernel, by decide +kernel, by decide +kernel⟩ ⟨(pz_mt 1612 (by decide +kernel)), (pz_mt 1611 (by decide +kernel)), (pz_ms 73 (by decide +kernel)), (pz_mt 13 (by decide +kernel))⟩ (Or.inl ⟨TX12, 28, rfl⟩) (fun a M _ h => by
    have h : (match (generalizing := false) a with | [.inr (.inr (12, th))] => pz_im M | _ => False) := h
    split at h
    · exact ⟨_, _, rfl⟩
    · exact h.elim) h1 h2 h3
def k_X12_goes : pz_C := (3, 1, fun a M => (match a with | [.inr (.inr (12, th)), .inl n, .inl w] => pz_im M | _ => False), fun a M r M' => (match a, r with | [.inr (.inr (12, th)), .inl n, .inl w], some (.inl v) => (True) ∧ pz_sm M M' | _, _ => False))
abbrev ct_X12_goes : List (Bool × Nat × pz_C) := [(false, 54, k_X12_isIn), (true, 388, k_X12_aDay), (true, 395, k_X12_movedOnes), (false, 398, k_X12_count), (true, 401, k_X12_latestMoved)]
set_option maxRecDepth 100000 in
set_option maxHeartbeats 4000000 in
theorem h_X12_goes : pz_H yX12_goes cX12_goes 5 (some .int) k_X12_goes 8 184 := by
  refine pz_mk (own := RX12) (tb := t_X12_goes) (fl := pz_flf fl_RX12) (ci := pz_cif ci_RX12) (ct := pz_ctf ct_X12_goes) (rz := false) (by decide +kernel) rfl t_X12_goes_ok (pz_flk fl_RX12_ok) (pz_cik ci_RX12_ok) ?_ ?_ (Or.inl ⟨rfl, rfl⟩) ?_ ?_
  · exact fun i k' h => pz_ctk (l := ct_X12_goes) (P := fun b i k => b = true → pz_cV 8 184 RX12 i k) (List.forall_mem_cons.mpr ⟨((fun z => by cases z)), List.forall_mem_cons.mpr ⟨(fun _ => v_X12_aDay (by decide) (by decide) (pz_mt 1531 (by decide +kernel))), List.forall_mem_cons.mpr ⟨(fun _ => v_X12_movedOnes (by decide) (by decide) (pz_mt 1602 (by decide +kernel))), List.forall_mem_cons.mpr ⟨((fun z => by cases z)), List.forall_mem_cons.mpr ⟨(fun _ => v_X12_latestMoved (by decide) (by decide) (pz_mt 1609 (by decide +kernel))), fun _ h => absurd h List.not_mem_nil⟩⟩⟩⟩⟩) true i k' h rfl
  · exact fun i k' h => pz_ctk (l := ct_X12_goes) (P := fun b i k => b = false → (pz_cS 8 184 RX12 i k ∨ (k = pz_kac ∧ 1 ≤ 8 ∧ 60 ≤ 184 ∧ Cond.methodLink RX12 i arraycopyName ∈ pz_tbl))) (List.forall_mem_cons.mpr ⟨(fun _ => Or.inl (s_X12_isIn (by decide) (by decide) (Or.inl (pz_mt 1217 (by decide +kernel))))), List.forall_mem_cons.mpr ⟨((fun z => by cases z)), List.forall_mem_cons.mpr ⟨((fun z => by cases z)), List.forall_mem_cons.mpr ⟨(fun _ => Or.inl (s_X12_count (by decide) (by decide) (Or.inl (pz_mt 1606 (by decide +kernel))))), List.forall_mem_cons.mpr ⟨((fun z => by cases z)), fun _ h => absurd h List.not_mem_nil⟩⟩⟩⟩⟩) false i k' h rfl
  · intro a M hlen hpre
    obtain ⟨th, n, w, rfl, hpre⟩ : ∃ th n w, a = [.inr (.inr (12, th)), .inl n, .inl w] ∧ (pz_im M) := by
      have hpre : (match (generalizing := false) a with | [.inr (.inr (12, th)), .inl n, .inl w] => pz_im M | _ => False) := hpre
      split at hpre
      · exact ⟨_, _, _, rfl, hpre⟩
      · exact hpre.elim
    exact Nat.le_of_ble_eq_true rfl
  · intro a M hlen hcan hM hpre Ok hgo
    obtain ⟨th, n, w, rfl, hpre⟩ : ∃ th n w, a = [.inr (.inr (12, th)), .inl n, .inl w] ∧ (pz_im M) := by
      have hpre : (match (generalizing := false) a with | [.inr (.inr (12, th)), .inl n, .inl w] => pz_im M | _ => False) := hpre
      split at hpre
      · exact ⟨_, _, _, rfl, hpre⟩
      · exact hpre.elim
    obtain ⟨k_th, hc_th⟩ := pz_tlm hcan
    have k_th : pz_kd th = 12 ∧ th < 231 := k_th
    have R_th := pz_kd12 k_th.1
    subst R_th
    clear k_th
    obtain ⟨k_n, hc_n⟩ := pz_tlm hc_th
    have l_n : -2147483648 ≤ n := k_n.1
    have u_n : n ≤ 2147483647 := k_n.2
    obtain ⟨k_w, hc_w⟩ := pz_tlm hc_n
    have l_w : -2147483648 ≤ w := k_w.1
    have u_w : w ≤ 2147483647 := k_w.2
    have hI : pz_im M := hpre
    have hI0 := hI
    have hS : pz_sm M M := pz_sm.rf
    have L107 : ∀ (fu : Nat) (x3 : Int) (x4 : Int) (N107 : pz_M), (88 - x4).toNat < fu → (pz_sm M N107) → (0 ≤ x4) → Ok 107 [some (.inr (.inr (12, 1))), some (.inl n), some (.inl w), some (.inl x3), some (.inl x4)] [] N107 := by
      intro fu
      induction fu with
      | zero => exact fun _ _ _ hn => absurd hn (Nat.not_lt_zero _)
      | succ fu ih107 =>
        intro x3 x4 N107 hn107 hS g107_1
        have hI : pz_im N107 := hS.1.1.1 hI0
        refine hgo (fun p => Nat.beq p 24 || Nat.beq p 55 || Nat.beq p 103 || Nat.beq p 107) 76 107 _ _ _ ?_
        refine And.intro (fun h111 => ?_) (fun h111 => ?_)
        · skip
          refine And.intro rfl ?_
          exact ⟨trivial, hS⟩
        · skip
          refine pz_nrc (c := 60) rfl ?_
          refine pz_nrc (c := 63) rfl ?_
          refine And.intro (by omega) (And.intro (show _ < (88 : Int) from by omega) ?_)
          intro v126 e126 a126 b126
          have J126 : x4 = 3 → 0 ≤ v126 ∧ v126 ≤ 150 := fun q => by
            rw [e126, q]
            exact hI.2.1.2.2.1
          refine And.intro (by omega) (And.intro (show _ < (1725 : Int) from by omega) ?_)
          intro M127 e127
          have hS : pz_sm M M127 := by
            rw [e127]
            exact pz_sm_u hS (pz_mn_60 (by omega)) (fun h => absurd h.1 (by decide)) (by omega) (pz_iom_u (by omega) (fun q => J126 (by omega)))
          have hI : pz_im M127 := hS.1.1.1 hI0
          intro v128 e128 a128 b128
          rw [pz_wi (by omega) (by omega)] at e128
          clear a128 b128
          exact ih107 _ _ _ (by omega) hS (by omega)
    have L103 : ∀ (x3 : Int) (d4 : Option pz_V) (s0 : Int) (N103 : pz_M), (pz_sm M N103) → Ok 103 [some (.inr (.inr (12, 1))), some (.inl n), some (.inl w), some (.inl x3), d4] [.inl s0] N103 := by
      intro x3 d4 s0 N103 hS
      have hI : pz_im N103 := hS.1.1.1 hI0
      refine hgo (fun p => Nat.beq p 24 || Nat.beq p 55 || Nat.beq p 103 || Nat.beq p 107) 76 103 _ _ _ ?_
      exact L107 _ _ _ _ (Nat.lt_succ_self _) hS (by omega)
    have L55 : ∀ (fu : Nat) (x3 : Int) (d4 : Option pz_V) (N55 : pz_M), (99 - x3).toNat < fu → (pz_sm M N55) → (0 ≤ x3) → (n ≤ 99) → Ok 55 [some (.inr (.inr (12, 1))), some (.inl n), some (.inl w), some (.inl x3), d4] [] N55 := by
      intro fu
      induction fu with
      | zero => exact fun _ _ _ hn => absurd hn (Nat.not_lt_zero _)
      | succ fu ih55 =>
        intro x3 d4 N55 hn55 hS g55_1 g55_2
        have hI : pz_im N55 := hS.1.1.1 hI0
        refine hgo (fun p => Nat.beq p 24 || Nat.beq p 55 || Nat.beq p 103 || Nat.beq p 107) 76 55 _ _ _ ?_
        refine And.intro (fun h57 => ?_) (fun h57 => ?_)
        · skip
          refine And.intro (fun h72 => ?_) (fun h72 => ?_)
          · skip
            refine And.intro (fun h87 => ?_) (fun h87 => ?_)
            · skip
              refine pz_nrc (c := 60) rfl ?_
              refine And.intro (by omega) (And.intro (show _ < (1725 : Int) from by omega) ?_)
              intro v102 e102 a102 b102
              replace e102 : v102 = N55 60 1 := e102
              exact L103 _ _ _ _ hS
            · skip
              refine And.intro (hI) ?_
              intro v91 M91 a91 b91 q91
              obtain ⟨q91, z91⟩ := q91
              subst z91
              exact L103 _ _ _ _ hS
          · skip
            refine And.intro (hI) ?_
            intro v76 M76 a76 b76 q76
            obtain ⟨q76, z76⟩ := q76
            subst z76
            refine And.intro (True.intro) ?_
            intro v79 M79 a79 b79 q79
            obtain ⟨q79, z79⟩ := q79
            subst z79
            exact L103 _ _ _ _ hS
        · skip
          refine And.intro (hI) ?_
          intro v61 M61 a61 b61 q61
          obtain ⟨q61, z61⟩ := q61
          have hS : pz_sm M M61 := hS.tr z61
          have hI : pz_im M61 := hS.1.1.1 hI0
          intro v65 e65 a65 b65
          rw [pz_wi (by omega) (by omega)] at e65
          clear a65 b65
          exact ih55 _ _ _ (by omega) hS (by omega) (by omega)
    have L24 : ∀ (fu : Nat) (x3 : Int) (d4 : Option pz_V) (N24 : pz_M), (88 - x3).toNat < fu → (pz_sm M N24) → (0 ≤ x3) → (n ≤ 99) → Ok 24 [some (.inr (.inr (12, 1))), some (.inl n), some (.inl w), some (.inl x3), d4] [] N24 := by
      intro fu
      induction fu with
      | zero => exact fun _ _ _ hn => absurd hn (Nat.not_lt_zero _)
      | succ fu ih24 =>
        intro x3 d4 N24 hn24 hS g24_1 g24_2
        have hI : pz_im N24 := hS.1.1.1 hI0
        refine hgo (fun p => Nat.beq p 24 || Nat.beq p 55 || Nat.beq p 103 || Nat.beq p 107) 76 24 _ _ _ ?_
        refine And.intro (fun h27 => ?_) (fun h27 => ?_)
        · skip
          refine And.intro (by omega) ?_
          intro M50 e50
          have hS : pz_sm M M50 := by
            rw [e50]
            exact pz_sm_u hS (pz_mn_1 (by decide)) (by decide) (fun h => absurd h.1 (by decide)) (pz_iom_f (by decide))
          have hI : pz_im M50 := hS.1.1.1 hI0
          exact L55 _ _ _ _ (Nat.lt_succ_self _) hS (by omega) (by omega)
        · skip
          refine pz_nrc (c := 63) rfl ?_
          refine pz_nrc (c := 60) rfl ?_
          refine And.intro (by omega) (And.intro (show _ < (1725 : Int) from by omega) ?_)
          intro v40 e40 a40 b40
          have J40 : x3 = 3 → 0 ≤ v40 ∧ v40 ≤ 150 := fun q => by
            rw [e40, q]
            exact hI.1.2.2.2.2
          refine And.intro (by omega) (And.intro (show _ < (88 : Int) from by omega) ?_)
          intro M41 e41
          have hS : pz_sm M M41 := by
            rw [e41]
            exact pz_sm_u hS (pz_mn_a (by decide)) (fun h => absurd h.1 (by decide)) (fun h => absurd h.1 (by decide)) (pz_iom_63 (fun q => J40 (by omega)))
          have hI : pz_im M41 := hS.1.1.1 hI0
          intro v42 e42 a42 b42
          rw [pz_wi (by omega) (by omega)] at e42
          clear a42 b42
          exact ih24 _ _ _ (by omega) hS (by omega) (by omega)
    refine hgo (fun p => Nat.beq p 24 || Nat.beq p 55 || Nat.beq p 103 || Nat.beq p 107) 76 0 _ [] M ?_
    refine And.intro (True.intro) ?_
    intro v4 M4 a4 b4 q4
    obtain ⟨q4, z4⟩ := q4
    subst z4
    clear a4 b4
    refine And.intro (fun h7 => ?_) (fun h7 => ?_)
    · skip
      replace q4 := q4.resolve_left (fun z => absurd (z.1.symm.trans h7) (by decide))
      clear h7
      refine And.intro rfl ?_
      exact ⟨trivial, hS⟩
    · skip
      replace q4 := q4.resolve_right (fun z => h7 z.1)
      clear h7
      refine And.intro (True.intro) ?_
      intro v13 M13 a13 b13 q13
      obtain ⟨q13, z13⟩ := q13
      subst z13
      clear a13 b13
      refine And.intro (fun h16 => ?_) (fun h16 => ?_)
      · skip
        replace q13 := q13.resolve_right (fun z => h16 z.1)
        clear h16
        exact L24 _ _ _ _ (Nat.lt_succ_self _) hS (by omega) (by omega)
      · skip
        replace q13 := q13.resolve_left (fun z => absurd (z.1.symm.trans h16) (by decide))
        clear h16
        refine And.intro rfl ?_
        exact ⟨trivial, hS⟩
theorem v_X12_goes {fr lo i : Nat} {own : String} (h1 : 8 + 1 ≤ fr) (h2 : 8 + (5 + 11) + 184 ≤ lo) (h3 : .methodLink own i yX12_goes ∈ lw_tbl) : pz_cV fr lo own i k_X12_goes :=
  pz_cVk (maxL := 5) (fr' := 8) (lo' := 184) 2 12 h_X12_goes rfl ⟨by decide +kernel, by decide +kernel, by decide +kernel⟩ ⟨(pz_mt 1601 (by decide +kernel)), (pz_mt 1599 (by decide +kernel)), (pz_mt 1600 (by decide +kernel)), (pz_mt 13 (by decide +kernel))⟩ (Or.inl ⟨TX12, 28, rfl⟩) (fun a M _ h => by
    have h : (match (generalizing := false) a with | [.inr (.inr (12, th)), .inl n, .inl w] => pz_im M | _ => False) := h
    split at h
    · exact ⟨_, _, rfl⟩
    · exact h.elim) h1 h2 h3
