noncomputable def k_X12_isGiving : pz_C := (2, 1, fun a M => (match a with | [.inr (.inr (12, th)), .inl i] => pz_im M | _ => False), fun a M r M' => (match a, r with | [.inr (.inr (12, th)), .inl i], some (.inl v) => ((v = 1 ∧ 0 ≤ i ∧ i < M 60 88 ∧ M 60 88 ≤ 12) ∨ v = 0) ∧ M = M' | _, _ => False))
noncomputable abbrev ct_X12_isGiving : List (Bool × Nat × pz_C) := [(true, 317, k_X12_isThere)]
set_option maxRecDepth 100000 in
set_option maxHeartbeats 4000000 in
theorem h_X12_isGiving : pz_H yX12_isGiving cX12_isGiving 2 (some .boolean) k_X12_isGiving 3 64 := by
  refine pz_mk (own := RX12) (tb := t_X12_isGiving) (fl := pz_flf fl_RX12) (ci := pz_cif ci_RX12) (ct := pz_ctf ct_X12_isGiving) (rz := true) (by decide +kernel) rfl t_X12_isGiving_ok (pz_flk fl_RX12_ok) (pz_cik ci_RX12_ok) ?_ ?_ (Or.inr ⟨rfl, rfl⟩) ?_ ?_
  · exact fun i k' h => pz_ctk (l := ct_X12_isGiving) (P := fun b i k => b = true → pz_cV 3 64 RX12 i k) (List.forall_mem_cons.mpr ⟨(fun _ => v_X12_isThere (by decide) (by decide) (pz_mt 1415 (by decide +kernel))), fun _ h => absurd h List.not_mem_nil⟩) true i k' h rfl
  · exact fun i k' h => pz_ctk (l := ct_X12_isGiving) (P := fun b i k => b = false → (pz_cS 3 64 RX12 i k ∨ (k = pz_kac ∧ 1 ≤ 3 ∧ 60 ≤ 64 ∧ Cond.methodLink RX12 i arraycopyName ∈ pz_tbl))) (List.forall_mem_cons.mpr ⟨((fun z => by cases z)), fun _ h => absurd h List.not_mem_nil⟩) false i k' h rfl
  · intro a M hlen hpre
    obtain ⟨th, i, rfl, hpre⟩ : ∃ th i, a = [.inr (.inr (12, th)), .inl i] ∧ (pz_im M) := by
      have hpre : (match (generalizing := false) a with | [.inr (.inr (12, th)), .inl i] => pz_im M | _ => False) := hpre
      split at hpre
      · exact ⟨_, _, rfl, hpre⟩
      · exact hpre.elim
    exact Nat.le_of_ble_eq_true rfl
  · intro a M hlen hcan hM hpre Ok hgo
    obtain ⟨th, i, rfl, hpre⟩ : ∃ th i, a = [.inr (.inr (12, th)), .inl i] ∧ (pz_im M) := by
      have hpre : (match (generalizing := false) a with | [.inr (.inr (12, th)), .inl i] => pz_im M | _ => False) := hpre
      split at hpre
      · exact ⟨_, _, rfl, hpre⟩
      · exact hpre.elim
    obtain ⟨k_th, hc_th⟩ := pz_tlm hcan
    have k_th : pz_kd th = 12 ∧ th < 231 := k_th
    have R_th := pz_kd12 k_th.1
    subst R_th
    clear k_th
    obtain ⟨k_i, hc_i⟩ := pz_tlm hc_th
    have l_i : -2147483648 ≤ i := k_i.1
    have u_i : i ≤ 2147483647 := k_i.2
    have hI : pz_im M := hpre
    refine hgo (fun _ => false) 17 0 _ [] M ?_
    refine And.intro (hI) ?_
    intro v2 M2 a2 b2 q2
    obtain ⟨q2, z2⟩ := q2
    subst z2
    clear a2 b2
    refine And.intro (fun h5 => ?_) (fun h5 => ?_)
    · skip
      replace q2 := q2.resolve_left (fun z => absurd (z.1.symm.trans h5) (by decide))
      clear h5 q2
      refine And.intro (by omega) ?_
      refine And.intro rfl ?_
      exact ⟨by omega, rfl⟩
    · skip
      replace q2 := q2.resolve_right h5
      clear h5
      refine pz_nrc (c := 60) rfl ?_
      intro v15 e15 a15 b15
      rw [pz_wi (by omega) (by omega)] at e15
      clear a15 b15
      refine And.intro (by omega) (And.intro (show _ < (1725 : Int) from by omega) ?_)
      intro v16 e16 a16 b16
      refine And.intro (fun h17 => ?_) (fun h17 => ?_)
      · skip
        refine And.intro (by omega) ?_
        refine And.intro rfl ?_
        exact ⟨by omega, rfl⟩
      · skip
        refine And.intro (by omega) ?_
        refine And.intro rfl ?_
        exact ⟨by omega, rfl⟩
theorem v_X12_isGiving {fr lo i : Nat} {own : String} (h1 : 3 + 1 ≤ fr) (h2 : 8 + (2 + 11) + 64 ≤ lo) (h3 : .methodLink own i yX12_isGiving ∈ lw_tbl) : pz_cV fr lo own i k_X12_isGiving :=
  pz_cVk (maxL := 2) (fr' := 3) (lo' := 64) 1 12 h_X12_isGiving rfl ⟨by decide +kernel, by decide +kernel, by decide +kernel⟩ ⟨(pz_mt 1684 (by decide +kernel)), (pz_mt 1683 (by decide +kernel)), (pz_ms 81 (by decide +kernel)), (pz_mt 13 (by decide +kernel))⟩ (Or.inl ⟨TX12, 28, rfl⟩) (fun a M _ h => by
    have h : (match (generalizing := false) a with | [.inr (.inr (12, th)), .inl i] => pz_im M | _ => False) := h
    split at h
    · exact ⟨_, _, rfl⟩
    · exact h.elim) h1 h2 h3
noncomputable def k_X12_givenBy : pz_C := (2, 1, fun a M => (match a with | [.inr (.inr (12, th)), .inl x] => pz_im M | _ => False), fun a M r M' => (match a, r with | [.inr (.inr (12, th)), .inl x], some (.inl v) => (True) ∧ M = M' | _, _ => False))
noncomputable abbrev ct_X12_givenBy : List (Bool × Nat × pz_C) := [(true, 436, k_X12_isGiving), (false, 47, k_X12_lesser)]
set_option maxRecDepth 100000 in
set_option maxHeartbeats 4000000 in
theorem h_X12_givenBy : pz_H yX12_givenBy cX12_givenBy 4 (some .int) k_X12_givenBy 4 85 := by
  refine pz_mk (own := RX12) (tb := t_X12_givenBy) (fl := pz_flf fl_RX12) (ci := pz_cif ci_RX12) (ct := pz_ctf ct_X12_givenBy) (rz := false) (by decide +kernel) rfl t_X12_givenBy_ok (pz_flk fl_RX12_ok) (pz_cik ci_RX12_ok) ?_ ?_ (Or.inl ⟨rfl, rfl⟩) ?_ ?_
  · exact fun i k' h => pz_ctk (l := ct_X12_givenBy) (P := fun b i k => b = true → pz_cV 4 85 RX12 i k) (List.forall_mem_cons.mpr ⟨(fun _ => v_X12_isGiving (by decide) (by decide) (pz_mt 1681 (by decide +kernel))), List.forall_mem_cons.mpr ⟨((fun z => by cases z)), fun _ h => absurd h List.not_mem_nil⟩⟩) true i k' h rfl
  · exact fun i k' h => pz_ctk (l := ct_X12_givenBy) (P := fun b i k => b = false → (pz_cS 4 85 RX12 i k ∨ (k = pz_kac ∧ 1 ≤ 4 ∧ 60 ≤ 85 ∧ Cond.methodLink RX12 i arraycopyName ∈ pz_tbl))) (List.forall_mem_cons.mpr ⟨((fun z => by cases z)), List.forall_mem_cons.mpr ⟨(fun _ => Or.inl (s_X12_lesser (by decide) (by decide) (Or.inl (pz_mt 1462 (by decide +kernel))))), fun _ h => absurd h List.not_mem_nil⟩⟩) false i k' h rfl
  · intro a M hlen hpre
    obtain ⟨th, x, rfl, hpre⟩ : ∃ th x, a = [.inr (.inr (12, th)), .inl x] ∧ (pz_im M) := by
      have hpre : (match (generalizing := false) a with | [.inr (.inr (12, th)), .inl x] => pz_im M | _ => False) := hpre
      split at hpre
      · exact ⟨_, _, rfl, hpre⟩
      · exact hpre.elim
    exact Nat.le_of_ble_eq_true rfl
  · intro a M hlen hcan hM hpre Ok hgo
    obtain ⟨th, x, rfl, hpre⟩ : ∃ th x, a = [.inr (.inr (12, th)), .inl x] ∧ (pz_im M) := by
      have hpre : (match (generalizing := false) a with | [.inr (.inr (12, th)), .inl x] => pz_im M | _ => False) := hpre
      split at hpre
      · exact ⟨_, _, rfl, hpre⟩
      · exact hpre.elim
    obtain ⟨k_th, hc_th⟩ := pz_tlm hcan
    have k_th : pz_kd th = 12 ∧ th < 231 := k_th
    have R_th := pz_kd12 k_th.1
    subst R_th
    clear k_th
    obtain ⟨k_x, hc_x⟩ := pz_tlm hc_th
    have l_x : -2147483648 ≤ x := k_x.1
    have u_x : x ≤ 2147483647 := k_x.2
    have hI : pz_im M := hpre
    have L4 : ∀ (fu : Nat) (x2 : Int) (x3 : Int), (12 - x3).toNat < fu → (0 ≤ x3) → Ok 4 [some (.inr (.inr (12, 1))), some (.inl x), some (.inl x2), some (.inl x3)] [] M := by
      intro fu
      induction fu with
      | zero => exact fun _ _ hn => absurd hn (Nat.not_lt_zero _)
      | succ fu ih4 =>
        intro x2 x3 hn4 g4_0
        have L41 : ∀ (x2 : Int) (x3 : Int) (s0 : Int) (s1 : Int), (0 ≤ x3) → (x3 < 12) → ((12 - x3).toNat < fu + 1) → Ok 41 [some (.inr (.inr (12, 1))), some (.inl x), some (.inl x2), some (.inl x3)] [.inl s1, .inl s0] M := by
          intro x2 x3 s0 s1 g41_0 g41_1 g41_2
          refine hgo (fun p => Nat.beq p 4 || Nat.beq p 41) 33 41 _ _ _ ?_
          intro v41 e41 a41 b41
          intro v43 e43 a43 b43
          rw [pz_wi (by omega) (by omega)] at e43
          clear a43 b43
          exact ih4 _ _ (by omega) (by omega)
        refine hgo (fun p => Nat.beq p 4 || Nat.beq p 41) 33 4 _ _ _ ?_
        refine pz_nrc (c := 60) rfl ?_
        refine And.intro (by omega) (And.intro (show _ < (1725 : Int) from by omega) ?_)
        intro v11 e11 a11 b11
        replace e11 : v11 = M 60 88 := e11
        have I11 : 0 ≤ v11 ∧ v11 ≤ 12 := by
          rw [e11]
          exact hI.1.1
        clear a11 b11
        refine And.intro (fun h12 => ?_) (fun h12 => ?_)
        · skip
          refine And.intro rfl ?_
          exact ⟨trivial, rfl⟩
        · skip
          refine And.intro (hI) ?_
          intro v18 M18 a18 b18 q18
          obtain ⟨q18, z18⟩ := q18
          subst z18
          clear a18 b18
          refine And.intro (fun h21 => ?_) (fun h21 => ?_)
          · skip
            replace q18 := q18.resolve_left (fun z => absurd (z.1.symm.trans h21) (by decide))
            clear h21 q18
            exact L41 _ _ _ _ (by omega) (by omega) (by omega)
          · skip
            replace q18 := q18.resolve_right h21
            clear h21
            refine pz_nrc (c := 60) rfl ?_
            intro v32 e32 a32 b32
            rw [pz_wi (by omega) (by omega)] at e32
            clear a32 b32
            refine And.intro (by omega) (And.intro (show _ < (1725 : Int) from by omega) ?_)
            intro v33 e33 a33 b33
            refine And.intro (True.intro) ?_
            intro v34 M34 a34 b34 q34
            obtain ⟨q34, z34⟩ := q34
            subst z34
            replace q34 : v34 ≤ x ∧ v34 ≤ v33 := by omega
            exact L41 _ _ _ _ (by omega) (by omega) (by omega)
    refine hgo (fun p => Nat.beq p 4 || Nat.beq p 41) 33 0 _ [] M ?_
    exact L4 _ _ _ (Nat.lt_succ_self _) (by omega)
theorem v_X12_givenBy {fr lo i : Nat} {own : String} (h1 : 4 + 1 ≤ fr) (h2 : 8 + (4 + 11) + 85 ≤ lo) (h3 : .methodLink own i yX12_givenBy ∈ lw_tbl) : pz_cV fr lo own i k_X12_givenBy :=
  pz_cVk (maxL := 4) (fr' := 4) (lo' := 85) 1 12 h_X12_givenBy rfl ⟨by decide +kernel, by decide +kernel, by decide +kernel⟩ ⟨(pz_mt 1680 (by decide +kernel)), (pz_mt 1679 (by decide +kernel)), (pz_ms 80 (by decide +kernel)), (pz_mt 13 (by decide +kernel))⟩ (Or.inl ⟨TX12, 28, rfl⟩) (fun a M _ h => by
    have h : (match (generalizing := false) a with | [.inr (.inr (12, th)), .inl x] => pz_im M | _ => False) := h
    split at h
    · exact ⟨_, _, rfl⟩
    · exact h.elim) h1 h2 h3
noncomputable def k_X12_share : pz_C := (3, 1, fun a M => (match a with | [.inr (.inr (12, th)), .inl n, .inl i] => pz_im M | _ => False), fun a M r M' => (match a, r with | [.inr (.inr (12, th)), .inl n, .inl i], some (.inl v) => (True) ∧ M = M' | _, _ => False))
noncomputable abbrev ct_X12_share : List (Bool × Nat × pz_C) := [(false, 54, k_X12_isIn), (true, 58, k_X12_isLink), (true, 439, k_X12_givenBy), (true, 436, k_X12_isGiving)]
set_option maxRecDepth 100000 in
set_option maxHeartbeats 4000000 in
theorem h_X12_share : pz_H yX12_share cX12_share 6 (some .int) k_X12_share 5 108 := by
  refine pz_mk (own := RX12) (tb := t_X12_share) (fl := pz_flf fl_RX12) (ci := pz_cif ci_RX12) (ct := pz_ctf ct_X12_share) (rz := false) (by decide +kernel) rfl t_X12_share_ok (pz_flk fl_RX12_ok) (pz_cik ci_RX12_ok) ?_ ?_ (Or.inl ⟨rfl, rfl⟩) ?_ ?_
  · exact fun i k' h => pz_ctk (l := ct_X12_share) (P := fun b i k => b = true → pz_cV 5 108 RX12 i k) (List.forall_mem_cons.mpr ⟨((fun z => by cases z)), List.forall_mem_cons.mpr ⟨(fun _ => v_X12_isLink (by decide) (by decide) (pz_mt 1224 (by decide +kernel))), List.forall_mem_cons.mpr ⟨(fun _ => v_X12_givenBy (by decide) (by decide) (pz_mt 1677 (by decide +kernel))), List.forall_mem_cons.mpr ⟨(fun _ => v_X12_isGiving (by decide) (by decide) (pz_mt 1681 (by decide +kernel))), fun _ h => absurd h List.not_mem_nil⟩⟩⟩⟩) true i k' h rfl
  · exact fun i k' h => pz_ctk (l := ct_X12_share) (P := fun b i k => b = false → (pz_cS 5 108 RX12 i k ∨ (k = pz_kac ∧ 1 ≤ 5 ∧ 60 ≤ 108 ∧ Cond.methodLink RX12 i arraycopyName ∈ pz_tbl))) (List.forall_mem_cons.mpr ⟨(fun _ => Or.inl (s_X12_isIn (by decide) (by decide) (Or.inl (pz_mt 1217 (by decide +kernel))))), List.forall_mem_cons.mpr ⟨((fun z => by cases z)), List.forall_mem_cons.mpr ⟨((fun z => by cases z)), List.forall_mem_cons.mpr ⟨((fun z => by cases z)), fun _ h => absurd h List.not_mem_nil⟩⟩⟩⟩) false i k' h rfl
  · intro a M hlen hpre
    obtain ⟨th, n, i, rfl, hpre⟩ : ∃ th n i, a = [.inr (.inr (12, th)), .inl n, .inl i] ∧ (pz_im M) := by
      have hpre : (match (generalizing := false) a with | [.inr (.inr (12, th)), .inl n, .inl i] => pz_im M | _ => False) := hpre
      split at hpre
      · exact ⟨_, _, _, rfl, hpre⟩
      · exact hpre.elim
    exact Nat.le_of_ble_eq_true rfl
  · intro a M hlen hcan hM hpre Ok hgo
    obtain ⟨th, n, i, rfl, hpre⟩ : ∃ th n i, a = [.inr (.inr (12, th)), .inl n, .inl i] ∧ (pz_im M) := by
      have hpre : (match (generalizing := false) a with | [.inr (.inr (12, th)), .inl n, .inl i] => pz_im M | _ => False) := hpre
      split at hpre
      · exact ⟨_, _, _, rfl, hpre⟩
      · exact hpre.elim
    obtain ⟨k_th, hc_th⟩ := pz_tlm hcan
    have k_th : pz_kd th = 12 ∧ th < 231 := k_th
    have R_th := pz_kd12 k_th.1
    subst R_th
    clear k_th
    obtain ⟨k_n, hc_n⟩ := pz_tlm hc_th
    have l_n : -2147483648 ≤ n := k_n.1
    have u_n : n ≤ 2147483647 := k_n.2
    obtain ⟨k_i, hc_i⟩ := pz_tlm hc_n
    have l_i : -2147483648 ≤ i := k_i.1
    have u_i : i ≤ 2147483647 := k_i.2
    have hI : pz_im M := hpre
    have L70 : ∀ (fu : Nat) (x3 : Int) (x4 : Int) (x5 : Int), (12 - x5).toNat < fu → (0 ≤ x5) → (i < 12) → Ok 70 [some (.inr (.inr (12, 1))), some (.inl n), some (.inl i), some (.inl x3), some (.inl x4), some (.inl x5)] [] M := by
      intro fu
      induction fu with
      | zero => exact fun _ _ _ hn => absurd hn (Nat.not_lt_zero _)
      | succ fu ih70 =>
        intro x3 x4 x5 hn70 g70_0 g70_1
        have L106 : ∀ (x3 : Int) (x4 : Int) (x5 : Int) (s0 : Int) (s1 : Int), (0 ≤ x5) → (x5 < 12) → ((12 - x5).toNat < fu + 1) → Ok 106 [some (.inr (.inr (12, 1))), some (.inl n), some (.inl i), some (.inl x3), some (.inl x4), some (.inl x5)] [.inl s1, .inl s0] M := by
          intro x3 x4 x5 s0 s1 g106_0 g106_1 g106_2
          refine hgo (fun p => Nat.beq p 34 || Nat.beq p 58 || Nat.beq p 70 || Nat.beq p 106) 92 106 _ _ _ ?_
          intro v106 e106 a106 b106
          intro v109 e109 a109 b109
          rw [pz_wi (by omega) (by omega)] at e109
          clear a109 b109
          exact ih70 _ _ _ (by omega) (by omega) (by omega)
        refine hgo (fun p => Nat.beq p 34 || Nat.beq p 58 || Nat.beq p 70 || Nat.beq p 106) 92 70 _ _ _ ?_
        refine And.intro (fun h73 => ?_) (fun h73 => ?_)
        · skip
          refine And.intro (hI) ?_
          intro v117 M117 a117 b117 q117
          obtain ⟨q117, z117⟩ := q117
          subst z117
          clear a117 b117
          refine And.intro (fun h120 => ?_) (fun h120 => ?_)
          · skip
            replace q117 := q117.resolve_right h120
            clear h120
            refine pz_nrc (c := 60) rfl ?_
            intro v134 e134 a134 b134
            rw [pz_wi (by omega) (by omega)] at e134
            clear a134 b134
            refine And.intro (by omega) (And.intro (show _ < (1725 : Int) from by omega) ?_)
            intro v135 e135 a135 b135
            refine And.intro (fun h137 => ?_) (fun h137 => ?_)
            · skip
              refine And.intro (fun h154 => ?_) (fun h154 => ?_)
              · skip
                refine And.intro rfl ?_
                exact ⟨trivial, rfl⟩
              · skip
                intro v159 e159 a159 b159
                refine And.intro rfl ?_
                exact ⟨trivial, rfl⟩
            · skip
              refine pz_nrc (c := 60) rfl ?_
              intro v147 e147 a147 b147
              rw [pz_wi (by omega) (by omega)] at e147
              clear a147 b147
              refine And.intro (by omega) (And.intro (show _ < (1725 : Int) from by omega) ?_)
              intro v148 e148 a148 b148
              refine And.intro rfl ?_
              exact ⟨trivial, rfl⟩
          · skip
            replace q117 := q117.resolve_left (fun z => absurd (z.1.symm.trans h120) (by decide))
            clear h120 q117
            refine And.intro rfl ?_
            exact ⟨trivial, rfl⟩
        · skip
          refine And.intro (hI) ?_
          intro v81 M81 a81 b81 q81
          obtain ⟨q81, z81⟩ := q81
          subst z81
          clear a81 b81
          refine And.intro (fun h84 => ?_) (fun h84 => ?_)
          · skip
            replace q81 := q81.resolve_left (fun z => absurd (z.1.symm.trans h84) (by decide))
            clear h84 q81
            exact L106 _ _ _ _ _ (by omega) (by omega) (by omega)
          · skip
            replace q81 := q81.resolve_right h84
            clear h84
            refine pz_nrc (c := 60) rfl ?_
            intro v95 e95 a95 b95
            rw [pz_wi (by omega) (by omega)] at e95
            clear a95 b95
            refine And.intro (by omega) (And.intro (show _ < (1725 : Int) from by omega) ?_)
            intro v96 e96 a96 b96
            refine And.intro (fun h98 => ?_) (fun h98 => ?_)
            · skip
              exact L106 _ _ _ _ _ (by omega) (by omega) (by omega)
            · skip
              exact L106 _ _ _ _ _ (by omega) (by omega) (by omega)
    have L58 : ∀ (x3 : Int) (d4 : Option pz_V) (d5 : Option pz_V), (0 ≤ i) → (i < 12) → Ok 58 [some (.inr (.inr (12, 1))), some (.inl n), some (.inl i), some (.inl x3), d4, d5] [] M := by
      intro x3 d4 d5 g58_0 g58_1
      refine hgo (fun p => Nat.beq p 34 || Nat.beq p 58 || Nat.beq p 70 || Nat.beq p 106) 92 58 _ _ _ ?_
      refine And.intro (hI) ?_
      intro v61 M61 a61 b61 q61
      obtain ⟨q61, z61⟩ := q61
      subst z61
      intro v64 e64 a64 b64
      exact L70 _ _ _ _ (Nat.lt_succ_self _) (by omega) (by omega)
    have L34 : ∀ (fu : Nat) (x3 : Int) (d4 : Option pz_V) (d5 : Option pz_V), (999 - x3).toNat < fu → (0 ≤ x3) → (0 ≤ i) → (i < 12) → Ok 34 [some (.inr (.inr (12, 1))), some (.inl n), some (.inl i), some (.inl x3), d4, d5] [] M := by
      intro fu
      induction fu with
      | zero => exact fun _ _ _ hn => absurd hn (Nat.not_lt_zero _)
      | succ fu ih34 =>
        intro x3 d4 d5 hn34 g34_0 g34_1 g34_2
        refine hgo (fun p => Nat.beq p 34 || Nat.beq p 58 || Nat.beq p 70 || Nat.beq p 106) 92 34 _ _ _ ?_
        refine And.intro (fun h38 => ?_) (fun h38 => ?_)
        · skip
          exact L58 _ _ _ (by omega) (by omega)
        · skip
          intro v44 e44 a44 b44
          rw [pz_wi (by omega) (by omega)] at e44
          clear a44 b44
          refine And.intro (hI) ?_
          intro v45 M45 a45 b45 q45
          obtain ⟨q45, z45⟩ := q45
          subst z45
          refine And.intro (fun h49 => ?_) (fun h49 => ?_)
          · skip
            exact L58 _ _ _ (by omega) (by omega)
          · skip
            intro v52 e52 a52 b52
            rw [pz_wi (by omega) (by omega)] at e52
            clear a52 b52
            exact ih34 _ _ _ (by omega) (by omega) (by omega) (by omega)
    refine hgo (fun p => Nat.beq p 34 || Nat.beq p 58 || Nat.beq p 70 || Nat.beq p 106) 92 0 _ [] M ?_
    refine And.intro (True.intro) ?_
    intro v5 M5 a5 b5 q5
    obtain ⟨q5, z5⟩ := q5
    subst z5
    clear a5 b5
    refine And.intro (fun h8 => ?_) (fun h8 => ?_)
    · skip
      replace q5 := q5.resolve_left (fun z => absurd (z.1.symm.trans h8) (by decide))
      clear h8
      refine And.intro rfl ?_
      exact ⟨trivial, rfl⟩
    · skip
      replace q5 := q5.resolve_right (fun z => h8 z.1)
      clear h8
      refine And.intro (hI) ?_
      intro v13 M13 a13 b13 q13
      obtain ⟨q13, z13⟩ := q13
      subst z13
      clear a13 b13
      refine And.intro (fun h16 => ?_) (fun h16 => ?_)
      · skip
        replace q13 := q13.resolve_left (fun z => absurd (z.1.symm.trans h16) (by decide))
        clear h16
        refine And.intro rfl ?_
        exact ⟨trivial, rfl⟩
      · skip
        replace q13 := q13.resolve_right (fun z => h16 z.1)
        clear h16
        refine And.intro (hI) ?_
        intro v23 M23 a23 b23 q23
        obtain ⟨q23, z23⟩ := q23
        subst z23
        refine And.intro (fun h27 => ?_) (fun h27 => ?_)
        · skip
          exact L34 _ _ _ _ (Nat.lt_succ_self _) (by omega) (by omega) (by omega)
        · skip
          refine And.intro rfl ?_
          exact ⟨trivial, rfl⟩
theorem v_X12_share {fr lo i : Nat} {own : String} (h1 : 5 + 1 ≤ fr) (h2 : 8 + (6 + 11) + 108 ≤ lo) (h3 : .methodLink own i yX12_share ∈ lw_tbl) : pz_cV fr lo own i k_X12_share :=
  pz_cVk (maxL := 6) (fr' := 5) (lo' := 108) 2 12 h_X12_share rfl ⟨by decide +kernel, by decide +kernel, by decide +kernel⟩ ⟨(pz_mt 1676 (by decide +kernel)), (pz_mt 1674 (by decide +kernel)), (pz_mt 1675 (by decide +kernel)), (pz_mt 13 (by decide +kernel))⟩ (Or.inl ⟨TX12, 28, rfl⟩) (fun a M _ h => by
    have h : (match (generalizing := false) a with | [.inr (.inr (12, th)), .inl n, .inl i] => pz_im M | _ => False) := h
    split at h
    · exact ⟨_, _, rfl⟩
    · exact h.elim) h1 h2 h3



noncomputable def k_X12_bluff : pz_C := (4, 1, fun a M => (match a with | [.inr (.inr (12, th)), .inl p, .inl q, .inl w] => pz_im M | _ => False), fun a M r M' => (match a, r with | [.inr (.inr (12, th)), .inl p, .inl q, .inl w], some (.inl v) => (v = (if 0 ≤ p ∧ p ≤ 1000 ∧ 0 ≤ q ∧ q ≤ 1000 ∧ 0 ≤ w ∧ w ≤ 1000 ∧ 0 < p * q + (1000 - p) * w then p * q * 1000000 / (p * q + (1000 - p) * w) else -1)) ∧ M = M' | _, _ => False))
noncomputable abbrev ct_X12_bluff : List (Bool × Nat × pz_C) := [(false, 54, k_X12_isIn)]
set_option maxRecDepth 100000 in
set_option maxHeartbeats 4000000 in
theorem h_X12_bluff : pz_H yX12_bluff cX12_bluff 8 (some .int) k_X12_bluff 1 22 := by
  refine pz_mk (own := RX12) (tb := t_X12_bluff) (fl := pz_flf fl_RX12) (ci := pz_cif ci_RX12) (ct := pz_ctf ct_X12_bluff) (rz := false) (by decide +kernel) rfl t_X12_bluff_ok (pz_flk fl_RX12_ok) (pz_cik ci_RX12_ok) ?_ ?_ (Or.inl ⟨rfl, rfl⟩) ?_ ?_
  · exact fun i k' h => pz_ctk (l := ct_X12_bluff) (P := fun b i k => b = true → pz_cV 1 22 RX12 i k) (List.forall_mem_cons.mpr ⟨((fun z => by cases z)), fun _ h => absurd h List.not_mem_nil⟩) true i k' h rfl
  · exact fun i k' h => pz_ctk (l := ct_X12_bluff) (P := fun b i k => b = false → (pz_cS 1 22 RX12 i k ∨ (k = pz_kac ∧ 1 ≤ 1 ∧ 60 ≤ 22 ∧ Cond.methodLink RX12 i arraycopyName ∈ pz_tbl))) (List.forall_mem_cons.mpr ⟨(fun _ => Or.inl (s_X12_isIn (by decide) (by decide) (Or.inl (pz_mt 1217 (by decide +kernel))))), fun _ h => absurd h List.not_mem_nil⟩) false i k' h rfl
  · intro a M hlen hpre
    obtain ⟨th, p, q, w, rfl, hpre⟩ : ∃ th p q w, a = [.inr (.inr (12, th)), .inl p, .inl q, .inl w] ∧ (pz_im M) := by
      have hpre : (match (generalizing := false) a with | [.inr (.inr (12, th)), .inl p, .inl q, .inl w] => pz_im M | _ => False) := hpre
      split at hpre
      · exact ⟨_, _, _, _, rfl, hpre⟩
      · exact hpre.elim
    exact Nat.le_of_ble_eq_true rfl
  · intro a M hlen hcan hM hpre Ok hgo
    obtain ⟨th, p, q, w, rfl, hpre⟩ : ∃ th p q w, a = [.inr (.inr (12, th)), .inl p, .inl q, .inl w] ∧ (pz_im M) := by
      have hpre : (match (generalizing := false) a with | [.inr (.inr (12, th)), .inl p, .inl q, .inl w] => pz_im M | _ => False) := hpre
      split at hpre
      · exact ⟨_, _, _, _, rfl, hpre⟩
      · exact hpre.elim
    obtain ⟨k_th, hc_th⟩ := pz_tlm hcan
    have k_th : pz_kd th = 12 ∧ th < 231 := k_th
    have R_th := pz_kd12 k_th.1
    subst R_th
    clear k_th
    obtain ⟨k_p, hc_p⟩ := pz_tlm hc_th
    have l_p : -2147483648 ≤ p := k_p.1
    have u_p : p ≤ 2147483647 := k_p.2
    obtain ⟨k_q, hc_q⟩ := pz_tlm hc_p
    have l_q : -2147483648 ≤ q := k_q.1
    have u_q : q ≤ 2147483647 := k_q.2
    obtain ⟨k_w, hc_w⟩ := pz_tlm hc_q
    have l_w : -2147483648 ≤ w := k_w.1
    have u_w : w ≤ 2147483647 := k_w.2
    have hI : pz_im M := hpre
    refine hgo (fun _ => false) 48 0 _ [] M ?_
    refine And.intro (True.intro) ?_
    intro v5 M5 a5 b5 q5
    obtain ⟨q5, z5⟩ := q5
    subst z5
    clear a5 b5
    refine And.intro (fun h8 => ?_) (fun h8 => ?_)
    · skip
      replace q5 := q5.resolve_left (fun z => absurd (z.1.symm.trans h8) (by decide))
      clear h8
      refine And.intro rfl ?_
      refine ⟨?_, rfl⟩
      by_cases h9 : 0 ≤ p ∧ p ≤ 1000 ∧ 0 ≤ q ∧ q ≤ 1000 ∧ 0 ≤ w ∧ w ≤ 1000 ∧ 0 < p * q + (1000 - p) * w
      · rw [if_pos h9]
        first
          | (exfalso; omega)
          | (have F9 := pz_blf h9
             have E72 : v72 = p * q * 1000000 := by omega
             have E53 : v53 = p * q + (1000 - p) * w := by omega
             rw [E72, E53, F9.1, pz_wli (by omega) (by omega)] at e75
             rw [pz_wi (by omega) (by omega)] at e76
             exact e76.trans e75)
      · first
          | (rw [if_neg h9]; done)
          | (exfalso; omega)
    · skip
      replace q5 := q5.resolve_right (fun z => h8 z.1)
      clear h8
      refine And.intro (True.intro) ?_
      intro v16 M16 a16 b16 q16
      obtain ⟨q16, z16⟩ := q16
      subst z16
      clear a16 b16
      refine And.intro (fun h19 => ?_) (fun h19 => ?_)
      · skip
        replace q16 := q16.resolve_left (fun z => absurd (z.1.symm.trans h19) (by decide))
        clear h19
        refine And.intro rfl ?_
        refine ⟨?_, rfl⟩
        by_cases h9 : 0 ≤ p ∧ p ≤ 1000 ∧ 0 ≤ q ∧ q ≤ 1000 ∧ 0 ≤ w ∧ w ≤ 1000 ∧ 0 < p * q + (1000 - p) * w
        · rw [if_pos h9]
          first
            | (exfalso; omega)
            | (have F9 := pz_blf h9
               have E72 : v72 = p * q * 1000000 := by omega
               have E53 : v53 = p * q + (1000 - p) * w := by omega
               rw [E72, E53, F9.1, pz_wli (by omega) (by omega)] at e75
               rw [pz_wi (by omega) (by omega)] at e76
               exact e76.trans e75)
        · first
            | (rw [if_neg h9]; done)
            | (exfalso; omega)
      · skip
        replace q16 := q16.resolve_right (fun z => h19 z.1)
        clear h19
        refine And.intro (True.intro) ?_
        intro v27 M27 a27 b27 q27
        obtain ⟨q27, z27⟩ := q27
        subst z27
        clear a27 b27
        refine And.intro (fun h30 => ?_) (fun h30 => ?_)
        · skip
          replace q27 := q27.resolve_right (fun z => h30 z.1)
          clear h30
          intro v39 e39 a39 b39
          have B39 := pz_m3 (x := p) (y := q) (by omega) (by omega) (by omega) (by omega)
          rw [pz_wli (by omega) (by omega)] at e39
          intro v48 e48 a48 b48
          rw [pz_wi (by omega) (by omega)] at e48
          clear a48 b48
          intro v52 e52 a52 b52
          have B52 := pz_m3 (x := v48) (y := w) (by omega) (by omega) (by omega) (by omega)
          rw [pz_wli (by omega) (by omega)] at e52
          rw [e48] at e52 B52
          intro v53 e53 a53 b53
          rw [pz_wli (by omega) (by omega)] at e53
          clear a53 b53
          refine And.intro (fun h59 => ?_) ?_
          · skip
            refine And.intro (fun h60 => ?_) (fun h60 => ?_)
            · skip
              intro v72 e72 a72 b72
              rw [pz_wli (by omega) (by omega)] at e72
              clear a72 b72
              refine And.intro (by omega) ?_
              intro v75 e75 a75 b75
              intro v76 e76 a76 b76
              refine And.intro rfl ?_
              refine ⟨?_, rfl⟩
              by_cases h9 : 0 ≤ p ∧ p ≤ 1000 ∧ 0 ≤ q ∧ q ≤ 1000 ∧ 0 ≤ w ∧ w ≤ 1000 ∧ 0 < p * q + (1000 - p) * w
              · rw [if_pos h9]
                first
                  | (exfalso; omega)
                  | (have F9 := pz_blf h9
                     have E72 : v72 = p * q * 1000000 := by omega
                     have E53 : v53 = p * q + (1000 - p) * w := by omega
                     rw [E72, E53, F9.1, pz_wli (by omega) (by omega)] at e75
                     rw [pz_wi (by omega) (by omega)] at e76
                     exact e76.trans e75)
              · first
                  | (rw [if_neg h9]; done)
                  | (exfalso; omega)
            · skip
              refine And.intro rfl ?_
              refine ⟨?_, rfl⟩
              by_cases h9 : 0 ≤ p ∧ p ≤ 1000 ∧ 0 ≤ q ∧ q ≤ 1000 ∧ 0 ≤ w ∧ w ≤ 1000 ∧ 0 < p * q + (1000 - p) * w
              · rw [if_pos h9]
                first
                  | (exfalso; omega)
                  | (have F9 := pz_blf h9
                     have E72 : v72 = p * q * 1000000 := by omega
                     have E53 : v53 = p * q + (1000 - p) * w := by omega
                     rw [E72, E53, F9.1, pz_wli (by omega) (by omega)] at e75
                     rw [pz_wi (by omega) (by omega)] at e76
                     exact e76.trans e75)
              · first
                  | (rw [if_neg h9]; done)
                  | (exfalso; omega)
          refine And.intro (fun h59 => ?_) ?_
          · skip
            refine And.intro (fun h60 => ?_) (fun h60 => ?_)
            · skip
              intro v72 e72 a72 b72
              rw [pz_wli (by omega) (by omega)] at e72
              clear a72 b72
              refine And.intro (by omega) ?_
              intro v75 e75 a75 b75
              intro v76 e76 a76 b76
              refine And.intro rfl ?_
              refine ⟨?_, rfl⟩
              by_cases h9 : 0 ≤ p ∧ p ≤ 1000 ∧ 0 ≤ q ∧ q ≤ 1000 ∧ 0 ≤ w ∧ w ≤ 1000 ∧ 0 < p * q + (1000 - p) * w
              · rw [if_pos h9]
                first
                  | (exfalso; omega)
                  | (have F9 := pz_blf h9
                     have E72 : v72 = p * q * 1000000 := by omega
                     have E53 : v53 = p * q + (1000 - p) * w := by omega
                     rw [E72, E53, F9.1, pz_wli (by omega) (by omega)] at e75
                     rw [pz_wi (by omega) (by omega)] at e76
                     exact e76.trans e75)
              · first
                  | (rw [if_neg h9]; done)
                  | (exfalso; omega)
            · skip
              refine And.intro rfl ?_
              refine ⟨?_, rfl⟩
              by_cases h9 : 0 ≤ p ∧ p ≤ 1000 ∧ 0 ≤ q ∧ q ≤ 1000 ∧ 0 ≤ w ∧ w ≤ 1000 ∧ 0 < p * q + (1000 - p) * w
              · rw [if_pos h9]
                first
                  | (exfalso; omega)
                  | (have F9 := pz_blf h9
                     have E72 : v72 = p * q * 1000000 := by omega
                     have E53 : v53 = p * q + (1000 - p) * w := by omega
                     rw [E72, E53, F9.1, pz_wli (by omega) (by omega)] at e75
                     rw [pz_wi (by omega) (by omega)] at e76
                     exact e76.trans e75)
              · first
                  | (rw [if_neg h9]; done)
                  | (exfalso; omega)
          intro h59
          refine And.intro (fun h60 => ?_) (fun h60 => ?_)
          · skip
            intro v72 e72 a72 b72
            rw [pz_wli (by omega) (by omega)] at e72
            clear a72 b72
            refine And.intro (by omega) ?_
            intro v75 e75 a75 b75
            intro v76 e76 a76 b76
            refine And.intro rfl ?_
            refine ⟨?_, rfl⟩
            by_cases h9 : 0 ≤ p ∧ p ≤ 1000 ∧ 0 ≤ q ∧ q ≤ 1000 ∧ 0 ≤ w ∧ w ≤ 1000 ∧ 0 < p * q + (1000 - p) * w
            · rw [if_pos h9]
              first
                | (exfalso; omega)
                | (have F9 := pz_blf h9
                   have E72 : v72 = p * q * 1000000 := by omega
                   have E53 : v53 = p * q + (1000 - p) * w := by omega
                   rw [E72, E53, F9.1, pz_wli (by omega) (by omega)] at e75
                   rw [pz_wi (by omega) (by omega)] at e76
                   exact e76.trans e75)
            · first
                | (rw [if_neg h9]; done)
                | (exfalso; omega)
          · skip
            refine And.intro rfl ?_
            refine ⟨?_, rfl⟩
            by_cases h9 : 0 ≤ p ∧ p ≤ 1000 ∧ 0 ≤ q ∧ q ≤ 1000 ∧ 0 ≤ w ∧ w ≤ 1000 ∧ 0 < p * q + (1000 - p) * w
            · rw [if_pos h9]
              first
                | (exfalso; omega)
                | (have F9 := pz_blf h9
                   have E72 : v72 = p * q * 1000000 := by omega
                   have E53 : v53 = p * q + (1000 - p) * w := by omega
                   rw [E72, E53, F9.1, pz_wli (by omega) (by omega)] at e75
                   rw [pz_wi (by omega) (by omega)] at e76
                   exact e76.trans e75)
            · first
                | (rw [if_neg h9]; done)
                | (exfalso; omega)
        · skip
          replace q27 := q27.resolve_left (fun z => absurd (z.1.symm.trans h30) (by decide))
          clear h30
          refine And.intro rfl ?_
          refine ⟨?_, rfl⟩
          by_cases h9 : 0 ≤ p ∧ p ≤ 1000 ∧ 0 ≤ q ∧ q ≤ 1000 ∧ 0 ≤ w ∧ w ≤ 1000 ∧ 0 < p * q + (1000 - p) * w
          · rw [if_pos h9]
            first
              | (exfalso; omega)
              | (have F9 := pz_blf h9
                 have E72 : v72 = p * q * 1000000 := by omega
                 have E53 : v53 = p * q + (1000 - p) * w := by omega
                 rw [E72, E53, F9.1, pz_wli (by omega) (by omega)] at e75
                 rw [pz_wi (by omega) (by omega)] at e76
                 exact e76.trans e75)
          · first
              | (rw [if_neg h9]; done)
              | (exfalso; omega)
theorem v_X12_bluff {fr lo i : Nat} {own : String} (h1 : 1 + 1 ≤ fr) (h2 : 8 + (8 + 11) + 22 ≤ lo) (h3 : .methodLink own i yX12_bluff ∈ lw_tbl) : pz_cV fr lo own i k_X12_bluff :=
  pz_cVk (maxL := 8) (fr' := 1) (lo' := 22) 3 12 h_X12_bluff rfl ⟨by decide +kernel, by decide +kernel, by decide +kernel⟩ ⟨(pz_mt 1699 (by decide +kernel)), (pz_mt 1697 (by decide +kernel)), (pz_mt 1698 (by decide +kernel)), (pz_mt 13 (by decide +kernel))⟩ (Or.inl ⟨TX12, 28, rfl⟩) (fun a M _ h => by
    have h : (match (generalizing := false) a with | [.inr (.inr (12, th)), .inl p, .inl q, .inl w] => pz_im M | _ => False) := h
    split at h
    · exact ⟨_, _, rfl⟩
    · exact h.elim) h1 h2 h3



