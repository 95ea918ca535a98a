def k_X12_isGiving : pz_C := (2, 1, fun a M => (match a with | [.inr (.inr (12, th)), .inl i] => pz_im M | _ => False), fun a M r M' => (match a, r with | [.inr (.inr (12, th)), .inl i], some (.inl v) => ((v = 1 ∧ 0 ≤ i ∧ i < M 60 88 ∧ M 60 88 ≤ 12) ∨ v = 0) ∧ M = M' | _, _ => False))
abbrev ct_X12_isGiving : List (Bool × Nat × pz_C) := [(true, 317, k_X12_isThere)]
set_option maxRecDepth 100000 in
set_option maxHeartbeats 4000000 in
theorem h_X12_isGiving : pz_H yX12_isGiving cX12_isGiving 2 (some .boolean) k_X12_isGiving 3 64 := by
  refine pz_mk (own := RX12) (tb := t_X12_isGiving) (fl := pz_flf fl_RX12) (ci := pz_cif ci_RX12) (ct := pz_ctf ct_X12_isGiving) (rz := true) (by decide +kernel) rfl t_X12_isGiving_ok (pz_flk fl_RX12_ok) (pz_cik ci_RX12_ok) ?_ ?_ (Or.inr ⟨rfl, rfl⟩) ?_ ?_
  · exact fun i k' h => pz_ctk (l := ct_X12_isGiving) (P := fun b i k => b = true → pz_cV 3 64 RX12 i k) (List.forall_mem_cons.mpr ⟨(fun _ => v_X12_isThere (by decide) (by decide) (pz_mt 1415 (by decide +kernel))), fun _ h => absurd h List.not_mem_nil⟩) true i k' h rfl
  · exact fun i k' h => pz_ctk (l := ct_X12_isGiving) (P := fun b i k => b = false → (pz_cS 3 64 RX12 i k ∨ (k = pz_kac ∧ 1 ≤ 3 ∧ 60 ≤ 64 ∧ Cond.methodLink RX12 i arraycopyName ∈ pz_tbl))) (List.forall_mem_cons.mpr ⟨((fun z => by cases z)), fun _ h => absurd h List.not_mem_nil⟩) false i k' h rfl
  · intro a M hlen hpre
    obtain ⟨th, i, rfl, hpre⟩ : ∃ th i, a = [.inr (.inr (12, th)), .inl i] ∧ (pz_im M) := by
      have hpre : (match (generalizing := false) a with | [.inr (.inr (12, th)), .inl i] => pz_im M | _ => False) := hpre
      split at hpre
      · exact ⟨_, _, rfl, hpre⟩
      · exact hpre.elim
    exact Nat.le_of_ble_eq_true rfl
  · intro a M hlen hcan hM hpre Ok hgo
    obtain ⟨th, i, rfl, hpre⟩ : ∃ th i, a = [.inr (.inr (12, th)), .inl i] ∧ (pz_im M) := by
      have hpre : (match (generalizing := false) a with | [.inr (.inr (12, th)), .inl i] => pz_im M | _ => False) := hpre
      split at hpre
      · exact ⟨_, _, rfl, hpre⟩
      · exact hpre.elim
    obtain ⟨k_th, hc_th⟩ := pz_tlm hcan
    have k_th : pz_kd th = 12 ∧ th < 231 := k_th
    have R_th := pz_kd12 k_th.1
    subst R_th
    clear k_th
    obtain ⟨k_i, hc_i⟩ := pz_tlm hc_th
    have l_i : -2147483648 ≤ i := k_i.1
    have u_i : i ≤ 2147483647 := k_i.2
    have hI : pz_im M := hpre
    refine hgo (fun _ => false) 17 0 _ [] M ?_
    refine And.intro (hI) ?_
    intro v2 M2 a2 b2 q2
    obtain ⟨q2, z2⟩ := q2
    subst z2
    clear a2 b2
    refine And.intro (fun h5 => ?_) (fun h5 => ?_)
    · skip
      replace q2 := q2.resolve_left (fun z => absurd (z.1.symm.trans h5) (by decide))
      clear h5 q2
      refine And.intro (by omega) ?_
      refine And.intro rfl ?_
      exact ⟨by omega, rfl⟩
    · skip
      replace q2 := q2.resolve_right h5
      clear h5
      refine pz_nrc (c := 60) rfl ?_
      intro v15 e15 a15 b15
      rw [pz_wi (by omega) (by omega)] at e15
      clear a15 b15
      refine And.intro (by omega) (And.intro (show _ < (1725 : Int) from by omega) ?_)
      intro v16 e16 a16 b16
      refine And.intro (fun h17 => ?_) (fun h17 => ?_)
      · skip
        refine And.intro (by omega) ?_
        refine And.intro rfl ?_
        exact ⟨by omega, rfl⟩
      · skip
        refine And.intro (by omega) ?_
        refine And.intro rfl ?_
        exact ⟨by omega, rfl⟩
theorem v_X12_isGiving {fr lo i : Nat} {own : String} (h1 : 3 + 1 ≤ fr) (h2 : 8 + (2 + 11) + 64 ≤ lo) (h3 : .methodLink own i yX12_isGiving ∈ lw_tbl) : pz_cV fr lo own i k_X12_isGiving :=
  pz_cVk (maxL := 2) (fr' := 3) (lo' := 64) 1 12 h_X12_isGiving rfl ⟨by decide +kernel, by decide +kernel, by decide +kernel⟩ ⟨(pz_mt 1684 (by decide +kernel)), (pz_mt 1683 (by decide +kernel)), (pz_ms 81 (by decide +kernel)), (pz_mt 13 (by decide +kernel))⟩ (Or.inl ⟨TX12, 28, rfl⟩) (fun a M _ h => by
    have h : (match (generalizing := false) a with | [.inr (.inr (12, th)), .inl i] => pz_im M | _ => False) := h
    split at h
    · exact ⟨_, _, rfl⟩
    · exact h.elim) h1 h2 h3
def k_X12_givenBy : pz_C := (2, 1, fun a M => (match a with | [.inr (.inr (12, th)), .inl x] => pz_im M | _ => False), fun a M r M' => (match a, r with | [.inr (.inr (12, th)), .inl x], some (.inl v) => (True) ∧ M = M' | _, _ => False))
abbrev ct_X12_givenBy : List (Bool × Nat × pz_C) := [(true, 436, k_X12_isGiving), (false, 47, k_X12_lesser)]
set_option maxRecDepth 100000 in
set_option maxHeartbeats 4000000 in
theorem h_X12_givenBy : pz_H yX12_givenBy cX12_givenBy 4 (some .int) k_X12_givenBy 4 85 := by
  refine pz_mk (own := RX12) (tb := t_X12_givenBy) (fl := pz_flf fl_RX12) (ci := pz_cif ci_RX12) (ct := pz_ctf ct_X12_givenBy) (rz := false) (by decide +kernel) rfl t_X12_givenBy_ok (pz_flk fl_RX12_ok) (pz_cik ci_RX12_ok) ?_ ?_ (Or.inl ⟨rfl, rfl⟩) ?_ ?_
  · exact fun i k' h => pz_ctk (l := ct_X12_givenBy) (P := fun b i k => b = true → pz_cV 4 85 RX12 i k) (List.forall_mem_cons.mpr ⟨(fun _ => v_X12_isGiving (by decide) (by decide) (pz_mt 1681 (by decide +kernel))), List.forall_mem_cons.mpr ⟨((fun z => by cases z)), fun _ h => absurd h List.not_mem_nil⟩⟩) true i k' h rfl
  · exact fun i k' h => pz_ctk (l := ct_X12_givenBy) (P := fun b i k => b = false → (pz_cS 4 85 RX12 i k ∨ (k = pz_kac ∧ 1 ≤ 4 ∧ 60 ≤ 85 ∧ Cond.methodLink RX12 i arraycopyName ∈ pz_tbl))) (List.forall_mem_cons.mpr ⟨((fun z => by cases z)), List.forall_mem_cons.mpr ⟨(fun _ => Or.inl (s_X12_lesser (by decide) (by decide) (Or.inl (pz_mt 1462 (by decide +kernel))))), fun _ h => absurd h List.not_mem_nil⟩⟩) false i k' h rfl
  · intro a M hlen hpre
    obtain ⟨th, x, rfl, hpre⟩ : ∃ th x, a = [.inr (.inr (12, th)), .inl x] ∧ (pz_im M) := by
      have hpre : (match (generalizing := false) a with | [.inr (.inr (12, th)), .inl x] => pz_im M | _ => False) := hpre
      split at hpre
      · exact ⟨_, _, rfl, hpre⟩
      · exact hpre.elim
    exact Nat.le_of_ble_eq_true rfl
  · intro a M hlen hcan hM hpre Ok hgo
    obtain ⟨th, x, rfl, hpre⟩ : ∃ th x, a = [.inr (.inr (12, th)), .inl x] ∧ (pz_im M) := by
      have hpre : (match (generalizing := false) a with | [.inr (.inr (12, th)), .inl x] => pz_im M | _ => False) := hpre
      split at hpre
      · exact ⟨_, _, rfl, hpre⟩
      · exact hpre.elim
    obtain ⟨k_th, hc_th⟩ := pz_tlm hcan
    have k_th : pz_kd th = 12 ∧ th < 231 := k_th
    have R_th := pz_kd12 k_th.1
    subst R_th
    clear k_th
    obtain ⟨k_x, hc_x⟩ := pz_tlm hc_th
    have l_x : -2147483648 ≤ x := k_x.1
    have u_x : x ≤ 2147483647 := k_x.2
    have hI : pz_im M := hpre
    have L4 : ∀ (fu : Nat) (x2 : Int) (x3 : Int), (12 - x3).toNat < fu → (0 ≤ x3) → Ok 4 [some (.inr (.inr (12, 1))), some (.inl x), some (.inl x2), some (.inl x3)] [] M := by
      intro fu
      induction fu with
      | zero => exact fun _ _ hn => absurd hn (Nat.not_lt_zero _)
      | succ fu ih4 =>
        intro x2 x3 hn4 g4_0
        have L41 : ∀ (x2 : Int) (x3 : Int) (s0 : Int) (s1 : Int), (0 ≤ x3) → (x3 < 12) → ((12 - x3).toNat < fu + 1) → Ok 41 [some (.inr (.inr (12, 1))), some (.inl x), some (.inl x2), some (.inl x3)] [.inl s1, .inl s0] M := by
          intro x2 x3 s0 s1 g41_0 g41_1 g41_2
          refine hgo (fun p => Nat.beq p 4 || Nat.beq p 41) 33 41 _ _ _ ?_
          intro v41 e41 a41 b41
          intro v43 e43 a43 b43
          rw [pz_wi (by omega) (by omega)] at e43
          clear a43 b43
          exact ih4 _ _ (by omega) (by omega)
        refine hgo (fun p => Nat.beq p 4 || Nat.beq p 41) 33 4 _ _ _ ?_
        refine pz_nrc (c := 60) rfl ?_
        refine And.intro (by omega) (And.intro (show _ < (1725 : Int) from by omega) ?_)
        intro v11 e11 a11 b11
        replace e11 : v11 = M 60 88 := e11
        have I11 : 0 ≤ v11 ∧ v11 ≤ 12 := by
          rw [e11]
          exact hI.1.1
        clear a11 b11
        refine And.intro (fun h12 => ?_) (fun h12 => ?_)
        · skip
          refine And.intro rfl ?_
          exact ⟨trivial, rfl⟩
        · skip
          refine And.intro (hI) ?_
          intro v18 M18 a18 b18 q18
          obtain ⟨q18, z18⟩ := q18
          subst z18
          clear a18 b18
          refine And.intro (fun h21 => ?_) (fun h21 => ?_)
          · skip
            replace q18 := q18.resolve_left (fun z => absurd (z.1.symm.trans h21) (by decide))
            clear h21 q18
            exact L41 _ _ _ _ (by omega) (by omega) (by omega)
          · skip
            replace q18 := q18.resolve_right h21
            clear h21
            refine pz_nrc (c := 60) rfl ?_
            intro v32 e32 a32 b32
            rw [pz_wi (by omega) (by omega)] at e32
            clear a32 b32
            refine And.intro (by omega) (And.intro (show _ < (1725 : Int) from by omega) ?_)
            intro v33 e33 a33 b33
            refine And.intro (True.intro) ?_
            intro v34 M34 a34 b34 q34
            obtain ⟨q34, z34⟩ := q34
            subst z34
            replace q34 : v34 ≤ x ∧ v34 ≤ v33 := by omega
            exact L41 _ _ _ _ (by omega) (by omega) (by omega)
    refine hgo (fun p => Nat.beq p 4 || Nat.beq p 41) 33 0 _ [] M ?_
    exact L4 _ _ _ (Nat.lt_succ_self _) (by omega)
theorem v_X12_givenBy {fr lo i : Nat} {own : String} (h1 : 4 + 1 ≤ fr) (h2 : 8 + (4 + 11) + 85 ≤ lo) (h3 : .methodLink own i yX12_givenBy ∈ lw_tbl) : pz_cV fr lo own i k_X12_givenBy :=
  pz_cVk (maxL := 4) (fr' := 4) (lo' := 85) 1 12 h_X12_givenBy rfl ⟨by decide +kernel, by decide +kernel, by decide +kernel⟩ ⟨(pz_mt 1680 (by decide +kernel)), (pz_mt 1679 (by decide +kernel)), (pz_ms 80 (by decide +kernel)), (pz_mt 13 (by decide +kernel))⟩ (Or.inl ⟨TX12, 28, rfl⟩) (fun a M _ h => by
    have h : (match (generalizing := false) a with | [.inr (.inr (12, th)), .inl x] => pz_im M | _ => False) := h
    split at h
    · exact ⟨_, _, rfl⟩
    · exact h.elim) h1 h2 h3
def k_X12_share : pz_C := (3, 1, fun a M => (match a with | [.inr (.inr (12, th)), .inl n, .inl i] => pz_im M | _ => False), fun a M r M' => (match a, r with | [.inr (.inr (12, th)), .inl n, .inl i], some (.inl v) => (True) ∧ M = M' | _, _ => False))
abbrev ct_X12_share : List (Bool × Nat × pz_C) := [(false, 54, k_X12_isIn), (true, 58, k_X12_isLink), (true, 439, k_X12_givenBy), (true, 436, k_X12_isGiving)]
set_option maxRecDepth 100000 in
set_option maxHeartbeats 4000000 in
theorem h_X12_share : pz_H yX12_share cX12_share 6 (some .int) k_X12_share 5 108 := by
  refine pz_mk (own := RX12) (tb := t_X12_share) (fl := pz_flf fl_RX12) (ci := pz_cif ci_RX12) (ct := pz_ctf ct_X12_share) (rz := false) (by decide +kernel) rfl t_X12_share_ok (pz_flk fl_RX12_ok) (pz_cik ci_RX12_ok) ?_ ?_ (Or.inl ⟨rfl, rfl⟩) ?_ ?_
  · exact fun i k' h => pz_ctk (l := ct_X12_share) (P := fun b i k => b = true → pz_cV 5 108 RX12 i k) (List.forall_mem_cons.mpr ⟨((fun z => by cases z)), List.forall_mem_cons.mpr ⟨(fun _ => v_X12_isLink (by decide) (by decide) (pz_mt 1224 (by decide +kernel))), List.forall_mem_cons.mpr ⟨(fun _ => v_X12_givenBy (by decide) (by decide) (pz_mt 1677 (by decide +kernel))), List.forall_mem_cons.mpr ⟨(fun _ => v_X12_isGiving (by decide) (by decide) (pz_mt 1681 (by decide +kernel))), fun _ h => absurd h List.not_mem_nil⟩⟩⟩⟩) true i k' h rfl
  · exact fun i k' h => pz_ctk (l := ct_X12_share) (P := fun b i k => b = false → (pz_cS 5 108 RX12 i k ∨ (k = pz_kac ∧ 1 ≤ 5 ∧ 60 ≤ 108 ∧ Cond.methodLink RX12 i arraycopyName ∈ pz_tbl))) (List.forall_mem_cons.mpr ⟨(fun _ => Or.inl (s_X12_isIn (by decide) (by decide) (Or.inl (pz_mt 1217 (by decide +kernel))))), List.forall_mem_cons.mpr ⟨((fun z => by cases z)), List.forall_mem_cons.mpr ⟨((fun z => by cases z)), List.forall_mem_cons.mpr ⟨((fun z => by cases z)), fun _ h => absurd h List.not_mem_nil⟩⟩⟩⟩) false i k' h rfl
  · intro a M hlen hpre
    obtain ⟨th, n, i, rfl, hpre⟩ : ∃ th n i, a = [.inr (.inr (12, th)), .inl n, .inl i] ∧ (pz_im M) := by
      have hpre : (match (generalizing := false) a with | [.inr (.inr (12, th)), .inl n, .inl i] => pz_im M | _ => False) := hpre
      split at hpre
      · exact ⟨_, _, _, rfl, hpre⟩
      · exact hpre.elim
    exact Nat.le_of_ble_eq_true rfl
  · intro a M hlen hcan hM hpre Ok hgo
    obtain ⟨th, n, i, rfl, hpre⟩ : ∃ th n i, a = [.inr (.inr (12, th)), .inl n, .inl i] ∧ (pz_im M) := by
      have hpre : (match (generalizing := false) a with | [.inr (.inr (12, th)), .inl n, .inl i] => pz_im M | _ => False) := hpre
      split at hpre
      · exact ⟨_, _, _, rfl, hpre⟩
      · exact hpre.elim
    obtain ⟨k_th, hc_th⟩ := pz_tlm hcan
    have k_th : pz_kd th = 12 ∧ th < 231 := k_th
    have R_th := pz_kd12 k_th.1
    subst R_th
    clear k_th
    obtain ⟨k_n, hc_n⟩ := pz_tlm hc_th
    have l_n : -2147483648 ≤ n := k_n.1
    have u_n : n ≤ 2147483647 := k_n.2
    obtain ⟨k_i, hc_i⟩ := pz_tlm hc_n
    have l_i : -2147483648 ≤ i := k_i.1
    have u_i : i ≤ 2147483647 := k_i.2
    have hI : pz_im M := hpre
    have L70 : ∀ (fu : Nat) (x3 : Int) (x4 : Int) (x5 : Int), (12 - x5).toNat < fu → (0 ≤ x5) → (i < 12) → Ok 70 [some (.inr (.inr (12, 1))), some (.inl n), some (.inl i), some (.inl x3), some (.inl x4), some (.inl x5)] [] M := by
      intro fu
      induction fu with
      | zero => exact fun _ _ _ hn => absurd hn (Nat.not_lt_zero _)
      | succ fu ih70 =>
        intro x3 x4 x5 hn70 g70_0 g70_1
        have L106 : ∀ (x3 : Int) (x4 : Int) (x5 : Int) (s0 : Int) (s1 : Int), (0 ≤ x5) → (x5 < 12) → ((12 - x5).toNat < fu + 1) → Ok 106 [some (.inr (.inr (12, 1))), some (.inl n), some (.inl i), some (.inl x3), some (.inl x4), some (.inl x5)] [.inl s1, .inl s0] M := by
          intro x3 x4 x5 s0 s1 g106_0 g106_1 g106_2
          refine hgo (fun p => Nat.beq p 34 || Nat.beq p 58 || Nat.beq p 70 || Nat.beq p 106) 92 106 _ _ _ ?_
          intro v106 e106 a106 b106
          intro v109 e109 a109 b109
          rw [pz_wi (by omega) (by omega)] at e109
          clear a109 b109
          exact ih70 _ _ _ (by omega) (by omega) (by omega)
        refine hgo (fun p => Nat.beq p 34 || Nat.beq p 58 || Nat.beq p 70 || Nat.beq p 106) 92 70 _ _ _ ?_
        refine And.intro (fun h73 => ?_) (fun h73 => ?_)
        · skip
          refine And.intro (hI) ?_
          intro v117 M117 a117 b117 q117
          obtain ⟨q117, z117⟩ := q117
          subst z117
          clear a117 b117
          refine And.intro (fun h120 => ?_) (fun h120 => ?_)
          · skip
            replace q117 := q117.resolve_right h120
            clear h120
            refine pz_nrc (c := 60) rfl ?_
            intro v134 e134 a134 b134
            rw [pz_wi (by omega) (by omega)] at e134
            clear a134 b134
            refine And.intro (by omega) (And.intro (show _ < (1725 : Int) from by omega) ?_)
            intro v135 e135 a135 b135
            refine And.intro (fun h137 => ?_) (fun h137 => ?_)
            · skip
              refine And.intro (fun h154 => ?_) (fun h154 => ?_)
              · skip
                refine And.intro rfl ?_
                exact ⟨trivial, rfl⟩
              · skip
                intro v159 e159 a159 b159
                refine And.intro rfl ?_
                exact ⟨trivial, rfl⟩
            · skip
              refine pz_nrc (c := 60) rfl ?_
              intro v147 e147 a147 b147
              rw [pz_wi (by omega) (by omega)] at e147
              clear a147 b147
              refine And.intro (by omega) (And.intro (show _ < (1725 : Int) from by omega) ?_)
              intro v148 e148 a148 b148
              refine And.intro rfl ?_
              exact ⟨trivial, rfl⟩
          · skip
            replace q117 := q117.resolve_left (fun z => absurd (z.1.symm.trans h120) (by decide))
            clear h120 q117
            refine And.intro rfl ?_
            exact ⟨trivial, rfl⟩
        · skip
          refine And.intro (hI) ?_
          intro v81 M81 a81 b81 q81
          obtain ⟨q81, z81⟩ := q81
          subst z81
          clear a81 b81
          refine And.intro (fun h84 => ?_) (fun h84 => ?_)
          · skip
            replace q81 := q81.resolve_left (fun z => absurd (z.1.symm.trans h84) (by decide))
            clear h84 q81
            exact L106 _ _ _ _ _ (by omega) (by omega) (by omega)
          · skip
            replace q81 := q81.resolve_right h84
            clear h84
            refine pz_nrc (c := 60) rfl ?_
            intro v95 e95 a95 b95
            rw [pz_wi (by omega) (by omega)] at e95
            clear a95 b95
            refine And.intro (by omega) (And.intro (show _ < (1725 : Int) from by omega) ?_)
            intro v96 e96 a96 b96
            refine And.intro (fun h98 => ?_) (fun h98 => ?_)
            · skip
              exact L106 _ _ _ _ _ (by omega) (by omega) (by omega)
            · skip
              exact L106 _ _ _ _ _ (by omega) (by omega) (by omega)
    have L58 : ∀ (x3 : Int) (d4 : Option pz_V) (d5 : Option pz_V), (0 ≤ i) → (i < 12) → Ok 58 [some (.inr (.inr (12, 1))), some (.inl n), some (.inl i), some (.inl x3), d4, d5] [] M := by
      intro x3 d4 d5 g58_0 g58_1
      refine hgo (fun p => Nat.beq p 34 || Nat.beq p 58 || Nat.beq p 70 || Nat.beq p 106) 92 58 _ _ _ ?_
      refine And.intro (hI) ?_
      intro v61 M61 a61 b61 q61
      obtain ⟨q61, z61⟩ := q61
      subst z61
      intro v64 e64 a64 b64
      exact L70 _ _ _ _ (Nat.lt_succ_self _) (by omega) (by omega)
    have L34 : ∀ (fu : Nat) (x3 : Int) (d4 : Option pz_V) (d5 : Option pz_V), (999 - x3).toNat < fu → (0 ≤ x3) → (0 ≤ i) → (i < 12) → Ok 34 [some (.inr (.inr (12, 1))), some (.inl n), some (.inl i), some (.inl x3), d4, d5] [] M := by
      intro fu
      induction fu with
      | zero => exact fun _ _ _ hn => absurd hn (Nat.not_lt_zero _)
      | succ fu ih34 =>
        intro x3 d4 d5 hn34 g34_0 g34_1 g34_2
        refine hgo (fun p => Nat.beq p 34 || Nat.beq p 58 || Nat.beq p 70 || Nat.beq p 106) 92 34 _ _ _ ?_
        refine And.intro (fun h38 => ?_) (fun h38 => ?_)
        · skip
          exact L58 _ _ _ (by omega) (by omega)
        · skip
          intro v44 e44 a44 b44
          rw [pz_wi (by omega) (by omega)] at e44
          clear a44 b44
          refine And.intro (hI) ?_
          intro v45 M45 a45 b45 q45
          obtain ⟨q45, z45⟩ := q45
          subst z45
          refine And.intro (fun h49 => ?_) (fun h49 => ?_)
          · skip
            exact L58 _ _ _ (by omega) (by omega)
          · skip
            intro v52 e52 a52 b52
            rw [pz_wi (by omega) (by omega)] at e52
            clear a52 b52
            exact ih34 _ _ _ (by omega) (by omega) (by omega) (by omega)
    refine hgo (fun p => Nat.beq p 34 || Nat.beq p 58 || Nat.beq p 70 || Nat.beq p 106) 92 0 _ [] M ?_
    refine And.intro (True.intro) ?_
    intro v5 M5 a5 b5 q5
    obtain ⟨q5, z5⟩ := q5
    subst z5
    clear a5 b5
    refine And.intro (fun h8 => ?_) (fun h8 => ?_)
    · skip
      replace q5 := q5.resolve_left (fun z => absurd (z.1.symm.trans h8) (by decide))
      clear h8
      refine And.intro rfl ?_
      exact ⟨trivial, rfl⟩
    · skip
      replace q5 := q5.resolve_right (fun z => h8 z.1)
      clear h8
      refine And.intro (hI) ?_
      intro v13 M13 a13 b13 q13
      obtain ⟨q13, z13⟩ := q13
      subst z13
      clear a13 b13
      refine And.intro (fun h16 => ?_) (fun h16 => ?_)
      · skip
        replace q13 := q13.resolve_left (fun z => absurd (z.1.symm.trans h16) (by decide))
        clear h16
        refine And.intro rfl ?_
        exact ⟨trivial, rfl⟩
      · skip
        replace q13 := q13.resolve_right (fun z => h16 z.1)
        clear h16
        refine And.intro (hI) ?_
        intro v23 M23 a23 b23 q23
        obtain ⟨q23, z23⟩ := q23
        subst z23
        refine And.intro (fun h27 => ?_) (fun h27 => ?_)
        · skip
          exact L34 _ _ _ _ (Nat.lt_succ_self _) (by omega) (by omega) (by omega)
        · skip
          refine And.intro rfl ?_
          exact ⟨trivial, rfl⟩
theorem v_X12_share {fr lo i : Nat} {own : String} (h1 : 5 + 1 ≤ fr) (h2 : 8 + (6 + 11) + 108 ≤ lo) (h3 : .methodLink own i yX12_share ∈ lw_tbl) : pz_cV fr lo own i k_X12_share :=
  pz_cVk (maxL := 6) (fr' := 5) (lo' := 108) 2 12 h_X12_share rfl ⟨by decide +kernel, by decide +kernel, by decide +kernel⟩ ⟨(pz_mt 1676 (by decide +kernel)), (pz_mt 1674 (by decide +kernel)), (pz_mt 1675 (by decide +kernel)), (pz_mt 13 (by decide +kernel))⟩ (Or.inl ⟨TX12, 28, rfl⟩) (fun a M _ h => by
    have h : (match (generalizing := false) a with | [.inr (.inr (12, th)), .inl n, .inl i] => pz_im M | _ => False) := h
    split at h
    · exact ⟨_, _, rfl⟩
    · exact h.elim) h1 h2 h3
def k_X12_along : pz_C := (4, 1, fun a M => (match a with | [.inr (.inr (12, th)), .inl i, .inl n, .inl w] => pz_im M | _ => False), fun a M r M' => (match a, r with | [.inr (.inr (12, th)), .inl i, .inl n, .inl w], some (.inl v) => (True) ∧ pz_sm M M' | _, _ => False))
abbrev ct_X12_along : List (Bool × Nat × pz_C) := [(true, 58, k_X12_isLink), (false, 54, k_X12_isIn), (true, 317, k_X12_isThere), (true, 320, k_X12_giveOf), (false, 47, k_X12_lesser)]
set_option maxRecDepth 100000 in
set_option maxHeartbeats 4000000 in
theorem h_X12_along : pz_H yX12_along cX12_along 8 (some .int) k_X12_along 5 116 := by
  refine pz_mk (own := RX12) (tb := t_X12_along) (fl := pz_flf fl_RX12) (ci := pz_cif ci_RX12) (ct := pz_ctf ct_X12_along) (rz := false) (by decide +kernel) rfl t_X12_along_ok (pz_flk fl_RX12_ok) (pz_cik ci_RX12_ok) ?_ ?_ (Or.inl ⟨rfl, rfl⟩) ?_ ?_
  · exact fun i k' h => pz_ctk (l := ct_X12_along) (P := fun b i k => b = true → pz_cV 5 116 RX12 i k) (List.forall_mem_cons.mpr ⟨(fun _ => v_X12_isLink (by decide) (by decide) (pz_mt 1224 (by decide +kernel))), List.forall_mem_cons.mpr ⟨((fun z => by cases z)), List.forall_mem_cons.mpr ⟨(fun _ => v_X12_isThere (by decide) (by decide) (pz_mt 1415 (by decide +kernel))), List.forall_mem_cons.mpr ⟨(fun _ => v_X12_giveOf (by decide) (by decide) (pz_mt 1435 (by decide +kernel))), List.forall_mem_cons.mpr ⟨((fun z => by cases z)), fun _ h => absurd h List.not_mem_nil⟩⟩⟩⟩⟩) true i k' h rfl
  · exact fun i k' h => pz_ctk (l := ct_X12_along) (P := fun b i k => b = false → (pz_cS 5 116 RX12 i k ∨ (k = pz_kac ∧ 1 ≤ 5 ∧ 60 ≤ 116 ∧ Cond.methodLink RX12 i arraycopyName ∈ pz_tbl))) (List.forall_mem_cons.mpr ⟨((fun z => by cases z)), List.forall_mem_cons.mpr ⟨(fun _ => Or.inl (s_X12_isIn (by decide) (by decide) (Or.inl (pz_mt 1217 (by decide +kernel))))), List.forall_mem_cons.mpr ⟨((fun z => by cases z)), List.forall_mem_cons.mpr ⟨((fun z => by cases z)), List.forall_mem_cons.mpr ⟨(fun _ => Or.inl (s_X12_lesser (by decide) (by decide) (Or.inl (pz_mt 1462 (by decide +kernel))))), fun _ h => absurd h List.not_mem_nil⟩⟩⟩⟩⟩) false i k' h rfl
  · intro a M hlen hpre
    obtain ⟨th, i, n, w, rfl, hpre⟩ : ∃ th i n w, a = [.inr (.inr (12, th)), .inl i, .inl n, .inl w] ∧ (pz_im M) := by
      have hpre : (match (generalizing := false) a with | [.inr (.inr (12, th)), .inl i, .inl n, .inl w] => pz_im M | _ => False) := hpre
      split at hpre
      · exact ⟨_, _, _, _, rfl, hpre⟩
      · exact hpre.elim
    exact Nat.le_of_ble_eq_true rfl
  · intro a M hlen hcan hM hpre Ok hgo
    obtain ⟨th, i, n, w, rfl, hpre⟩ : ∃ th i n w, a = [.inr (.inr (12, th)), .inl i, .inl n, .inl w] ∧ (pz_im M) := by
      have hpre : (match (generalizing := false) a with | [.inr (.inr (12, th)), .inl i, .inl n, .inl w] => pz_im M | _ => False) := hpre
      split at hpre
      · exact ⟨_, _, _, _, rfl, hpre⟩
      · exact hpre.elim
    obtain ⟨k_th, hc_th⟩ := pz_tlm hcan
    have k_th : pz_kd th = 12 ∧ th < 231 := k_th
    have R_th := pz_kd12 k_th.1
    subst R_th
    clear k_th
    obtain ⟨k_i, hc_i⟩ := pz_tlm hc_th
    have l_i : -2147483648 ≤ i := k_i.1
    have u_i : i ≤ 2147483647 := k_i.2
    obtain ⟨k_n, hc_n⟩ := pz_tlm hc_i
    have l_n : -2147483648 ≤ n := k_n.1
    have u_n : n ≤ 2147483647 := k_n.2
    obtain ⟨k_w, hc_w⟩ := pz_tlm hc_n
    have l_w : -2147483648 ≤ w := k_w.1
    have u_w : w ≤ 2147483647 := k_w.2
    have hI : pz_im M := hpre
    have hI0 := hI
    have hS : pz_sm M M := pz_sm.rf
    have L39 : ∀ (fu : Nat) (x4 : Int) (x5 : Int) (x6 : Int) (d7 : Option pz_V) (N39 : pz_M), (12 - x6).toNat < fu → (pz_sm M N39) → (0 ≤ x6) → Ok 39 [some (.inr (.inr (12, 1))), some (.inl i), some (.inl n), some (.inl w), some (.inl x4), some (.inl x5), some (.inl x6), d7] [] N39 := by
      intro fu
      induction fu with
      | zero => exact fun _ _ _ _ _ hn => absurd hn (Nat.not_lt_zero _)
      | succ fu ih39 =>
        intro x4 x5 x6 d7 N39 hn39 hS g39_1
        have hI : pz_im N39 := hS.1.1.1 hI0
        have L96 : ∀ (x4 : Int) (x5 : Int) (x6 : Int) (x7 : Int) (s0 : Int) (s1 : Int) (N96 : pz_M), (pz_sm M N96) → (0 ≤ x6) → (x6 < 12) → ((12 - x6).toNat < fu + 1) → Ok 96 [some (.inr (.inr (12, 1))), some (.inl i), some (.inl n), some (.inl w), some (.inl x4), some (.inl x5), some (.inl x6), some (.inl x7)] [.inl s1, .inl s0] N96 := by
          intro x4 x5 x6 x7 s0 s1 N96 hS g96_1 g96_2 g96_3
          have hI : pz_im N96 := hS.1.1.1 hI0
          refine hgo (fun p => Nat.beq p 39 || Nat.beq p 75 || Nat.beq p 96) 62 96 _ _ _ ?_
          intro v96 e96 a96 b96
          intro v99 e99 a99 b99
          rw [pz_wi (by omega) (by omega)] at e99
          clear a99 b99
          exact ih39 _ _ _ _ _ (by omega) hS (by omega)
        have L75 : ∀ (x4 : Int) (x5 : Int) (x6 : Int) (d7 : Option pz_V) (s0 : Int) (N75 : pz_M), (pz_sm M N75) → (0 ≤ x6) → (x6 < 12) → ((12 - x6).toNat < fu + 1) → Ok 75 [some (.inr (.inr (12, 1))), some (.inl i), some (.inl n), some (.inl w), some (.inl x4), some (.inl x5), some (.inl x6), d7] [.inl s0] N75 := by
          intro x4 x5 x6 d7 s0 N75 hS g75_1 g75_2 g75_3
          have hI : pz_im N75 := hS.1.1.1 hI0
          refine hgo (fun p => Nat.beq p 39 || Nat.beq p 75 || Nat.beq p 96) 62 75 _ _ _ ?_
          intro v81 e81 a81 b81
          refine And.intro (fun h88 => ?_) (fun h88 => ?_)
          · skip
            exact L96 _ _ _ _ _ _ _ hS (by omega) (by omega) (by omega)
          · skip
            exact L96 _ _ _ _ _ _ _ hS (by omega) (by omega) (by omega)
        refine hgo (fun p => Nat.beq p 39 || Nat.beq p 75 || Nat.beq p 96) 62 39 _ _ _ ?_
        refine pz_nrc (c := 60) rfl ?_
        refine And.intro (by omega) (And.intro (show _ < (1725 : Int) from by omega) ?_)
        intro v47 e47 a47 b47
        replace e47 : v47 = N39 60 88 := e47
        have I47 : 0 ≤ v47 ∧ v47 ≤ 12 := by
          rw [e47]
          exact hI.1.1
        clear a47 b47
        refine And.intro (fun h48 => ?_) (fun h48 => ?_)
        · skip
          refine And.intro (fun h106 => ?_) (fun h106 => ?_)
          · skip
            refine And.intro rfl ?_
            exact ⟨trivial, hS⟩
          · skip
            refine And.intro rfl ?_
            exact ⟨trivial, hS⟩
        · skip
          refine And.intro (hI) ?_
          intro v54 M54 a54 b54 q54
          obtain ⟨q54, z54⟩ := q54
          subst z54
          clear a54 b54
          refine And.intro (fun h57 => ?_) (fun h57 => ?_)
          · skip
            replace q54 := q54.resolve_left (fun z => absurd (z.1.symm.trans h57) (by decide))
            clear h57 q54
            exact L75 _ _ _ _ _ _ hS (by omega) (by omega) (by omega)
          · skip
            replace q54 := q54.resolve_right h57
            clear h57
            refine And.intro (And.intro hI (And.intro (by omega) (by omega))) ?_
            intro v65 M65 a65 b65 q65
            obtain ⟨q65, z65⟩ := q65
            have hS : pz_sm M M65 := hS.tr z65
            have hI : pz_im M65 := hS.1.1.1 hI0
            refine And.intro (True.intro) ?_
            intro v68 M68 a68 b68 q68
            obtain ⟨q68, z68⟩ := q68
            subst z68
            replace q68 : v68 ≤ x4 ∧ v68 ≤ v65 := by omega
            exact L75 _ _ _ _ _ _ hS (by omega) (by omega) (by omega)
    refine hgo (fun p => Nat.beq p 39 || Nat.beq p 75 || Nat.beq p 96) 62 0 _ [] M ?_
    refine And.intro (hI) ?_
    intro v2 M2 a2 b2 q2
    obtain ⟨q2, z2⟩ := q2
    subst z2
    clear a2 b2
    refine And.intro (fun h5 => ?_) (fun h5 => ?_)
    · skip
      replace q2 := q2.resolve_left (fun z => absurd (z.1.symm.trans h5) (by decide))
      clear h5
      refine And.intro rfl ?_
      exact ⟨trivial, hS⟩
    · skip
      replace q2 := q2.resolve_right (fun z => h5 z.1)
      clear h5
      refine And.intro (True.intro) ?_
      intro v13 M13 a13 b13 q13
      obtain ⟨q13, z13⟩ := q13
      subst z13
      clear a13 b13
      refine And.intro (fun h16 => ?_) (fun h16 => ?_)
      · skip
        replace q13 := q13.resolve_left (fun z => absurd (z.1.symm.trans h16) (by decide))
        clear h16
        refine And.intro rfl ?_
        exact ⟨trivial, hS⟩
      · skip
        replace q13 := q13.resolve_right (fun z => h16 z.1)
        clear h16
        refine And.intro (True.intro) ?_
        intro v22 M22 a22 b22 q22
        obtain ⟨q22, z22⟩ := q22
        subst z22
        clear a22 b22
        refine And.intro (fun h25 => ?_) (fun h25 => ?_)
        · skip
          replace q22 := q22.resolve_right (fun z => h25 z.1)
          clear h25
          exact L39 _ _ _ _ _ _ (Nat.lt_succ_self _) hS (by omega)
        · skip
          replace q22 := q22.resolve_left (fun z => absurd (z.1.symm.trans h25) (by decide))
          clear h25
          refine And.intro rfl ?_
          exact ⟨trivial, hS⟩
theorem v_X12_along {fr lo i : Nat} {own : String} (h1 : 5 + 1 ≤ fr) (h2 : 8 + (8 + 11) + 116 ≤ lo) (h3 : .methodLink own i yX12_along ∈ lw_tbl) : pz_cV fr lo own i k_X12_along :=
  pz_cVk (maxL := 8) (fr' := 5) (lo' := 116) 3 12 h_X12_along rfl ⟨by decide +kernel, by decide +kernel, by decide +kernel⟩ ⟨(pz_mt 1688 (by decide +kernel)), (pz_mt 1686 (by decide +kernel)), (pz_mt 1687 (by decide +kernel)), (pz_mt 13 (by decide +kernel))⟩ (Or.inl ⟨TX12, 28, rfl⟩) (fun a M _ h => by
    have h : (match (generalizing := false) a with | [.inr (.inr (12, th)), .inl i, .inl n, .inl w] => pz_im M | _ => False) := h
    split at h
    · exact ⟨_, _, rfl⟩
    · exact h.elim) h1 h2 h3
def k_X12_downwards : pz_C := (2, 1, fun a M => (match a with | [.inl x, .inl y] => y ≠ 0 | _ => False), fun a M r M' => (match a, r with | [.inl x, .inl y], some (.inl v) => (True) ∧ M = M' | _, _ => False))
abbrev ct_X12_downwards : List (Bool × Nat × pz_C) := []
set_option maxRecDepth 100000 in
set_option maxHeartbeats 4000000 in
theorem h_X12_downwards : pz_H yX12_downwards cX12_downwards 2 (some .int) k_X12_downwards 0 0 := by
  refine pz_mk (own := RX12) (tb := t_X12_downwards) (fl := pz_flf fl_RX12) (ci := pz_cif ci_RX12) (ct := pz_ctf ct_X12_downwards) (rz := false) (by decide +kernel) rfl t_X12_downwards_ok (pz_flk fl_RX12_ok) (pz_cik ci_RX12_ok) ?_ ?_ (Or.inl ⟨rfl, rfl⟩) ?_ ?_
  · exact fun i k' h => pz_ctk (l := ct_X12_downwards) (P := fun b i k => b = true → pz_cV 0 0 RX12 i k) (fun _ h => absurd h List.not_mem_nil) true i k' h rfl
  · exact fun i k' h => pz_ctk (l := ct_X12_downwards) (P := fun b i k => b = false → (pz_cS 0 0 RX12 i k ∨ (k = pz_kac ∧ 1 ≤ 0 ∧ 60 ≤ 0 ∧ Cond.methodLink RX12 i arraycopyName ∈ pz_tbl))) (fun _ h => absurd h List.not_mem_nil) false i k' h rfl
  · intro a M hlen hpre
    obtain ⟨x, y, rfl, hpre⟩ : ∃ x y, a = [.inl x, .inl y] ∧ (y ≠ 0) := by
      have hpre : (match (generalizing := false) a with | [.inl x, .inl y] => y ≠ 0 | _ => False) := hpre
      split at hpre
      · exact ⟨_, _, rfl, hpre⟩
      · exact hpre.elim
    exact Nat.le_of_ble_eq_true rfl
  · intro a M hlen hcan hM hpre Ok hgo
    obtain ⟨x, y, rfl, hpre⟩ : ∃ x y, a = [.inl x, .inl y] ∧ (y ≠ 0) := by
      have hpre : (match (generalizing := false) a with | [.inl x, .inl y] => y ≠ 0 | _ => False) := hpre
      split at hpre
      · exact ⟨_, _, rfl, hpre⟩
      · exact hpre.elim
    obtain ⟨k_x, hc_x⟩ := pz_tlm hcan
    have l_x : -2147483648 ≤ x := k_x.1
    have u_x : x ≤ 2147483647 := k_x.2
    obtain ⟨k_y, hc_y⟩ := pz_tlm hc_x
    have l_y : -2147483648 ≤ y := k_y.1
    have u_y : y ≤ 2147483647 := k_y.2
    refine hgo (fun _ => false) 18 0 _ [] M ?_
    refine And.intro (fun h1 => ?_) (fun h1 => ?_)
    · skip
      refine And.intro (by omega) ?_
      intro v12 e12 a12 b12
      refine And.intro rfl ?_
      exact ⟨trivial, rfl⟩
    · skip
      refine And.intro (by omega) ?_
      intro v6 e6 a6 b6
      refine And.intro (fun h7 => ?_) (fun h7 => ?_)
      · skip
        refine And.intro (by omega) ?_
        intro v18 e18 a18 b18
        intro v20 e20 a20 b20
        refine And.intro rfl ?_
        exact ⟨trivial, rfl⟩
      · skip
        refine And.intro (by omega) ?_
        intro v12 e12 a12 b12
        refine And.intro rfl ?_
        exact ⟨trivial, rfl⟩
theorem s_X12_downwards {fr lo i : Nat} {own : String} (h1 : 0 + 1 ≤ fr) (h2 : 8 + (2 + 11) + 0 ≤ lo) (h3 : .methodLink own i yX12_downwards ∈ lw_tbl ∨ (own = RX1 ∧ i = 35 ∧ yX12_downwards = yX11_within)) : pz_cS fr lo own i k_X12_downwards := pz_cSk (maxL := 2) (fr' := 0) (lo' := 0) 2 h_X12_downwards rfl ⟨by decide +kernel, by decide +kernel, by decide +kernel⟩ ⟨(pz_mt 1695 (by decide +kernel)), (pz_mt 1694 (by decide +kernel)), (pz_mt 13 (by decide +kernel))⟩ h1 h2 h3
def k_X12_choice : pz_C := (5, 1, fun a M => (match a with | [.inr (.inr (12, th)), .inl i, .inl n, .inl p, .inl w] => pz_im M | _ => False), fun a M r M' => (match a, r with | [.inr (.inr (12, th)), .inl i, .inl n, .inl p, .inl w], some (.inl v) => (True) ∧ pz_sm M M' | _, _ => False))
abbrev ct_X12_choice : List (Bool × Nat × pz_C) := [(true, 58, k_X12_isLink), (false, 54, k_X12_isIn), (false, 51, k_X12_greater), (false, 442, k_X12_downwards), (true, 385, k_X12_costOf)]
set_option maxRecDepth 100000 in
set_option maxHeartbeats 4000000 in
theorem h_X12_choice : pz_H yX12_choice cX12_choice 9 (some .int) k_X12_choice 5 116 := by
  refine pz_mk (own := RX12) (tb := t_X12_choice) (fl := pz_flf fl_RX12) (ci := pz_cif ci_RX12) (ct := pz_ctf ct_X12_choice) (rz := false) (by decide +kernel) rfl t_X12_choice_ok (pz_flk fl_RX12_ok) (pz_cik ci_RX12_ok) ?_ ?_ (Or.inl ⟨rfl, rfl⟩) ?_ ?_
  · exact fun i k' h => pz_ctk (l := ct_X12_choice) (P := fun b i k => b = true → pz_cV 5 116 RX12 i k) (List.forall_mem_cons.mpr ⟨(fun _ => v_X12_isLink (by decide) (by decide) (pz_mt 1224 (by decide +kernel))), List.forall_mem_cons.mpr ⟨((fun z => by cases z)), List.forall_mem_cons.mpr ⟨((fun z => by cases z)), List.forall_mem_cons.mpr ⟨((fun z => by cases z)), List.forall_mem_cons.mpr ⟨(fun _ => v_X12_costOf (by decide) (by decide) (pz_mt 1577 (by decide +kernel))), fun _ h => absurd h List.not_mem_nil⟩⟩⟩⟩⟩) true i k' h rfl
  · exact fun i k' h => pz_ctk (l := ct_X12_choice) (P := fun b i k => b = false → (pz_cS 5 116 RX12 i k ∨ (k = pz_kac ∧ 1 ≤ 5 ∧ 60 ≤ 116 ∧ Cond.methodLink RX12 i arraycopyName ∈ pz_tbl))) (List.forall_mem_cons.mpr ⟨((fun z => by cases z)), List.forall_mem_cons.mpr ⟨(fun _ => Or.inl (s_X12_isIn (by decide) (by decide) (Or.inl (pz_mt 1217 (by decide +kernel))))), List.forall_mem_cons.mpr ⟨(fun _ => Or.inl (s_X12_greater (by decide) (by decide) (Or.inl (pz_mt 1447 (by decide +kernel))))), List.forall_mem_cons.mpr ⟨(fun _ => Or.inl (s_X12_downwards (by decide) (by decide) (Or.inl (pz_mt 1693 (by decide +kernel))))), List.forall_mem_cons.mpr ⟨((fun z => by cases z)), fun _ h => absurd h List.not_mem_nil⟩⟩⟩⟩⟩) false i k' h rfl
  · intro a M hlen hpre
    obtain ⟨th, i, n, p, w, rfl, hpre⟩ : ∃ th i n p w, a = [.inr (.inr (12, th)), .inl i, .inl n, .inl p, .inl w] ∧ (pz_im M) := by
      have hpre : (match (generalizing := false) a with | [.inr (.inr (12, th)), .inl i, .inl n, .inl p, .inl w] => pz_im M | _ => False) := hpre
      split at hpre
      · exact ⟨_, _, _, _, _, rfl, hpre⟩
      · exact hpre.elim
    exact Nat.le_of_ble_eq_true rfl
  · intro a M hlen hcan hM hpre Ok hgo
    obtain ⟨th, i, n, p, w, rfl, hpre⟩ : ∃ th i n p w, a = [.inr (.inr (12, th)), .inl i, .inl n, .inl p, .inl w] ∧ (pz_im M) := by
      have hpre : (match (generalizing := false) a with | [.inr (.inr (12, th)), .inl i, .inl n, .inl p, .inl w] => pz_im M | _ => False) := hpre
      split at hpre
      · exact ⟨_, _, _, _, _, rfl, hpre⟩
      · exact hpre.elim
    obtain ⟨k_th, hc_th⟩ := pz_tlm hcan
    have k_th : pz_kd th = 12 ∧ th < 231 := k_th
    have R_th := pz_kd12 k_th.1
    subst R_th
    clear k_th
    obtain ⟨k_i, hc_i⟩ := pz_tlm hc_th
    have l_i : -2147483648 ≤ i := k_i.1
    have u_i : i ≤ 2147483647 := k_i.2
    obtain ⟨k_n, hc_n⟩ := pz_tlm hc_i
    have l_n : -2147483648 ≤ n := k_n.1
    have u_n : n ≤ 2147483647 := k_n.2
    obtain ⟨k_p, hc_p⟩ := pz_tlm hc_n
    have l_p : -2147483648 ≤ p := k_p.1
    have u_p : p ≤ 2147483647 := k_p.2
    obtain ⟨k_w, hc_w⟩ := pz_tlm hc_p
    have l_w : -2147483648 ≤ w := k_w.1
    have u_w : w ≤ 2147483647 := k_w.2
    have hI : pz_im M := hpre
    have hI0 := hI
    have hS : pz_sm M M := pz_sm.rf
    have L127 : ∀ (x5 : Int) (x6 : Int) (x7 : Int) (x8 : Int) (N127 : pz_M), (pz_sm M N127) → Ok 127 [some (.inr (.inr (12, 1))), some (.inl i), some (.inl n), some (.inl p), some (.inl w), some (.inl x5), some (.inl x6), some (.inl x7), some (.inl x8)] [] N127 := by
      intro x5 x6 x7 x8 N127 hS
      have hI : pz_im N127 := hS.1.1.1 hI0
      refine hgo (fun p => Nat.beq p 116 || Nat.beq p 127) 78 127 _ _ _ ?_
      refine And.intro (fun h129 => ?_) (fun h129 => ?_)
      · skip
        refine And.intro rfl ?_
        exact ⟨trivial, hS⟩
      · skip
        refine And.intro rfl ?_
        exact ⟨trivial, hS⟩
    have L116 : ∀ (x5 : Int) (x6 : Int) (x7 : Int) (x8 : Int) (N116 : pz_M), (pz_sm M N116) → Ok 116 [some (.inr (.inr (12, 1))), some (.inl i), some (.inl n), some (.inl p), some (.inl w), some (.inl x5), some (.inl x6), some (.inl x7), some (.inl x8)] [] N116 := by
      intro x5 x6 x7 x8 N116 hS
      have hI : pz_im N116 := hS.1.1.1 hI0
      refine hgo (fun p => Nat.beq p 116 || Nat.beq p 127) 78 116 _ _ _ ?_
      refine And.intro (fun h118 => ?_) (fun h118 => ?_)
      · skip
        exact L127 _ _ _ _ _ hS
      · skip
        exact L127 _ _ _ _ _ hS
    refine hgo (fun p => Nat.beq p 116 || Nat.beq p 127) 78 0 _ [] M ?_
    refine And.intro (hI) ?_
    intro v2 M2 a2 b2 q2
    obtain ⟨q2, z2⟩ := q2
    subst z2
    clear a2 b2
    refine And.intro (fun h5 => ?_) (fun h5 => ?_)
    · skip
      replace q2 := q2.resolve_left (fun z => absurd (z.1.symm.trans h5) (by decide))
      clear h5
      refine And.intro rfl ?_
      exact ⟨trivial, hS⟩
    · skip
      replace q2 := q2.resolve_right (fun z => h5 z.1)
      clear h5
      refine And.intro (True.intro) ?_
      intro v13 M13 a13 b13 q13
      obtain ⟨q13, z13⟩ := q13
      subst z13
      clear a13 b13
      refine And.intro (fun h16 => ?_) (fun h16 => ?_)
      · skip
        replace q13 := q13.resolve_left (fun z => absurd (z.1.symm.trans h16) (by decide))
        clear h16
        refine And.intro rfl ?_
        exact ⟨trivial, hS⟩
      · skip
        replace q13 := q13.resolve_right (fun z => h16 z.1)
        clear h16
        refine And.intro (True.intro) ?_
        intro v24 M24 a24 b24 q24
        obtain ⟨q24, z24⟩ := q24
        subst z24
        clear a24 b24
        refine And.intro (fun h27 => ?_) (fun h27 => ?_)
        · skip
          replace q24 := q24.resolve_left (fun z => absurd (z.1.symm.trans h27) (by decide))
          clear h27
          refine And.intro rfl ?_
          exact ⟨trivial, hS⟩
        · skip
          replace q24 := q24.resolve_right (fun z => h27 z.1)
          clear h27
          refine And.intro (True.intro) ?_
          intro v34 M34 a34 b34 q34
          obtain ⟨q34, z34⟩ := q34
          subst z34
          clear a34 b34
          refine And.intro (fun h37 => ?_) (fun h37 => ?_)
          · skip
            replace q34 := q34.resolve_right (fun z => h37 z.1)
            clear h37
            refine pz_nrc (c := 60) rfl ?_
            intro v51 e51 a51 b51
            rw [pz_wi (by omega) (by omega)] at e51
            clear a51 b51
            refine And.intro (by omega) (And.intro (show _ < (1725 : Int) from by omega) ?_)
            intro v52 e52 a52 b52
            intro v54 e54 a54 b54
            refine pz_nrc (c := 60) rfl ?_
            intro v65 e65 a65 b65
            rw [pz_wi (by omega) (by omega)] at e65
            clear a65 b65
            refine And.intro (by omega) (And.intro (show _ < (1725 : Int) from by omega) ?_)
            intro v66 e66 a66 b66
            intro v67 e67 a67 b67
            intro v72 e72 a72 b72
            rw [pz_wi (by omega) (by omega)] at e72
            clear a72 b72
            refine And.intro (True.intro) ?_
            intro v76 M76 a76 b76 q76
            obtain ⟨q76, z76⟩ := q76
            subst z76
            replace q76 : (0) ≤ v76 ∧ v54 ≤ v76 := by omega
            intro v79 e79 a79 b79
            intro v80 e80 a80 b80
            refine And.intro (show (1000 : Int) ≠ 0 from by decide) ?_
            intro v84 M84 a84 b84 q84
            obtain ⟨q84, z84⟩ := q84
            subst z84
            refine And.intro (And.intro hI (And.intro (by omega) (by omega))) ?_
            intro v89 M89 a89 b89 q89
            obtain ⟨q89, z89⟩ := q89
            have hS : pz_sm M M89 := hS.tr z89
            have hI : pz_im M89 := hS.1.1.1 hI0
            intro v92 e92 a92 b92
            refine And.intro (fun h106 => ?_) (fun h106 => ?_)
            · skip
              exact L116 _ _ _ _ _ hS
            · skip
              exact L116 _ _ _ _ _ hS
          · skip
            replace q34 := q34.resolve_left (fun z => absurd (z.1.symm.trans h37) (by decide))
            clear h37
            refine And.intro rfl ?_
            exact ⟨trivial, hS⟩
theorem v_X12_choice {fr lo i : Nat} {own : String} (h1 : 5 + 1 ≤ fr) (h2 : 8 + (9 + 11) + 116 ≤ lo) (h3 : .methodLink own i yX12_choice ∈ lw_tbl) : pz_cV fr lo own i k_X12_choice :=
  pz_cVk (maxL := 9) (fr' := 5) (lo' := 116) 4 12 h_X12_choice rfl ⟨by decide +kernel, by decide +kernel, by decide +kernel⟩ ⟨(pz_mt 1692 (by decide +kernel)), (pz_mt 1690 (by decide +kernel)), (pz_mt 1691 (by decide +kernel)), (pz_mt 13 (by decide +kernel))⟩ (Or.inl ⟨TX12, 28, rfl⟩) (fun a M _ h => by
    have h : (match (generalizing := false) a with | [.inr (.inr (12, th)), .inl i, .inl n, .inl p, .inl w] => pz_im M | _ => False) := h
    split at h
    · exact ⟨_, _, rfl⟩
    · exact h.elim) h1 h2 h3
def k_X12_bluff : pz_C := (4, 1, fun a M => (match a with | [.inr (.inr (12, th)), .inl p, .inl q, .inl w] => pz_im M | _ => False), fun a M r M' => (match a, r with | [.inr (.inr (12, th)), .inl p, .inl q, .inl w], some (.inl v) => (v = (if 0 ≤ p ∧ p ≤ 1000 ∧ 0 ≤ q ∧ q ≤ 1000 ∧ 0 ≤ w ∧ w ≤ 1000 ∧ 0 < p * q + (1000 - p) * w then p * q * 1000000 / (p * q + (1000 - p) * w) else -1)) ∧ M = M' | _, _ => False))
abbrev ct_X12_bluff : List (Bool × Nat × pz_C) := [(false, 54, k_X12_isIn)]
set_option maxRecDepth 100000 in
set_option maxHeartbeats 4000000 in
theorem h_X12_bluff : pz_H yX12_bluff cX12_bluff 8 (some .int) k_X12_bluff 1 22 := by
  refine pz_mk (own := RX12) (tb := t_X12_bluff) (fl := pz_flf fl_RX12) (ci := pz_cif ci_RX12) (ct := pz_ctf ct_X12_bluff) (rz := false) (by decide +kernel) rfl t_X12_bluff_ok (pz_flk fl_RX12_ok) (pz_cik ci_RX12_ok) ?_ ?_ (Or.inl ⟨rfl, rfl⟩) ?_ ?_
  · exact fun i k' h => pz_ctk (l := ct_X12_bluff) (P := fun b i k => b = true → pz_cV 1 22 RX12 i k) (List.forall_mem_cons.mpr ⟨((fun z => by cases z)), fun _ h => absurd h List.not_mem_nil⟩) true i k' h rfl
  · exact fun i k' h => pz_ctk (l := ct_X12_bluff) (P := fun b i k => b = false → (pz_cS 1 22 RX12 i k ∨ (k = pz_kac ∧ 1 ≤ 1 ∧ 60 ≤ 22 ∧ Cond.methodLink RX12 i arraycopyName ∈ pz_tbl))) (List.forall_mem_cons.mpr ⟨(fun _ => Or.inl (s_X12_isIn (by decide) (by decide) (Or.inl (pz_mt 1217 (by decide +kernel))))), fun _ h => absurd h List.not_mem_nil⟩) false i k' h rfl
  · intro a M hlen hpre
    obtain ⟨th, p, q, w, rfl, hpre⟩ : ∃ th p q w, a = [.inr (.inr (12, th)), .inl p, .inl q, .inl w] ∧ (pz_im M) := by
      have hpre : (match (generalizing := false) a with | [.inr (.inr (12, th)), .inl p, .inl q, .inl w] => pz_im M | _ => False) := hpre
      split at hpre
      · exact ⟨_, _, _, _, rfl, hpre⟩
      · exact hpre.elim
    exact Nat.le_of_ble_eq_true rfl
  · intro a M hlen hcan hM hpre Ok hgo
    obtain ⟨th, p, q, w, rfl, hpre⟩ : ∃ th p q w, a = [.inr (.inr (12, th)), .inl p, .inl q, .inl w] ∧ (pz_im M) := by
      have hpre : (match (generalizing := false) a with | [.inr (.inr (12, th)), .inl p, .inl q, .inl w] => pz_im M | _ => False) := hpre
      split at hpre
      · exact ⟨_, _, _, _, rfl, hpre⟩
      · exact hpre.elim
    obtain ⟨k_th, hc_th⟩ := pz_tlm hcan
    have k_th : pz_kd th = 12 ∧ th < 231 := k_th
    have R_th := pz_kd12 k_th.1
    subst R_th
    clear k_th
    obtain ⟨k_p, hc_p⟩ := pz_tlm hc_th
    have l_p : -2147483648 ≤ p := k_p.1
    have u_p : p ≤ 2147483647 := k_p.2
    obtain ⟨k_q, hc_q⟩ := pz_tlm hc_p
    have l_q : -2147483648 ≤ q := k_q.1
    have u_q : q ≤ 2147483647 := k_q.2
    obtain ⟨k_w, hc_w⟩ := pz_tlm hc_q
    have l_w : -2147483648 ≤ w := k_w.1
    have u_w : w ≤ 2147483647 := k_w.2
    have hI : pz_im M := hpre
    refine hgo (fun _ => false) 48 0 _ [] M ?_
    refine And.intro (True.intro) ?_
    intro v5 M5 a5 b5 q5
    obtain ⟨q5, z5⟩ := q5
    subst z5
    clear a5 b5
    refine And.intro (fun h8 => ?_) (fun h8 => ?_)
    · skip
      replace q5 := q5.resolve_left (fun z => absurd (z.1.symm.trans h8) (by decide))
      clear h8
      refine And.intro rfl ?_
      refine ⟨?_, rfl⟩
      by_cases h9 : 0 ≤ p ∧ p ≤ 1000 ∧ 0 ≤ q ∧ q ≤ 1000 ∧ 0 ≤ w ∧ w ≤ 1000 ∧ 0 < p * q + (1000 - p) * w
      · rw [if_pos h9]
        first
          | (exfalso; omega)
          | (have F9 := pz_blf h9
             have E72 : v72 = p * q * 1000000 := by omega
             have E53 : v53 = p * q + (1000 - p) * w := by omega
             rw [E72, E53, F9.1, pz_wli (by omega) (by omega)] at e75
             rw [pz_wi (by omega) (by omega)] at e76
             exact e76.trans e75)
      · first
          | (rw [if_neg h9]; done)
          | (exfalso; omega)
    · skip
      replace q5 := q5.resolve_right (fun z => h8 z.1)
      clear h8
      refine And.intro (True.intro) ?_
      intro v16 M16 a16 b16 q16
      obtain ⟨q16, z16⟩ := q16
      subst z16
      clear a16 b16
      refine And.intro (fun h19 => ?_) (fun h19 => ?_)
      · skip
        replace q16 := q16.resolve_left (fun z => absurd (z.1.symm.trans h19) (by decide))
        clear h19
        refine And.intro rfl ?_
        refine ⟨?_, rfl⟩
        by_cases h9 : 0 ≤ p ∧ p ≤ 1000 ∧ 0 ≤ q ∧ q ≤ 1000 ∧ 0 ≤ w ∧ w ≤ 1000 ∧ 0 < p * q + (1000 - p) * w
        · rw [if_pos h9]
          first
            | (exfalso; omega)
            | (have F9 := pz_blf h9
               have E72 : v72 = p * q * 1000000 := by omega
               have E53 : v53 = p * q + (1000 - p) * w := by omega
               rw [E72, E53, F9.1, pz_wli (by omega) (by omega)] at e75
               rw [pz_wi (by omega) (by omega)] at e76
               exact e76.trans e75)
        · first
            | (rw [if_neg h9]; done)
            | (exfalso; omega)
      · skip
        replace q16 := q16.resolve_right (fun z => h19 z.1)
        clear h19
        refine And.intro (True.intro) ?_
        intro v27 M27 a27 b27 q27
        obtain ⟨q27, z27⟩ := q27
        subst z27
        clear a27 b27
        refine And.intro (fun h30 => ?_) (fun h30 => ?_)
        · skip
          replace q27 := q27.resolve_right (fun z => h30 z.1)
          clear h30
          intro v39 e39 a39 b39
          have B39 := pz_m3 (x := p) (y := q) (by omega) (by omega) (by omega) (by omega)
          rw [pz_wli (by omega) (by omega)] at e39
          intro v48 e48 a48 b48
          rw [pz_wi (by omega) (by omega)] at e48
          clear a48 b48
          intro v52 e52 a52 b52
          have B52 := pz_m3 (x := v48) (y := w) (by omega) (by omega) (by omega) (by omega)
          rw [pz_wli (by omega) (by omega)] at e52
          rw [e48] at e52 B52
          intro v53 e53 a53 b53
          rw [pz_wli (by omega) (by omega)] at e53
          clear a53 b53
          refine And.intro (fun h59 => ?_) ?_
          · skip
            refine And.intro (fun h60 => ?_) (fun h60 => ?_)
            · skip
              intro v72 e72 a72 b72
              rw [pz_wli (by omega) (by omega)] at e72
              clear a72 b72
              refine And.intro (by omega) ?_
              intro v75 e75 a75 b75
              intro v76 e76 a76 b76
              refine And.intro rfl ?_
              refine ⟨?_, rfl⟩
              by_cases h9 : 0 ≤ p ∧ p ≤ 1000 ∧ 0 ≤ q ∧ q ≤ 1000 ∧ 0 ≤ w ∧ w ≤ 1000 ∧ 0 < p * q + (1000 - p) * w
              · rw [if_pos h9]
                first
                  | (exfalso; omega)
                  | (have F9 := pz_blf h9
                     have E72 : v72 = p * q * 1000000 := by omega
                     have E53 : v53 = p * q + (1000 - p) * w := by omega
                     rw [E72, E53, F9.1, pz_wli (by omega) (by omega)] at e75
                     rw [pz_wi (by omega) (by omega)] at e76
                     exact e76.trans e75)
              · first
                  | (rw [if_neg h9]; done)
                  | (exfalso; omega)
            · skip
              refine And.intro rfl ?_
              refine ⟨?_, rfl⟩
              by_cases h9 : 0 ≤ p ∧ p ≤ 1000 ∧ 0 ≤ q ∧ q ≤ 1000 ∧ 0 ≤ w ∧ w ≤ 1000 ∧ 0 < p * q + (1000 - p) * w
              · rw [if_pos h9]
                first
                  | (exfalso; omega)
                  | (have F9 := pz_blf h9
                     have E72 : v72 = p * q * 1000000 := by omega
                     have E53 : v53 = p * q + (1000 - p) * w := by omega
                     rw [E72, E53, F9.1, pz_wli (by omega) (by omega)] at e75
                     rw [pz_wi (by omega) (by omega)] at e76
                     exact e76.trans e75)
              · first
                  | (rw [if_neg h9]; done)
                  | (exfalso; omega)
          refine And.intro (fun h59 => ?_) ?_
          · skip
            refine And.intro (fun h60 => ?_) (fun h60 => ?_)
            · skip
              intro v72 e72 a72 b72
              rw [pz_wli (by omega) (by omega)] at e72
              clear a72 b72
              refine And.intro (by omega) ?_
              intro v75 e75 a75 b75
              intro v76 e76 a76 b76
              refine And.intro rfl ?_
              refine ⟨?_, rfl⟩
              by_cases h9 : 0 ≤ p ∧ p ≤ 1000 ∧ 0 ≤ q ∧ q ≤ 1000 ∧ 0 ≤ w ∧ w ≤ 1000 ∧ 0 < p * q + (1000 - p) * w
              · rw [if_pos h9]
                first
                  | (exfalso; omega)
                  | (have F9 := pz_blf h9
                     have E72 : v72 = p * q * 1000000 := by omega
                     have E53 : v53 = p * q + (1000 - p) * w := by omega
                     rw [E72, E53, F9.1, pz_wli (by omega) (by omega)] at e75
                     rw [pz_wi (by omega) (by omega)] at e76
                     exact e76.trans e75)
              · first
                  | (rw [if_neg h9]; done)
                  | (exfalso; omega)
            · skip
              refine And.intro rfl ?_
              refine ⟨?_, rfl⟩
              by_cases h9 : 0 ≤ p ∧ p ≤ 1000 ∧ 0 ≤ q ∧ q ≤ 1000 ∧ 0 ≤ w ∧ w ≤ 1000 ∧ 0 < p * q + (1000 - p) * w
              · rw [if_pos h9]
                first
                  | (exfalso; omega)
                  | (have F9 := pz_blf h9
                     have E72 : v72 = p * q * 1000000 := by omega
                     have E53 : v53 = p * q + (1000 - p) * w := by omega
                     rw [E72, E53, F9.1, pz_wli (by omega) (by omega)] at e75
                     rw [pz_wi (by omega) (by omega)] at e76
                     exact e76.trans e75)
              · first
                  | (rw [if_neg h9]; done)
                  | (exfalso; omega)
          intro h59
          refine And.intro (fun h60 => ?_) (fun h60 => ?_)
          · skip
            intro v72 e72 a72 b72
            rw [pz_wli (by omega) (by omega)] at e72
            clear a72 b72
            refine And.intro (by omega) ?_
            intro v75 e75 a75 b75
            intro v76 e76 a76 b76
            refine And.intro rfl ?_
            refine ⟨?_, rfl⟩
            by_cases h9 : 0 ≤ p ∧ p ≤ 1000 ∧ 0 ≤ q ∧ q ≤ 1000 ∧ 0 ≤ w ∧ w ≤ 1000 ∧ 0 < p * q + (1000 - p) * w
            · rw [if_pos h9]
              first
                | (exfalso; omega)
                | (have F9 := pz_blf h9
                   have E72 : v72 = p * q * 1000000 := by omega
                   have E53 : v53 = p * q + (1000 - p) * w := by omega
                   rw [E72, E53, F9.1, pz_wli (by omega) (by omega)] at e75
                   rw [pz_wi (by omega) (by omega)] at e76
                   exact e76.trans e75)
            · first
                | (rw [if_neg h9]; done)
                | (exfalso; omega)
          · skip
            refine And.intro rfl ?_
            refine ⟨?_, rfl⟩
            by_cases h9 : 0 ≤ p ∧ p ≤ 1000 ∧ 0 ≤ q ∧ q ≤ 1000 ∧ 0 ≤ w ∧ w ≤ 1000 ∧ 0 < p * q + (1000 - p) * w
            · rw [if_pos h9]
              first
                | (exfalso; omega)
                | (have F9 := pz_blf h9
                   have E72 : v72 = p * q * 1000000 := by omega
                   have E53 : v53 = p * q + (1000 - p) * w := by omega
                   rw [E72, E53, F9.1, pz_wli (by omega) (by omega)] at e75
                   rw [pz_wi (by omega) (by omega)] at e76
                   exact e76.trans e75)
            · first
                | (rw [if_neg h9]; done)
                | (exfalso; omega)
        · skip
          replace q27 := q27.resolve_left (fun z => absurd (z.1.symm.trans h30) (by decide))
          clear h30
          refine And.intro rfl ?_
          refine ⟨?_, rfl⟩
          by_cases h9 : 0 ≤ p ∧ p ≤ 1000 ∧ 0 ≤ q ∧ q ≤ 1000 ∧ 0 ≤ w ∧ w ≤ 1000 ∧ 0 < p * q + (1000 - p) * w
          · rw [if_pos h9]
            first
              | (exfalso; omega)
              | (have F9 := pz_blf h9
                 have E72 : v72 = p * q * 1000000 := by omega
                 have E53 : v53 = p * q + (1000 - p) * w := by omega
                 rw [E72, E53, F9.1, pz_wli (by omega) (by omega)] at e75
                 rw [pz_wi (by omega) (by omega)] at e76
                 exact e76.trans e75)
          · first
              | (rw [if_neg h9]; done)
              | (exfalso; omega)
theorem v_X12_bluff {fr lo i : Nat} {own : String} (h1 : 1 + 1 ≤ fr) (h2 : 8 + (8 + 11) + 22 ≤ lo) (h3 : .methodLink own i yX12_bluff ∈ lw_tbl) : pz_cV fr lo own i k_X12_bluff :=
  pz_cVk (maxL := 8) (fr' := 1) (lo' := 22) 3 12 h_X12_bluff rfl ⟨by decide +kernel, by decide +kernel, by decide +kernel⟩ ⟨(pz_mt 1699 (by decide +kernel)), (pz_mt 1697 (by decide +kernel)), (pz_mt 1698 (by decide +kernel)), (pz_mt 13 (by decide +kernel))⟩ (Or.inl ⟨TX12, 28, rfl⟩) (fun a M _ h => by
    have h : (match (generalizing := false) a with | [.inr (.inr (12, th)), .inl p, .inl q, .inl w] => pz_im M | _ => False) := h
    split at h
    · exact ⟨_, _, rfl⟩
    · exact h.elim) h1 h2 h3
def k_X12_gap : pz_C := (2, 1, fun a M => (match a with | [.inr (.inr (12, th)), .inl i] => pz_im M | _ => False), fun a M r M' => (match a, r with | [.inr (.inr (12, th)), .inl i], some (.inl v) => (True) ∧ M = M' | _, _ => False))
abbrev ct_X12_gap : List (Bool × Nat × pz_C) := [(true, 58, k_X12_isLink), (true, 361, k_X12_canPay)]
set_option maxRecDepth 100000 in
set_option maxHeartbeats 4000000 in
theorem h_X12_gap : pz_H yX12_gap cX12_gap 2 (some .int) k_X12_gap 2 43 := by
  refine pz_mk (own := RX12) (tb := t_X12_gap) (fl := pz_flf fl_RX12) (ci := pz_cif ci_RX12) (ct := pz_ctf ct_X12_gap) (rz := false) (by decide +kernel) rfl t_X12_gap_ok (pz_flk fl_RX12_ok) (pz_cik ci_RX12_ok) ?_ ?_ (Or.inl ⟨rfl, rfl⟩) ?_ ?_
  · exact fun i k' h => pz_ctk (l := ct_X12_gap) (P := fun b i k => b = true → pz_cV 2 43 RX12 i k) (List.forall_mem_cons.mpr ⟨(fun _ => v_X12_isLink (by decide) (by decide) (pz_mt 1224 (by decide +kernel))), List.forall_mem_cons.mpr ⟨(fun _ => v_X12_canPay (by decide) (by decide) (pz_mt 1573 (by decide +kernel))), fun _ h => absurd h List.not_mem_nil⟩⟩) true i k' h rfl
  · exact fun i k' h => pz_ctk (l := ct_X12_gap) (P := fun b i k => b = false → (pz_cS 2 43 RX12 i k ∨ (k = pz_kac ∧ 1 ≤ 2 ∧ 60 ≤ 43 ∧ Cond.methodLink RX12 i arraycopyName ∈ pz_tbl))) (List.forall_mem_cons.mpr ⟨((fun z => by cases z)), List.forall_mem_cons.mpr ⟨((fun z => by cases z)), fun _ h => absurd h List.not_mem_nil⟩⟩) false i k' h rfl
  · intro a M hlen hpre
    obtain ⟨th, i, rfl, hpre⟩ : ∃ th i, a = [.inr (.inr (12, th)), .inl i] ∧ (pz_im M) := by
      have hpre : (match (generalizing := false) a with | [.inr (.inr (12, th)), .inl i] => pz_im M | _ => False) := hpre
      split at hpre
      · exact ⟨_, _, rfl, hpre⟩
      · exact hpre.elim
    exact Nat.le_of_ble_eq_true rfl
  · intro a M hlen hcan hM hpre Ok hgo
    obtain ⟨th, i, rfl, hpre⟩ : ∃ th i, a = [.inr (.inr (12, th)), .inl i] ∧ (pz_im M) := by
      have hpre : (match (generalizing := false) a with | [.inr (.inr (12, th)), .inl i] => pz_im M | _ => False) := hpre
      split at hpre
      · exact ⟨_, _, rfl, hpre⟩
      · exact hpre.elim
    obtain ⟨k_th, hc_th⟩ := pz_tlm hcan
    have k_th : pz_kd th = 12 ∧ th < 231 := k_th
    have R_th := pz_kd12 k_th.1
    subst R_th
    clear k_th
    obtain ⟨k_i, hc_i⟩ := pz_tlm hc_th
    have l_i : -2147483648 ≤ i := k_i.1
    have u_i : i ≤ 2147483647 := k_i.2
    have hI : pz_im M := hpre
    refine hgo (fun _ => false) 41 0 _ [] M ?_
    refine And.intro (hI) ?_
    intro v2 M2 a2 b2 q2
    obtain ⟨q2, z2⟩ := q2
    subst z2
    clear a2 b2
    refine And.intro (fun h5 => ?_) (fun h5 => ?_)
    · skip
      replace q2 := q2.resolve_right (fun z => h5 z.1)
      clear h5
      refine And.intro (And.intro hI (And.intro (by omega) (by omega))) ?_
      intro v14 M14 a14 b14 q14
      obtain ⟨q14, z14⟩ := q14
      subst z14
      clear a14 b14
      refine And.intro (fun h17 => ?_) (fun h17 => ?_)
      · skip
        clear h17 q14
        refine pz_nrc (c := 60) rfl ?_
        intro v30 e30 a30 b30
        rw [pz_wi (by omega) (by omega)] at e30
        clear a30 b30
        intro v32 e32 a32 b32
        rw [pz_wi (by omega) (by omega)] at e32
        clear a32 b32
        refine And.intro (by omega) (And.intro (show _ < (1725 : Int) from by omega) ?_)
        intro v33 e33 a33 b33
        refine pz_nrc (c := 60) rfl ?_
        intro v41 e41 a41 b41
        rw [pz_wi (by omega) (by omega)] at e41
        clear a41 b41
        refine And.intro (by omega) (And.intro (show _ < (1725 : Int) from by omega) ?_)
        intro v42 e42 a42 b42
        intro v43 e43 a43 b43
        refine And.intro (fun h45 => ?_) (fun h45 => ?_)
        · skip
          replace h45 : 1 ≤ i := by omega
          refine pz_nrc (c := 60) rfl ?_
          intro v58 e58 a58 b58
          rw [pz_wi (by omega) (by omega)] at e58
          clear a58 b58
          refine And.intro (by omega) (And.intro (show _ < (1725 : Int) from by omega) ?_)
          intro v59 e59 a59 b59
          intro v60 e60 a60 b60
          refine And.intro rfl ?_
          exact ⟨trivial, rfl⟩
        · skip
          intro v60 e60 a60 b60
          rw [pz_wi (by omega) (by omega)] at e60
          clear a60 b60
          refine And.intro rfl ?_
          exact ⟨trivial, rfl⟩
      · skip
        clear h17 q14
        refine And.intro rfl ?_
        exact ⟨trivial, rfl⟩
    · skip
      replace q2 := q2.resolve_left (fun z => absurd (z.1.symm.trans h5) (by decide))
      clear h5
      refine And.intro rfl ?_
      exact ⟨trivial, rfl⟩
theorem v_X12_gap {fr lo i : Nat} {own : String} (h1 : 2 + 1 ≤ fr) (h2 : 8 + (2 + 11) + 43 ≤ lo) (h3 : .methodLink own i yX12_gap ∈ lw_tbl) : pz_cV fr lo own i k_X12_gap :=
  pz_cVk (maxL := 2) (fr' := 2) (lo' := 43) 1 12 h_X12_gap rfl ⟨by decide +kernel, by decide +kernel, by decide +kernel⟩ ⟨(pz_mt 1703 (by decide +kernel)), (pz_mt 1701 (by decide +kernel)), (pz_mt 1702 (by decide +kernel)), (pz_mt 13 (by decide +kernel))⟩ (Or.inl ⟨TX12, 28, rfl⟩) (fun a M _ h => by
    have h : (match (generalizing := false) a with | [.inr (.inr (12, th)), .inl i] => pz_im M | _ => False) := h
    split at h
    · exact ⟨_, _, rfl⟩
    · exact h.elim) h1 h2 h3
def k_X12_isRunning : pz_C := (2, 1, fun a M => (match a with | [.inr (.inr (12, th)), .inl i] => pz_im M | _ => False), fun a M r M' => (match a, r with | [.inr (.inr (12, th)), .inl i], some (.inl v) => ((v = 1 ∧ 0 ≤ i ∧ i < M 60 88 ∧ M 60 88 ≤ 12) ∨ v = 0) ∧ M = M' | _, _ => False))
abbrev ct_X12_isRunning : List (Bool × Nat × pz_C) := [(true, 317, k_X12_isThere), (true, 361, k_X12_canPay)]
set_option maxRecDepth 100000 in
set_option maxHeartbeats 4000000 in
theorem h_X12_isRunning : pz_H yX12_isRunning cX12_isRunning 2 (some .boolean) k_X12_isRunning 3 64 := by
  refine pz_mk (own := RX12) (tb := t_X12_isRunning) (fl := pz_flf fl_RX12) (ci := pz_cif ci_RX12) (ct := pz_ctf ct_X12_isRunning) (rz := true) (by decide +kernel) rfl t_X12_isRunning_ok (pz_flk fl_RX12_ok) (pz_cik ci_RX12_ok) ?_ ?_ (Or.inr ⟨rfl, rfl⟩) ?_ ?_
  · exact fun i k' h => pz_ctk (l := ct_X12_isRunning) (P := fun b i k => b = true → pz_cV 3 64 RX12 i k) (List.forall_mem_cons.mpr ⟨(fun _ => v_X12_isThere (by decide) (by decide) (pz_mt 1415 (by decide +kernel))), List.forall_mem_cons.mpr ⟨(fun _ => v_X12_canPay (by decide) (by decide) (pz_mt 1573 (by decide +kernel))), fun _ h => absurd h List.not_mem_nil⟩⟩) true i k' h rfl
  · exact fun i k' h => pz_ctk (l := ct_X12_isRunning) (P := fun b i k => b = false → (pz_cS 3 64 RX12 i k ∨ (k = pz_kac ∧ 1 ≤ 3 ∧ 60 ≤ 64 ∧ Cond.methodLink RX12 i arraycopyName ∈ pz_tbl))) (List.forall_mem_cons.mpr ⟨((fun z => by cases z)), List.forall_mem_cons.mpr ⟨((fun z => by cases z)), fun _ h => absurd h List.not_mem_nil⟩⟩) false i k' h rfl
  · intro a M hlen hpre
    obtain ⟨th, i, rfl, hpre⟩ : ∃ th i, a = [.inr (.inr (12, th)), .inl i] ∧ (pz_im M) := by
      have hpre : (match (generalizing := false) a with | [.inr (.inr (12, th)), .inl i] => pz_im M | _ => False) := hpre
      split at hpre
      · exact ⟨_, _, rfl, hpre⟩
      · exact hpre.elim
    exact Nat.le_of_ble_eq_true rfl
  · intro a M hlen hcan hM hpre Ok hgo
    obtain ⟨th, i, rfl, hpre⟩ : ∃ th i, a = [.inr (.inr (12, th)), .inl i] ∧ (pz_im M) := by
      have hpre : (match (generalizing := false) a with | [.inr (.inr (12, th)), .inl i] => pz_im M | _ => False) := hpre
      split at hpre
      · exact ⟨_, _, rfl, hpre⟩
      · exact hpre.elim
    obtain ⟨k_th, hc_th⟩ := pz_tlm hcan
    have k_th : pz_kd th = 12 ∧ th < 231 := k_th
    have R_th := pz_kd12 k_th.1
    subst R_th
    clear k_th
    obtain ⟨k_i, hc_i⟩ := pz_tlm hc_th
    have l_i : -2147483648 ≤ i := k_i.1
    have u_i : i ≤ 2147483647 := k_i.2
    have hI : pz_im M := hpre
    refine hgo (fun _ => false) 14 0 _ [] M ?_
    refine And.intro (hI) ?_
    intro v2 M2 a2 b2 q2
    obtain ⟨q2, z2⟩ := q2
    subst z2
    clear a2 b2
    refine And.intro (fun h5 => ?_) (fun h5 => ?_)
    · skip
      replace q2 := q2.resolve_left (fun z => absurd (z.1.symm.trans h5) (by decide))
      clear h5 q2
      refine And.intro (by omega) ?_
      refine And.intro rfl ?_
      exact ⟨by omega, rfl⟩
    · skip
      replace q2 := q2.resolve_right h5
      clear h5
      refine And.intro (And.intro hI (And.intro (by omega) (by omega))) ?_
      intro v10 M10 a10 b10 q10
      obtain ⟨q10, z10⟩ := q10
      subst z10
      clear a10 b10
      refine And.intro (fun h13 => ?_) (fun h13 => ?_)
      · skip
        clear h13 q10
        refine And.intro (by omega) ?_
        refine And.intro rfl ?_
        exact ⟨by omega, rfl⟩
      · skip
        clear h13 q10
        refine And.intro (by omega) ?_
        refine And.intro rfl ?_
        exact ⟨by omega, rfl⟩
theorem v_X12_isRunning {fr lo i : Nat} {own : String} (h1 : 3 + 1 ≤ fr) (h2 : 8 + (2 + 11) + 64 ≤ lo) (h3 : .methodLink own i yX12_isRunning ∈ lw_tbl) : pz_cV fr lo own i k_X12_isRunning :=
  pz_cVk (maxL := 2) (fr' := 3) (lo' := 64) 1 12 h_X12_isRunning rfl ⟨by decide +kernel, by decide +kernel, by decide +kernel⟩ ⟨(pz_mt 1711 (by decide +kernel)), (pz_mt 1710 (by decide +kernel)), (pz_ms 82 (by decide +kernel)), (pz_mt 13 (by decide +kernel))⟩ (Or.inl ⟨TX12, 28, rfl⟩) (fun a M _ h => by
    have h : (match (generalizing := false) a with | [.inr (.inr (12, th)), .inl i] => pz_im M | _ => False) := h
    split at h
    · exact ⟨_, _, rfl⟩
    · exact h.elim) h1 h2 h3
def k_X12_runs : pz_C := (2, 1, fun a M => (match a with | [.inr (.inr (12, th)), .inl w] => pz_im M | _ => False), fun a M r M' => (match a, r with | [.inr (.inr (12, th)), .inl w], some (.inl v) => (True) ∧ M = M' | _, _ => False))
abbrev ct_X12_runs : List (Bool × Nat × pz_C) := [(false, 54, k_X12_isIn), (true, 445, k_X12_isRunning)]
set_option maxRecDepth 100000 in
set_option maxHeartbeats 4000000 in
theorem h_X12_runs : pz_H yX12_runs cX12_runs 7 (some .int) k_X12_runs 4 85 := by
  refine pz_mk (own := RX12) (tb := t_X12_runs) (fl := pz_flf fl_RX12) (ci := pz_cif ci_RX12) (ct := pz_ctf ct_X12_runs) (rz := false) (by decide +kernel) rfl t_X12_runs_ok (pz_flk fl_RX12_ok) (pz_cik ci_RX12_ok) ?_ ?_ (Or.inl ⟨rfl, rfl⟩) ?_ ?_
  · exact fun i k' h => pz_ctk (l := ct_X12_runs) (P := fun b i k => b = true → pz_cV 4 85 RX12 i k) (List.forall_mem_cons.mpr ⟨((fun z => by cases z)), List.forall_mem_cons.mpr ⟨(fun _ => v_X12_isRunning (by decide) (by decide) (pz_mt 1708 (by decide +kernel))), fun _ h => absurd h List.not_mem_nil⟩⟩) true i k' h rfl
  · exact fun i k' h => pz_ctk (l := ct_X12_runs) (P := fun b i k => b = false → (pz_cS 4 85 RX12 i k ∨ (k = pz_kac ∧ 1 ≤ 4 ∧ 60 ≤ 85 ∧ Cond.methodLink RX12 i arraycopyName ∈ pz_tbl))) (List.forall_mem_cons.mpr ⟨(fun _ => Or.inl (s_X12_isIn (by decide) (by decide) (Or.inl (pz_mt 1217 (by decide +kernel))))), List.forall_mem_cons.mpr ⟨((fun z => by cases z)), fun _ h => absurd h List.not_mem_nil⟩⟩) false i k' h rfl
  · intro a M hlen hpre
    obtain ⟨th, w, rfl, hpre⟩ : ∃ th w, a = [.inr (.inr (12, th)), .inl w] ∧ (pz_im M) := by
      have hpre : (match (generalizing := false) a with | [.inr (.inr (12, th)), .inl w] => pz_im M | _ => False) := hpre
      split at hpre
      · exact ⟨_, _, rfl, hpre⟩
      · exact hpre.elim
    exact Nat.le_of_ble_eq_true rfl
  · intro a M hlen hcan hM hpre Ok hgo
    obtain ⟨th, w, rfl, hpre⟩ : ∃ th w, a = [.inr (.inr (12, th)), .inl w] ∧ (pz_im M) := by
      have hpre : (match (generalizing := false) a with | [.inr (.inr (12, th)), .inl w] => pz_im M | _ => False) := hpre
      split at hpre
      · exact ⟨_, _, rfl, hpre⟩
      · exact hpre.elim
    obtain ⟨k_th, hc_th⟩ := pz_tlm hcan
    have k_th : pz_kd th = 12 ∧ th < 231 := k_th
    have R_th := pz_kd12 k_th.1
    subst R_th
    clear k_th
    obtain ⟨k_w, hc_w⟩ := pz_tlm hc_th
    have l_w : -2147483648 ≤ w := k_w.1
    have u_w : w ≤ 2147483647 := k_w.2
    have hI : pz_im M := hpre
    have L24 : ∀ (fu : Nat) (x2 : Int) (x3 : Int) (x4 : Int) (x5 : Int) (x6 : Int), (12 - x6).toNat < fu → (0 ≤ x6) → (-1 ≤ x5) → (x5 < 12) → Ok 24 [some (.inr (.inr (12, 1))), some (.inl w), some (.inl x2), some (.inl x3), some (.inl x4), some (.inl x5), some (.inl x6)] [] M := by
      intro fu
      induction fu with
      | zero => exact fun _ _ _ _ _ hn => absurd hn (Nat.not_lt_zero _)
      | succ fu ih24 =>
        intro x2 x3 x4 x5 x6 hn24 g24_0 g24_1 g24_2
        have L110 : ∀ (x2 : Int) (x3 : Int) (x4 : Int) (x5 : Int) (x6 : Int), (0 ≤ x6) → (x6 < 12) → ((12 - x6).toNat < fu + 1) → (-1 ≤ x5) → (x5 < 12) → Ok 110 [some (.inr (.inr (12, 1))), some (.inl w), some (.inl x2), some (.inl x3), some (.inl x4), some (.inl x5), some (.inl x6)] [] M := by
          intro x2 x3 x4 x5 x6 g110_0 g110_1 g110_2 g110_3 g110_4
          refine hgo (fun p => Nat.beq p 24 || Nat.beq p 53 || Nat.beq p 72 || Nat.beq p 110) 79 110 _ _ _ ?_
          intro v110 e110 a110 b110
          rw [pz_wi (by omega) (by omega)] at e110
          clear a110 b110
          exact ih24 _ _ _ _ _ (by omega) (by omega) (by omega) (by omega)
        have L72 : ∀ (x2 : Int) (x3 : Int) (x4 : Int) (x5 : Int) (x6 : Int), (0 ≤ x6) → (x6 < 12) → ((12 - x6).toNat < fu + 1) → (-1 ≤ x5) → (x5 < 12) → Ok 72 [some (.inr (.inr (12, 1))), some (.inl w), some (.inl x2), some (.inl x3), some (.inl x4), some (.inl x5), some (.inl x6)] [] M := by
          intro x2 x3 x4 x5 x6 g72_0 g72_1 g72_2 g72_3 g72_4
          refine hgo (fun p => Nat.beq p 24 || Nat.beq p 53 || Nat.beq p 72 || Nat.beq p 110) 79 72 _ _ _ ?_
          refine And.intro (fun h74 => ?_) (fun h74 => ?_)
          · skip
            exact L110 _ _ _ _ _ (by omega) (by omega) (by omega) (by omega) (by omega)
          · skip
            refine And.intro (fun h80 => ?_) (fun h80 => ?_)
            · skip
              exact L110 _ _ _ _ _ (by omega) (by omega) (by omega) (by omega) (by omega)
            · skip
              replace h80 : 0 ≤ x5 := by omega
              refine pz_nrc (c := 60) rfl ?_
              intro v91 e91 a91 b91
              rw [pz_wi (by omega) (by omega)] at e91
              clear a91 b91
              refine And.intro (by omega) (And.intro (show _ < (1725 : Int) from by omega) ?_)
              intro v92 e92 a92 b92
              refine pz_nrc (c := 60) rfl ?_
              intro v101 e101 a101 b101
              rw [pz_wi (by omega) (by omega)] at e101
              clear a101 b101
              refine And.intro (by omega) (And.intro (show _ < (1725 : Int) from by omega) ?_)
              intro v102 e102 a102 b102
              refine And.intro (fun h103 => ?_) (fun h103 => ?_)
              · skip
                exact L110 _ _ _ _ _ (by omega) (by omega) (by omega) (by omega) (by omega)
              · skip
                exact L110 _ _ _ _ _ (by omega) (by omega) (by omega) (by omega) (by omega)
        have L53 : ∀ (x2 : Int) (x3 : Int) (x4 : Int) (x5 : Int) (x6 : Int) (s0 : Int), (0 ≤ x6) → (x6 < 12) → ((12 - x6).toNat < fu + 1) → (-1 ≤ x5) → (x5 < 12) → Ok 53 [some (.inr (.inr (12, 1))), some (.inl w), some (.inl x2), some (.inl x3), some (.inl x4), some (.inl x5), some (.inl x6)] [.inl s0] M := by
          intro x2 x3 x4 x5 x6 s0 g53_0 g53_1 g53_2 g53_3 g53_4
          refine hgo (fun p => Nat.beq p 24 || Nat.beq p 53 || Nat.beq p 72 || Nat.beq p 110) 79 53 _ _ _ ?_
          refine And.intro (fun h58 => ?_) (fun h58 => ?_)
          · skip
            exact L72 _ _ _ _ _ (by omega) (by omega) (by omega) (by omega) (by omega)
          · skip
            intro v68 e68 a68 b68
            intro v70 e70 a70 b70
            exact L72 _ _ _ _ _ (by omega) (by omega) (by omega) (by omega) (by omega)
        refine hgo (fun p => Nat.beq p 24 || Nat.beq p 53 || Nat.beq p 72 || Nat.beq p 110) 79 24 _ _ _ ?_
        refine pz_nrc (c := 60) rfl ?_
        refine And.intro (by omega) (And.intro (show _ < (1725 : Int) from by omega) ?_)
        intro v32 e32 a32 b32
        replace e32 : v32 = M 60 88 := e32
        have I32 : 0 ≤ v32 ∧ v32 ≤ 12 := by
          rw [e32]
          exact hI.1.1
        clear a32 b32
        refine And.intro (fun h33 => ?_) (fun h33 => ?_)
        · skip
          refine And.intro (fun h117 => ?_) (fun h117 => ?_)
          · skip
            refine And.intro (fun h126 => ?_) (fun h126 => ?_)
            · skip
              refine And.intro rfl ?_
              exact ⟨trivial, rfl⟩
            · skip
              refine And.intro rfl ?_
              exact ⟨trivial, rfl⟩
          · skip
            refine And.intro rfl ?_
            exact ⟨trivial, rfl⟩
        · skip
          refine And.intro (hI) ?_
          intro v39 M39 a39 b39 q39
          obtain ⟨q39, z39⟩ := q39
          subst z39
          clear a39 b39
          refine And.intro (fun h42 => ?_) (fun h42 => ?_)
          · skip
            replace q39 := q39.resolve_left (fun z => absurd (z.1.symm.trans h42) (by decide))
            clear h42 q39
            exact L53 _ _ _ _ _ _ (by omega) (by omega) (by omega) (by omega) (by omega)
          · skip
            replace q39 := q39.resolve_right h42
            clear h42
            intro v48 e48 a48 b48
            exact L53 _ _ _ _ _ _ (by omega) (by omega) (by omega) (by omega) (by omega)
    refine hgo (fun p => Nat.beq p 24 || Nat.beq p 53 || Nat.beq p 72 || Nat.beq p 110) 79 0 _ [] M ?_
    refine And.intro (True.intro) ?_
    intro v3 M3 a3 b3 q3
    obtain ⟨q3, z3⟩ := q3
    subst z3
    clear a3 b3
    refine And.intro (fun h6 => ?_) (fun h6 => ?_)
    · skip
      replace q3 := q3.resolve_right (fun z => h6 z.1)
      clear h6
      exact L24 _ _ _ _ _ _ (Nat.lt_succ_self _) (by omega) (by omega) (by omega)
    · skip
      replace q3 := q3.resolve_left (fun z => absurd (z.1.symm.trans h6) (by decide))
      clear h6
      refine And.intro rfl ?_
      exact ⟨trivial, rfl⟩
theorem v_X12_runs {fr lo i : Nat} {own : String} (h1 : 4 + 1 ≤ fr) (h2 : 8 + (7 + 11) + 85 ≤ lo) (h3 : .methodLink own i yX12_runs ∈ lw_tbl) : pz_cV fr lo own i k_X12_runs :=
  pz_cVk (maxL := 7) (fr' := 4) (lo' := 85) 1 12 h_X12_runs rfl ⟨by decide +kernel, by decide +kernel, by decide +kernel⟩ ⟨(pz_mt 1707 (by decide +kernel)), (pz_mt 1705 (by decide +kernel)), (pz_mt 1706 (by decide +kernel)), (pz_mt 13 (by decide +kernel))⟩ (Or.inl ⟨TX12, 28, rfl⟩) (fun a M _ h => by
    have h : (match (generalizing := false) a with | [.inr (.inr (12, th)), .inl w] => pz_im M | _ => False) := h
    split at h
    · exact ⟨_, _, rfl⟩
    · exact h.elim) h1 h2 h3
