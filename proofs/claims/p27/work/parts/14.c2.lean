

noncomputable def k_X12_recordsOf : pz_C := (4, 1, fun a M => (match a with | [.inr (.inr (12, th)), .inl i, .inl x, .inl y] => pz_im M | _ => False), fun a M r M' => (match a, r with | [.inr (.inr (12, th)), .inl i, .inl x, .inl y], some (.inl v) => (v = pz_rcd (pz_gmr M) i x y (M 60 92).toNat) ∧ M = M' | _, _ => False))
noncomputable abbrev ct_X12_recordsOf : List (Bool × Nat × pz_C) := [(false, 54, k_X12_isIn)]
set_option maxRecDepth 100000 in
set_option maxHeartbeats 4000000 in
theorem h_X12_recordsOf : pz_H yX12_recordsOf cX12_recordsOf 6 (some .int) k_X12_recordsOf 1 22 := by
  refine pz_mk (own := RX12) (tb := t_X12_recordsOf) (fl := pz_flf fl_RX12) (ci := pz_cif ci_RX12) (ct := pz_ctf ct_X12_recordsOf) (rz := false) (by decide +kernel) rfl t_X12_recordsOf_ok (pz_flk fl_RX12_ok) (pz_cik ci_RX12_ok) ?_ ?_ (Or.inl ⟨rfl, rfl⟩) ?_ ?_
  · exact fun i k' h => pz_ctk (l := ct_X12_recordsOf) (P := fun b i k => b = true → pz_cV 1 22 RX12 i k) (List.forall_mem_cons.mpr ⟨((fun z => by cases z)), fun _ h => absurd h List.not_mem_nil⟩) true i k' h rfl
  · exact fun i k' h => pz_ctk (l := ct_X12_recordsOf) (P := fun b i k => b = false → (pz_cS 1 22 RX12 i k ∨ (k = pz_kac ∧ 1 ≤ 1 ∧ 60 ≤ 22 ∧ Cond.methodLink RX12 i arraycopyName ∈ pz_tbl))) (List.forall_mem_cons.mpr ⟨(fun _ => Or.inl (s_X12_isIn (by decide) (by decide) (Or.inl (pz_mt 1217 (by decide +kernel))))), fun _ h => absurd h List.not_mem_nil⟩) false i k' h rfl
  · intro a M hlen hpre
    obtain ⟨th, i, x, y, rfl, hpre⟩ : ∃ th i x y, a = [.inr (.inr (12, th)), .inl i, .inl x, .inl y] ∧ (pz_im M) := by
      have hpre : (match (generalizing := false) a with | [.inr (.inr (12, th)), .inl i, .inl x, .inl y] => pz_im M | _ => False) := hpre
      split at hpre
      · exact ⟨_, _, _, _, rfl, hpre⟩
      · exact hpre.elim
    exact Nat.le_of_ble_eq_true rfl
  · intro a M hlen hcan hM hpre Ok hgo
    obtain ⟨th, i, x, y, rfl, hpre⟩ : ∃ th i x y, a = [.inr (.inr (12, th)), .inl i, .inl x, .inl y] ∧ (pz_im M) := by
      have hpre : (match (generalizing := false) a with | [.inr (.inr (12, th)), .inl i, .inl x, .inl y] => pz_im M | _ => False) := hpre
      split at hpre
      · exact ⟨_, _, _, _, rfl, hpre⟩
      · exact hpre.elim
    obtain ⟨k_th, hc_th⟩ := pz_tlm hcan
    have k_th : pz_kd th = 12 ∧ th < 231 := k_th
    have R_th := pz_kd12 k_th.1
    subst R_th
    clear k_th
    obtain ⟨k_i, hc_i⟩ := pz_tlm hc_th
    have l_i : -2147483648 ≤ i := k_i.1
    have u_i : i ≤ 2147483647 := k_i.2
    obtain ⟨k_x, hc_x⟩ := pz_tlm hc_i
    have l_x : -2147483648 ≤ x := k_x.1
    have u_x : x ≤ 2147483647 := k_x.2
    obtain ⟨k_y, hc_y⟩ := pz_tlm hc_x
    have l_y : -2147483648 ≤ y := k_y.1
    have u_y : y ≤ 2147483647 := k_y.2
    have hI : pz_im M := hpre
    have I92 := hI.1.2.2.2.1
    have L6 : ∀ (fu : Nat) (x4 : Int) (x5 : Int), (16 - x5).toNat < fu → (0 ≤ x5) → (x5 ≤ 16) → (x5 ≤ M 60 92) → (0 ≤ x4) → (x4 ≤ x5) → (x4 ≤ 16) → (x4 = pz_rcd (pz_gmr M) i x y x5.toNat) → Ok 6 [some (.inr (.inr (12, 1))), some (.inl i), some (.inl x), some (.inl y), some (.inl x4), some (.inl x5)] [] M := by
      intro fu
      induction fu with
      | zero => exact fun _ _ hn => absurd hn (Nat.not_lt_zero _)
      | succ fu ih6 =>
        intro x4 x5 hn6 g6_0 g6_1 g6_2 g6_3 g6_4 g6_5 g6_6
        have L65 : ∀ (x4 : Int) (x5 : Int) (s0 : Int) (s1 : Int), (0 ≤ x5) → (x5 < 16) → ((16 - x5).toNat < fu + 1) → (x5 < M 60 92) → (0 ≤ s0) → (s0 ≤ x5) → (s0 ≤ 16) → (0 ≤ s1) → (s1 ≤ 1) → (s0 = pz_rcd (pz_gmr M) i x y x5.toNat) → (s1 = (if pz_gmr M x5.toNat 1 = i ∧ x ≤ pz_gmr M x5.toNat 0 ∧ pz_gmr M x5.toNat 0 ≤ y then 1 else 0)) → Ok 65 [some (.inr (.inr (12, 1))), some (.inl i), some (.inl x), some (.inl y), some (.inl x4), some (.inl x5)] [.inl s1, .inl s0] M := by
          intro x4 x5 s0 s1 g65_0 g65_1 g65_2 g65_3 g65_4 g65_5 g65_6 g65_7 g65_8 g65_9 g65_10
          refine hgo (fun p => Nat.beq p 6 || Nat.beq p 65) 46 65 _ _ _ ?_
          intro v65 e65 a65 b65
          rw [pz_wi (by omega) (by omega)] at e65
          clear a65 b65
          intro v68 e68 a68 b68
          rw [pz_wi (by omega) (by omega)] at e68
          have G68 : v65 = pz_rcd (pz_gmr M) i x y v68.toNat := by
            rw [show v68.toNat = x5.toNat + 1 by omega]
            show v65 = pz_rcd (pz_gmr M) i x y x5.toNat + (if pz_gmr M x5.toNat 1 = i ∧ x ≤ pz_gmr M x5.toNat 0 ∧ pz_gmr M x5.toNat 0 ≤ y then 1 else 0)
            rw [← g65_9, ← g65_10]
            omega
          exact ih6 _ _ (by omega) (by first | omega | assumption | rfl) (by first | omega | assumption | rfl) (by first | omega | assumption | rfl) (by first | omega | assumption | rfl) (by first | omega | assumption | rfl) (by first | omega | assumption | rfl) (by first | omega | assumption | rfl)
        refine hgo (fun p => Nat.beq p 6 || Nat.beq p 65) 46 6 _ _ _ ?_
        refine pz_nrc (c := 60) rfl ?_
        refine And.intro (by omega) (And.intro (show _ < (1725 : Int) from by omega) ?_)
        intro v14 e14 a14 b14
        replace e14 : v14 = M 60 92 := e14
        have I14 : 0 ≤ v14 ∧ v14 ≤ 16 := by
          rw [e14]
          exact hI.1.2.2.2.1
        clear a14 b14
        refine And.intro (fun h15 => ?_) (fun h15 => ?_)
        · skip
          refine And.intro rfl ?_
          exact ⟨by rw [show (M 60 92).toNat = x5.toNat by omega]; exact g6_6, rfl⟩
        · skip
          refine pz_nrc (c := 60) rfl ?_
          intro v30 e30 a30 b30
          rw [pz_wi (by omega) (by omega)] at e30
          clear a30 b30
          intro v31 e31 a31 b31
          rw [pz_wi (by omega) (by omega)] at e31
          clear a31 b31
          intro v33 e33 a33 b33
          rw [pz_wi (by omega) (by omega)] at e33
          clear a33 b33
          refine And.intro (by omega) (And.intro (show _ < (1725 : Int) from by omega) ?_)
          intro v34 e34 a34 b34
          have Q34 : v34 = pz_gmr M x5.toNat 1 := by
            rw [e34, show v33.toNat = 209 + (2 * x5.toNat + 1) by omega]
            rfl
          refine And.intro (fun h36 => ?_) (fun h36 => ?_)
          · skip
            exact L65 _ _ _ _ (by first | omega | assumption | (rw [if_pos ⟨by omega, by omega, by omega⟩]) | (rw [if_neg (by omega)])) (by first | omega | assumption | (rw [if_pos ⟨by omega, by omega, by omega⟩]) | (rw [if_neg (by omega)])) (by first | omega | assumption | (rw [if_pos ⟨by omega, by omega, by omega⟩]) | (rw [if_neg (by omega)])) (by first | omega | assumption | (rw [if_pos ⟨by omega, by omega, by omega⟩]) | (rw [if_neg (by omega)])) (by first | omega | assumption | (rw [if_pos ⟨by omega, by omega, by omega⟩]) | (rw [if_neg (by omega)])) (by first | omega | assumption | (rw [if_pos ⟨by omega, by omega, by omega⟩]) | (rw [if_neg (by omega)])) (by first | omega | assumption | (rw [if_pos ⟨by omega, by omega, by omega⟩]) | (rw [if_neg (by omega)])) (by first | omega | assumption | (rw [if_pos ⟨by omega, by omega, by omega⟩]) | (rw [if_neg (by omega)])) (by first | omega | assumption | (rw [if_pos ⟨by omega, by omega, by omega⟩]) | (rw [if_neg (by omega)])) (by first | omega | assumption | (rw [if_pos ⟨by omega, by omega, by omega⟩]) | (rw [if_neg (by omega)])) (by first | omega | assumption | (rw [if_pos ⟨by omega, by omega, by omega⟩]) | (rw [if_neg (by omega)]))
          · skip
            refine pz_nrc (c := 60) rfl ?_
            intro v49 e49 a49 b49
            rw [pz_wi (by omega) (by omega)] at e49
            clear a49 b49
            intro v50 e50 a50 b50
            rw [pz_wi (by omega) (by omega)] at e50
            clear a50 b50
            refine And.intro (by omega) (And.intro (show _ < (1725 : Int) from by omega) ?_)
            intro v51 e51 a51 b51
            have Q51 : v51 = pz_gmr M x5.toNat 0 := by
              rw [e51, show v50.toNat = 209 + (2 * x5.toNat + 0) by omega]
              rfl
            refine And.intro (True.intro) ?_
            intro v54 M54 a54 b54 q54
            obtain ⟨q54, z54⟩ := q54
            subst z54
            clear a54 b54
            refine And.intro (fun h57 => ?_) (fun h57 => ?_)
            · skip
              replace q54 := q54.resolve_left (fun z => absurd (z.1.symm.trans h57) (by decide))
              clear h57
              exact L65 _ _ _ _ (by first | omega | assumption | (rw [if_pos ⟨by omega, by omega, by omega⟩]) | (rw [if_neg (by omega)])) (by first | omega | assumption | (rw [if_pos ⟨by omega, by omega, by omega⟩]) | (rw [if_neg (by omega)])) (by first | omega | assumption | (rw [if_pos ⟨by omega, by omega, by omega⟩]) | (rw [if_neg (by omega)])) (by first | omega | assumption | (rw [if_pos ⟨by omega, by omega, by omega⟩]) | (rw [if_neg (by omega)])) (by first | omega | assumption | (rw [if_pos ⟨by omega, by omega, by omega⟩]) | (rw [if_neg (by omega)])) (by first | omega | assumption | (rw [if_pos ⟨by omega, by omega, by omega⟩]) | (rw [if_neg (by omega)])) (by first | omega | assumption | (rw [if_pos ⟨by omega, by omega, by omega⟩]) | (rw [if_neg (by omega)])) (by first | omega | assumption | (rw [if_pos ⟨by omega, by omega, by omega⟩]) | (rw [if_neg (by omega)])) (by first | omega | assumption | (rw [if_pos ⟨by omega, by omega, by omega⟩]) | (rw [if_neg (by omega)])) (by first | omega | assumption | (rw [if_pos ⟨by omega, by omega, by omega⟩]) | (rw [if_neg (by omega)])) (by first | omega | assumption | (rw [if_pos ⟨by omega, by omega, by omega⟩]) | (rw [if_neg (by omega)]))
            · skip
              replace q54 := q54.resolve_right (fun z => h57 z.1)
              clear h57
              exact L65 _ _ _ _ (by first | omega | assumption | (rw [if_pos ⟨by omega, by omega, by omega⟩]) | (rw [if_neg (by omega)])) (by first | omega | assumption | (rw [if_pos ⟨by omega, by omega, by omega⟩]) | (rw [if_neg (by omega)])) (by first | omega | assumption | (rw [if_pos ⟨by omega, by omega, by omega⟩]) | (rw [if_neg (by omega)])) (by first | omega | assumption | (rw [if_pos ⟨by omega, by omega, by omega⟩]) | (rw [if_neg (by omega)])) (by first | omega | assumption | (rw [if_pos ⟨by omega, by omega, by omega⟩]) | (rw [if_neg (by omega)])) (by first | omega | assumption | (rw [if_pos ⟨by omega, by omega, by omega⟩]) | (rw [if_neg (by omega)])) (by first | omega | assumption | (rw [if_pos ⟨by omega, by omega, by omega⟩]) | (rw [if_neg (by omega)])) (by first | omega | assumption | (rw [if_pos ⟨by omega, by omega, by omega⟩]) | (rw [if_neg (by omega)])) (by first | omega | assumption | (rw [if_pos ⟨by omega, by omega, by omega⟩]) | (rw [if_neg (by omega)])) (by first | omega | assumption | (rw [if_pos ⟨by omega, by omega, by omega⟩]) | (rw [if_neg (by omega)])) (by first | omega | assumption | (rw [if_pos ⟨by omega, by omega, by omega⟩]) | (rw [if_neg (by omega)]))
    refine hgo (fun p => Nat.beq p 6 || Nat.beq p 65) 46 0 _ [] M ?_
    exact L6 _ _ _ (Nat.lt_succ_self _) (by first | omega | assumption | rfl) (by first | omega | assumption | rfl) (by first | omega | assumption | rfl) (by first | omega | assumption | rfl) (by first | omega | assumption | rfl) (by first | omega | assumption | rfl) (by first | omega | assumption | rfl)
theorem v_X12_recordsOf {fr lo i : Nat} {own : String} (h1 : 1 + 1 ≤ fr) (h2 : 8 + (6 + 11) + 22 ≤ lo) (h3 : .methodLink own i yX12_recordsOf ∈ lw_tbl) : pz_cV fr lo own i k_X12_recordsOf :=
  pz_cVk (maxL := 6) (fr' := 1) (lo' := 22) 3 12 h_X12_recordsOf rfl ⟨by decide +kernel, by decide +kernel, by decide +kernel⟩ ⟨(pz_mt 1593 (by decide +kernel)), (pz_mt 1592 (by decide +kernel)), (pz_ms 71 (by decide +kernel)), (pz_mt 13 (by decide +kernel))⟩ (Or.inl ⟨TX12, 28, rfl⟩) (fun a M _ h => by
    have h : (match (generalizing := false) a with | [.inr (.inr (12, th)), .inl i, .inl x, .inl y] => pz_im M | _ => False) := h
    split at h
    · exact ⟨_, _, rfl⟩
    · exact h.elim) h1 h2 h3
noncomputable def k_X12_phone : pz_C := (3, 1, fun a M => (match a with | [.inr (.inr (12, th)), .inl i, .inl n] => pz_im M | _ => False), fun a M r M' => (match a, r with | [.inr (.inr (12, th)), .inl i, .inl n], some (.inl v) => (pz_pn2 M i n v) ∧ M = M' | _, _ => False))
noncomputable abbrev ct_X12_phone : List (Bool × Nat × pz_C) := [(true, 58, k_X12_isLink), (false, 54, k_X12_isIn), (true, 392, k_X12_recordsOf)]
set_option maxRecDepth 100000 in
set_option maxHeartbeats 4000000 in
theorem h_X12_phone : pz_H yX12_phone cX12_phone 3 (some .int) k_X12_phone 2 47 := by
  refine pz_mk (own := RX12) (tb := t_X12_phone) (fl := pz_flf fl_RX12) (ci := pz_cif ci_RX12) (ct := pz_ctf ct_X12_phone) (rz := false) (by decide +kernel) rfl t_X12_phone_ok (pz_flk fl_RX12_ok) (pz_cik ci_RX12_ok) ?_ ?_ (Or.inl ⟨rfl, rfl⟩) ?_ ?_
  · exact fun i k' h => pz_ctk (l := ct_X12_phone) (P := fun b i k => b = true → pz_cV 2 47 RX12 i k) (List.forall_mem_cons.mpr ⟨(fun _ => v_X12_isLink (by decide) (by decide) (pz_mt 1224 (by decide +kernel))), List.forall_mem_cons.mpr ⟨((fun z => by cases z)), List.forall_mem_cons.mpr ⟨(fun _ => v_X12_recordsOf (by decide) (by decide) (pz_mt 1590 (by decide +kernel))), fun _ h => absurd h List.not_mem_nil⟩⟩⟩) true i k' h rfl
  · exact fun i k' h => pz_ctk (l := ct_X12_phone) (P := fun b i k => b = false → (pz_cS 2 47 RX12 i k ∨ (k = pz_kac ∧ 1 ≤ 2 ∧ 60 ≤ 47 ∧ Cond.methodLink RX12 i arraycopyName ∈ pz_tbl))) (List.forall_mem_cons.mpr ⟨((fun z => by cases z)), List.forall_mem_cons.mpr ⟨(fun _ => Or.inl (s_X12_isIn (by decide) (by decide) (Or.inl (pz_mt 1217 (by decide +kernel))))), List.forall_mem_cons.mpr ⟨((fun z => by cases z)), fun _ h => absurd h List.not_mem_nil⟩⟩⟩) false i k' h rfl
  · intro a M hlen hpre
    obtain ⟨th, i, n, rfl, hpre⟩ : ∃ th i n, a = [.inr (.inr (12, th)), .inl i, .inl n] ∧ (pz_im M) := by
      have hpre : (match (generalizing := false) a with | [.inr (.inr (12, th)), .inl i, .inl n] => pz_im M | _ => False) := hpre
      split at hpre
      · exact ⟨_, _, _, rfl, hpre⟩
      · exact hpre.elim
    exact Nat.le_of_ble_eq_true rfl
  · intro a M hlen hcan hM hpre Ok hgo
    obtain ⟨th, i, n, rfl, hpre⟩ : ∃ th i n, a = [.inr (.inr (12, th)), .inl i, .inl n] ∧ (pz_im M) := by
      have hpre : (match (generalizing := false) a with | [.inr (.inr (12, th)), .inl i, .inl n] => pz_im M | _ => False) := hpre
      split at hpre
      · exact ⟨_, _, _, rfl, hpre⟩
      · exact hpre.elim
    obtain ⟨k_th, hc_th⟩ := pz_tlm hcan
    have k_th : pz_kd th = 12 ∧ th < 231 := k_th
    have R_th := pz_kd12 k_th.1
    subst R_th
    clear k_th
    obtain ⟨k_i, hc_i⟩ := pz_tlm hc_th
    have l_i : -2147483648 ≤ i := k_i.1
    have u_i : i ≤ 2147483647 := k_i.2
    obtain ⟨k_n, hc_n⟩ := pz_tlm hc_i
    have l_n : -2147483648 ≤ n := k_n.1
    have u_n : n ≤ 2147483647 := k_n.2
    have hI : pz_im M := hpre
    refine hgo (fun _ => false) 33 0 _ [] M ?_
    refine And.intro (hI) ?_
    intro v2 M2 a2 b2 q2
    obtain ⟨q2, z2⟩ := q2
    subst z2
    clear a2 b2
    refine And.intro (fun h5 => ?_) (fun h5 => ?_)
    · skip
      replace q2 := q2.resolve_left (fun z => absurd (z.1.symm.trans h5) (by decide))
      clear h5
      refine And.intro rfl ?_
      exact ⟨⟨fun _ => rfl, fun y => ⟨fun z => by omega, fun z => by omega, fun z => by omega, fun _ => rfl⟩⟩, rfl⟩
    · skip
      replace q2 := q2.resolve_right (fun z => h5 z.1)
      clear h5
      refine And.intro (True.intro) ?_
      intro v11 M11 a11 b11 q11
      obtain ⟨q11, z11⟩ := q11
      subst z11
      clear a11 b11
      refine And.intro (fun h14 => ?_) (fun h14 => ?_)
      · skip
        replace q11 := q11.resolve_right (fun z => h14 z.1)
        clear h14
        refine And.intro (fun h21 => ?_) (fun h21 => ?_)
        · skip
          replace h21 : n ≤ 1 := by omega
          refine pz_nrc (c := 60) rfl ?_
          intro v44 e44 a44 b44
          rw [pz_wi (by omega) (by omega)] at e44
          clear a44 b44
          intro v45 e45 a45 b45
          rw [pz_wi (by omega) (by omega)] at e45
          clear a45 b45
          intro v47 e47 a47 b47
          rw [pz_wi (by omega) (by omega)] at e47
          clear a47 b47
          refine And.intro (by omega) (And.intro (show _ < (1725 : Int) from by omega) ?_)
          intro v48 e48 a48 b48
          refine And.intro rfl ?_
          first
            | exact ⟨⟨fun y => absurd ⟨by omega, by omega⟩ y, fun _ => ⟨fun z => absurd z (by omega), fun z => absurd z (by omega), fun _ => q30, fun z => absurd ⟨by omega, by omega⟩ z⟩⟩, rfl⟩
            | exact ⟨⟨fun y => absurd ⟨by omega, by omega⟩ y, fun _ => ⟨fun z => by rw [e48, show v47.toNat = 105 + 2 * i.toNat by omega], fun z => by rw [e48, show v47.toNat = 106 + 2 * i.toNat by omega], fun z => absurd z (by omega), fun z => absurd ⟨by omega, by omega⟩ z⟩⟩, rfl⟩
        · skip
          refine And.intro (hI) ?_
          intro v30 M30 a30 b30 q30
          obtain ⟨q30, z30⟩ := q30
          subst z30
          refine And.intro rfl ?_
          first
            | exact ⟨⟨fun y => absurd ⟨by omega, by omega⟩ y, fun _ => ⟨fun z => absurd z (by omega), fun z => absurd z (by omega), fun _ => q30, fun z => absurd ⟨by omega, by omega⟩ z⟩⟩, rfl⟩
            | exact ⟨⟨fun y => absurd ⟨by omega, by omega⟩ y, fun _ => ⟨fun z => by rw [e48, show v47.toNat = 105 + 2 * i.toNat by omega], fun z => by rw [e48, show v47.toNat = 106 + 2 * i.toNat by omega], fun z => absurd z (by omega), fun z => absurd ⟨by omega, by omega⟩ z⟩⟩, rfl⟩
      · skip
        replace q11 := q11.resolve_left (fun z => absurd (z.1.symm.trans h14) (by decide))
        clear h14
        refine And.intro rfl ?_
        exact ⟨⟨fun _ => rfl, fun y => ⟨fun z => by omega, fun z => by omega, fun z => by omega, fun _ => rfl⟩⟩, rfl⟩
theorem v_X12_phone {fr lo i : Nat} {own : String} (h1 : 2 + 1 ≤ fr) (h2 : 8 + (3 + 11) + 47 ≤ lo) (h3 : .methodLink own i yX12_phone ∈ lw_tbl) : pz_cV fr lo own i k_X12_phone :=
  pz_cVk (maxL := 3) (fr' := 2) (lo' := 47) 2 12 h_X12_phone rfl ⟨by decide +kernel, by decide +kernel, by decide +kernel⟩ ⟨(pz_mt 1589 (by decide +kernel)), (pz_mt 1587 (by decide +kernel)), (pz_mt 1588 (by decide +kernel)), (pz_mt 13 (by decide +kernel))⟩ (Or.inl ⟨TX12, 28, rfl⟩) (fun a M _ h => by
    have h : (match (generalizing := false) a with | [.inr (.inr (12, th)), .inl i, .inl n] => pz_im M | _ => False) := h
    split at h
    · exact ⟨_, _, rfl⟩
    · exact h.elim) h1 h2 h3




