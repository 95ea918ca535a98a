section
noncomputable def k_X0_givenTo : pz_C := (2, 1, fun a M => (match a with | [.inr (.inr (0, c)), .inl i] => pz_ic M | _ => False), fun a M r M' => (match a, r with | [.inr (.inr (0, c)), .inl i], some (.inl v) => (True) ∧ M = M' | _, _ => False))
noncomputable abbrev ct_X0_givenTo : List (Bool × Nat × pz_C) := [(true, 97, k_X0_canGive), (false, 100, k_J9_min_7cf53)]
set_option maxRecDepth 100000 in
set_option maxHeartbeats 4000000 in
theorem h_X0_givenTo : pz_H yX0_givenTo cX0_givenTo 4 (some .int) k_X0_givenTo 2 42 := by
  refine pz_mk (own := RX0) (tb := t_X0_givenTo) (fl := pz_flf fl_RX0) (ci := pz_cif ci_RX0) (ct := pz_ctf ct_X0_givenTo) (rz := false) (pz_pfc_RX0 yX0_givenTo rfl) rfl t_X0_givenTo_ok (pz_flk fl_RX0_ok) (pz_cik ci_RX0_ok) ?_ ?_ (Or.inl ⟨rfl, rfl⟩) ?_ ?_
  · exact fun i k' h => pz_ctk (l := ct_X0_givenTo) (P := fun b i k => b = true → pz_cV 2 42 RX0 i k) (List.forall_mem_cons.mpr ⟨(fun _ => v_X0_canGive (by decide) (by decide) pz_wq969), List.forall_mem_cons.mpr ⟨((fun z => by cases z)), fun _ h => absurd h List.not_mem_nil⟩⟩) true i k' h rfl
  · exact fun i k' h => pz_ctk (l := ct_X0_givenTo) (P := fun b i k => b = false → (pz_cS 2 42 RX0 i k ∨ (k = pz_kac ∧ 1 ≤ 2 ∧ 60 ≤ 42 ∧ Cond.methodLink RX0 i arraycopyName ∈ pz_tbl))) (List.forall_mem_cons.mpr ⟨((fun z => by cases z)), List.forall_mem_cons.mpr ⟨(fun _ => Or.inl (s_J9_min_7cf53 (by decide) (by decide) (Or.inl pz_wq973))), fun _ h => absurd h List.not_mem_nil⟩⟩) false i k' h rfl
  · intro a M hlen hpre
    obtain ⟨c, i, rfl, hpre⟩ : ∃ c i, a = [.inr (.inr (0, c)), .inl i] ∧ (pz_ic M) := by
      have hpre : (match (generalizing := false) a with | [.inr (.inr (0, c)), .inl i] => pz_ic M | _ => False) := hpre
      split at hpre
      · exact ⟨_, _, rfl, hpre⟩
      · exact hpre.elim
    exact Nat.le_of_ble_eq_true rfl
  · intro a M hlen hcan hM hpre Ok hgo
    obtain ⟨c, i, rfl, hpre⟩ : ∃ c i, a = [.inr (.inr (0, c)), .inl i] ∧ (pz_ic M) := by
      have hpre : (match (generalizing := false) a with | [.inr (.inr (0, c)), .inl i] => pz_ic M | _ => False) := hpre
      split at hpre
      · exact ⟨_, _, rfl, hpre⟩
      · exact hpre.elim
    obtain ⟨k_c, hc_c⟩ := pz_tlm hcan
    have k_c : pz_kd c = 0 ∧ c < 231 := k_c
    have R_c := pz_kd0 k_c.1
    obtain ⟨k_i, hc_i⟩ := pz_tlm hc_c
    have l_i : -2147483648 ≤ i := k_i.1
    have u_i : i ≤ 2147483647 := k_i.2
    have hI : pz_ic M := hpre
    have L4 : ∀ (fu : Nat) (x2 : Int) (x3 : Int), (M c 3 - x3).toNat < fu → (0 ≤ x3) → Ok 4 [some (.inr (.inr (0, c))), some (.inl i), some (.inl x2), some (.inl x3)] [] M := by
      intro fu
      induction fu with
      | zero => exact fun _ _ hn => absurd hn (Nat.not_lt_zero _)
      | succ fu ih4 =>
        intro x2 x3 hn4 g4_0
        refine hgo (fun p => Nat.beq p 4) 22 4 _ _ _ ?_
        intro v6 e6 a6 b6
        have I6 := hI.1 c (by omega) (by omega)
        refine And.intro (fun h9 => ?_) (fun h9 => ?_)
        · skip
          refine And.intro rfl ?_
          exact ⟨trivial, rfl⟩
        · skip
          refine And.intro (True.intro) ?_
          intro v16 M16 a16 b16 q16
          obtain ⟨q16, z16⟩ := q16
          subst z16
          refine And.intro (True.intro) ?_
          intro v19 M19 a19 b19 q19
          obtain ⟨q19, z19⟩ := q19
          subst z19
          intro v22 e22 a22 b22
          try rw [pz_wi (by omega) (by omega)] at e22
          intro v24 e24 a24 b24
          try rw [pz_wi (by omega) (by omega)] at e24
          exact ih4 _ _ (by omega) (by omega)
    refine hgo (fun p => Nat.beq p 4) 22 0 _ [] M ?_
    exact L4 _ _ _ (Nat.lt_succ_self _) (by omega)
theorem v_X0_givenTo {fr lo i : Nat} {own : String} (h1 : 2 + 1 ≤ fr) (h2 : 8 + (4 + 11) + 42 ≤ lo) (h3 : .methodLink own i yX0_givenTo ∈ lw_tbl) : pz_cV fr lo own i k_X0_givenTo :=
  pz_cVk (maxL := 4) (fr' := 2) (lo' := 42) 1 0 h_X0_givenTo rfl ⟨(pz_nhc_RX0 yX0_givenTo rfl).1, (pz_nhc_RX0 yX0_givenTo rfl).2, pz_ds5⟩ ⟨pz_wq968, pz_wq966, pz_wq967, pz_wq2⟩ (Or.inl ⟨TX0, 8, rfl⟩) (fun a M _ h => by
    have h : (match (generalizing := false) a with | [.inr (.inr (0, c)), .inl i] => pz_ic M | _ => False) := h
    split at h
    · exact ⟨_, _, rfl⟩
    · exact h.elim) h1 h2 h3
end
section
noncomputable def k_X5_makeNew : pz_C := (5, 0, fun a M => (match a with | [.inr (.inr (5, c)), .inl p, .inl q, .inl w, .inl z] => pz_ic M | _ => False), fun a M r M' => (match a, r with | [.inr (.inr (5, c)), .inl p, .inl q, .inl w, .inl z], none => (M' = pz_mkl c p q w z M) ∧ pz_rt M M' | _, _ => False))
noncomputable abbrev ct_X5_makeNew : List (Bool × Nat × pz_C) := []
set_option maxRecDepth 100000 in
set_option maxHeartbeats 4000000 in
theorem h_X5_makeNew : pz_H yX5_makeNew cX5_makeNew 5 none k_X5_makeNew 0 0 := by
  refine pz_mk (own := RX5) (tb := t_X5_makeNew) (fl := pz_flf fl_RX5) (ci := fun _ => none) (ct := pz_ctf ct_X5_makeNew) (rz := false) (pz_pfc_RX5 yX5_makeNew rfl) rfl t_X5_makeNew_ok (pz_flk fl_RX5_ok) (fun i v h => by cases h) ?_ ?_ (rfl) ?_ ?_
  · exact fun i k' h => pz_ctk (l := ct_X5_makeNew) (P := fun b i k => b = true → pz_cV 0 0 RX5 i k) (fun _ h => absurd h List.not_mem_nil) true i k' h rfl
  · exact fun i k' h => pz_ctk (l := ct_X5_makeNew) (P := fun b i k => b = false → (pz_cS 0 0 RX5 i k ∨ (k = pz_kac ∧ 1 ≤ 0 ∧ 60 ≤ 0 ∧ Cond.methodLink RX5 i arraycopyName ∈ pz_tbl))) (fun _ h => absurd h List.not_mem_nil) false i k' h rfl
  · intro a M hlen hpre
    obtain ⟨c, p, q, w, z, rfl, hpre⟩ : ∃ c p q w z, a = [.inr (.inr (5, c)), .inl p, .inl q, .inl w, .inl z] ∧ (pz_ic M) := by
      have hpre : (match (generalizing := false) a with | [.inr (.inr (5, c)), .inl p, .inl q, .inl w, .inl z] => pz_ic M | _ => False) := hpre
      split at hpre
      · exact ⟨_, _, _, _, _, rfl, hpre⟩
      · exact hpre.elim
    exact Nat.le_of_ble_eq_true rfl
  · intro a M hlen hcan hM hpre Ok hgo
    obtain ⟨c, p, q, w, z, rfl, hpre⟩ : ∃ c p q w z, a = [.inr (.inr (5, c)), .inl p, .inl q, .inl w, .inl z] ∧ (pz_ic M) := by
      have hpre : (match (generalizing := false) a with | [.inr (.inr (5, c)), .inl p, .inl q, .inl w, .inl z] => pz_ic M | _ => False) := hpre
      split at hpre
      · exact ⟨_, _, _, _, _, rfl, hpre⟩
      · exact hpre.elim
    obtain ⟨k_c, hc_c⟩ := pz_tlm hcan
    have k_c : pz_kd c = 5 ∧ c < 231 := k_c
    have R_c := pz_kd5 k_c.1
    obtain ⟨k_p, hc_p⟩ := pz_tlm hc_c
    have l_p : -2147483648 ≤ p := k_p.1
    have u_p : p ≤ 2147483647 := k_p.2
    obtain ⟨k_q, hc_q⟩ := pz_tlm hc_p
    have l_q : -2147483648 ≤ q := k_q.1
    have u_q : q ≤ 2147483647 := k_q.2
    obtain ⟨k_w, hc_w⟩ := pz_tlm hc_q
    have l_w : -2147483648 ≤ w := k_w.1
    have u_w : w ≤ 2147483647 := k_w.2
    obtain ⟨k_z, hc_z⟩ := pz_tlm hc_w
    have l_z : -2147483648 ≤ z := k_z.1
    have u_z : z ≤ 2147483647 := k_z.2
    have hI : pz_ic M := hpre
    have hI0 := hI
    have hS : pz_rt M M := pz_rt.rf
    refine hgo (fun _ => false) 27 0 _ [] M ?_
    intro M2 e2
    have hS : pz_rt M M2 := by
      rw [e2]
      exact pz_rt_u hS (by unfold pz_iok; omega)
    have hI : pz_ic M2 := hS hI0
    intro M7 e7
    have hS : pz_rt M M7 := by
      rw [e7]
      exact pz_rt_u hS (by unfold pz_iok; omega)
    have hI : pz_ic M7 := hS hI0
    intro M12 e12
    have hS : pz_rt M M12 := by
      rw [e12]
      exact pz_rt_u hS (by unfold pz_iok; omega)
    have hI : pz_ic M12 := hS hI0
    intro M18 e18
    have hS : pz_rt M M18 := by
      rw [e18]
      exact pz_rt_u hS (by unfold pz_iok; omega)
    have hI : pz_ic M18 := hS hI0
    intro M23 e23
    have hS : pz_rt M M23 := by
      rw [e23]
      exact pz_rt_u hS (by unfold pz_iok; omega)
    have hI : pz_ic M23 := hS hI0
    intro M28 e28
    have hS : pz_rt M M28 := by
      rw [e28]
      exact pz_rt_u hS (by unfold pz_iok; omega)
    have hI : pz_ic M28 := hS hI0
    intro M33 e33
    have hS : pz_rt M M33 := by
      rw [e33]
      exact pz_rt_u hS (by unfold pz_iok; omega)
    have hI : pz_ic M33 := hS hI0
    intro M38 e38
    have hS : pz_rt M M38 := by
      rw [e38]
      exact pz_rt_u hS (by unfold pz_iok; omega)
    have hI : pz_ic M38 := hS hI0
    refine And.intro rfl ?_
    exact ⟨by rw [e38, e33, e28, e23, e18, e12, e7, e2]; rfl, hS⟩
theorem v_X5_makeNew {fr lo i : Nat} {own : String} (h1 : 0 + 1 ≤ fr) (h2 : 8 + (5 + 11) + 0 ≤ lo) (h3 : .methodLink own i yX5_makeNew ∈ lw_tbl) : pz_cV fr lo own i k_X5_makeNew :=
  pz_cVk (maxL := 5) (fr' := 0) (lo' := 0) 4 5 h_X5_makeNew rfl ⟨(pz_nhc_RX5 yX5_makeNew rfl).1, (pz_nhc_RX5 yX5_makeNew rfl).2, pz_ds19⟩ ⟨pz_wq435, pz_wq433, pz_wq434, pz_wq3⟩ (Or.inl ⟨TX5, 8, rfl⟩) (fun a M _ h => by
    have h : (match (generalizing := false) a with | [.inr (.inr (5, c)), .inl p, .inl q, .inl w, .inl z] => pz_ic M | _ => False) := h
    split at h
    · exact ⟨_, _, rfl⟩
    · exact h.elim) h1 h2 h3
noncomputable def k_X5_take : pz_C := (2, 0, fun a M => (match a with | [.inr (.inr (5, c)), .inr (.inr (5, d))] => pz_ic M | _ => False), fun a M r M' => (match a, r with | [.inr (.inr (5, c)), .inr (.inr (5, d))], none => (M' = pz_ltk c d M 8) ∧ pz_rt M M' | _, _ => False))
noncomputable abbrev ct_X5_take : List (Bool × Nat × pz_C) := []
set_option maxRecDepth 100000 in
set_option maxHeartbeats 4000000 in
theorem h_X5_take : pz_H yX5_take cX5_take 2 none k_X5_take 0 0 := by
  refine pz_mk (own := RX5) (tb := t_X5_take) (fl := pz_flf fl_RX5) (ci := fun _ => none) (ct := pz_ctf ct_X5_take) (rz := false) (pz_pfc_RX5 yX5_take rfl) rfl t_X5_take_ok (pz_flk fl_RX5_ok) (fun i v h => by cases h) ?_ ?_ (rfl) ?_ ?_
  · exact fun i k' h => pz_ctk (l := ct_X5_take) (P := fun b i k => b = true → pz_cV 0 0 RX5 i k) (fun _ h => absurd h List.not_mem_nil) true i k' h rfl
  · exact fun i k' h => pz_ctk (l := ct_X5_take) (P := fun b i k => b = false → (pz_cS 0 0 RX5 i k ∨ (k = pz_kac ∧ 1 ≤ 0 ∧ 60 ≤ 0 ∧ Cond.methodLink RX5 i arraycopyName ∈ pz_tbl))) (fun _ h => absurd h List.not_mem_nil) false i k' h rfl
  · intro a M hlen hpre
    obtain ⟨c, d, rfl, hpre⟩ : ∃ c d, a = [.inr (.inr (5, c)), .inr (.inr (5, d))] ∧ (pz_ic M) := by
      have hpre : (match (generalizing := false) a with | [.inr (.inr (5, c)), .inr (.inr (5, d))] => pz_ic M | _ => False) := hpre
      split at hpre
      · exact ⟨_, _, rfl, hpre⟩
      · exact hpre.elim
    exact Nat.le_of_ble_eq_true rfl
  · intro a M hlen hcan hM hpre Ok hgo
    obtain ⟨c, d, rfl, hpre⟩ : ∃ c d, a = [.inr (.inr (5, c)), .inr (.inr (5, d))] ∧ (pz_ic M) := by
      have hpre : (match (generalizing := false) a with | [.inr (.inr (5, c)), .inr (.inr (5, d))] => pz_ic M | _ => False) := hpre
      split at hpre
      · exact ⟨_, _, rfl, hpre⟩
      · exact hpre.elim
    obtain ⟨k_c, hc_c⟩ := pz_tlm hcan
    have k_c : pz_kd c = 5 ∧ c < 231 := k_c
    have R_c := pz_kd5 k_c.1
    obtain ⟨k_d, hc_d⟩ := pz_tlm hc_c
    have k_d : pz_kd d = 5 ∧ d < 231 := k_d
    have R_d := pz_kd5 k_d.1
    have hI : pz_ic M := hpre
    have hI0 := hI
    have hS : pz_rt M M := pz_rt.rf
    have T0 : M = pz_ltk c d M 0 := pz_ltk_0
    refine hgo (fun _ => false) 35 0 _ [] M ?_
    intro v2 e2 a2 b2
    intro M5 e5
    have hS : pz_rt M M5 := by
      rw [e5]
      exact pz_rt_u hS (by unfold pz_iok; omega)
    have hI : pz_ic M5 := hS hI0
    have T5 := pz_ltk_s (n := 0) T0 e2 e5
    intro v10 e10 a10 b10
    intro M13 e13
    have hS : pz_rt M M13 := by
      rw [e13]
      exact pz_rt_u hS (by unfold pz_iok; omega)
    have hI : pz_ic M13 := hS hI0
    have T13 := pz_ltk_s (n := 1) T5 e10 e13
    intro v18 e18 a18 b18
    intro M21 e21
    have hS : pz_rt M M21 := by
      rw [e21]
      exact pz_rt_u hS (by unfold pz_iok; omega)
    have hI : pz_ic M21 := hS hI0
    have T21 := pz_ltk_s (n := 2) T13 e18 e21
    intro v26 e26 a26 b26
    intro M29 e29
    have hS : pz_rt M M29 := by
      rw [e29]
      exact pz_rt_u hS (by unfold pz_iok; omega)
    have hI : pz_ic M29 := hS hI0
    have T29 := pz_ltk_s (n := 3) T21 e26 e29
    intro v34 e34 a34 b34
    intro M37 e37
    have hS : pz_rt M M37 := by
      rw [e37]
      exact pz_rt_u hS (by unfold pz_iok; omega)
    have hI : pz_ic M37 := hS hI0
    have T37 := pz_ltk_s (n := 4) T29 e34 e37
    intro v42 e42 a42 b42
    intro M45 e45
    have hS : pz_rt M M45 := by
      rw [e45]
      exact pz_rt_u hS (by unfold pz_iok; omega)
    have hI : pz_ic M45 := hS hI0
    have T45 := pz_ltk_s (n := 5) T37 e42 e45
    intro v50 e50 a50 b50
    intro M53 e53
    have hS : pz_rt M M53 := by
      rw [e53]
      exact pz_rt_u hS (by unfold pz_iok; omega)
    have hI : pz_ic M53 := hS hI0
    have T53 := pz_ltk_s (n := 6) T45 e50 e53
    intro v58 e58 a58 b58
    intro M61 e61
    have hS : pz_rt M M61 := by
      rw [e61]
      exact pz_rt_u hS (by unfold pz_iok; omega)
    have hI : pz_ic M61 := hS hI0
    have T61 := pz_ltk_s (n := 7) T53 e58 e61
    refine And.intro rfl ?_
    exact ⟨T61, hS⟩
theorem v_X5_take {fr lo i : Nat} {own : String} (h1 : 0 + 1 ≤ fr) (h2 : 8 + (2 + 11) + 0 ≤ lo) (h3 : .methodLink own i yX5_take ∈ lw_tbl) : pz_cV fr lo own i k_X5_take :=
  pz_cVk (maxL := 2) (fr' := 0) (lo' := 0) 1 5 h_X5_take rfl ⟨(pz_nhc_RX5 yX5_take rfl).1, (pz_nhc_RX5 yX5_take rfl).2, pz_ds41⟩ ⟨pz_wq473, pz_wq471, pz_wq472, pz_wq3⟩ (Or.inl ⟨TX5, 8, rfl⟩) (fun a M _ h => by
    have h : (match (generalizing := false) a with | [.inr (.inr (5, c)), .inr (.inr (5, d))] => pz_ic M | _ => False) := h
    split at h
    · exact ⟨_, _, rfl⟩
    · exact h.elim) h1 h2 h3
noncomputable def k_X6_cell : pz_C := (3, 1, fun a M => (match a with | [.inr (.inr (6, r)), .inl i, .inl j] => pz_ic M | _ => False), fun a M r M' => (match a, r with | [.inr (.inr (6, r)), .inl i, .inl j], some (.inl v) => (pz_cel M r i j v) ∧ M = M' | _, _ => False))
noncomputable abbrev ct_X6_cell : List (Bool × Nat × pz_C) := []
set_option maxRecDepth 100000 in
set_option maxHeartbeats 4000000 in
theorem h_X6_cell : pz_H yX6_cell cX6_cell 3 (some .int) k_X6_cell 0 0 := by
  refine pz_mk (own := RX6) (tb := t_X6_cell) (fl := pz_flf fl_RX6) (ci := fun _ => none) (ct := pz_ctf ct_X6_cell) (rz := false) (pz_pfc_RX6 yX6_cell rfl) rfl t_X6_cell_ok (pz_flk fl_RX6_ok) (fun i v h => by cases h) ?_ ?_ (Or.inl ⟨rfl, rfl⟩) ?_ ?_
  · exact fun i k' h => pz_ctk (l := ct_X6_cell) (P := fun b i k => b = true → pz_cV 0 0 RX6 i k) (fun _ h => absurd h List.not_mem_nil) true i k' h rfl
  · exact fun i k' h => pz_ctk (l := ct_X6_cell) (P := fun b i k => b = false → (pz_cS 0 0 RX6 i k ∨ (k = pz_kac ∧ 1 ≤ 0 ∧ 60 ≤ 0 ∧ Cond.methodLink RX6 i arraycopyName ∈ pz_tbl))) (fun _ h => absurd h List.not_mem_nil) false i k' h rfl
  · intro a M hlen hpre
    obtain ⟨r, i, j, rfl, hpre⟩ : ∃ r i j, a = [.inr (.inr (6, r)), .inl i, .inl j] ∧ (pz_ic M) := by
      have hpre : (match (generalizing := false) a with | [.inr (.inr (6, r)), .inl i, .inl j] => pz_ic M | _ => False) := hpre
      split at hpre
      · exact ⟨_, _, _, rfl, hpre⟩
      · exact hpre.elim
    exact Nat.le_of_ble_eq_true rfl
  · intro a M hlen hcan hM hpre Ok hgo
    obtain ⟨r, i, j, rfl, hpre⟩ : ∃ r i j, a = [.inr (.inr (6, r)), .inl i, .inl j] ∧ (pz_ic M) := by
      have hpre : (match (generalizing := false) a with | [.inr (.inr (6, r)), .inl i, .inl j] => pz_ic M | _ => False) := hpre
      split at hpre
      · exact ⟨_, _, _, rfl, hpre⟩
      · exact hpre.elim
    obtain ⟨k_r, hc_r⟩ := pz_tlm hcan
    have k_r : pz_kd r = 6 ∧ r < 231 := k_r
    have R_r := pz_kd6 k_r.1
    obtain ⟨k_i, hc_i⟩ := pz_tlm hc_r
    have l_i : -2147483648 ≤ i := k_i.1
    have u_i : i ≤ 2147483647 := k_i.2
    obtain ⟨k_j, hc_j⟩ := pz_tlm hc_i
    have l_j : -2147483648 ≤ j := k_j.1
    have u_j : j ≤ 2147483647 := k_j.2
    have hI : pz_ic M := hpre
    refine hgo (fun _ => false) 24 0 _ [] M ?_
    refine And.intro (fun h1 => ?_) (fun h1 => ?_)
    · skip
      refine And.intro rfl ?_
      first
        | exact ⟨⟨fun _ => by rw [e30, L22, show v29.toNat = 5 * i.toNat + j.toNat by omega], fun y => absurd ⟨by omega, by omega, by omega, by omega⟩ y⟩, rfl⟩
        | exact ⟨⟨fun y => by omega, fun _ => rfl⟩, rfl⟩
    · skip
      intro v6 e6 a6 b6
      have I6 := hI.2.2.1 r (by omega) (by omega)
      refine And.intro (fun h9 => ?_) (fun h9 => ?_)
      · skip
        refine And.intro rfl ?_
        first
          | exact ⟨⟨fun _ => by rw [e30, L22, show v29.toNat = 5 * i.toNat + j.toNat by omega], fun y => absurd ⟨by omega, by omega, by omega, by omega⟩ y⟩, rfl⟩
          | exact ⟨⟨fun y => by omega, fun _ => rfl⟩, rfl⟩
      · skip
        refine And.intro (fun h13 => ?_) (fun h13 => ?_)
        · skip
          refine And.intro rfl ?_
          first
            | exact ⟨⟨fun _ => by rw [e30, L22, show v29.toNat = 5 * i.toNat + j.toNat by omega], fun y => absurd ⟨by omega, by omega, by omega, by omega⟩ y⟩, rfl⟩
            | exact ⟨⟨fun y => by omega, fun _ => rfl⟩, rfl⟩
        · skip
          refine And.intro (fun h18 => ?_) (fun h18 => ?_)
          · skip
            refine And.intro rfl ?_
            first
              | exact ⟨⟨fun _ => by rw [e30, L22, show v29.toNat = 5 * i.toNat + j.toNat by omega], fun y => absurd ⟨by omega, by omega, by omega, by omega⟩ y⟩, rfl⟩
              | exact ⟨⟨fun y => by omega, fun _ => rfl⟩, rfl⟩
          · skip
            intro r22 e22 k22
            have R22 := pz_kdA k22 (by decide) (by decide)
            have L22 := e22.trans (pz_rf6 R_r)
            intro v27 e27 a27 b27
            try rw [pz_wi (by omega) (by omega)] at e27
            intro v29 e29 a29 b29
            try rw [pz_wi (by omega) (by omega)] at e29
            have lo30 : (0 : Int) ≤ v29 := by omega
            have tn30 : (((v29).toNat : Nat) : Int) = v29 := Int.toNat_of_nonneg lo30
            refine And.intro (lo30) (And.intro (show _ < (80 : Int) from by omega) ?_)
            intro v30 e30 a30 b30
            refine And.intro rfl ?_
            first
              | exact ⟨⟨fun _ => by rw [e30, L22, show v29.toNat = 5 * i.toNat + j.toNat by omega], fun y => absurd ⟨by omega, by omega, by omega, by omega⟩ y⟩, rfl⟩
              | exact ⟨⟨fun y => by omega, fun _ => rfl⟩, rfl⟩
theorem v_X6_cell {fr lo i : Nat} {own : String} (h1 : 0 + 1 ≤ fr) (h2 : 8 + (3 + 11) + 0 ≤ lo) (h3 : .methodLink own i yX6_cell ∈ lw_tbl) : pz_cV fr lo own i k_X6_cell :=
  pz_cVk (maxL := 3) (fr' := 0) (lo' := 0) 2 6 h_X6_cell rfl ⟨(pz_nhc_RX6 yX6_cell rfl).1, (pz_nhc_RX6 yX6_cell rfl).2, pz_ds10⟩ ⟨pz_wq578, pz_wq576, pz_wq577, pz_wq6⟩ (Or.inl ⟨TX6, 2, rfl⟩) (fun a M _ h => by
    have h : (match (generalizing := false) a with | [.inr (.inr (6, r)), .inl i, .inl j] => pz_ic M | _ => False) := h
    split at h
    · exact ⟨_, _, rfl⟩
    · exact h.elim) h1 h2 h3
end
