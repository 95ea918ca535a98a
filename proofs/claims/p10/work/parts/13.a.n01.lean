section
noncomputable def k_X11_canHave : pz_C := (2, 1, fun a M => (match a with | [.inl x, .inl y] => True | _ => False), fun a M r M' => (match a, r with | [.inl x, .inl y], some (.inl v) => ((v = 1 ∧ ((x = 0 ∧ 1 ≤ y ∧ y ≤ 999) ∨ (x = 1 ∧ -9999 ≤ y ∧ y ≤ 9999) ∨ (x = 2 ∧ -999 ≤ y ∧ y ≤ 999) ∨ (x = 3 ∧ 0 ≤ y ∧ y ≤ 9) ∨ (x = 4 ∧ 0 ≤ y ∧ y ≤ 1))) ∨ (v = 0 ∧ ¬ ((x = 0 ∧ 1 ≤ y ∧ y ≤ 999) ∨ (x = 1 ∧ -9999 ≤ y ∧ y ≤ 9999) ∨ (x = 2 ∧ -999 ≤ y ∧ y ≤ 999) ∨ (x = 3 ∧ 0 ≤ y ∧ y ≤ 9) ∨ (x = 4 ∧ 0 ≤ y ∧ y ≤ 1)))) ∧ M = M' | _, _ => False))
noncomputable abbrev ct_X11_canHave : List (Bool × Nat × pz_C) := [(false, 137, k_X11_within)]
set_option maxRecDepth 100000 in
set_option maxHeartbeats 4000000 in
theorem h_X11_canHave : pz_H yX11_canHave cX11_canHave 2 (some .boolean) k_X11_canHave 1 22 := by
  refine pz_mk (own := RX11) (tb := t_X11_canHave) (fl := pz_flf fl_RX11) (ci := pz_cif ci_RX11) (ct := pz_ctf ct_X11_canHave) (rz := true) (pz_pfc_RX11 yX11_canHave rfl) rfl t_X11_canHave_ok (pz_flk fl_RX11_ok) (pz_cik ci_RX11_ok) ?_ ?_ (Or.inr ⟨rfl, rfl⟩) ?_ ?_
  · exact fun i k' h => pz_ctk (l := ct_X11_canHave) (P := fun b i k => b = true → pz_cV 1 22 RX11 i k) (List.forall_mem_cons.mpr ⟨((fun z => by cases z)), fun _ h => absurd h List.not_mem_nil⟩) true i k' h rfl
  · exact fun i k' h => pz_ctk (l := ct_X11_canHave) (P := fun b i k => b = false → (pz_cS 1 22 RX11 i k ∨ (k = pz_kac ∧ 1 ≤ 1 ∧ 60 ≤ 22 ∧ Cond.methodLink RX11 i arraycopyName ∈ pz_tbl))) (List.forall_mem_cons.mpr ⟨(fun _ => Or.inl (s_X11_within (by decide) (by decide) (Or.inl pz_wq425))), fun _ h => absurd h List.not_mem_nil⟩) false i k' h rfl
  · intro a M hlen hpre
    obtain ⟨x, y, rfl, hpre⟩ : ∃ x y, a = [.inl x, .inl y] ∧ (True) := by
      have hpre : (match (generalizing := false) a with | [.inl x, .inl y] => True | _ => False) := hpre
      split at hpre
      · exact ⟨_, _, rfl, hpre⟩
      · exact hpre.elim
    exact Nat.le_of_ble_eq_true rfl
  · intro a M hlen hcan hM hpre Ok hgo
    obtain ⟨x, y, rfl, hpre⟩ : ∃ x y, a = [.inl x, .inl y] ∧ (True) := by
      have hpre : (match (generalizing := false) a with | [.inl x, .inl y] => True | _ => False) := hpre
      split at hpre
      · exact ⟨_, _, rfl, hpre⟩
      · exact hpre.elim
    obtain ⟨k_x, hc_x⟩ := pz_tlm hcan
    have l_x : -2147483648 ≤ x := k_x.1
    have u_x : x ≤ 2147483647 := k_x.2
    obtain ⟨k_y, hc_y⟩ := pz_tlm hc_x
    have l_y : -2147483648 ≤ y := k_y.1
    have u_y : y ≤ 2147483647 := k_y.2
    refine hgo (fun _ => false) 31 0 _ [] M ?_
    refine And.intro ?_ ?_
    · skip
      refine And.intro (fun h1 => ?_) ?_
      · skip
        refine And.intro (True.intro) ?_
        intro v41 M41 a41 b41 q41
        obtain ⟨q41, z41⟩ := q41
        subst z41
        refine And.intro (by first | omega | (split at * <;> omega)) ?_
        refine And.intro rfl ?_
        exact ⟨by first | omega | (split at * <;> omega), rfl⟩
      refine And.intro (fun h1 => ?_) ?_
      · skip
        refine And.intro (True.intro) ?_
        intro v52 M52 a52 b52 q52
        obtain ⟨q52, z52⟩ := q52
        subst z52
        refine And.intro (by first | omega | (split at * <;> omega)) ?_
        refine And.intro rfl ?_
        exact ⟨by first | omega | (split at * <;> omega), rfl⟩
      refine And.intro (fun h1 => ?_) ?_
      · skip
        refine And.intro (True.intro) ?_
        intro v63 M63 a63 b63 q63
        obtain ⟨q63, z63⟩ := q63
        subst z63
        refine And.intro (by first | omega | (split at * <;> omega)) ?_
        refine And.intro rfl ?_
        exact ⟨by first | omega | (split at * <;> omega), rfl⟩
      refine And.intro (fun h1 => ?_) ?_
      · skip
        refine And.intro (True.intro) ?_
        intro v71 M71 a71 b71 q71
        obtain ⟨q71, z71⟩ := q71
        subst z71
        refine And.intro (by first | omega | (split at * <;> omega)) ?_
        refine And.intro rfl ?_
        exact ⟨by first | omega | (split at * <;> omega), rfl⟩
      refine And.intro (fun h1 => ?_) ?_
      · skip
        refine And.intro (True.intro) ?_
        intro v78 M78 a78 b78 q78
        obtain ⟨q78, z78⟩ := q78
        subst z78
        refine And.intro (by first | omega | (split at * <;> omega)) ?_
        refine And.intro rfl ?_
        exact ⟨by first | omega | (split at * <;> omega), rfl⟩
      exact True.intro
    · intro h1
      refine And.intro (by first | omega | (split at * <;> omega)) ?_
      refine And.intro rfl ?_
      exact ⟨by first | omega | (split at * <;> omega), rfl⟩
theorem s_X11_canHave {fr lo i : Nat} {own : String} (h1 : 1 + 1 ≤ fr) (h2 : 8 + (2 + 11) + 22 ≤ lo) (h3 : .methodLink own i yX11_canHave ∈ lw_tbl ∨ (own = RX1 ∧ i = 35 ∧ yX11_canHave = yX11_within)) : pz_cS fr lo own i k_X11_canHave := pz_cSk (maxL := 2) (fr' := 1) (lo' := 22) 2 h_X11_canHave rfl ⟨(pz_nhc_RX11 yX11_canHave rfl).1, (pz_nhc_RX11 yX11_canHave rfl).2, pz_ds13⟩ ⟨pz_wq424, pz_wq423, pz_wq1⟩ h1 h2 h3
noncomputable def k_X0_all : pz_C := (1, 1, fun a M => (match a with | [.inr (.inr (0, c))] => pz_ic M | _ => False), fun a M r M' => (match a, r with | [.inr (.inr (0, c))], some (.inl v) => (pz_zs v (fun j => decide (j < (M c 3).toNat))) ∧ M = M' | _, _ => False))
noncomputable abbrev ct_X0_all : List (Bool × Nat × pz_C) := []
set_option maxRecDepth 100000 in
set_option maxHeartbeats 4000000 in
theorem h_X0_all : pz_H yX0_all cX0_all 1 (some .int) k_X0_all 0 0 := by
  refine pz_mk (own := RX0) (tb := t_X0_all) (fl := pz_flf fl_RX0) (ci := pz_cif ci_RX0) (ct := pz_ctf ct_X0_all) (rz := false) (pz_pfc_RX0 yX0_all rfl) rfl t_X0_all_ok (pz_flk fl_RX0_ok) (pz_cik ci_RX0_ok) ?_ ?_ (Or.inl ⟨rfl, rfl⟩) ?_ ?_
  · exact fun i k' h => pz_ctk (l := ct_X0_all) (P := fun b i k => b = true → pz_cV 0 0 RX0 i k) (fun _ h => absurd h List.not_mem_nil) true i k' h rfl
  · exact fun i k' h => pz_ctk (l := ct_X0_all) (P := fun b i k => b = false → (pz_cS 0 0 RX0 i k ∨ (k = pz_kac ∧ 1 ≤ 0 ∧ 60 ≤ 0 ∧ Cond.methodLink RX0 i arraycopyName ∈ pz_tbl))) (fun _ h => absurd h List.not_mem_nil) false i k' h rfl
  · intro a M hlen hpre
    obtain ⟨c, rfl, hpre⟩ : ∃ c, a = [.inr (.inr (0, c))] ∧ (pz_ic M) := by
      have hpre : (match (generalizing := false) a with | [.inr (.inr (0, c))] => pz_ic M | _ => False) := hpre
      split at hpre
      · exact ⟨_, rfl, hpre⟩
      · exact hpre.elim
    exact Nat.le_of_ble_eq_true rfl
  · intro a M hlen hcan hM hpre Ok hgo
    obtain ⟨c, rfl, hpre⟩ : ∃ c, a = [.inr (.inr (0, c))] ∧ (pz_ic M) := by
      have hpre : (match (generalizing := false) a with | [.inr (.inr (0, c))] => pz_ic M | _ => False) := hpre
      split at hpre
      · exact ⟨_, rfl, hpre⟩
      · exact hpre.elim
    obtain ⟨k_c, hc_c⟩ := pz_tlm hcan
    have k_c : pz_kd c = 0 ∧ c < 231 := k_c
    have R_c := pz_kd0 k_c.1
    have hI : pz_ic M := hpre
    refine hgo (fun _ => false) 9 0 _ [] M ?_
    intro v2 e2 a2 b2
    have I2 := hI.1 c (by omega) (by omega)
    intro v5 e5 a5 b5
    have S5 := pz_shl1 (c := v2) (by omega) (by omega)
    rw [← e5] at S5
    intro v7 e7 a7 b7
    try rw [pz_wi (by omega) (by omega)] at e7
    refine And.intro rfl ?_
    exact ⟨by rw [← e2]; exact pz_sb_all (by omega) (by omega) e5 e7, rfl⟩
theorem v_X0_all {fr lo i : Nat} {own : String} (h1 : 0 + 1 ≤ fr) (h2 : 8 + (1 + 11) + 0 ≤ lo) (h3 : .methodLink own i yX0_all ∈ lw_tbl) : pz_cV fr lo own i k_X0_all :=
  pz_cVk (maxL := 1) (fr' := 0) (lo' := 0) 0 0 h_X0_all rfl ⟨(pz_nhc_RX0 yX0_all rfl).1, (pz_nhc_RX0 yX0_all rfl).2, pz_ds1⟩ ⟨pz_wq1036, pz_wq1034, pz_wq1035, pz_wq2⟩ (Or.inl ⟨TX0, 8, rfl⟩) (fun a M _ h => by
    have h : (match (generalizing := false) a with | [.inr (.inr (0, c))] => pz_ic M | _ => False) := h
    split at h
    · exact ⟨_, _, rfl⟩
    · exact h.elim) h1 h2 h3
noncomputable def k_X0_canBridge : pz_C := (2, 1, fun a M => (match a with | [.inr (.inr (0, c)), .inl i] => pz_ic M | _ => False), fun a M r M' => (match a, r with | [.inr (.inr (0, c)), .inl i], some (.inl v) => (v = 0 ∨ v = 1) ∧ M = M' | _, _ => False))
noncomputable abbrev ct_X0_canBridge : List (Bool × Nat × pz_C) := [(true, 48, k_X0_at), (true, 71, k_X5_isIn)]
set_option maxRecDepth 100000 in
set_option maxHeartbeats 4000000 in
theorem h_X0_canBridge : pz_H yX0_canBridge cX0_canBridge 2 (some .boolean) k_X0_canBridge 1 21 := by
  refine pz_mk (own := RX0) (tb := t_X0_canBridge) (fl := pz_flf fl_RX0) (ci := pz_cif ci_RX0) (ct := pz_ctf ct_X0_canBridge) (rz := true) (pz_pfc_RX0 yX0_canBridge rfl) rfl t_X0_canBridge_ok (pz_flk fl_RX0_ok) (pz_cik ci_RX0_ok) ?_ ?_ (Or.inr ⟨rfl, rfl⟩) ?_ ?_
  · exact fun i k' h => pz_ctk (l := ct_X0_canBridge) (P := fun b i k => b = true → pz_cV 1 21 RX0 i k) (List.forall_mem_cons.mpr ⟨(fun _ => v_X0_at (by decide) (by decide) pz_wq494), List.forall_mem_cons.mpr ⟨(fun _ => v_X5_isIn (by decide) (by decide) pz_wq529), fun _ h => absurd h List.not_mem_nil⟩⟩) true i k' h rfl
  · exact fun i k' h => pz_ctk (l := ct_X0_canBridge) (P := fun b i k => b = false → (pz_cS 1 21 RX0 i k ∨ (k = pz_kac ∧ 1 ≤ 1 ∧ 60 ≤ 21 ∧ Cond.methodLink RX0 i arraycopyName ∈ pz_tbl))) (List.forall_mem_cons.mpr ⟨((fun z => by cases z)), List.forall_mem_cons.mpr ⟨((fun z => by cases z)), fun _ h => absurd h List.not_mem_nil⟩⟩) false i k' h rfl
  · intro a M hlen hpre
    obtain ⟨c, i, rfl, hpre⟩ : ∃ c i, a = [.inr (.inr (0, c)), .inl i] ∧ (pz_ic M) := by
      have hpre : (match (generalizing := false) a with | [.inr (.inr (0, c)), .inl i] => pz_ic M | _ => False) := hpre
      split at hpre
      · exact ⟨_, _, rfl, hpre⟩
      · exact hpre.elim
    exact Nat.le_of_ble_eq_true rfl
  · intro a M hlen hcan hM hpre Ok hgo
    obtain ⟨c, i, rfl, hpre⟩ : ∃ c i, a = [.inr (.inr (0, c)), .inl i] ∧ (pz_ic M) := by
      have hpre : (match (generalizing := false) a with | [.inr (.inr (0, c)), .inl i] => pz_ic M | _ => False) := hpre
      split at hpre
      · exact ⟨_, _, rfl, hpre⟩
      · exact hpre.elim
    obtain ⟨k_c, hc_c⟩ := pz_tlm hcan
    have k_c : pz_kd c = 0 ∧ c < 231 := k_c
    have R_c := pz_kd0 k_c.1
    obtain ⟨k_i, hc_i⟩ := pz_tlm hc_c
    have l_i : -2147483648 ≤ i := k_i.1
    have u_i : i ≤ 2147483647 := k_i.2
    have hI : pz_ic M := hpre
    refine hgo (fun _ => false) 24 0 _ [] M ?_
    refine And.intro (fun h1 => ?_) (fun h1 => ?_)
    · skip
      refine And.intro (by omega) ?_
      refine And.intro rfl ?_
      exact ⟨by omega, rfl⟩
    · skip
      intro v6 e6 a6 b6
      have I6 := hI.1 c (by omega) (by omega)
      intro v10 e10 a10 b10
      try rw [pz_wi (by omega) (by omega)] at e10
      refine And.intro (fun h11 => ?_) (fun h11 => ?_)
      · skip
        refine And.intro (by omega) ?_
        refine And.intro rfl ?_
        exact ⟨by omega, rfl⟩
      · skip
        refine And.intro (True.intro) ?_
        intro r16 M16 k16 q16
        have R16 := pz_kd5 k16
        obtain ⟨q16, z16⟩ := q16
        subst z16
        intro v19 e19 a19 b19
        refine And.intro (fun h22 => ?_) (fun h22 => ?_)
        · skip
          refine And.intro (by omega) ?_
          refine And.intro rfl ?_
          exact ⟨by omega, rfl⟩
        · skip
          refine And.intro (True.intro) ?_
          intro r27 M27 k27 q27
          have R27 := pz_kd5 k27
          obtain ⟨q27, z27⟩ := q27
          subst z27
          refine And.intro (True.intro) ?_
          intro v30 M30 a30 b30 q30
          obtain ⟨q30, z30⟩ := q30
          subst z30
          refine And.intro (fun h33 => ?_) (fun h33 => ?_)
          · skip
            refine And.intro (by omega) ?_
            refine And.intro rfl ?_
            exact ⟨by omega, rfl⟩
          · skip
            refine And.intro (by omega) ?_
            refine And.intro rfl ?_
            exact ⟨by omega, rfl⟩
theorem v_X0_canBridge {fr lo i : Nat} {own : String} (h1 : 1 + 1 ≤ fr) (h2 : 8 + (2 + 11) + 21 ≤ lo) (h3 : .methodLink own i yX0_canBridge ∈ lw_tbl) : pz_cV fr lo own i k_X0_canBridge :=
  pz_cVk (maxL := 2) (fr' := 1) (lo' := 21) 1 0 h_X0_canBridge rfl ⟨(pz_nhc_RX0 yX0_canBridge rfl).1, (pz_nhc_RX0 yX0_canBridge rfl).2, pz_ds9⟩ ⟨pz_wq528, pz_wq526, pz_wq527, pz_wq2⟩ (Or.inl ⟨TX0, 8, rfl⟩) (fun a M _ h => by
    have h : (match (generalizing := false) a with | [.inr (.inr (0, c)), .inl i] => pz_ic M | _ => False) := h
    split at h
    · exact ⟨_, _, rfl⟩
    · exact h.elim) h1 h2 h3



noncomputable def k_X0_bridgeableOnes : pz_C := (1, 1, fun a M => (match a with | [.inr (.inr (0, c))] => pz_ic M | _ => False), fun a M r M' => (match a, r with | [.inr (.inr (0, c))], some (.inl v) => (True) ∧ M = M' | _, _ => False))
noncomputable abbrev ct_X0_bridgeableOnes : List (Bool × Nat × pz_C) := [(true, 90, k_X0_canBridge)]
set_option maxRecDepth 100000 in
set_option maxHeartbeats 4000000 in
theorem h_X0_bridgeableOnes : pz_H yX0_bridgeableOnes cX0_bridgeableOnes 3 (some .int) k_X0_bridgeableOnes 2 42 := by
  refine pz_mk (own := RX0) (tb := t_X0_bridgeableOnes) (fl := pz_flf fl_RX0) (ci := pz_cif ci_RX0) (ct := pz_ctf ct_X0_bridgeableOnes) (rz := false) (pz_pfc_RX0 yX0_bridgeableOnes rfl) rfl t_X0_bridgeableOnes_ok (pz_flk fl_RX0_ok) (pz_cik ci_RX0_ok) ?_ ?_ (Or.inl ⟨rfl, rfl⟩) ?_ ?_
  · exact fun i k' h => pz_ctk (l := ct_X0_bridgeableOnes) (P := fun b i k => b = true → pz_cV 2 42 RX0 i k) (List.forall_mem_cons.mpr ⟨(fun _ => v_X0_canBridge (by decide) (by decide) pz_wq944), fun _ h => absurd h List.not_mem_nil⟩) true i k' h rfl
  · exact fun i k' h => pz_ctk (l := ct_X0_bridgeableOnes) (P := fun b i k => b = false → (pz_cS 2 42 RX0 i k ∨ (k = pz_kac ∧ 1 ≤ 2 ∧ 60 ≤ 42 ∧ Cond.methodLink RX0 i arraycopyName ∈ pz_tbl))) (List.forall_mem_cons.mpr ⟨((fun z => by cases z)), fun _ h => absurd h List.not_mem_nil⟩) false i k' h rfl
  · intro a M hlen hpre
    obtain ⟨c, rfl, hpre⟩ : ∃ c, a = [.inr (.inr (0, c))] ∧ (pz_ic M) := by
      have hpre : (match (generalizing := false) a with | [.inr (.inr (0, c))] => pz_ic M | _ => False) := hpre
      split at hpre
      · exact ⟨_, rfl, hpre⟩
      · exact hpre.elim
    exact Nat.le_of_ble_eq_true rfl
  · intro a M hlen hcan hM hpre Ok hgo
    obtain ⟨c, rfl, hpre⟩ : ∃ c, a = [.inr (.inr (0, c))] ∧ (pz_ic M) := by
      have hpre : (match (generalizing := false) a with | [.inr (.inr (0, c))] => pz_ic M | _ => False) := hpre
      split at hpre
      · exact ⟨_, rfl, hpre⟩
      · exact hpre.elim
    obtain ⟨k_c, hc_c⟩ := pz_tlm hcan
    have k_c : pz_kd c = 0 ∧ c < 231 := k_c
    have R_c := pz_kd0 k_c.1
    have hI : pz_ic M := hpre
    have L4 : ∀ (fu : Nat) (x1 : Int) (x2 : Int), (M c 3 - x2).toNat < fu → (0 ≤ x2) → Ok 4 [some (.inr (.inr (0, c))), some (.inl x1), some (.inl x2)] [] M := by
      intro fu
      induction fu with
      | zero => exact fun _ _ hn => absurd hn (Nat.not_lt_zero _)
      | succ fu ih4 =>
        intro x1 x2 hn4 g4_0
        refine hgo (fun p => Nat.beq p 4) 26 4 _ _ _ ?_
        intro v6 e6 a6 b6
        have I6 := hI.1 c (by omega) (by omega)
        refine And.intro (fun h9 => ?_) (fun h9 => ?_)
        · skip
          refine And.intro rfl ?_
          exact ⟨trivial, rfl⟩
        · skip
          refine And.intro (hI) ?_
          intro v15 M15 a15 b15 q15
          obtain ⟨q15, z15⟩ := q15
          subst z15
          refine And.intro (fun h18 => ?_) (fun h18 => ?_)
          · skip
            intro v28 e28 a28 b28
            intro v30 e30 a30 b30
            try rw [pz_wi (by omega) (by omega)] at e30
            exact ih4 _ _ (by omega) (by omega)
          · skip
            intro v23 e23 a23 b23
            intro v28 e28 a28 b28
            intro v30 e30 a30 b30
            try rw [pz_wi (by omega) (by omega)] at e30
            exact ih4 _ _ (by omega) (by omega)
    refine hgo (fun p => Nat.beq p 4) 26 0 _ [] M ?_
    exact L4 _ _ _ (Nat.lt_succ_self _) (by omega)
theorem v_X0_bridgeableOnes {fr lo i : Nat} {own : String} (h1 : 2 + 1 ≤ fr) (h2 : 8 + (3 + 11) + 42 ≤ lo) (h3 : .methodLink own i yX0_bridgeableOnes ∈ lw_tbl) : pz_cV fr lo own i k_X0_bridgeableOnes :=
  pz_cVk (maxL := 3) (fr' := 2) (lo' := 42) 0 0 h_X0_bridgeableOnes rfl ⟨(pz_nhc_RX0 yX0_bridgeableOnes rfl).1, (pz_nhc_RX0 yX0_bridgeableOnes rfl).2, pz_ds1⟩ ⟨pz_wq943, pz_wq941, pz_wq942, pz_wq2⟩ (Or.inl ⟨TX0, 8, rfl⟩) (fun a M _ h => by
    have h : (match (generalizing := false) a with | [.inr (.inr (0, c))] => pz_ic M | _ => False) := h
    split at h
    · exact ⟨_, _, rfl⟩
    · exact h.elim) h1 h2 h3

noncomputable def k_X0_canGive : pz_C := (2, 1, fun a M => (match a with | [.inr (.inr (0, c)), .inl i] => True | _ => False), fun a M r M' => (match a, r with | [.inr (.inr (0, c)), .inl i], some (.inl v) => (True) ∧ M = M' | _, _ => False))
noncomputable abbrev ct_X0_canGive : List (Bool × Nat × pz_C) := [(true, 48, k_X0_at), (true, 71, k_X5_isIn), (false, 58, k_J9_max_7cf53)]
set_option maxRecDepth 100000 in
set_option maxHeartbeats 4000000 in
theorem h_X0_canGive : pz_H yX0_canGive cX0_canGive 2 (some .int) k_X0_canGive 1 21 := by
  refine pz_mk (own := RX0) (tb := t_X0_canGive) (fl := pz_flf fl_RX0) (ci := pz_cif ci_RX0) (ct := pz_ctf ct_X0_canGive) (rz := false) (pz_pfc_RX0 yX0_canGive rfl) rfl t_X0_canGive_ok (pz_flk fl_RX0_ok) (pz_cik ci_RX0_ok) ?_ ?_ (Or.inl ⟨rfl, rfl⟩) ?_ ?_
  · exact fun i k' h => pz_ctk (l := ct_X0_canGive) (P := fun b i k => b = true → pz_cV 1 21 RX0 i k) (List.forall_mem_cons.mpr ⟨(fun _ => v_X0_at (by decide) (by decide) pz_wq494), List.forall_mem_cons.mpr ⟨(fun _ => v_X5_isIn (by decide) (by decide) pz_wq529), List.forall_mem_cons.mpr ⟨((fun z => by cases z)), fun _ h => absurd h List.not_mem_nil⟩⟩⟩) true i k' h rfl
  · exact fun i k' h => pz_ctk (l := ct_X0_canGive) (P := fun b i k => b = false → (pz_cS 1 21 RX0 i k ∨ (k = pz_kac ∧ 1 ≤ 1 ∧ 60 ≤ 21 ∧ Cond.methodLink RX0 i arraycopyName ∈ pz_tbl))) (List.forall_mem_cons.mpr ⟨((fun z => by cases z)), List.forall_mem_cons.mpr ⟨((fun z => by cases z)), List.forall_mem_cons.mpr ⟨(fun _ => Or.inl (s_J9_max_7cf53 (by decide) (by decide) (Or.inl pz_wq634))), fun _ h => absurd h List.not_mem_nil⟩⟩⟩) false i k' h rfl
  · intro a M hlen hpre
    obtain ⟨c, i, rfl, hpre⟩ : ∃ c i, a = [.inr (.inr (0, c)), .inl i] ∧ (True) := by
      have hpre : (match (generalizing := false) a with | [.inr (.inr (0, c)), .inl i] => True | _ => False) := hpre
      split at hpre
      · exact ⟨_, _, rfl, hpre⟩
      · exact hpre.elim
    exact Nat.le_of_ble_eq_true rfl
  · intro a M hlen hcan hM hpre Ok hgo
    obtain ⟨c, i, rfl, hpre⟩ : ∃ c i, a = [.inr (.inr (0, c)), .inl i] ∧ (True) := by
      have hpre : (match (generalizing := false) a with | [.inr (.inr (0, c)), .inl i] => True | _ => False) := hpre
      split at hpre
      · exact ⟨_, _, rfl, hpre⟩
      · exact hpre.elim
    obtain ⟨k_c, hc_c⟩ := pz_tlm hcan
    have k_c : pz_kd c = 0 ∧ c < 231 := k_c
    have R_c := pz_kd0 k_c.1
    obtain ⟨k_i, hc_i⟩ := pz_tlm hc_c
    have l_i : -2147483648 ≤ i := k_i.1
    have u_i : i ≤ 2147483647 := k_i.2
    refine hgo (fun _ => false) 16 0 _ [] M ?_
    refine And.intro (True.intro) ?_
    intro r2 M2 k2 q2
    have R2 := pz_kd5 k2
    obtain ⟨q2, z2⟩ := q2
    subst z2
    refine And.intro (True.intro) ?_
    intro v5 M5 a5 b5 q5
    obtain ⟨q5, z5⟩ := q5
    subst z5
    refine And.intro (fun h8 => ?_) (fun h8 => ?_)
    · skip
      refine And.intro rfl ?_
      exact ⟨trivial, rfl⟩
    · skip
      refine And.intro (True.intro) ?_
      intro r14 M14 k14 q14
      have R14 := pz_kd5 k14
      obtain ⟨q14, z14⟩ := q14
      subst z14
      intro v17 e17 a17 b17
      refine And.intro (True.intro) ?_
      intro v20 M20 a20 b20 q20
      obtain ⟨q20, z20⟩ := q20
      subst z20
      refine And.intro rfl ?_
      exact ⟨trivial, rfl⟩
theorem v_X0_canGive {fr lo i : Nat} {own : String} (h1 : 1 + 1 ≤ fr) (h2 : 8 + (2 + 11) + 21 ≤ lo) (h3 : .methodLink own i yX0_canGive ∈ lw_tbl) : pz_cV fr lo own i k_X0_canGive :=
  pz_cVk (maxL := 2) (fr' := 1) (lo' := 21) 1 0 h_X0_canGive rfl ⟨(pz_nhc_RX0 yX0_canGive rfl).1, (pz_nhc_RX0 yX0_canGive rfl).2, pz_ds5⟩ ⟨pz_wq972, pz_wq970, pz_wq971, pz_wq2⟩ (Or.inl ⟨TX0, 8, rfl⟩) (fun a M _ h => by
    have h : (match (generalizing := false) a with | [.inr (.inr (0, c)), .inl i] => True | _ => False) := h
    split at h
    · exact ⟨_, _, rfl⟩
    · exact h.elim) h1 h2 h3
end
