section
noncomputable def k_J9_max_7cf53 : pz_C := (2, 1, fun a M => (match a with | [.inl x, .inl y] => True | _ => False), fun a M r M' => (match a, r with | [.inl x, .inl y], some (.inl v) => (v = max x y) ∧ M = M' | _, _ => False))
noncomputable abbrev ct_J9_max_7cf53 : List (Bool × Nat × pz_C) := []
set_option maxRecDepth 100000 in
set_option maxHeartbeats 4000000 in
theorem h_J9_max_7cf53 : pz_H yJ9_max_7cf53 cJ9_max_7cf53 2 (some .int) k_J9_max_7cf53 0 0 := by
  refine pz_mk (own := RJ9) (tb := t_J9_max_7cf53) (fl := fun _ => none) (ci := fun _ => none) (ct := pz_ctf ct_J9_max_7cf53) (rz := false) (by decide +kernel) rfl t_J9_max_7cf53_ok (fun i v h => by cases h) (fun i v h => by cases h) ?_ ?_ (Or.inl ⟨rfl, rfl⟩) ?_ ?_
  · exact fun i k' h => pz_ctk (l := ct_J9_max_7cf53) (P := fun b i k => b = true → pz_cV 0 0 RJ9 i k) (fun _ h => absurd h List.not_mem_nil) true i k' h rfl
  · exact fun i k' h => pz_ctk (l := ct_J9_max_7cf53) (P := fun b i k => b = false → (pz_cS 0 0 RJ9 i k ∨ (k = pz_kac ∧ 1 ≤ 0 ∧ 60 ≤ 0 ∧ Cond.methodLink RJ9 i arraycopyName ∈ pz_tbl))) (fun _ h => absurd h List.not_mem_nil) false i k' h rfl
  · intro a M hlen hpre
    obtain ⟨x, y, rfl, hpre⟩ : ∃ x y, a = [.inl x, .inl y] ∧ (True) := by
      have hpre : (match (generalizing := false) a with | [.inl x, .inl y] => True | _ => False) := hpre
      split at hpre
      · exact ⟨_, _, rfl, hpre⟩
      · exact hpre.elim
    exact Nat.le_of_ble_eq_true rfl
  · intro a M hlen hcan hM hpre Ok hgo
    obtain ⟨x, y, rfl, hpre⟩ : ∃ x y, a = [.inl x, .inl y] ∧ (True) := by
      have hpre : (match (generalizing := false) a with | [.inl x, .inl y] => True | _ => False) := hpre
      split at hpre
      · exact ⟨_, _, rfl, hpre⟩
      · exact hpre.elim
    obtain ⟨k_x, hc_x⟩ := pz_tlm hcan
    have l_x : -2147483648 ≤ x := k_x.1
    have u_x : x ≤ 2147483647 := k_x.2
    obtain ⟨k_y, hc_y⟩ := pz_tlm hc_x
    have l_y : -2147483648 ≤ y := k_y.1
    have u_y : y ≤ 2147483647 := k_y.2
    refine hgo (fun _ => false) 9 0 _ [] M ?_
    refine And.intro (fun h2 => ?_) (fun h2 => ?_)
    · skip
      refine And.intro rfl ?_
      exact ⟨by omega, rfl⟩
    · skip
      refine And.intro rfl ?_
      exact ⟨by omega, rfl⟩
theorem s_J9_max_7cf53 {fr lo i : Nat} {own : String} (h1 : 0 + 1 ≤ fr) (h2 : 8 + (2 + 11) + 0 ≤ lo) (h3 : .methodLink own i yJ9_max_7cf53 ∈ lw_tbl ∨ (own = RX1 ∧ i = 35 ∧ yJ9_max_7cf53 = yX11_within)) : pz_cS fr lo own i k_J9_max_7cf53 := pz_cSk (maxL := 2) (fr' := 0) (lo' := 0) 2 h_J9_max_7cf53 rfl ⟨(pz_nhc_RJ9 yJ9_max_7cf53 rfl).1, (pz_nhc_RJ9 yJ9_max_7cf53 rfl).2, pz_ds10⟩ ⟨pz_wq508, pz_wq507, pz_wq14⟩ h1 h2 h3
noncomputable def k_J9_min_7cf53 : pz_C := (2, 1, fun a M => (match a with | [.inl x, .inl y] => True | _ => False), fun a M r M' => (match a, r with | [.inl x, .inl y], some (.inl v) => (v = min x y) ∧ M = M' | _, _ => False))
noncomputable abbrev ct_J9_min_7cf53 : List (Bool × Nat × pz_C) := []
set_option maxRecDepth 100000 in
set_option maxHeartbeats 4000000 in
theorem h_J9_min_7cf53 : pz_H yJ9_min_7cf53 cJ9_min_7cf53 2 (some .int) k_J9_min_7cf53 0 0 := by
  refine pz_mk (own := RJ9) (tb := t_J9_min_7cf53) (fl := fun _ => none) (ci := fun _ => none) (ct := pz_ctf ct_J9_min_7cf53) (rz := false) (by decide +kernel) rfl t_J9_min_7cf53_ok (fun i v h => by cases h) (fun i v h => by cases h) ?_ ?_ (Or.inl ⟨rfl, rfl⟩) ?_ ?_
  · exact fun i k' h => pz_ctk (l := ct_J9_min_7cf53) (P := fun b i k => b = true → pz_cV 0 0 RJ9 i k) (fun _ h => absurd h List.not_mem_nil) true i k' h rfl
  · exact fun i k' h => pz_ctk (l := ct_J9_min_7cf53) (P := fun b i k => b = false → (pz_cS 0 0 RJ9 i k ∨ (k = pz_kac ∧ 1 ≤ 0 ∧ 60 ≤ 0 ∧ Cond.methodLink RJ9 i arraycopyName ∈ pz_tbl))) (fun _ h => absurd h List.not_mem_nil) false i k' h rfl
  · intro a M hlen hpre
    obtain ⟨x, y, rfl, hpre⟩ : ∃ x y, a = [.inl x, .inl y] ∧ (True) := by
      have hpre : (match (generalizing := false) a with | [.inl x, .inl y] => True | _ => False) := hpre
      split at hpre
      · exact ⟨_, _, rfl, hpre⟩
      · exact hpre.elim
    exact Nat.le_of_ble_eq_true rfl
  · intro a M hlen hcan hM hpre Ok hgo
    obtain ⟨x, y, rfl, hpre⟩ : ∃ x y, a = [.inl x, .inl y] ∧ (True) := by
      have hpre : (match (generalizing := false) a with | [.inl x, .inl y] => True | _ => False) := hpre
      split at hpre
      · exact ⟨_, _, rfl, hpre⟩
      · exact hpre.elim
    obtain ⟨k_x, hc_x⟩ := pz_tlm hcan
    have l_x : -2147483648 ≤ x := k_x.1
    have u_x : x ≤ 2147483647 := k_x.2
    obtain ⟨k_y, hc_y⟩ := pz_tlm hc_x
    have l_y : -2147483648 ≤ y := k_y.1
    have u_y : y ≤ 2147483647 := k_y.2
    refine hgo (fun _ => false) 9 0 _ [] M ?_
    refine And.intro (fun h2 => ?_) (fun h2 => ?_)
    · skip
      refine And.intro rfl ?_
      exact ⟨by omega, rfl⟩
    · skip
      refine And.intro rfl ?_
      exact ⟨by omega, rfl⟩
theorem s_J9_min_7cf53 {fr lo i : Nat} {own : String} (h1 : 0 + 1 ≤ fr) (h2 : 8 + (2 + 11) + 0 ≤ lo) (h3 : .methodLink own i yJ9_min_7cf53 ∈ lw_tbl ∨ (own = RX1 ∧ i = 35 ∧ yJ9_min_7cf53 = yX11_within)) : pz_cS fr lo own i k_J9_min_7cf53 := pz_cSk (maxL := 2) (fr' := 0) (lo' := 0) 2 h_J9_min_7cf53 rfl ⟨(pz_nhc_RJ9 yJ9_min_7cf53 rfl).1, (pz_nhc_RJ9 yJ9_min_7cf53 rfl).2, pz_ds10⟩ ⟨pz_wq476, pz_wq475, pz_wq14⟩ h1 h2 h3
noncomputable def k_J6_bitCount_0f7a4 : pz_C := (1, 1, fun a M => (match a with | [.inl x] => True | _ => False), fun a M r M' => (match a, r with | [.inl x], some (.inl v) => (pz_bcx x v) ∧ M = M' | _, _ => False))
noncomputable abbrev ct_J6_bitCount_0f7a4 : List (Bool × Nat × pz_C) := []
set_option maxRecDepth 100000 in
set_option maxHeartbeats 4000000 in
theorem h_J6_bitCount_0f7a4 : pz_H yJ6_bitCount_0f7a4 cJ6_bitCount_0f7a4 1 (some .int) k_J6_bitCount_0f7a4 0 0 := by
  refine pz_mk (own := RJ6) (tb := t_J6_bitCount_0f7a4) (fl := fun _ => none) (ci := pz_cif ci_RJ6) (ct := pz_ctf ct_J6_bitCount_0f7a4) (rz := false) (by decide +kernel) rfl t_J6_bitCount_0f7a4_ok (fun i v h => by cases h) (pz_cik ci_RJ6_ok) ?_ ?_ (Or.inl ⟨rfl, rfl⟩) ?_ ?_
  · exact fun i k' h => pz_ctk (l := ct_J6_bitCount_0f7a4) (P := fun b i k => b = true → pz_cV 0 0 RJ6 i k) (fun _ h => absurd h List.not_mem_nil) true i k' h rfl
  · exact fun i k' h => pz_ctk (l := ct_J6_bitCount_0f7a4) (P := fun b i k => b = false → (pz_cS 0 0 RJ6 i k ∨ (k = pz_kac ∧ 1 ≤ 0 ∧ 60 ≤ 0 ∧ Cond.methodLink RJ6 i arraycopyName ∈ pz_tbl))) (fun _ h => absurd h List.not_mem_nil) false i k' h rfl
  · intro a M hlen hpre
    obtain ⟨x, rfl, hpre⟩ : ∃ x, a = [.inl x] ∧ (True) := by
      have hpre : (match (generalizing := false) a with | [.inl x] => True | _ => False) := hpre
      split at hpre
      · exact ⟨_, rfl, hpre⟩
      · exact hpre.elim
    exact Nat.le_of_ble_eq_true rfl
  · intro a M hlen hcan hM hpre Ok hgo
    obtain ⟨x, rfl, hpre⟩ : ∃ x, a = [.inl x] ∧ (True) := by
      have hpre : (match (generalizing := false) a with | [.inl x] => True | _ => False) := hpre
      split at hpre
      · exact ⟨_, rfl, hpre⟩
      · exact hpre.elim
    obtain ⟨k_x, hc_x⟩ := pz_tlm hcan
    have l_x : -2147483648 ≤ x := k_x.1
    have u_x : x ≤ 2147483647 := k_x.2
    refine hgo (fun _ => false) 44 0 _ [] M ?_
    intro v3 e3 a3 b3
    intro v7 e7 a7 b7
    intro v8 e8 a8 b8
    try rw [pz_wi (by omega) (by omega)] at e8
    intro v14 e14 a14 b14
    intro v17 e17 a17 b17
    intro v21 e21 a21 b21
    intro v22 e22 a22 b22
    try rw [pz_wi (by omega) (by omega)] at e22
    intro v27 e27 a27 b27
    intro v28 e28 a28 b28
    try rw [pz_wi (by omega) (by omega)] at e28
    intro v32 e32 a32 b32
    intro v38 e38 a38 b38
    intro v39 e39 a39 b39
    try rw [pz_wi (by omega) (by omega)] at e39
    intro v45 e45 a45 b45
    intro v46 e46 a46 b46
    try rw [pz_wi (by omega) (by omega)] at e46
    intro v51 e51 a51 b51
    refine And.intro rfl ?_
    exact ⟨pz_bcx_of (by rw [e51, e46, e45, e39, e38, e32, e28, e27, e22, e21, e17, e14, e8, e7, e3]; rfl), rfl⟩
theorem s_J6_bitCount_0f7a4 {fr lo i : Nat} {own : String} (h1 : 0 + 1 ≤ fr) (h2 : 8 + (1 + 11) + 0 ≤ lo) (h3 : .methodLink own i yJ6_bitCount_0f7a4 ∈ lw_tbl ∨ (own = RX1 ∧ i = 35 ∧ yJ6_bitCount_0f7a4 = yX11_within)) : pz_cS fr lo own i k_J6_bitCount_0f7a4 := pz_cSk (maxL := 1) (fr' := 0) (lo' := 0) 1 h_J6_bitCount_0f7a4 rfl ⟨(pz_nhc_RJ6 yJ6_bitCount_0f7a4 rfl).1, (pz_nhc_RJ6 yJ6_bitCount_0f7a4 rfl).2, pz_ds5⟩ ⟨pz_wq615, pz_wq614, pz_wq15⟩ h1 h2 h3

noncomputable def k_X11_within : pz_C := (3, 1, fun a M => (match a with | [.inl x, .inl y, .inl z] => True | _ => False), fun a M r M' => (match a, r with | [.inl x, .inl y, .inl z], some (.inl v) => (v = (if y ≤ x ∧ x ≤ z then 1 else 0)) ∧ M = M' | _, _ => False))
noncomputable abbrev ct_X11_within : List (Bool × Nat × pz_C) := []
set_option maxRecDepth 100000 in
set_option maxHeartbeats 4000000 in
theorem h_X11_within : pz_H yX11_within cX11_within 3 (some .boolean) k_X11_within 0 0 := by
  refine pz_mk (own := RX11) (tb := t_X11_within) (fl := pz_flf fl_RX11) (ci := pz_cif ci_RX11) (ct := pz_ctf ct_X11_within) (rz := true) (pz_pfc_RX11 yX11_within rfl) rfl t_X11_within_ok (pz_flk fl_RX11_ok) (pz_cik ci_RX11_ok) ?_ ?_ (Or.inr ⟨rfl, rfl⟩) ?_ ?_
  · exact fun i k' h => pz_ctk (l := ct_X11_within) (P := fun b i k => b = true → pz_cV 0 0 RX11 i k) (fun _ h => absurd h List.not_mem_nil) true i k' h rfl
  · exact fun i k' h => pz_ctk (l := ct_X11_within) (P := fun b i k => b = false → (pz_cS 0 0 RX11 i k ∨ (k = pz_kac ∧ 1 ≤ 0 ∧ 60 ≤ 0 ∧ Cond.methodLink RX11 i arraycopyName ∈ pz_tbl))) (fun _ h => absurd h List.not_mem_nil) false i k' h rfl
  · intro a M hlen hpre
    obtain ⟨x, y, z, rfl, hpre⟩ : ∃ x y z, a = [.inl x, .inl y, .inl z] ∧ (True) := by
      have hpre : (match (generalizing := false) a with | [.inl x, .inl y, .inl z] => True | _ => False) := hpre
      split at hpre
      · exact ⟨_, _, _, rfl, hpre⟩
      · exact hpre.elim
    exact Nat.le_of_ble_eq_true rfl
  · intro a M hlen hcan hM hpre Ok hgo
    obtain ⟨x, y, z, rfl, hpre⟩ : ∃ x y z, a = [.inl x, .inl y, .inl z] ∧ (True) := by
      have hpre : (match (generalizing := false) a with | [.inl x, .inl y, .inl z] => True | _ => False) := hpre
      split at hpre
      · exact ⟨_, _, _, rfl, hpre⟩
      · exact hpre.elim
    obtain ⟨k_x, hc_x⟩ := pz_tlm hcan
    have l_x : -2147483648 ≤ x := k_x.1
    have u_x : x ≤ 2147483647 := k_x.2
    obtain ⟨k_y, hc_y⟩ := pz_tlm hc_x
    have l_y : -2147483648 ≤ y := k_y.1
    have u_y : y ≤ 2147483647 := k_y.2
    obtain ⟨k_z, hc_z⟩ := pz_tlm hc_y
    have l_z : -2147483648 ≤ z := k_z.1
    have u_z : z ≤ 2147483647 := k_z.2
    refine hgo (fun _ => false) 12 0 _ [] M ?_
    refine And.intro (fun h2 => ?_) (fun h2 => ?_)
    · skip
      refine And.intro (by omega) ?_
      refine And.intro rfl ?_
      refine And.intro ?_ rfl
      split <;> omega
    · skip
      refine And.intro (fun h7 => ?_) (fun h7 => ?_)
      · skip
        refine And.intro (by omega) ?_
        refine And.intro rfl ?_
        refine And.intro ?_ rfl
        split <;> omega
      · skip
        refine And.intro (by omega) ?_
        refine And.intro rfl ?_
        refine And.intro ?_ rfl
        split <;> omega
theorem s_X11_within {fr lo i : Nat} {own : String} (h1 : 0 + 1 ≤ fr) (h2 : 8 + (3 + 11) + 0 ≤ lo) (h3 : .methodLink own i yX11_within ∈ lw_tbl ∨ (own = RX1 ∧ i = 35 ∧ yX11_within = yX11_within)) : pz_cS fr lo own i k_X11_within := pz_cSk (maxL := 3) (fr' := 0) (lo' := 0) 3 h_X11_within rfl ⟨(pz_nhc_RX11 yX11_within rfl).1, (pz_nhc_RX11 yX11_within rfl).2, pz_ds17⟩ ⟨pz_wq427, pz_wq426, pz_wq1⟩ h1 h2 h3
noncomputable def k_X5_isIn : pz_C := (1, 1, fun a M => (match a with | [.inr (.inr (5, c))] => True | _ => False), fun a M r M' => (match a, r with | [.inr (.inr (5, c))], some (.inl v) => (v = (if M c 5 = 0 ∧ M c 7 = -1 then 1 else 0)) ∧ M = M' | _, _ => False))
noncomputable abbrev ct_X5_isIn : List (Bool × Nat × pz_C) := []
set_option maxRecDepth 100000 in
set_option maxHeartbeats 4000000 in
theorem h_X5_isIn : pz_H yX5_isIn cX5_isIn 1 (some .boolean) k_X5_isIn 0 0 := by
  refine pz_mk (own := RX5) (tb := t_X5_isIn) (fl := pz_flf fl_RX5) (ci := fun _ => none) (ct := pz_ctf ct_X5_isIn) (rz := true) (pz_pfc_RX5 yX5_isIn rfl) rfl t_X5_isIn_ok (pz_flk fl_RX5_ok) (fun i v h => by cases h) ?_ ?_ (Or.inr ⟨rfl, rfl⟩) ?_ ?_
  · exact fun i k' h => pz_ctk (l := ct_X5_isIn) (P := fun b i k => b = true → pz_cV 0 0 RX5 i k) (fun _ h => absurd h List.not_mem_nil) true i k' h rfl
  · exact fun i k' h => pz_ctk (l := ct_X5_isIn) (P := fun b i k => b = false → (pz_cS 0 0 RX5 i k ∨ (k = pz_kac ∧ 1 ≤ 0 ∧ 60 ≤ 0 ∧ Cond.methodLink RX5 i arraycopyName ∈ pz_tbl))) (fun _ h => absurd h List.not_mem_nil) false i k' h rfl
  · intro a M hlen hpre
    obtain ⟨c, rfl, hpre⟩ : ∃ c, a = [.inr (.inr (5, c))] ∧ (True) := by
      have hpre : (match (generalizing := false) a with | [.inr (.inr (5, c))] => True | _ => False) := hpre
      split at hpre
      · exact ⟨_, rfl, hpre⟩
      · exact hpre.elim
    exact Nat.le_of_ble_eq_true rfl
  · intro a M hlen hcan hM hpre Ok hgo
    obtain ⟨c, rfl, hpre⟩ : ∃ c, a = [.inr (.inr (5, c))] ∧ (True) := by
      have hpre : (match (generalizing := false) a with | [.inr (.inr (5, c))] => True | _ => False) := hpre
      split at hpre
      · exact ⟨_, rfl, hpre⟩
      · exact hpre.elim
    obtain ⟨k_c, hc_c⟩ := pz_tlm hcan
    have k_c : pz_kd c = 5 ∧ c < 231 := k_c
    have R_c := pz_kd5 k_c.1
    refine hgo (fun _ => false) 13 0 _ [] M ?_
    intro v1 e1 a1 b1
    refine And.intro (fun h4 => ?_) (fun h4 => ?_)
    · skip
      refine And.intro (by omega) ?_
      refine And.intro rfl ?_
      refine And.intro ?_ rfl
      split <;> omega
    · skip
      intro v8 e8 a8 b8
      refine And.intro (fun h12 => ?_) (fun h12 => ?_)
      · skip
        refine And.intro (by omega) ?_
        refine And.intro rfl ?_
        refine And.intro ?_ rfl
        split <;> omega
      · skip
        refine And.intro (by omega) ?_
        refine And.intro rfl ?_
        refine And.intro ?_ rfl
        split <;> omega
theorem v_X5_isIn {fr lo i : Nat} {own : String} (h1 : 0 + 1 ≤ fr) (h2 : 8 + (1 + 11) + 0 ≤ lo) (h3 : .methodLink own i yX5_isIn ∈ lw_tbl) : pz_cV fr lo own i k_X5_isIn :=
  pz_cVk (maxL := 1) (fr' := 0) (lo' := 0) 0 5 h_X5_isIn rfl ⟨(pz_nhc_RX5 yX5_isIn rfl).1, (pz_nhc_RX5 yX5_isIn rfl).2, pz_ds3⟩ ⟨pz_wq461, pz_wq459, pz_wq460, pz_wq3⟩ (Or.inl ⟨TX5, 8, rfl⟩) (fun a M _ h => by
    have h : (match (generalizing := false) a with | [.inr (.inr (5, c))] => True | _ => False) := h
    split at h
    · exact ⟨_, _, rfl⟩
    · exact h.elim) h1 h2 h3
noncomputable def k_X0_has : pz_C := (2, 1, fun a M => (match a with | [.inr (.inr (0, c)), .inl i] => True | _ => False), fun a M r M' => (match a, r with | [.inr (.inr (0, c)), .inl i], some (.inl v) => (v = (if 0 ≤ i ∧ i < M c 3 then 1 else 0)) ∧ M = M' | _, _ => False))
noncomputable abbrev ct_X0_has : List (Bool × Nat × pz_C) := []
set_option maxRecDepth 100000 in
set_option maxHeartbeats 4000000 in
theorem h_X0_has : pz_H yX0_has cX0_has 2 (some .boolean) k_X0_has 0 0 := by
  refine pz_mk (own := RX0) (tb := t_X0_has) (fl := pz_flf fl_RX0) (ci := pz_cif ci_RX0) (ct := pz_ctf ct_X0_has) (rz := true) (pz_pfc_RX0 yX0_has rfl) rfl t_X0_has_ok (pz_flk fl_RX0_ok) (pz_cik ci_RX0_ok) ?_ ?_ (Or.inr ⟨rfl, rfl⟩) ?_ ?_
  · exact fun i k' h => pz_ctk (l := ct_X0_has) (P := fun b i k => b = true → pz_cV 0 0 RX0 i k) (fun _ h => absurd h List.not_mem_nil) true i k' h rfl
  · exact fun i k' h => pz_ctk (l := ct_X0_has) (P := fun b i k => b = false → (pz_cS 0 0 RX0 i k ∨ (k = pz_kac ∧ 1 ≤ 0 ∧ 60 ≤ 0 ∧ Cond.methodLink RX0 i arraycopyName ∈ pz_tbl))) (fun _ h => absurd h List.not_mem_nil) false i k' h rfl
  · intro a M hlen hpre
    obtain ⟨c, i, rfl, hpre⟩ : ∃ c i, a = [.inr (.inr (0, c)), .inl i] ∧ (True) := by
      have hpre : (match (generalizing := false) a with | [.inr (.inr (0, c)), .inl i] => True | _ => False) := hpre
      split at hpre
      · exact ⟨_, _, rfl, hpre⟩
      · exact hpre.elim
    exact Nat.le_of_ble_eq_true rfl
  · intro a M hlen hcan hM hpre Ok hgo
    obtain ⟨c, i, rfl, hpre⟩ : ∃ c i, a = [.inr (.inr (0, c)), .inl i] ∧ (True) := by
      have hpre : (match (generalizing := false) a with | [.inr (.inr (0, c)), .inl i] => True | _ => False) := hpre
      split at hpre
      · exact ⟨_, _, rfl, hpre⟩
      · exact hpre.elim
    obtain ⟨k_c, hc_c⟩ := pz_tlm hcan
    have k_c : pz_kd c = 0 ∧ c < 231 := k_c
    have R_c := pz_kd0 k_c.1
    obtain ⟨k_i, hc_i⟩ := pz_tlm hc_c
    have l_i : -2147483648 ≤ i := k_i.1
    have u_i : i ≤ 2147483647 := k_i.2
    refine hgo (fun _ => false) 12 0 _ [] M ?_
    refine And.intro (fun h1 => ?_) (fun h1 => ?_)
    · skip
      refine And.intro (by omega) ?_
      refine And.intro rfl ?_
      refine And.intro ?_ rfl
      split <;> omega
    · skip
      intro v6 e6 a6 b6
      refine And.intro (fun h9 => ?_) (fun h9 => ?_)
      · skip
        refine And.intro (by omega) ?_
        refine And.intro rfl ?_
        refine And.intro ?_ rfl
        split <;> omega
      · skip
        refine And.intro (by omega) ?_
        refine And.intro rfl ?_
        refine And.intro ?_ rfl
        split <;> omega
theorem v_X0_has {fr lo i : Nat} {own : String} (h1 : 0 + 1 ≤ fr) (h2 : 8 + (2 + 11) + 0 ≤ lo) (h3 : .methodLink own i yX0_has ∈ lw_tbl) : pz_cV fr lo own i k_X0_has :=
  pz_cVk (maxL := 2) (fr' := 0) (lo' := 0) 1 0 h_X0_has rfl ⟨(pz_nhc_RX0 yX0_has rfl).1, (pz_nhc_RX0 yX0_has rfl).2, pz_ds9⟩ ⟨pz_wq447, pz_wq445, pz_wq446, pz_wq2⟩ (Or.inl ⟨TX0, 8, rfl⟩) (fun a M _ h => by
    have h : (match (generalizing := false) a with | [.inr (.inr (0, c)), .inl i] => True | _ => False) := h
    split at h
    · exact ⟨_, _, rfl⟩
    · exact h.elim) h1 h2 h3
noncomputable def k_X0_at : pz_C := (2, 8, fun a M => (match a with | [.inr (.inr (0, c)), .inl i] => True | _ => False), fun a M r M' => (match a, r with | [.inr (.inr (0, c)), .inl i], some (.inr (.inr (5, v))) => (v = (if 0 ≤ i ∧ i < 12 then pz_rf (pz_rf c 1) i.toNat else pz_rf c 2)) ∧ M = M' | _, _ => False))
noncomputable abbrev ct_X0_at : List (Bool × Nat × pz_C) := []
set_option maxRecDepth 100000 in
set_option maxHeartbeats 4000000 in
theorem h_X0_at : pz_H yX0_at cX0_at 2 (some (.object "TwelveChain$Link")) k_X0_at 0 0 := by
  refine pz_mk (own := RX0) (tb := t_X0_at) (fl := pz_flf fl_RX0) (ci := pz_cif ci_RX0) (ct := pz_ctf ct_X0_at) (rz := false) (pz_pfc_RX0 yX0_at rfl) rfl t_X0_at_ok (pz_flk fl_RX0_ok) (pz_cik ci_RX0_ok) ?_ ?_ (⟨_, TX5, 8, rfl, rfl⟩) ?_ ?_
  · exact fun i k' h => pz_ctk (l := ct_X0_at) (P := fun b i k => b = true → pz_cV 0 0 RX0 i k) (fun _ h => absurd h List.not_mem_nil) true i k' h rfl
  · exact fun i k' h => pz_ctk (l := ct_X0_at) (P := fun b i k => b = false → (pz_cS 0 0 RX0 i k ∨ (k = pz_kac ∧ 1 ≤ 0 ∧ 60 ≤ 0 ∧ Cond.methodLink RX0 i arraycopyName ∈ pz_tbl))) (fun _ h => absurd h List.not_mem_nil) false i k' h rfl
  · intro a M hlen hpre
    obtain ⟨c, i, rfl, hpre⟩ : ∃ c i, a = [.inr (.inr (0, c)), .inl i] ∧ (True) := by
      have hpre : (match (generalizing := false) a with | [.inr (.inr (0, c)), .inl i] => True | _ => False) := hpre
      split at hpre
      · exact ⟨_, _, rfl, hpre⟩
      · exact hpre.elim
    exact Nat.le_of_ble_eq_true rfl
  · intro a M hlen hcan hM hpre Ok hgo
    obtain ⟨c, i, rfl, hpre⟩ : ∃ c i, a = [.inr (.inr (0, c)), .inl i] ∧ (True) := by
      have hpre : (match (generalizing := false) a with | [.inr (.inr (0, c)), .inl i] => True | _ => False) := hpre
      split at hpre
      · exact ⟨_, _, rfl, hpre⟩
      · exact hpre.elim
    obtain ⟨k_c, hc_c⟩ := pz_tlm hcan
    have k_c : pz_kd c = 0 ∧ c < 231 := k_c
    have R_c := pz_kd0 k_c.1
    obtain ⟨k_i, hc_i⟩ := pz_tlm hc_c
    have l_i : -2147483648 ≤ i := k_i.1
    have u_i : i ≤ 2147483647 := k_i.2
    refine hgo (fun _ => false) 15 0 _ [] M ?_
    refine And.intro (fun h1 => ?_) (fun h1 => ?_)
    · skip
      intro r20 e20 k20
      have R20 := pz_kd5 k20
      refine And.intro rfl ?_
      refine And.intro ?_ rfl
      first | (rw [if_pos (by omega)]; (try subst e11); assumption) | (rw [if_neg (by omega)]; assumption)
    · skip
      refine And.intro (fun h7 => ?_) (fun h7 => ?_)
      · skip
        intro r20 e20 k20
        have R20 := pz_kd5 k20
        refine And.intro rfl ?_
        refine And.intro ?_ rfl
        first | (rw [if_pos (by omega)]; (try subst e11); assumption) | (rw [if_neg (by omega)]; assumption)
      · skip
        intro r11 e11 k11
        have lo15 : (0 : Int) ≤ i := by omega
        have tn15 : (((i).toNat : Nat) : Int) = i := Int.toNat_of_nonneg lo15
        refine And.intro (lo15) (And.intro (show _ < (12 : Int) from by omega) ?_)
        intro r15 e15 k15
        have R15 := pz_kd5 k15
        refine And.intro rfl ?_
        refine And.intro ?_ rfl
        first | (rw [if_pos (by omega)]; (try subst e11); assumption) | (rw [if_neg (by omega)]; assumption)
theorem v_X0_at {fr lo i : Nat} {own : String} (h1 : 0 + 1 ≤ fr) (h2 : 8 + (2 + 11) + 0 ≤ lo) (h3 : .methodLink own i yX0_at ∈ lw_tbl) : pz_cV fr lo own i k_X0_at :=
  pz_cVk (maxL := 2) (fr' := 0) (lo' := 0) 1 0 h_X0_at rfl ⟨(pz_nhc_RX0 yX0_at rfl).1, (pz_nhc_RX0 yX0_at rfl).2, pz_ds6⟩ ⟨pz_wq431, pz_wq429, pz_wq430, pz_wq2⟩ (Or.inl ⟨TX0, 8, rfl⟩) (fun a M _ h => by
    have h : (match (generalizing := false) a with | [.inr (.inr (0, c)), .inl i] => True | _ => False) := h
    split at h
    · exact ⟨_, _, rfl⟩
    · exact h.elim) h1 h2 h3


end
