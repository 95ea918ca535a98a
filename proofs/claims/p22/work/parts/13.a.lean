section
noncomputable def k_J9_max_7cf53 : pz_C := (2, 1, fun a M => (match a with | [.inl x, .inl y] => True | _ => False), fun a M r M' => (match a, r with | [.inl x, .inl y], some (.inl v) => (v = max x y) ∧ M = M' | _, _ => False))
noncomputable abbrev ct_J9_max_7cf53 : List (Bool × Nat × pz_C) := []
set_option maxRecDepth 100000 in
set_option maxHeartbeats 4000000 in
theorem h_J9_max_7cf53 : pz_H yJ9_max_7cf53 cJ9_max_7cf53 2 (some .int) k_J9_max_7cf53 0 0 := by
  refine pz_mk (own := RJ9) (tb := t_J9_max_7cf53) (fl := fun _ => none) (ci := fun _ => none) (ct := pz_ctf ct_J9_max_7cf53) (rz := false) (by decide +kernel) rfl t_J9_max_7cf53_ok (fun i v h => by cases h) (fun i v h => by cases h) ?_ ?_ (Or.inl ⟨rfl, rfl⟩) ?_ ?_
  · exact fun i k' h => pz_ctk (l := ct_J9_max_7cf53) (P := fun b i k => b = true → pz_cV 0 0 RJ9 i k) (fun _ h => absurd h List.not_mem_nil) true i k' h rfl
  · exact fun i k' h => pz_ctk (l := ct_J9_max_7cf53) (P := fun b i k => b = false → (pz_cS 0 0 RJ9 i k ∨ (k = pz_kac ∧ 1 ≤ 0 ∧ 60 ≤ 0 ∧ Cond.methodLink RJ9 i arraycopyName ∈ pz_tbl))) (fun _ h => absurd h List.not_mem_nil) false i k' h rfl
  · intro a M hlen hpre
    obtain ⟨x, y, rfl, hpre⟩ : ∃ x y, a = [.inl x, .inl y] ∧ (True) := by
      have hpre : (match (generalizing := false) a with | [.inl x, .inl y] => True | _ => False) := hpre
      split at hpre
      · exact ⟨_, _, rfl, hpre⟩
      · exact hpre.elim
    exact Nat.le_of_ble_eq_true rfl
  · intro a M hlen hcan hM hpre Ok hgo
    obtain ⟨x, y, rfl, hpre⟩ : ∃ x y, a = [.inl x, .inl y] ∧ (True) := by
      have hpre : (match (generalizing := false) a with | [.inl x, .inl y] => True | _ => False) := hpre
      split at hpre
      · exact ⟨_, _, rfl, hpre⟩
      · exact hpre.elim
    obtain ⟨k_x, hc_x⟩ := pz_tlm hcan
    have l_x : -2147483648 ≤ x := k_x.1
    have u_x : x ≤ 2147483647 := k_x.2
    obtain ⟨k_y, hc_y⟩ := pz_tlm hc_x
    have l_y : -2147483648 ≤ y := k_y.1
    have u_y : y ≤ 2147483647 := k_y.2
    refine hgo (fun _ => false) 9 0 _ [] M ?_
    refine And.intro (fun h2 => ?_) (fun h2 => ?_)
    · skip
      refine And.intro rfl ?_
      exact ⟨by omega, rfl⟩
    · skip
      refine And.intro rfl ?_
      exact ⟨by omega, rfl⟩
theorem s_J9_max_7cf53 {fr lo i : Nat} {own : String} (h1 : 0 + 1 ≤ fr) (h2 : 8 + (2 + 11) + 0 ≤ lo) (h3 : .methodLink own i yJ9_max_7cf53 ∈ lw_tbl ∨ (own = RX1 ∧ i = 35 ∧ yJ9_max_7cf53 = yX11_within)) : pz_cS fr lo own i k_J9_max_7cf53 := pz_cSk (maxL := 2) (fr' := 0) (lo' := 0) 2 h_J9_max_7cf53 rfl ⟨(pz_nhc_RJ9 yJ9_max_7cf53 rfl).1, (pz_nhc_RJ9 yJ9_max_7cf53 rfl).2, pz_ds10⟩ ⟨pz_wq508, pz_wq507, pz_wq14⟩ h1 h2 h3
noncomputable def k_J9_min_7cf53 : pz_C := (2, 1, fun a M => (match a with | [.inl x, .inl y] => True | _ => False), fun a M r M' => (match a, r with | [.inl x, .inl y], some (.inl v) => (v = min x y) ∧ M = M' | _, _ => False))
noncomputable abbrev ct_J9_min_7cf53 : List (Bool × Nat × pz_C) := []
set_option maxRecDepth 100000 in
set_option maxHeartbeats 4000000 in
theorem h_J9_min_7cf53 : pz_H yJ9_min_7cf53 cJ9_min_7cf53 2 (some .int) k_J9_min_7cf53 0 0 := by
  refine pz_mk (own := RJ9) (tb := t_J9_min_7cf53) (fl := fun _ => none) (ci := fun _ => none) (ct := pz_ctf ct_J9_min_7cf53) (rz := false) (by decide +kernel) rfl t_J9_min_7cf53_ok (fun i v h => by cases h) (fun i v h => by cases h) ?_ ?_ (Or.inl ⟨rfl, rfl⟩) ?_ ?_
  · exact fun i k' h => pz_ctk (l := ct_J9_min_7cf53) (P := fun b i k => b = true → pz_cV 0 0 RJ9 i k) (fun _ h => absurd h List.not_mem_nil) true i k' h rfl
  · exact fun i k' h => pz_ctk (l := ct_J9_min_7cf53) (P := fun b i k => b = false → (pz_cS 0 0 RJ9 i k ∨ (k = pz_kac ∧ 1 ≤ 0 ∧ 60 ≤ 0 ∧ Cond.methodLink RJ9 i arraycopyName ∈ pz_tbl))) (fun _ h => absurd h List.not_mem_nil) false i k' h rfl
  · intro a M hlen hpre
    obtain ⟨x, y, rfl, hpre⟩ : ∃ x y, a = [.inl x, .inl y] ∧ (True) := by
      have hpre : (match (generalizing := false) a with | [.inl x, .inl y] => True | _ => False) := hpre
      split at hpre
      · exact ⟨_, _, rfl, hpre⟩
      · exact hpre.elim
    exact Nat.le_of_ble_eq_true rfl
  · intro a M hlen hcan hM hpre Ok hgo
    obtain ⟨x, y, rfl, hpre⟩ : ∃ x y, a = [.inl x, .inl y] ∧ (True) := by
      have hpre : (match (generalizing := false) a with | [.inl x, .inl y] => True | _ => False) := hpre
      split at hpre
      · exact ⟨_, _, rfl, hpre⟩
      · exact hpre.elim
    obtain ⟨k_x, hc_x⟩ := pz_tlm hcan
    have l_x : -2147483648 ≤ x := k_x.1
    have u_x : x ≤ 2147483647 := k_x.2
    obtain ⟨k_y, hc_y⟩ := pz_tlm hc_x
    have l_y : -2147483648 ≤ y := k_y.1
    have u_y : y ≤ 2147483647 := k_y.2
    refine hgo (fun _ => false) 9 0 _ [] M ?_
    refine And.intro (fun h2 => ?_) (fun h2 => ?_)
    · skip
      refine And.intro rfl ?_
      exact ⟨by omega, rfl⟩
    · skip
      refine And.intro rfl ?_
      exact ⟨by omega, rfl⟩
theorem s_J9_min_7cf53 {fr lo i : Nat} {own : String} (h1 : 0 + 1 ≤ fr) (h2 : 8 + (2 + 11) + 0 ≤ lo) (h3 : .methodLink own i yJ9_min_7cf53 ∈ lw_tbl ∨ (own = RX1 ∧ i = 35 ∧ yJ9_min_7cf53 = yX11_within)) : pz_cS fr lo own i k_J9_min_7cf53 := pz_cSk (maxL := 2) (fr' := 0) (lo' := 0) 2 h_J9_min_7cf53 rfl ⟨(pz_nhc_RJ9 yJ9_min_7cf53 rfl).1, (pz_nhc_RJ9 yJ9_min_7cf53 rfl).2, pz_ds10⟩ ⟨pz_wq476, pz_wq475, pz_wq14⟩ h1 h2 h3
noncomputable def k_J6_bitCount_0f7a4 : pz_C := (1, 1, fun a M => (match a with | [.inl x] => True | _ => False), fun a M r M' => (match a, r with | [.inl x], some (.inl v) => (pz_bcx x v) ∧ M = M' | _, _ => False))
noncomputable abbrev ct_J6_bitCount_0f7a4 : List (Bool × Nat × pz_C) := []
set_option maxRecDepth 100000 in
set_option maxHeartbeats 4000000 in
theorem h_J6_bitCount_0f7a4 : pz_H yJ6_bitCount_0f7a4 cJ6_bitCount_0f7a4 1 (some .int) k_J6_bitCount_0f7a4 0 0 := by
  refine pz_mk (own := RJ6) (tb := t_J6_bitCount_0f7a4) (fl := fun _ => none) (ci := pz_cif ci_RJ6) (ct := pz_ctf ct_J6_bitCount_0f7a4) (rz := false) (by decide +kernel) rfl t_J6_bitCount_0f7a4_ok (fun i v h => by cases h) (pz_cik ci_RJ6_ok) ?_ ?_ (Or.inl ⟨rfl, rfl⟩) ?_ ?_
  · exact fun i k' h => pz_ctk (l := ct_J6_bitCount_0f7a4) (P := fun b i k => b = true → pz_cV 0 0 RJ6 i k) (fun _ h => absurd h List.not_mem_nil) true i k' h rfl
  · exact fun i k' h => pz_ctk (l := ct_J6_bitCount_0f7a4) (P := fun b i k => b = false → (pz_cS 0 0 RJ6 i k ∨ (k = pz_kac ∧ 1 ≤ 0 ∧ 60 ≤ 0 ∧ Cond.methodLink RJ6 i arraycopyName ∈ pz_tbl))) (fun _ h => absurd h List.not_mem_nil) false i k' h rfl
  · intro a M hlen hpre
    obtain ⟨x, rfl, hpre⟩ : ∃ x, a = [.inl x] ∧ (True) := by
      have hpre : (match (generalizing := false) a with | [.inl x] => True | _ => False) := hpre
      split at hpre
      · exact ⟨_, rfl, hpre⟩
      · exact hpre.elim
    exact Nat.le_of_ble_eq_true rfl
  · intro a M hlen hcan hM hpre Ok hgo
    obtain ⟨x, rfl, hpre⟩ : ∃ x, a = [.inl x] ∧ (True) := by
      have hpre : (match (generalizing := false) a with | [.inl x] => True | _ => False) := hpre
      split at hpre
      · exact ⟨_, rfl, hpre⟩
      · exact hpre.elim
    obtain ⟨k_x, hc_x⟩ := pz_tlm hcan
    have l_x : -2147483648 ≤ x := k_x.1
    have u_x : x ≤ 2147483647 := k_x.2
    refine hgo (fun _ => false) 44 0 _ [] M ?_
    intro v3 e3 a3 b3
    intro v7 e7 a7 b7
    intro v8 e8 a8 b8
    try rw [pz_wi (by first | decide | omega) (by first | decide | omega)] at e8
    intro v14 e14 a14 b14
    intro v17 e17 a17 b17
    intro v21 e21 a21 b21
    intro v22 e22 a22 b22
    try rw [pz_wi (by first | decide | omega) (by first | decide | omega)] at e22
    intro v27 e27 a27 b27
    intro v28 e28 a28 b28
    try rw [pz_wi (by first | decide | omega) (by first | decide | omega)] at e28
    intro v32 e32 a32 b32
    intro v38 e38 a38 b38
    intro v39 e39 a39 b39
    try rw [pz_wi (by first | decide | omega) (by first | decide | omega)] at e39
    intro v45 e45 a45 b45
    intro v46 e46 a46 b46
    try rw [pz_wi (by first | decide | omega) (by first | decide | omega)] at e46
    intro v51 e51 a51 b51
    refine And.intro rfl ?_
    exact ⟨pz_bcx_of (by rw [e51, e46, e45, e39, e38, e32, e28, e27, e22, e21, e17, e14, e8, e7, e3]; rfl), rfl⟩
theorem s_J6_bitCount_0f7a4 {fr lo i : Nat} {own : String} (h1 : 0 + 1 ≤ fr) (h2 : 8 + (1 + 11) + 0 ≤ lo) (h3 : .methodLink own i yJ6_bitCount_0f7a4 ∈ lw_tbl ∨ (own = RX1 ∧ i = 35 ∧ yJ6_bitCount_0f7a4 = yX11_within)) : pz_cS fr lo own i k_J6_bitCount_0f7a4 := pz_cSk (maxL := 1) (fr' := 0) (lo' := 0) 1 h_J6_bitCount_0f7a4 rfl ⟨(pz_nhc_RJ6 yJ6_bitCount_0f7a4 rfl).1, (pz_nhc_RJ6 yJ6_bitCount_0f7a4 rfl).2, pz_ds5⟩ ⟨pz_wq615, pz_wq614, pz_wq15⟩ h1 h2 h3

noncomputable def k_X11_within : pz_C := (3, 1, fun a M => (match a with | [.inl x, .inl y, .inl z] => True | _ => False), fun a M r M' => (match a, r with | [.inl x, .inl y, .inl z], some (.inl v) => (v = (if y ≤ x ∧ x ≤ z then 1 else 0)) ∧ M = M' | _, _ => False))
noncomputable abbrev ct_X11_within : List (Bool × Nat × pz_C) := []
set_option maxRecDepth 100000 in
set_option maxHeartbeats 4000000 in
theorem h_X11_within : pz_H yX11_within cX11_within 3 (some .boolean) k_X11_within 0 0 := by
  refine pz_mk (own := RX11) (tb := t_X11_within) (fl := pz_flf fl_RX11) (ci := pz_cif ci_RX11) (ct := pz_ctf ct_X11_within) (rz := true) (pz_pfc_RX11 yX11_within rfl) rfl t_X11_within_ok (pz_flk fl_RX11_ok) (pz_cik ci_RX11_ok) ?_ ?_ (Or.inr ⟨rfl, rfl⟩) ?_ ?_
  · exact fun i k' h => pz_ctk (l := ct_X11_within) (P := fun b i k => b = true → pz_cV 0 0 RX11 i k) (fun _ h => absurd h List.not_mem_nil) true i k' h rfl
  · exact fun i k' h => pz_ctk (l := ct_X11_within) (P := fun b i k => b = false → (pz_cS 0 0 RX11 i k ∨ (k = pz_kac ∧ 1 ≤ 0 ∧ 60 ≤ 0 ∧ Cond.methodLink RX11 i arraycopyName ∈ pz_tbl))) (fun _ h => absurd h List.not_mem_nil) false i k' h rfl
  · intro a M hlen hpre
    obtain ⟨x, y, z, rfl, hpre⟩ : ∃ x y z, a = [.inl x, .inl y, .inl z] ∧ (True) := by
      have hpre : (match (generalizing := false) a with | [.inl x, .inl y, .inl z] => True | _ => False) := hpre
      split at hpre
      · exact ⟨_, _, _, rfl, hpre⟩
      · exact hpre.elim
    exact Nat.le_of_ble_eq_true rfl
  · intro a M hlen hcan hM hpre Ok hgo
    obtain ⟨x, y, z, rfl, hpre⟩ : ∃ x y z, a = [.inl x, .inl y, .inl z] ∧ (True) := by
      have hpre : (match (generalizing := false) a with | [.inl x, .inl y, .inl z] => True | _ => False) := hpre
      split at hpre
      · exact ⟨_, _, _, rfl, hpre⟩
      · exact hpre.elim
    obtain ⟨k_x, hc_x⟩ := pz_tlm hcan
    have l_x : -2147483648 ≤ x := k_x.1
    have u_x : x ≤ 2147483647 := k_x.2
    obtain ⟨k_y, hc_y⟩ := pz_tlm hc_x
    have l_y : -2147483648 ≤ y := k_y.1
    have u_y : y ≤ 2147483647 := k_y.2
    obtain ⟨k_z, hc_z⟩ := pz_tlm hc_y
    have l_z : -2147483648 ≤ z := k_z.1
    have u_z : z ≤ 2147483647 := k_z.2
    refine hgo (fun _ => false) 12 0 _ [] M ?_
    refine And.intro (fun h2 => ?_) (fun h2 => ?_)
    · skip
      refine And.intro (by first | decide | omega) ?_
      refine And.intro rfl ?_
      refine And.intro ?_ rfl
      split <;> omega
    · skip
      refine And.intro (fun h7 => ?_) (fun h7 => ?_)
      · skip
        refine And.intro (by first | decide | omega) ?_
        refine And.intro rfl ?_
        refine And.intro ?_ rfl
        split <;> omega
      · skip
        refine And.intro (by first | decide | omega) ?_
        refine And.intro rfl ?_
        refine And.intro ?_ rfl
        split <;> omega
theorem s_X11_within {fr lo i : Nat} {own : String} (h1 : 0 + 1 ≤ fr) (h2 : 8 + (3 + 11) + 0 ≤ lo) (h3 : .methodLink own i yX11_within ∈ lw_tbl ∨ (own = RX1 ∧ i = 35 ∧ yX11_within = yX11_within)) : pz_cS fr lo own i k_X11_within := pz_cSk (maxL := 3) (fr' := 0) (lo' := 0) 3 h_X11_within rfl ⟨(pz_nhc_RX11 yX11_within rfl).1, (pz_nhc_RX11 yX11_within rfl).2, pz_ds17⟩ ⟨pz_wq427, pz_wq426, pz_wq1⟩ h1 h2 h3
noncomputable def k_X5_isIn : pz_C := (1, 1, fun a M => (match a with | [.inr (.inr (5, c))] => True | _ => False), fun a M r M' => (match a, r with | [.inr (.inr (5, c))], some (.inl v) => (v = (if M c 5 = 0 ∧ M c 7 = -1 then 1 else 0)) ∧ M = M' | _, _ => False))
noncomputable abbrev ct_X5_isIn : List (Bool × Nat × pz_C) := []
set_option maxRecDepth 100000 in
set_option maxHeartbeats 4000000 in
theorem h_X5_isIn : pz_H yX5_isIn cX5_isIn 1 (some .boolean) k_X5_isIn 0 0 := by
  refine pz_mk (own := RX5) (tb := t_X5_isIn) (fl := pz_flf fl_RX5) (ci := fun _ => none) (ct := pz_ctf ct_X5_isIn) (rz := true) (pz_pfc_RX5 yX5_isIn rfl) rfl t_X5_isIn_ok (pz_flk fl_RX5_ok) (fun i v h => by cases h) ?_ ?_ (Or.inr ⟨rfl, rfl⟩) ?_ ?_
  · exact fun i k' h => pz_ctk (l := ct_X5_isIn) (P := fun b i k => b = true → pz_cV 0 0 RX5 i k) (fun _ h => absurd h List.not_mem_nil) true i k' h rfl
  · exact fun i k' h => pz_ctk (l := ct_X5_isIn) (P := fun b i k => b = false → (pz_cS 0 0 RX5 i k ∨ (k = pz_kac ∧ 1 ≤ 0 ∧ 60 ≤ 0 ∧ Cond.methodLink RX5 i arraycopyName ∈ pz_tbl))) (fun _ h => absurd h List.not_mem_nil) false i k' h rfl
  · intro a M hlen hpre
    obtain ⟨c, rfl, hpre⟩ : ∃ c, a = [.inr (.inr (5, c))] ∧ (True) := by
      have hpre : (match (generalizing := false) a with | [.inr (.inr (5, c))] => True | _ => False) := hpre
      split at hpre
      · exact ⟨_, rfl, hpre⟩
      · exact hpre.elim
    exact Nat.le_of_ble_eq_true rfl
  · intro a M hlen hcan hM hpre Ok hgo
    obtain ⟨c, rfl, hpre⟩ : ∃ c, a = [.inr (.inr (5, c))] ∧ (True) := by
      have hpre : (match (generalizing := false) a with | [.inr (.inr (5, c))] => True | _ => False) := hpre
      split at hpre
      · exact ⟨_, rfl, hpre⟩
      · exact hpre.elim
    obtain ⟨k_c, hc_c⟩ := pz_tlm hcan
    have k_c : pz_kd c = 5 ∧ c < 231 := k_c
    have R_c := pz_kd5 k_c.1
    refine hgo (fun _ => false) 13 0 _ [] M ?_
    intro v1 e1 a1 b1
    refine And.intro (fun h4 => ?_) (fun h4 => ?_)
    · skip
      refine And.intro (by first | decide | omega) ?_
      refine And.intro rfl ?_
      refine And.intro ?_ rfl
      split <;> omega
    · skip
      intro v8 e8 a8 b8
      refine And.intro (fun h12 => ?_) (fun h12 => ?_)
      · skip
        refine And.intro (by first | decide | omega) ?_
        refine And.intro rfl ?_
        refine And.intro ?_ rfl
        split <;> omega
      · skip
        refine And.intro (by first | decide | omega) ?_
        refine And.intro rfl ?_
        refine And.intro ?_ rfl
        split <;> omega
theorem v_X5_isIn {fr lo i : Nat} {own : String} (h1 : 0 + 1 ≤ fr) (h2 : 8 + (1 + 11) + 0 ≤ lo) (h3 : .methodLink own i yX5_isIn ∈ lw_tbl) : pz_cV fr lo own i k_X5_isIn :=
  pz_cVk (maxL := 1) (fr' := 0) (lo' := 0) 0 5 h_X5_isIn rfl ⟨(pz_nhc_RX5 yX5_isIn rfl).1, (pz_nhc_RX5 yX5_isIn rfl).2, pz_ds3⟩ ⟨pz_wq461, pz_wq459, pz_wq460, pz_wq3⟩ (Or.inl ⟨TX5, 8, rfl⟩) (fun a M _ h => by
    have h : (match (generalizing := false) a with | [.inr (.inr (5, c))] => True | _ => False) := h
    split at h
    · exact ⟨_, _, rfl⟩
    · exact h.elim) h1 h2 h3
noncomputable def k_X0_has : pz_C := (2, 1, fun a M => (match a with | [.inr (.inr (0, c)), .inl i] => True | _ => False), fun a M r M' => (match a, r with | [.inr (.inr (0, c)), .inl i], some (.inl v) => (v = (if 0 ≤ i ∧ i < M c 3 then 1 else 0)) ∧ M = M' | _, _ => False))
noncomputable abbrev ct_X0_has : List (Bool × Nat × pz_C) := []
set_option maxRecDepth 100000 in
set_option maxHeartbeats 4000000 in
theorem h_X0_has : pz_H yX0_has cX0_has 2 (some .boolean) k_X0_has 0 0 := by
  refine pz_mk (own := RX0) (tb := t_X0_has) (fl := pz_flf fl_RX0) (ci := pz_cif ci_RX0) (ct := pz_ctf ct_X0_has) (rz := true) (pz_pfc_RX0 yX0_has rfl) rfl t_X0_has_ok (pz_flk fl_RX0_ok) (pz_cik ci_RX0_ok) ?_ ?_ (Or.inr ⟨rfl, rfl⟩) ?_ ?_
  · exact fun i k' h => pz_ctk (l := ct_X0_has) (P := fun b i k => b = true → pz_cV 0 0 RX0 i k) (fun _ h => absurd h List.not_mem_nil) true i k' h rfl
  · exact fun i k' h => pz_ctk (l := ct_X0_has) (P := fun b i k => b = false → (pz_cS 0 0 RX0 i k ∨ (k = pz_kac ∧ 1 ≤ 0 ∧ 60 ≤ 0 ∧ Cond.methodLink RX0 i arraycopyName ∈ pz_tbl))) (fun _ h => absurd h List.not_mem_nil) false i k' h rfl
  · intro a M hlen hpre
    obtain ⟨c, i, rfl, hpre⟩ : ∃ c i, a = [.inr (.inr (0, c)), .inl i] ∧ (True) := by
      have hpre : (match (generalizing := false) a with | [.inr (.inr (0, c)), .inl i] => True | _ => False) := hpre
      split at hpre
      · exact ⟨_, _, rfl, hpre⟩
      · exact hpre.elim
    exact Nat.le_of_ble_eq_true rfl
  · intro a M hlen hcan hM hpre Ok hgo
    obtain ⟨c, i, rfl, hpre⟩ : ∃ c i, a = [.inr (.inr (0, c)), .inl i] ∧ (True) := by
      have hpre : (match (generalizing := false) a with | [.inr (.inr (0, c)), .inl i] => True | _ => False) := hpre
      split at hpre
      · exact ⟨_, _, rfl, hpre⟩
      · exact hpre.elim
    obtain ⟨k_c, hc_c⟩ := pz_tlm hcan
    have k_c : pz_kd c = 0 ∧ c < 231 := k_c
    have R_c := pz_kd0 k_c.1
    obtain ⟨k_i, hc_i⟩ := pz_tlm hc_c
    have l_i : -2147483648 ≤ i := k_i.1
    have u_i : i ≤ 2147483647 := k_i.2
    refine hgo (fun _ => false) 12 0 _ [] M ?_
    refine And.intro (fun h1 => ?_) (fun h1 => ?_)
    · skip
      refine And.intro (by first | decide | omega) ?_
      refine And.intro rfl ?_
      refine And.intro ?_ rfl
      split <;> omega
    · skip
      intro v6 e6 a6 b6
      refine And.intro (fun h9 => ?_) (fun h9 => ?_)
      · skip
        refine And.intro (by first | decide | omega) ?_
        refine And.intro rfl ?_
        refine And.intro ?_ rfl
        split <;> omega
      · skip
        refine And.intro (by first | decide | omega) ?_
        refine And.intro rfl ?_
        refine And.intro ?_ rfl
        split <;> omega
theorem v_X0_has {fr lo i : Nat} {own : String} (h1 : 0 + 1 ≤ fr) (h2 : 8 + (2 + 11) + 0 ≤ lo) (h3 : .methodLink own i yX0_has ∈ lw_tbl) : pz_cV fr lo own i k_X0_has :=
  pz_cVk (maxL := 2) (fr' := 0) (lo' := 0) 1 0 h_X0_has rfl ⟨(pz_nhc_RX0 yX0_has rfl).1, (pz_nhc_RX0 yX0_has rfl).2, pz_ds9⟩ ⟨pz_wq447, pz_wq445, pz_wq446, pz_wq2⟩ (Or.inl ⟨TX0, 8, rfl⟩) (fun a M _ h => by
    have h : (match (generalizing := false) a with | [.inr (.inr (0, c)), .inl i] => True | _ => False) := h
    split at h
    · exact ⟨_, _, rfl⟩
    · exact h.elim) h1 h2 h3
noncomputable def k_X0_at : pz_C := (2, 8, fun a M => (match a with | [.inr (.inr (0, c)), .inl i] => True | _ => False), fun a M r M' => (match a, r with | [.inr (.inr (0, c)), .inl i], some (.inr (.inr (5, v))) => (v = (if 0 ≤ i ∧ i < 12 then pz_rf (pz_rf c 1) i.toNat else pz_rf c 2)) ∧ M = M' | _, _ => False))
noncomputable abbrev ct_X0_at : List (Bool × Nat × pz_C) := []
set_option maxRecDepth 100000 in
set_option maxHeartbeats 4000000 in
theorem h_X0_at : pz_H yX0_at cX0_at 2 (some (.object "TwelveChain$Link")) k_X0_at 0 0 := by
  refine pz_mk (own := RX0) (tb := t_X0_at) (fl := pz_flf fl_RX0) (ci := pz_cif ci_RX0) (ct := pz_ctf ct_X0_at) (rz := false) (pz_pfc_RX0 yX0_at rfl) rfl t_X0_at_ok (pz_flk fl_RX0_ok) (pz_cik ci_RX0_ok) ?_ ?_ (⟨_, TX5, 8, rfl, rfl⟩) ?_ ?_
  · exact fun i k' h => pz_ctk (l := ct_X0_at) (P := fun b i k => b = true → pz_cV 0 0 RX0 i k) (fun _ h => absurd h List.not_mem_nil) true i k' h rfl
  · exact fun i k' h => pz_ctk (l := ct_X0_at) (P := fun b i k => b = false → (pz_cS 0 0 RX0 i k ∨ (k = pz_kac ∧ 1 ≤ 0 ∧ 60 ≤ 0 ∧ Cond.methodLink RX0 i arraycopyName ∈ pz_tbl))) (fun _ h => absurd h List.not_mem_nil) false i k' h rfl
  · intro a M hlen hpre
    obtain ⟨c, i, rfl, hpre⟩ : ∃ c i, a = [.inr (.inr (0, c)), .inl i] ∧ (True) := by
      have hpre : (match (generalizing := false) a with | [.inr (.inr (0, c)), .inl i] => True | _ => False) := hpre
      split at hpre
      · exact ⟨_, _, rfl, hpre⟩
      · exact hpre.elim
    exact Nat.le_of_ble_eq_true rfl
  · intro a M hlen hcan hM hpre Ok hgo
    obtain ⟨c, i, rfl, hpre⟩ : ∃ c i, a = [.inr (.inr (0, c)), .inl i] ∧ (True) := by
      have hpre : (match (generalizing := false) a with | [.inr (.inr (0, c)), .inl i] => True | _ => False) := hpre
      split at hpre
      · exact ⟨_, _, rfl, hpre⟩
      · exact hpre.elim
    obtain ⟨k_c, hc_c⟩ := pz_tlm hcan
    have k_c : pz_kd c = 0 ∧ c < 231 := k_c
    have R_c := pz_kd0 k_c.1
    obtain ⟨k_i, hc_i⟩ := pz_tlm hc_c
    have l_i : -2147483648 ≤ i := k_i.1
    have u_i : i ≤ 2147483647 := k_i.2
    refine hgo (fun _ => false) 15 0 _ [] M ?_
    refine And.intro (fun h1 => ?_) (fun h1 => ?_)
    · skip
      intro r20 e20 k20
      have R20 := pz_kd5 k20
      refine And.intro rfl ?_
      refine And.intro ?_ rfl
      first | (rw [if_pos (by first | decide | omega)]; (try subst e11); assumption) | (rw [if_neg (by first | decide | omega)]; assumption)
    · skip
      refine And.intro (fun h7 => ?_) (fun h7 => ?_)
      · skip
        intro r20 e20 k20
        have R20 := pz_kd5 k20
        refine And.intro rfl ?_
        refine And.intro ?_ rfl
        first | (rw [if_pos (by first | decide | omega)]; (try subst e11); assumption) | (rw [if_neg (by first | decide | omega)]; assumption)
      · skip
        intro r11 e11 k11
        have lo15 : (0 : Int) ≤ i := by omega
        have tn15 : (((i).toNat : Nat) : Int) = i := Int.toNat_of_nonneg lo15
        refine And.intro (lo15) (And.intro (show _ < (12 : Int) from by omega) ?_)
        intro r15 e15 k15
        have R15 := pz_kd5 k15
        refine And.intro rfl ?_
        refine And.intro ?_ rfl
        first | (rw [if_pos (by first | decide | omega)]; (try subst e11); assumption) | (rw [if_neg (by first | decide | omega)]; assumption)
theorem v_X0_at {fr lo i : Nat} {own : String} (h1 : 0 + 1 ≤ fr) (h2 : 8 + (2 + 11) + 0 ≤ lo) (h3 : .methodLink own i yX0_at ∈ lw_tbl) : pz_cV fr lo own i k_X0_at :=
  pz_cVk (maxL := 2) (fr' := 0) (lo' := 0) 1 0 h_X0_at rfl ⟨(pz_nhc_RX0 yX0_at rfl).1, (pz_nhc_RX0 yX0_at rfl).2, pz_ds6⟩ ⟨pz_wq431, pz_wq429, pz_wq430, pz_wq2⟩ (Or.inl ⟨TX0, 8, rfl⟩) (fun a M _ h => by
    have h : (match (generalizing := false) a with | [.inr (.inr (0, c)), .inl i] => True | _ => False) := h
    split at h
    · exact ⟨_, _, rfl⟩
    · exact h.elim) h1 h2 h3


noncomputable def k_X11_canHave : pz_C := (2, 1, fun a M => (match a with | [.inl x, .inl y] => True | _ => False), fun a M r M' => (match a, r with | [.inl x, .inl y], some (.inl v) => ((v = 1 ∧ ((x = 0 ∧ 1 ≤ y ∧ y ≤ 999) ∨ (x = 1 ∧ -9999 ≤ y ∧ y ≤ 9999) ∨ (x = 2 ∧ -999 ≤ y ∧ y ≤ 999) ∨ (x = 3 ∧ 0 ≤ y ∧ y ≤ 9) ∨ (x = 4 ∧ 0 ≤ y ∧ y ≤ 1))) ∨ (v = 0 ∧ ¬ ((x = 0 ∧ 1 ≤ y ∧ y ≤ 999) ∨ (x = 1 ∧ -9999 ≤ y ∧ y ≤ 9999) ∨ (x = 2 ∧ -999 ≤ y ∧ y ≤ 999) ∨ (x = 3 ∧ 0 ≤ y ∧ y ≤ 9) ∨ (x = 4 ∧ 0 ≤ y ∧ y ≤ 1)))) ∧ M = M' | _, _ => False))
noncomputable abbrev ct_X11_canHave : List (Bool × Nat × pz_C) := [(false, 137, k_X11_within)]
set_option maxRecDepth 100000 in
set_option maxHeartbeats 4000000 in
theorem h_X11_canHave : pz_H yX11_canHave cX11_canHave 2 (some .boolean) k_X11_canHave 1 22 := by
  refine pz_mk (own := RX11) (tb := t_X11_canHave) (fl := pz_flf fl_RX11) (ci := pz_cif ci_RX11) (ct := pz_ctf ct_X11_canHave) (rz := true) (pz_pfc_RX11 yX11_canHave rfl) rfl t_X11_canHave_ok (pz_flk fl_RX11_ok) (pz_cik ci_RX11_ok) ?_ ?_ (Or.inr ⟨rfl, rfl⟩) ?_ ?_
  · exact fun i k' h => pz_ctk (l := ct_X11_canHave) (P := fun b i k => b = true → pz_cV 1 22 RX11 i k) (List.forall_mem_cons.mpr ⟨((fun z => by cases z)), fun _ h => absurd h List.not_mem_nil⟩) true i k' h rfl
  · exact fun i k' h => pz_ctk (l := ct_X11_canHave) (P := fun b i k => b = false → (pz_cS 1 22 RX11 i k ∨ (k = pz_kac ∧ 1 ≤ 1 ∧ 60 ≤ 22 ∧ Cond.methodLink RX11 i arraycopyName ∈ pz_tbl))) (List.forall_mem_cons.mpr ⟨(fun _ => Or.inl (s_X11_within (by decide) (by decide) (Or.inl pz_wq425))), fun _ h => absurd h List.not_mem_nil⟩) false i k' h rfl
  · intro a M hlen hpre
    obtain ⟨x, y, rfl, hpre⟩ : ∃ x y, a = [.inl x, .inl y] ∧ (True) := by
      have hpre : (match (generalizing := false) a with | [.inl x, .inl y] => True | _ => False) := hpre
      split at hpre
      · exact ⟨_, _, rfl, hpre⟩
      · exact hpre.elim
    exact Nat.le_of_ble_eq_true rfl
  · intro a M hlen hcan hM hpre Ok hgo
    obtain ⟨x, y, rfl, hpre⟩ : ∃ x y, a = [.inl x, .inl y] ∧ (True) := by
      have hpre : (match (generalizing := false) a with | [.inl x, .inl y] => True | _ => False) := hpre
      split at hpre
      · exact ⟨_, _, rfl, hpre⟩
      · exact hpre.elim
    obtain ⟨k_x, hc_x⟩ := pz_tlm hcan
    have l_x : -2147483648 ≤ x := k_x.1
    have u_x : x ≤ 2147483647 := k_x.2
    obtain ⟨k_y, hc_y⟩ := pz_tlm hc_x
    have l_y : -2147483648 ≤ y := k_y.1
    have u_y : y ≤ 2147483647 := k_y.2
    refine hgo (fun _ => false) 31 0 _ [] M ?_
    refine And.intro ?_ ?_
    · skip
      refine And.intro (fun h1 => ?_) ?_
      · skip
        refine And.intro (True.intro) ?_
        intro v41 M41 a41 b41 q41
        obtain ⟨q41, z41⟩ := q41
        subst z41
        refine And.intro (by first | omega | (split at * <;> omega)) ?_
        refine And.intro rfl ?_
        exact ⟨by first | omega | (split at * <;> omega), rfl⟩
      refine And.intro (fun h1 => ?_) ?_
      · skip
        refine And.intro (True.intro) ?_
        intro v52 M52 a52 b52 q52
        obtain ⟨q52, z52⟩ := q52
        subst z52
        refine And.intro (by first | omega | (split at * <;> omega)) ?_
        refine And.intro rfl ?_
        exact ⟨by first | omega | (split at * <;> omega), rfl⟩
      refine And.intro (fun h1 => ?_) ?_
      · skip
        refine And.intro (True.intro) ?_
        intro v63 M63 a63 b63 q63
        obtain ⟨q63, z63⟩ := q63
        subst z63
        refine And.intro (by first | omega | (split at * <;> omega)) ?_
        refine And.intro rfl ?_
        exact ⟨by first | omega | (split at * <;> omega), rfl⟩
      refine And.intro (fun h1 => ?_) ?_
      · skip
        refine And.intro (True.intro) ?_
        intro v71 M71 a71 b71 q71
        obtain ⟨q71, z71⟩ := q71
        subst z71
        refine And.intro (by first | omega | (split at * <;> omega)) ?_
        refine And.intro rfl ?_
        exact ⟨by first | omega | (split at * <;> omega), rfl⟩
      refine And.intro (fun h1 => ?_) ?_
      · skip
        refine And.intro (True.intro) ?_
        intro v78 M78 a78 b78 q78
        obtain ⟨q78, z78⟩ := q78
        subst z78
        refine And.intro (by first | omega | (split at * <;> omega)) ?_
        refine And.intro rfl ?_
        exact ⟨by first | omega | (split at * <;> omega), rfl⟩
      exact True.intro
    · intro h1
      refine And.intro (by first | omega | (split at * <;> omega)) ?_
      refine And.intro rfl ?_
      exact ⟨by first | omega | (split at * <;> omega), rfl⟩
theorem s_X11_canHave {fr lo i : Nat} {own : String} (h1 : 1 + 1 ≤ fr) (h2 : 8 + (2 + 11) + 22 ≤ lo) (h3 : .methodLink own i yX11_canHave ∈ lw_tbl ∨ (own = RX1 ∧ i = 35 ∧ yX11_canHave = yX11_within)) : pz_cS fr lo own i k_X11_canHave := pz_cSk (maxL := 2) (fr' := 1) (lo' := 22) 2 h_X11_canHave rfl ⟨(pz_nhc_RX11 yX11_canHave rfl).1, (pz_nhc_RX11 yX11_canHave rfl).2, pz_ds13⟩ ⟨pz_wq424, pz_wq423, pz_wq1⟩ h1 h2 h3
noncomputable def k_X0_all : pz_C := (1, 1, fun a M => (match a with | [.inr (.inr (0, c))] => pz_ic M | _ => False), fun a M r M' => (match a, r with | [.inr (.inr (0, c))], some (.inl v) => (pz_zs v (fun j => decide (j < (M c 3).toNat))) ∧ M = M' | _, _ => False))
noncomputable abbrev ct_X0_all : List (Bool × Nat × pz_C) := []
set_option maxRecDepth 100000 in
set_option maxHeartbeats 4000000 in
theorem h_X0_all : pz_H yX0_all cX0_all 1 (some .int) k_X0_all 0 0 := by
  refine pz_mk (own := RX0) (tb := t_X0_all) (fl := pz_flf fl_RX0) (ci := pz_cif ci_RX0) (ct := pz_ctf ct_X0_all) (rz := false) (pz_pfc_RX0 yX0_all rfl) rfl t_X0_all_ok (pz_flk fl_RX0_ok) (pz_cik ci_RX0_ok) ?_ ?_ (Or.inl ⟨rfl, rfl⟩) ?_ ?_
  · exact fun i k' h => pz_ctk (l := ct_X0_all) (P := fun b i k => b = true → pz_cV 0 0 RX0 i k) (fun _ h => absurd h List.not_mem_nil) true i k' h rfl
  · exact fun i k' h => pz_ctk (l := ct_X0_all) (P := fun b i k => b = false → (pz_cS 0 0 RX0 i k ∨ (k = pz_kac ∧ 1 ≤ 0 ∧ 60 ≤ 0 ∧ Cond.methodLink RX0 i arraycopyName ∈ pz_tbl))) (fun _ h => absurd h List.not_mem_nil) false i k' h rfl
  · intro a M hlen hpre
    obtain ⟨c, rfl, hpre⟩ : ∃ c, a = [.inr (.inr (0, c))] ∧ (pz_ic M) := by
      have hpre : (match (generalizing := false) a with | [.inr (.inr (0, c))] => pz_ic M | _ => False) := hpre
      split at hpre
      · exact ⟨_, rfl, hpre⟩
      · exact hpre.elim
    exact Nat.le_of_ble_eq_true rfl
  · intro a M hlen hcan hM hpre Ok hgo
    obtain ⟨c, rfl, hpre⟩ : ∃ c, a = [.inr (.inr (0, c))] ∧ (pz_ic M) := by
      have hpre : (match (generalizing := false) a with | [.inr (.inr (0, c))] => pz_ic M | _ => False) := hpre
      split at hpre
      · exact ⟨_, rfl, hpre⟩
      · exact hpre.elim
    obtain ⟨k_c, hc_c⟩ := pz_tlm hcan
    have k_c : pz_kd c = 0 ∧ c < 231 := k_c
    have R_c := pz_kd0 k_c.1
    have hI : pz_ic M := hpre
    refine hgo (fun _ => false) 9 0 _ [] M ?_
    intro v2 e2 a2 b2
    have I2 := hI.1 c (by first | decide | omega) (by first | decide | omega)
    intro v5 e5 a5 b5
    have S5 := pz_shl1 (c := v2) (by first | decide | omega) (by first | decide | omega)
    rw [← e5] at S5
    intro v7 e7 a7 b7
    try rw [pz_wi (by first | decide | omega) (by first | decide | omega)] at e7
    refine And.intro rfl ?_
    exact ⟨by rw [← e2]; exact pz_sb_all (by first | decide | omega) (by first | decide | omega) e5 e7, rfl⟩
theorem v_X0_all {fr lo i : Nat} {own : String} (h1 : 0 + 1 ≤ fr) (h2 : 8 + (1 + 11) + 0 ≤ lo) (h3 : .methodLink own i yX0_all ∈ lw_tbl) : pz_cV fr lo own i k_X0_all :=
  pz_cVk (maxL := 1) (fr' := 0) (lo' := 0) 0 0 h_X0_all rfl ⟨(pz_nhc_RX0 yX0_all rfl).1, (pz_nhc_RX0 yX0_all rfl).2, pz_ds1⟩ ⟨pz_wq1036, pz_wq1034, pz_wq1035, pz_wq2⟩ (Or.inl ⟨TX0, 8, rfl⟩) (fun a M _ h => by
    have h : (match (generalizing := false) a with | [.inr (.inr (0, c))] => pz_ic M | _ => False) := h
    split at h
    · exact ⟨_, _, rfl⟩
    · exact h.elim) h1 h2 h3
noncomputable def k_X0_canBridge : pz_C := (2, 1, fun a M => (match a with | [.inr (.inr (0, c)), .inl i] => pz_ic M | _ => False), fun a M r M' => (match a, r with | [.inr (.inr (0, c)), .inl i], some (.inl v) => (v = 0 ∨ v = 1) ∧ M = M' | _, _ => False))
noncomputable abbrev ct_X0_canBridge : List (Bool × Nat × pz_C) := [(true, 48, k_X0_at), (true, 71, k_X5_isIn)]
set_option maxRecDepth 100000 in
set_option maxHeartbeats 4000000 in
theorem h_X0_canBridge : pz_H yX0_canBridge cX0_canBridge 2 (some .boolean) k_X0_canBridge 1 21 := by
  refine pz_mk (own := RX0) (tb := t_X0_canBridge) (fl := pz_flf fl_RX0) (ci := pz_cif ci_RX0) (ct := pz_ctf ct_X0_canBridge) (rz := true) (pz_pfc_RX0 yX0_canBridge rfl) rfl t_X0_canBridge_ok (pz_flk fl_RX0_ok) (pz_cik ci_RX0_ok) ?_ ?_ (Or.inr ⟨rfl, rfl⟩) ?_ ?_
  · exact fun i k' h => pz_ctk (l := ct_X0_canBridge) (P := fun b i k => b = true → pz_cV 1 21 RX0 i k) (List.forall_mem_cons.mpr ⟨(fun _ => v_X0_at (by decide) (by decide) pz_wq494), List.forall_mem_cons.mpr ⟨(fun _ => v_X5_isIn (by decide) (by decide) pz_wq529), fun _ h => absurd h List.not_mem_nil⟩⟩) true i k' h rfl
  · exact fun i k' h => pz_ctk (l := ct_X0_canBridge) (P := fun b i k => b = false → (pz_cS 1 21 RX0 i k ∨ (k = pz_kac ∧ 1 ≤ 1 ∧ 60 ≤ 21 ∧ Cond.methodLink RX0 i arraycopyName ∈ pz_tbl))) (List.forall_mem_cons.mpr ⟨((fun z => by cases z)), List.forall_mem_cons.mpr ⟨((fun z => by cases z)), fun _ h => absurd h List.not_mem_nil⟩⟩) false i k' h rfl
  · intro a M hlen hpre
    obtain ⟨c, i, rfl, hpre⟩ : ∃ c i, a = [.inr (.inr (0, c)), .inl i] ∧ (pz_ic M) := by
      have hpre : (match (generalizing := false) a with | [.inr (.inr (0, c)), .inl i] => pz_ic M | _ => False) := hpre
      split at hpre
      · exact ⟨_, _, rfl, hpre⟩
      · exact hpre.elim
    exact Nat.le_of_ble_eq_true rfl
  · intro a M hlen hcan hM hpre Ok hgo
    obtain ⟨c, i, rfl, hpre⟩ : ∃ c i, a = [.inr (.inr (0, c)), .inl i] ∧ (pz_ic M) := by
      have hpre : (match (generalizing := false) a with | [.inr (.inr (0, c)), .inl i] => pz_ic M | _ => False) := hpre
      split at hpre
      · exact ⟨_, _, rfl, hpre⟩
      · exact hpre.elim
    obtain ⟨k_c, hc_c⟩ := pz_tlm hcan
    have k_c : pz_kd c = 0 ∧ c < 231 := k_c
    have R_c := pz_kd0 k_c.1
    obtain ⟨k_i, hc_i⟩ := pz_tlm hc_c
    have l_i : -2147483648 ≤ i := k_i.1
    have u_i : i ≤ 2147483647 := k_i.2
    have hI : pz_ic M := hpre
    refine hgo (fun _ => false) 24 0 _ [] M ?_
    refine And.intro (fun h1 => ?_) (fun h1 => ?_)
    · skip
      refine And.intro (by first | decide | omega) ?_
      refine And.intro rfl ?_
      exact ⟨by omega, rfl⟩
    · skip
      intro v6 e6 a6 b6
      have I6 := hI.1 c (by first | decide | omega) (by first | decide | omega)
      intro v10 e10 a10 b10
      try rw [pz_wi (by first | decide | omega) (by first | decide | omega)] at e10
      refine And.intro (fun h11 => ?_) (fun h11 => ?_)
      · skip
        refine And.intro (by first | decide | omega) ?_
        refine And.intro rfl ?_
        exact ⟨by omega, rfl⟩
      · skip
        refine And.intro (True.intro) ?_
        intro r16 M16 k16 q16
        have R16 := pz_kd5 k16
        obtain ⟨q16, z16⟩ := q16
        subst z16
        intro v19 e19 a19 b19
        refine And.intro (fun h22 => ?_) (fun h22 => ?_)
        · skip
          refine And.intro (by first | decide | omega) ?_
          refine And.intro rfl ?_
          exact ⟨by omega, rfl⟩
        · skip
          refine And.intro (True.intro) ?_
          intro r27 M27 k27 q27
          have R27 := pz_kd5 k27
          obtain ⟨q27, z27⟩ := q27
          subst z27
          refine And.intro (True.intro) ?_
          intro v30 M30 a30 b30 q30
          obtain ⟨q30, z30⟩ := q30
          subst z30
          refine And.intro (fun h33 => ?_) (fun h33 => ?_)
          · skip
            refine And.intro (by first | decide | omega) ?_
            refine And.intro rfl ?_
            exact ⟨by omega, rfl⟩
          · skip
            refine And.intro (by first | decide | omega) ?_
            refine And.intro rfl ?_
            exact ⟨by omega, rfl⟩
theorem v_X0_canBridge {fr lo i : Nat} {own : String} (h1 : 1 + 1 ≤ fr) (h2 : 8 + (2 + 11) + 21 ≤ lo) (h3 : .methodLink own i yX0_canBridge ∈ lw_tbl) : pz_cV fr lo own i k_X0_canBridge :=
  pz_cVk (maxL := 2) (fr' := 1) (lo' := 21) 1 0 h_X0_canBridge rfl ⟨(pz_nhc_RX0 yX0_canBridge rfl).1, (pz_nhc_RX0 yX0_canBridge rfl).2, pz_ds9⟩ ⟨pz_wq528, pz_wq526, pz_wq527, pz_wq2⟩ (Or.inl ⟨TX0, 8, rfl⟩) (fun a M _ h => by
    have h : (match (generalizing := false) a with | [.inr (.inr (0, c)), .inl i] => pz_ic M | _ => False) := h
    split at h
    · exact ⟨_, _, rfl⟩
    · exact h.elim) h1 h2 h3



noncomputable def k_X0_bridgeableOnes : pz_C := (1, 1, fun a M => (match a with | [.inr (.inr (0, c))] => pz_ic M | _ => False), fun a M r M' => (match a, r with | [.inr (.inr (0, c))], some (.inl v) => (True) ∧ M = M' | _, _ => False))
noncomputable abbrev ct_X0_bridgeableOnes : List (Bool × Nat × pz_C) := [(true, 90, k_X0_canBridge)]
set_option maxRecDepth 100000 in
set_option maxHeartbeats 4000000 in
theorem h_X0_bridgeableOnes : pz_H yX0_bridgeableOnes cX0_bridgeableOnes 3 (some .int) k_X0_bridgeableOnes 2 42 := by
  refine pz_mk (own := RX0) (tb := t_X0_bridgeableOnes) (fl := pz_flf fl_RX0) (ci := pz_cif ci_RX0) (ct := pz_ctf ct_X0_bridgeableOnes) (rz := false) (pz_pfc_RX0 yX0_bridgeableOnes rfl) rfl t_X0_bridgeableOnes_ok (pz_flk fl_RX0_ok) (pz_cik ci_RX0_ok) ?_ ?_ (Or.inl ⟨rfl, rfl⟩) ?_ ?_
  · exact fun i k' h => pz_ctk (l := ct_X0_bridgeableOnes) (P := fun b i k => b = true → pz_cV 2 42 RX0 i k) (List.forall_mem_cons.mpr ⟨(fun _ => v_X0_canBridge (by decide) (by decide) pz_wq944), fun _ h => absurd h List.not_mem_nil⟩) true i k' h rfl
  · exact fun i k' h => pz_ctk (l := ct_X0_bridgeableOnes) (P := fun b i k => b = false → (pz_cS 2 42 RX0 i k ∨ (k = pz_kac ∧ 1 ≤ 2 ∧ 60 ≤ 42 ∧ Cond.methodLink RX0 i arraycopyName ∈ pz_tbl))) (List.forall_mem_cons.mpr ⟨((fun z => by cases z)), fun _ h => absurd h List.not_mem_nil⟩) false i k' h rfl
  · intro a M hlen hpre
    obtain ⟨c, rfl, hpre⟩ : ∃ c, a = [.inr (.inr (0, c))] ∧ (pz_ic M) := by
      have hpre : (match (generalizing := false) a with | [.inr (.inr (0, c))] => pz_ic M | _ => False) := hpre
      split at hpre
      · exact ⟨_, rfl, hpre⟩
      · exact hpre.elim
    exact Nat.le_of_ble_eq_true rfl
  · intro a M hlen hcan hM hpre Ok hgo
    obtain ⟨c, rfl, hpre⟩ : ∃ c, a = [.inr (.inr (0, c))] ∧ (pz_ic M) := by
      have hpre : (match (generalizing := false) a with | [.inr (.inr (0, c))] => pz_ic M | _ => False) := hpre
      split at hpre
      · exact ⟨_, rfl, hpre⟩
      · exact hpre.elim
    obtain ⟨k_c, hc_c⟩ := pz_tlm hcan
    have k_c : pz_kd c = 0 ∧ c < 231 := k_c
    have R_c := pz_kd0 k_c.1
    have hI : pz_ic M := hpre
    have L4 : ∀ (fu : Nat) (x1 : Int) (x2 : Int), (M c 3 - x2).toNat < fu → (0 ≤ x2) → Ok 4 [some (.inr (.inr (0, c))), some (.inl x1), some (.inl x2)] [] M := by
      intro fu
      induction fu with
      | zero => exact fun _ _ hn => absurd hn (Nat.not_lt_zero _)
      | succ fu ih4 =>
        intro x1 x2 hn4 g4_0
        refine hgo (fun p => Nat.beq p 4) 26 4 _ _ _ ?_
        intro v6 e6 a6 b6
        have I6 := hI.1 c (by first | decide | omega) (by first | decide | omega)
        refine And.intro (fun h9 => ?_) (fun h9 => ?_)
        · skip
          refine And.intro rfl ?_
          exact ⟨trivial, rfl⟩
        · skip
          refine And.intro (hI) ?_
          intro v15 M15 a15 b15 q15
          obtain ⟨q15, z15⟩ := q15
          subst z15
          refine And.intro (fun h18 => ?_) (fun h18 => ?_)
          · skip
            intro v28 e28 a28 b28
            intro v30 e30 a30 b30
            try rw [pz_wi (by first | decide | omega) (by first | decide | omega)] at e30
            exact ih4 _ _ (by first | decide | omega) (by first | decide | omega)
          · skip
            intro v23 e23 a23 b23
            intro v28 e28 a28 b28
            intro v30 e30 a30 b30
            try rw [pz_wi (by first | decide | omega) (by first | decide | omega)] at e30
            exact ih4 _ _ (by first | decide | omega) (by first | decide | omega)
    refine hgo (fun p => Nat.beq p 4) 26 0 _ [] M ?_
    exact L4 _ _ _ (Nat.lt_succ_self _) (by first | decide | omega)
theorem v_X0_bridgeableOnes {fr lo i : Nat} {own : String} (h1 : 2 + 1 ≤ fr) (h2 : 8 + (3 + 11) + 42 ≤ lo) (h3 : .methodLink own i yX0_bridgeableOnes ∈ lw_tbl) : pz_cV fr lo own i k_X0_bridgeableOnes :=
  pz_cVk (maxL := 3) (fr' := 2) (lo' := 42) 0 0 h_X0_bridgeableOnes rfl ⟨(pz_nhc_RX0 yX0_bridgeableOnes rfl).1, (pz_nhc_RX0 yX0_bridgeableOnes rfl).2, pz_ds1⟩ ⟨pz_wq943, pz_wq941, pz_wq942, pz_wq2⟩ (Or.inl ⟨TX0, 8, rfl⟩) (fun a M _ h => by
    have h : (match (generalizing := false) a with | [.inr (.inr (0, c))] => pz_ic M | _ => False) := h
    split at h
    · exact ⟨_, _, rfl⟩
    · exact h.elim) h1 h2 h3

noncomputable def k_X0_canGive : pz_C := (2, 1, fun a M => (match a with | [.inr (.inr (0, c)), .inl i] => True | _ => False), fun a M r M' => (match a, r with | [.inr (.inr (0, c)), .inl i], some (.inl v) => (True) ∧ M = M' | _, _ => False))
noncomputable abbrev ct_X0_canGive : List (Bool × Nat × pz_C) := [(true, 48, k_X0_at), (true, 71, k_X5_isIn), (false, 58, k_J9_max_7cf53)]
set_option maxRecDepth 100000 in
set_option maxHeartbeats 4000000 in
theorem h_X0_canGive : pz_H yX0_canGive cX0_canGive 2 (some .int) k_X0_canGive 1 21 := by
  refine pz_mk (own := RX0) (tb := t_X0_canGive) (fl := pz_flf fl_RX0) (ci := pz_cif ci_RX0) (ct := pz_ctf ct_X0_canGive) (rz := false) (pz_pfc_RX0 yX0_canGive rfl) rfl t_X0_canGive_ok (pz_flk fl_RX0_ok) (pz_cik ci_RX0_ok) ?_ ?_ (Or.inl ⟨rfl, rfl⟩) ?_ ?_
  · exact fun i k' h => pz_ctk (l := ct_X0_canGive) (P := fun b i k => b = true → pz_cV 1 21 RX0 i k) (List.forall_mem_cons.mpr ⟨(fun _ => v_X0_at (by decide) (by decide) pz_wq494), List.forall_mem_cons.mpr ⟨(fun _ => v_X5_isIn (by decide) (by decide) pz_wq529), List.forall_mem_cons.mpr ⟨((fun z => by cases z)), fun _ h => absurd h List.not_mem_nil⟩⟩⟩) true i k' h rfl
  · exact fun i k' h => pz_ctk (l := ct_X0_canGive) (P := fun b i k => b = false → (pz_cS 1 21 RX0 i k ∨ (k = pz_kac ∧ 1 ≤ 1 ∧ 60 ≤ 21 ∧ Cond.methodLink RX0 i arraycopyName ∈ pz_tbl))) (List.forall_mem_cons.mpr ⟨((fun z => by cases z)), List.forall_mem_cons.mpr ⟨((fun z => by cases z)), List.forall_mem_cons.mpr ⟨(fun _ => Or.inl (s_J9_max_7cf53 (by decide) (by decide) (Or.inl pz_wq634))), fun _ h => absurd h List.not_mem_nil⟩⟩⟩) false i k' h rfl
  · intro a M hlen hpre
    obtain ⟨c, i, rfl, hpre⟩ : ∃ c i, a = [.inr (.inr (0, c)), .inl i] ∧ (True) := by
      have hpre : (match (generalizing := false) a with | [.inr (.inr (0, c)), .inl i] => True | _ => False) := hpre
      split at hpre
      · exact ⟨_, _, rfl, hpre⟩
      · exact hpre.elim
    exact Nat.le_of_ble_eq_true rfl
  · intro a M hlen hcan hM hpre Ok hgo
    obtain ⟨c, i, rfl, hpre⟩ : ∃ c i, a = [.inr (.inr (0, c)), .inl i] ∧ (True) := by
      have hpre : (match (generalizing := false) a with | [.inr (.inr (0, c)), .inl i] => True | _ => False) := hpre
      split at hpre
      · exact ⟨_, _, rfl, hpre⟩
      · exact hpre.elim
    obtain ⟨k_c, hc_c⟩ := pz_tlm hcan
    have k_c : pz_kd c = 0 ∧ c < 231 := k_c
    have R_c := pz_kd0 k_c.1
    obtain ⟨k_i, hc_i⟩ := pz_tlm hc_c
    have l_i : -2147483648 ≤ i := k_i.1
    have u_i : i ≤ 2147483647 := k_i.2
    refine hgo (fun _ => false) 16 0 _ [] M ?_
    refine And.intro (True.intro) ?_
    intro r2 M2 k2 q2
    have R2 := pz_kd5 k2
    obtain ⟨q2, z2⟩ := q2
    subst z2
    refine And.intro (True.intro) ?_
    intro v5 M5 a5 b5 q5
    obtain ⟨q5, z5⟩ := q5
    subst z5
    refine And.intro (fun h8 => ?_) (fun h8 => ?_)
    · skip
      refine And.intro rfl ?_
      exact ⟨trivial, rfl⟩
    · skip
      refine And.intro (True.intro) ?_
      intro r14 M14 k14 q14
      have R14 := pz_kd5 k14
      obtain ⟨q14, z14⟩ := q14
      subst z14
      intro v17 e17 a17 b17
      refine And.intro (True.intro) ?_
      intro v20 M20 a20 b20 q20
      obtain ⟨q20, z20⟩ := q20
      subst z20
      refine And.intro rfl ?_
      exact ⟨trivial, rfl⟩
theorem v_X0_canGive {fr lo i : Nat} {own : String} (h1 : 1 + 1 ≤ fr) (h2 : 8 + (2 + 11) + 21 ≤ lo) (h3 : .methodLink own i yX0_canGive ∈ lw_tbl) : pz_cV fr lo own i k_X0_canGive :=
  pz_cVk (maxL := 2) (fr' := 1) (lo' := 21) 1 0 h_X0_canGive rfl ⟨(pz_nhc_RX0 yX0_canGive rfl).1, (pz_nhc_RX0 yX0_canGive rfl).2, pz_ds5⟩ ⟨pz_wq972, pz_wq970, pz_wq971, pz_wq2⟩ (Or.inl ⟨TX0, 8, rfl⟩) (fun a M _ h => by
    have h : (match (generalizing := false) a with | [.inr (.inr (0, c)), .inl i] => True | _ => False) := h
    split at h
    · exact ⟨_, _, rfl⟩
    · exact h.elim) h1 h2 h3
noncomputable def k_X0_givenTo : pz_C := (2, 1, fun a M => (match a with | [.inr (.inr (0, c)), .inl i] => pz_ic M | _ => False), fun a M r M' => (match a, r with | [.inr (.inr (0, c)), .inl i], some (.inl v) => (True) ∧ M = M' | _, _ => False))
noncomputable abbrev ct_X0_givenTo : List (Bool × Nat × pz_C) := [(true, 97, k_X0_canGive), (false, 100, k_J9_min_7cf53)]
set_option maxRecDepth 100000 in
set_option maxHeartbeats 4000000 in
theorem h_X0_givenTo : pz_H yX0_givenTo cX0_givenTo 4 (some .int) k_X0_givenTo 2 42 := by
  refine pz_mk (own := RX0) (tb := t_X0_givenTo) (fl := pz_flf fl_RX0) (ci := pz_cif ci_RX0) (ct := pz_ctf ct_X0_givenTo) (rz := false) (pz_pfc_RX0 yX0_givenTo rfl) rfl t_X0_givenTo_ok (pz_flk fl_RX0_ok) (pz_cik ci_RX0_ok) ?_ ?_ (Or.inl ⟨rfl, rfl⟩) ?_ ?_
  · exact fun i k' h => pz_ctk (l := ct_X0_givenTo) (P := fun b i k => b = true → pz_cV 2 42 RX0 i k) (List.forall_mem_cons.mpr ⟨(fun _ => v_X0_canGive (by decide) (by decide) pz_wq969), List.forall_mem_cons.mpr ⟨((fun z => by cases z)), fun _ h => absurd h List.not_mem_nil⟩⟩) true i k' h rfl
  · exact fun i k' h => pz_ctk (l := ct_X0_givenTo) (P := fun b i k => b = false → (pz_cS 2 42 RX0 i k ∨ (k = pz_kac ∧ 1 ≤ 2 ∧ 60 ≤ 42 ∧ Cond.methodLink RX0 i arraycopyName ∈ pz_tbl))) (List.forall_mem_cons.mpr ⟨((fun z => by cases z)), List.forall_mem_cons.mpr ⟨(fun _ => Or.inl (s_J9_min_7cf53 (by decide) (by decide) (Or.inl pz_wq973))), fun _ h => absurd h List.not_mem_nil⟩⟩) false i k' h rfl
  · intro a M hlen hpre
    obtain ⟨c, i, rfl, hpre⟩ : ∃ c i, a = [.inr (.inr (0, c)), .inl i] ∧ (pz_ic M) := by
      have hpre : (match (generalizing := false) a with | [.inr (.inr (0, c)), .inl i] => pz_ic M | _ => False) := hpre
      split at hpre
      · exact ⟨_, _, rfl, hpre⟩
      · exact hpre.elim
    exact Nat.le_of_ble_eq_true rfl
  · intro a M hlen hcan hM hpre Ok hgo
    obtain ⟨c, i, rfl, hpre⟩ : ∃ c i, a = [.inr (.inr (0, c)), .inl i] ∧ (pz_ic M) := by
      have hpre : (match (generalizing := false) a with | [.inr (.inr (0, c)), .inl i] => pz_ic M | _ => False) := hpre
      split at hpre
      · exact ⟨_, _, rfl, hpre⟩
      · exact hpre.elim
    obtain ⟨k_c, hc_c⟩ := pz_tlm hcan
    have k_c : pz_kd c = 0 ∧ c < 231 := k_c
    have R_c := pz_kd0 k_c.1
    obtain ⟨k_i, hc_i⟩ := pz_tlm hc_c
    have l_i : -2147483648 ≤ i := k_i.1
    have u_i : i ≤ 2147483647 := k_i.2
    have hI : pz_ic M := hpre
    have L4 : ∀ (fu : Nat) (x2 : Int) (x3 : Int), (M c 3 - x3).toNat < fu → (0 ≤ x3) → Ok 4 [some (.inr (.inr (0, c))), some (.inl i), some (.inl x2), some (.inl x3)] [] M := by
      intro fu
      induction fu with
      | zero => exact fun _ _ hn => absurd hn (Nat.not_lt_zero _)
      | succ fu ih4 =>
        intro x2 x3 hn4 g4_0
        refine hgo (fun p => Nat.beq p 4) 22 4 _ _ _ ?_
        intro v6 e6 a6 b6
        have I6 := hI.1 c (by first | decide | omega) (by first | decide | omega)
        refine And.intro (fun h9 => ?_) (fun h9 => ?_)
        · skip
          refine And.intro rfl ?_
          exact ⟨trivial, rfl⟩
        · skip
          refine And.intro (True.intro) ?_
          intro v16 M16 a16 b16 q16
          obtain ⟨q16, z16⟩ := q16
          subst z16
          refine And.intro (True.intro) ?_
          intro v19 M19 a19 b19 q19
          obtain ⟨q19, z19⟩ := q19
          subst z19
          intro v22 e22 a22 b22
          try rw [pz_wi (by first | decide | omega) (by first | decide | omega)] at e22
          intro v24 e24 a24 b24
          try rw [pz_wi (by first | decide | omega) (by first | decide | omega)] at e24
          exact ih4 _ _ (by first | decide | omega) (by first | decide | omega)
    refine hgo (fun p => Nat.beq p 4) 22 0 _ [] M ?_
    exact L4 _ _ _ (Nat.lt_succ_self _) (by first | decide | omega)
theorem v_X0_givenTo {fr lo i : Nat} {own : String} (h1 : 2 + 1 ≤ fr) (h2 : 8 + (4 + 11) + 42 ≤ lo) (h3 : .methodLink own i yX0_givenTo ∈ lw_tbl) : pz_cV fr lo own i k_X0_givenTo :=
  pz_cVk (maxL := 4) (fr' := 2) (lo' := 42) 1 0 h_X0_givenTo rfl ⟨(pz_nhc_RX0 yX0_givenTo rfl).1, (pz_nhc_RX0 yX0_givenTo rfl).2, pz_ds5⟩ ⟨pz_wq968, pz_wq966, pz_wq967, pz_wq2⟩ (Or.inl ⟨TX0, 8, rfl⟩) (fun a M _ h => by
    have h : (match (generalizing := false) a with | [.inr (.inr (0, c)), .inl i] => pz_ic M | _ => False) := h
    split at h
    · exact ⟨_, _, rfl⟩
    · exact h.elim) h1 h2 h3
end
section
noncomputable def k_X5_makeNew : pz_C := (5, 0, fun a M => (match a with | [.inr (.inr (5, c)), .inl p, .inl q, .inl w, .inl z] => pz_ic M | _ => False), fun a M r M' => (match a, r with | [.inr (.inr (5, c)), .inl p, .inl q, .inl w, .inl z], none => (M' = pz_mkl c p q w z M) ∧ pz_rt M M' | _, _ => False))
noncomputable abbrev ct_X5_makeNew : List (Bool × Nat × pz_C) := []
set_option maxRecDepth 100000 in
set_option maxHeartbeats 4000000 in
theorem h_X5_makeNew : pz_H yX5_makeNew cX5_makeNew 5 none k_X5_makeNew 0 0 := by
  refine pz_mk (own := RX5) (tb := t_X5_makeNew) (fl := pz_flf fl_RX5) (ci := fun _ => none) (ct := pz_ctf ct_X5_makeNew) (rz := false) (pz_pfc_RX5 yX5_makeNew rfl) rfl t_X5_makeNew_ok (pz_flk fl_RX5_ok) (fun i v h => by cases h) ?_ ?_ (rfl) ?_ ?_
  · exact fun i k' h => pz_ctk (l := ct_X5_makeNew) (P := fun b i k => b = true → pz_cV 0 0 RX5 i k) (fun _ h => absurd h List.not_mem_nil) true i k' h rfl
  · exact fun i k' h => pz_ctk (l := ct_X5_makeNew) (P := fun b i k => b = false → (pz_cS 0 0 RX5 i k ∨ (k = pz_kac ∧ 1 ≤ 0 ∧ 60 ≤ 0 ∧ Cond.methodLink RX5 i arraycopyName ∈ pz_tbl))) (fun _ h => absurd h List.not_mem_nil) false i k' h rfl
  · intro a M hlen hpre
    obtain ⟨c, p, q, w, z, rfl, hpre⟩ : ∃ c p q w z, a = [.inr (.inr (5, c)), .inl p, .inl q, .inl w, .inl z] ∧ (pz_ic M) := by
      have hpre : (match (generalizing := false) a with | [.inr (.inr (5, c)), .inl p, .inl q, .inl w, .inl z] => pz_ic M | _ => False) := hpre
      split at hpre
      · exact ⟨_, _, _, _, _, rfl, hpre⟩
      · exact hpre.elim
    exact Nat.le_of_ble_eq_true rfl
  · intro a M hlen hcan hM hpre Ok hgo
    obtain ⟨c, p, q, w, z, rfl, hpre⟩ : ∃ c p q w z, a = [.inr (.inr (5, c)), .inl p, .inl q, .inl w, .inl z] ∧ (pz_ic M) := by
      have hpre : (match (generalizing := false) a with | [.inr (.inr (5, c)), .inl p, .inl q, .inl w, .inl z] => pz_ic M | _ => False) := hpre
      split at hpre
      · exact ⟨_, _, _, _, _, rfl, hpre⟩
      · exact hpre.elim
    obtain ⟨k_c, hc_c⟩ := pz_tlm hcan
    have k_c : pz_kd c = 5 ∧ c < 231 := k_c
    have R_c := pz_kd5 k_c.1
    obtain ⟨k_p, hc_p⟩ := pz_tlm hc_c
    have l_p : -2147483648 ≤ p := k_p.1
    have u_p : p ≤ 2147483647 := k_p.2
    obtain ⟨k_q, hc_q⟩ := pz_tlm hc_p
    have l_q : -2147483648 ≤ q := k_q.1
    have u_q : q ≤ 2147483647 := k_q.2
    obtain ⟨k_w, hc_w⟩ := pz_tlm hc_q
    have l_w : -2147483648 ≤ w := k_w.1
    have u_w : w ≤ 2147483647 := k_w.2
    obtain ⟨k_z, hc_z⟩ := pz_tlm hc_w
    have l_z : -2147483648 ≤ z := k_z.1
    have u_z : z ≤ 2147483647 := k_z.2
    have hI : pz_ic M := hpre
    have hI0 := hI
    have hS : pz_rt M M := pz_rt.rf
    refine hgo (fun _ => false) 27 0 _ [] M ?_
    intro M2 e2
    have hS : pz_rt M M2 := by
      rw [e2]
      exact pz_rt_u hS (by unfold pz_iok; first | decide | omega)
    have hI : pz_ic M2 := hS hI0
    intro M7 e7
    have hS : pz_rt M M7 := by
      rw [e7]
      exact pz_rt_u hS (by unfold pz_iok; first | decide | omega)
    have hI : pz_ic M7 := hS hI0
    intro M12 e12
    have hS : pz_rt M M12 := by
      rw [e12]
      exact pz_rt_u hS (by unfold pz_iok; first | decide | omega)
    have hI : pz_ic M12 := hS hI0
    intro M18 e18
    have hS : pz_rt M M18 := by
      rw [e18]
      exact pz_rt_u hS (by unfold pz_iok; first | decide | omega)
    have hI : pz_ic M18 := hS hI0
    intro M23 e23
    have hS : pz_rt M M23 := by
      rw [e23]
      exact pz_rt_u hS (by unfold pz_iok; first | decide | omega)
    have hI : pz_ic M23 := hS hI0
    intro M28 e28
    have hS : pz_rt M M28 := by
      rw [e28]
      exact pz_rt_u hS (by unfold pz_iok; first | decide | omega)
    have hI : pz_ic M28 := hS hI0
    intro M33 e33
    have hS : pz_rt M M33 := by
      rw [e33]
      exact pz_rt_u hS (by unfold pz_iok; first | decide | omega)
    have hI : pz_ic M33 := hS hI0
    intro M38 e38
    have hS : pz_rt M M38 := by
      rw [e38]
      exact pz_rt_u hS (by unfold pz_iok; first | decide | omega)
    have hI : pz_ic M38 := hS hI0
    refine And.intro rfl ?_
    exact ⟨by rw [e38, e33, e28, e23, e18, e12, e7, e2]; rfl, hS⟩
theorem v_X5_makeNew {fr lo i : Nat} {own : String} (h1 : 0 + 1 ≤ fr) (h2 : 8 + (5 + 11) + 0 ≤ lo) (h3 : .methodLink own i yX5_makeNew ∈ lw_tbl) : pz_cV fr lo own i k_X5_makeNew :=
  pz_cVk (maxL := 5) (fr' := 0) (lo' := 0) 4 5 h_X5_makeNew rfl ⟨(pz_nhc_RX5 yX5_makeNew rfl).1, (pz_nhc_RX5 yX5_makeNew rfl).2, pz_ds19⟩ ⟨pz_wq435, pz_wq433, pz_wq434, pz_wq3⟩ (Or.inl ⟨TX5, 8, rfl⟩) (fun a M _ h => by
    have h : (match (generalizing := false) a with | [.inr (.inr (5, c)), .inl p, .inl q, .inl w, .inl z] => pz_ic M | _ => False) := h
    split at h
    · exact ⟨_, _, rfl⟩
    · exact h.elim) h1 h2 h3
noncomputable def k_X5_take : pz_C := (2, 0, fun a M => (match a with | [.inr (.inr (5, c)), .inr (.inr (5, d))] => pz_ic M | _ => False), fun a M r M' => (match a, r with | [.inr (.inr (5, c)), .inr (.inr (5, d))], none => (M' = pz_ltk c d M 8) ∧ pz_rt M M' | _, _ => False))
noncomputable abbrev ct_X5_take : List (Bool × Nat × pz_C) := []
set_option maxRecDepth 100000 in
set_option maxHeartbeats 4000000 in
theorem h_X5_take : pz_H yX5_take cX5_take 2 none k_X5_take 0 0 := by
  refine pz_mk (own := RX5) (tb := t_X5_take) (fl := pz_flf fl_RX5) (ci := fun _ => none) (ct := pz_ctf ct_X5_take) (rz := false) (pz_pfc_RX5 yX5_take rfl) rfl t_X5_take_ok (pz_flk fl_RX5_ok) (fun i v h => by cases h) ?_ ?_ (rfl) ?_ ?_
  · exact fun i k' h => pz_ctk (l := ct_X5_take) (P := fun b i k => b = true → pz_cV 0 0 RX5 i k) (fun _ h => absurd h List.not_mem_nil) true i k' h rfl
  · exact fun i k' h => pz_ctk (l := ct_X5_take) (P := fun b i k => b = false → (pz_cS 0 0 RX5 i k ∨ (k = pz_kac ∧ 1 ≤ 0 ∧ 60 ≤ 0 ∧ Cond.methodLink RX5 i arraycopyName ∈ pz_tbl))) (fun _ h => absurd h List.not_mem_nil) false i k' h rfl
  · intro a M hlen hpre
    obtain ⟨c, d, rfl, hpre⟩ : ∃ c d, a = [.inr (.inr (5, c)), .inr (.inr (5, d))] ∧ (pz_ic M) := by
      have hpre : (match (generalizing := false) a with | [.inr (.inr (5, c)), .inr (.inr (5, d))] => pz_ic M | _ => False) := hpre
      split at hpre
      · exact ⟨_, _, rfl, hpre⟩
      · exact hpre.elim
    exact Nat.le_of_ble_eq_true rfl
  · intro a M hlen hcan hM hpre Ok hgo
    obtain ⟨c, d, rfl, hpre⟩ : ∃ c d, a = [.inr (.inr (5, c)), .inr (.inr (5, d))] ∧ (pz_ic M) := by
      have hpre : (match (generalizing := false) a with | [.inr (.inr (5, c)), .inr (.inr (5, d))] => pz_ic M | _ => False) := hpre
      split at hpre
      · exact ⟨_, _, rfl, hpre⟩
      · exact hpre.elim
    obtain ⟨k_c, hc_c⟩ := pz_tlm hcan
    have k_c : pz_kd c = 5 ∧ c < 231 := k_c
    have R_c := pz_kd5 k_c.1
    obtain ⟨k_d, hc_d⟩ := pz_tlm hc_c
    have k_d : pz_kd d = 5 ∧ d < 231 := k_d
    have R_d := pz_kd5 k_d.1
    have hI : pz_ic M := hpre
    have hI0 := hI
    have hS : pz_rt M M := pz_rt.rf
    have T0 : M = pz_ltk c d M 0 := pz_ltk_0
    refine hgo (fun _ => false) 35 0 _ [] M ?_
    intro v2 e2 a2 b2
    intro M5 e5
    have hS : pz_rt M M5 := by
      rw [e5]
      exact pz_rt_u hS (by unfold pz_iok; first | decide | omega)
    have hI : pz_ic M5 := hS hI0
    have T5 := pz_ltk_s (n := 0) T0 e2 e5
    intro v10 e10 a10 b10
    intro M13 e13
    have hS : pz_rt M M13 := by
      rw [e13]
      exact pz_rt_u hS (by unfold pz_iok; first | decide | omega)
    have hI : pz_ic M13 := hS hI0
    have T13 := pz_ltk_s (n := 1) T5 e10 e13
    intro v18 e18 a18 b18
    intro M21 e21
    have hS : pz_rt M M21 := by
      rw [e21]
      exact pz_rt_u hS (by unfold pz_iok; first | decide | omega)
    have hI : pz_ic M21 := hS hI0
    have T21 := pz_ltk_s (n := 2) T13 e18 e21
    intro v26 e26 a26 b26
    intro M29 e29
    have hS : pz_rt M M29 := by
      rw [e29]
      exact pz_rt_u hS (by unfold pz_iok; first | decide | omega)
    have hI : pz_ic M29 := hS hI0
    have T29 := pz_ltk_s (n := 3) T21 e26 e29
    intro v34 e34 a34 b34
    intro M37 e37
    have hS : pz_rt M M37 := by
      rw [e37]
      exact pz_rt_u hS (by unfold pz_iok; first | decide | omega)
    have hI : pz_ic M37 := hS hI0
    have T37 := pz_ltk_s (n := 4) T29 e34 e37
    intro v42 e42 a42 b42
    intro M45 e45
    have hS : pz_rt M M45 := by
      rw [e45]
      exact pz_rt_u hS (by unfold pz_iok; first | decide | omega)
    have hI : pz_ic M45 := hS hI0
    have T45 := pz_ltk_s (n := 5) T37 e42 e45
    intro v50 e50 a50 b50
    intro M53 e53
    have hS : pz_rt M M53 := by
      rw [e53]
      exact pz_rt_u hS (by unfold pz_iok; first | decide | omega)
    have hI : pz_ic M53 := hS hI0
    have T53 := pz_ltk_s (n := 6) T45 e50 e53
    intro v58 e58 a58 b58
    intro M61 e61
    have hS : pz_rt M M61 := by
      rw [e61]
      exact pz_rt_u hS (by unfold pz_iok; first | decide | omega)
    have hI : pz_ic M61 := hS hI0
    have T61 := pz_ltk_s (n := 7) T53 e58 e61
    refine And.intro rfl ?_
    exact ⟨T61, hS⟩
theorem v_X5_take {fr lo i : Nat} {own : String} (h1 : 0 + 1 ≤ fr) (h2 : 8 + (2 + 11) + 0 ≤ lo) (h3 : .methodLink own i yX5_take ∈ lw_tbl) : pz_cV fr lo own i k_X5_take :=
  pz_cVk (maxL := 2) (fr' := 0) (lo' := 0) 1 5 h_X5_take rfl ⟨(pz_nhc_RX5 yX5_take rfl).1, (pz_nhc_RX5 yX5_take rfl).2, pz_ds41⟩ ⟨pz_wq473, pz_wq471, pz_wq472, pz_wq3⟩ (Or.inl ⟨TX5, 8, rfl⟩) (fun a M _ h => by
    have h : (match (generalizing := false) a with | [.inr (.inr (5, c)), .inr (.inr (5, d))] => pz_ic M | _ => False) := h
    split at h
    · exact ⟨_, _, rfl⟩
    · exact h.elim) h1 h2 h3
noncomputable def k_X6_cell : pz_C := (3, 1, fun a M => (match a with | [.inr (.inr (6, r)), .inl i, .inl j] => pz_ic M | _ => False), fun a M r M' => (match a, r with | [.inr (.inr (6, r)), .inl i, .inl j], some (.inl v) => (pz_cel M r i j v) ∧ M = M' | _, _ => False))
noncomputable abbrev ct_X6_cell : List (Bool × Nat × pz_C) := []
set_option maxRecDepth 100000 in
set_option maxHeartbeats 4000000 in
theorem h_X6_cell : pz_H yX6_cell cX6_cell 3 (some .int) k_X6_cell 0 0 := by
  refine pz_mk (own := RX6) (tb := t_X6_cell) (fl := pz_flf fl_RX6) (ci := fun _ => none) (ct := pz_ctf ct_X6_cell) (rz := false) (pz_pfc_RX6 yX6_cell rfl) rfl t_X6_cell_ok (pz_flk fl_RX6_ok) (fun i v h => by cases h) ?_ ?_ (Or.inl ⟨rfl, rfl⟩) ?_ ?_
  · exact fun i k' h => pz_ctk (l := ct_X6_cell) (P := fun b i k => b = true → pz_cV 0 0 RX6 i k) (fun _ h => absurd h List.not_mem_nil) true i k' h rfl
  · exact fun i k' h => pz_ctk (l := ct_X6_cell) (P := fun b i k => b = false → (pz_cS 0 0 RX6 i k ∨ (k = pz_kac ∧ 1 ≤ 0 ∧ 60 ≤ 0 ∧ Cond.methodLink RX6 i arraycopyName ∈ pz_tbl))) (fun _ h => absurd h List.not_mem_nil) false i k' h rfl
  · intro a M hlen hpre
    obtain ⟨r, i, j, rfl, hpre⟩ : ∃ r i j, a = [.inr (.inr (6, r)), .inl i, .inl j] ∧ (pz_ic M) := by
      have hpre : (match (generalizing := false) a with | [.inr (.inr (6, r)), .inl i, .inl j] => pz_ic M | _ => False) := hpre
      split at hpre
      · exact ⟨_, _, _, rfl, hpre⟩
      · exact hpre.elim
    exact Nat.le_of_ble_eq_true rfl
  · intro a M hlen hcan hM hpre Ok hgo
    obtain ⟨r, i, j, rfl, hpre⟩ : ∃ r i j, a = [.inr (.inr (6, r)), .inl i, .inl j] ∧ (pz_ic M) := by
      have hpre : (match (generalizing := false) a with | [.inr (.inr (6, r)), .inl i, .inl j] => pz_ic M | _ => False) := hpre
      split at hpre
      · exact ⟨_, _, _, rfl, hpre⟩
      · exact hpre.elim
    obtain ⟨k_r, hc_r⟩ := pz_tlm hcan
    have k_r : pz_kd r = 6 ∧ r < 231 := k_r
    have R_r := pz_kd6 k_r.1
    obtain ⟨k_i, hc_i⟩ := pz_tlm hc_r
    have l_i : -2147483648 ≤ i := k_i.1
    have u_i : i ≤ 2147483647 := k_i.2
    obtain ⟨k_j, hc_j⟩ := pz_tlm hc_i
    have l_j : -2147483648 ≤ j := k_j.1
    have u_j : j ≤ 2147483647 := k_j.2
    have hI : pz_ic M := hpre
    refine hgo (fun _ => false) 24 0 _ [] M ?_
    refine And.intro (fun h1 => ?_) (fun h1 => ?_)
    · skip
      refine And.intro rfl ?_
      first
        | exact ⟨⟨fun _ => by rw [e30, L22, show v29.toNat = 5 * i.toNat + j.toNat by omega], fun y => absurd ⟨by omega, by omega, by omega, by omega⟩ y⟩, rfl⟩
        | exact ⟨⟨fun y => by omega, fun _ => rfl⟩, rfl⟩
    · skip
      intro v6 e6 a6 b6
      have I6 := hI.2.2.1 r (by first | decide | omega) (by first | decide | omega)
      refine And.intro (fun h9 => ?_) (fun h9 => ?_)
      · skip
        refine And.intro rfl ?_
        first
          | exact ⟨⟨fun _ => by rw [e30, L22, show v29.toNat = 5 * i.toNat + j.toNat by omega], fun y => absurd ⟨by omega, by omega, by omega, by omega⟩ y⟩, rfl⟩
          | exact ⟨⟨fun y => by omega, fun _ => rfl⟩, rfl⟩
      · skip
        refine And.intro (fun h13 => ?_) (fun h13 => ?_)
        · skip
          refine And.intro rfl ?_
          first
            | exact ⟨⟨fun _ => by rw [e30, L22, show v29.toNat = 5 * i.toNat + j.toNat by omega], fun y => absurd ⟨by omega, by omega, by omega, by omega⟩ y⟩, rfl⟩
            | exact ⟨⟨fun y => by omega, fun _ => rfl⟩, rfl⟩
        · skip
          refine And.intro (fun h18 => ?_) (fun h18 => ?_)
          · skip
            refine And.intro rfl ?_
            first
              | exact ⟨⟨fun _ => by rw [e30, L22, show v29.toNat = 5 * i.toNat + j.toNat by omega], fun y => absurd ⟨by omega, by omega, by omega, by omega⟩ y⟩, rfl⟩
              | exact ⟨⟨fun y => by omega, fun _ => rfl⟩, rfl⟩
          · skip
            intro r22 e22 k22
            have R22 := pz_kdA k22 (by decide) (by decide)
            have L22 := e22.trans (pz_rf6 R_r)
            intro v27 e27 a27 b27
            try rw [pz_wi (by first | decide | omega) (by first | decide | omega)] at e27
            intro v29 e29 a29 b29
            try rw [pz_wi (by first | decide | omega) (by first | decide | omega)] at e29
            have lo30 : (0 : Int) ≤ v29 := by omega
            have tn30 : (((v29).toNat : Nat) : Int) = v29 := Int.toNat_of_nonneg lo30
            refine And.intro (lo30) (And.intro (show _ < (80 : Int) from by omega) ?_)
            intro v30 e30 a30 b30
            refine And.intro rfl ?_
            first
              | exact ⟨⟨fun _ => by rw [e30, L22, show v29.toNat = 5 * i.toNat + j.toNat by omega], fun y => absurd ⟨by omega, by omega, by omega, by omega⟩ y⟩, rfl⟩
              | exact ⟨⟨fun y => by omega, fun _ => rfl⟩, rfl⟩
theorem v_X6_cell {fr lo i : Nat} {own : String} (h1 : 0 + 1 ≤ fr) (h2 : 8 + (3 + 11) + 0 ≤ lo) (h3 : .methodLink own i yX6_cell ∈ lw_tbl) : pz_cV fr lo own i k_X6_cell :=
  pz_cVk (maxL := 3) (fr' := 0) (lo' := 0) 2 6 h_X6_cell rfl ⟨(pz_nhc_RX6 yX6_cell rfl).1, (pz_nhc_RX6 yX6_cell rfl).2, pz_ds10⟩ ⟨pz_wq578, pz_wq576, pz_wq577, pz_wq6⟩ (Or.inl ⟨TX6, 2, rfl⟩) (fun a M _ h => by
    have h : (match (generalizing := false) a with | [.inr (.inr (6, r)), .inl i, .inl j] => pz_ic M | _ => False) := h
    split at h
    · exact ⟨_, _, rfl⟩
    · exact h.elim) h1 h2 h3
noncomputable def k_X6_take : pz_C := (2, 0, fun a M => (match a with | [.inr (.inr (6, r)), .inr (.inr (6, o))] => pz_ic M | _ => False), fun a M r M' => (match a, r with | [.inr (.inr (6, r)), .inr (.inr (6, o))], none => (pz_t6 r o M M') ∧ pz_rt M M' | _, _ => False))
noncomputable abbrev ct_X6_take : List (Bool × Nat × pz_C) := [(false, 19, pz_kac)]
set_option maxRecDepth 100000 in
set_option maxHeartbeats 4000000 in
theorem h_X6_take : pz_H yX6_take cX6_take 2 none k_X6_take 1 60 := by
  refine pz_mk (own := RX6) (tb := t_X6_take) (fl := pz_flf fl_RX6) (ci := fun _ => none) (ct := pz_ctf ct_X6_take) (rz := false) (pz_pfc_RX6 yX6_take rfl) rfl t_X6_take_ok (pz_flk fl_RX6_ok) (fun i v h => by cases h) ?_ ?_ (rfl) ?_ ?_
  · exact fun i k' h => pz_ctk (l := ct_X6_take) (P := fun b i k => b = true → pz_cV 1 60 RX6 i k) (List.forall_mem_cons.mpr ⟨((fun z => by cases z)), fun _ h => absurd h List.not_mem_nil⟩) true i k' h rfl
  · exact fun i k' h => pz_ctk (l := ct_X6_take) (P := fun b i k => b = false → (pz_cS 1 60 RX6 i k ∨ (k = pz_kac ∧ 1 ≤ 1 ∧ 60 ≤ 60 ∧ Cond.methodLink RX6 i arraycopyName ∈ pz_tbl))) (List.forall_mem_cons.mpr ⟨(fun _ => Or.inr ⟨rfl, by decide, by decide, pz_tbl_in (by decide +kernel) rfl⟩), fun _ h => absurd h List.not_mem_nil⟩) false i k' h rfl
  · intro a M hlen hpre
    obtain ⟨r, o, rfl, hpre⟩ : ∃ r o, a = [.inr (.inr (6, r)), .inr (.inr (6, o))] ∧ (pz_ic M) := by
      have hpre : (match (generalizing := false) a with | [.inr (.inr (6, r)), .inr (.inr (6, o))] => pz_ic M | _ => False) := hpre
      split at hpre
      · exact ⟨_, _, rfl, hpre⟩
      · exact hpre.elim
    exact Nat.le_of_ble_eq_true rfl
  · intro a M hlen hcan hM hpre Ok hgo
    obtain ⟨r, o, rfl, hpre⟩ : ∃ r o, a = [.inr (.inr (6, r)), .inr (.inr (6, o))] ∧ (pz_ic M) := by
      have hpre : (match (generalizing := false) a with | [.inr (.inr (6, r)), .inr (.inr (6, o))] => pz_ic M | _ => False) := hpre
      split at hpre
      · exact ⟨_, _, rfl, hpre⟩
      · exact hpre.elim
    obtain ⟨k_r, hc_r⟩ := pz_tlm hcan
    have k_r : pz_kd r = 6 ∧ r < 231 := k_r
    have R_r := pz_kd6 k_r.1
    obtain ⟨k_o, hc_o⟩ := pz_tlm hc_r
    have k_o : pz_kd o = 6 ∧ o < 231 := k_o
    have R_o := pz_kd6 k_o.1
    have hI : pz_ic M := hpre
    have hI0 := hI
    have hS : pz_rt M M := pz_rt.rf
    refine hgo (fun _ => false) 17 0 _ [] M ?_
    intro v2 e2 a2 b2
    have I2 := hI.2.2.1 o (by first | decide | omega) (by first | decide | omega)
    intro M5 e5
    have hS : pz_rt M M5 := by
      rw [e5]
      exact pz_rt_u hS (by unfold pz_iok; first | decide | omega)
    have hI : pz_ic M5 := hS hI0
    intro r9 e9 k9
    have R9 := pz_kdA k9 (by decide) (by decide)
    have Q9 := pz_nm e9 k_o.1 (by decide) (by decide) rfl
    have L9 := e9.trans (pz_rf6 R_o)
    intro r14 e14 k14
    have R14 := pz_kdA k14 (by decide) (by decide)
    have Q14 := pz_nm e14 k_r.1 (by decide) (by decide) rfl
    have L14 := e14.trans (pz_rf6 R_r)
    intro r19 e19 k19
    have R19 := pz_kdA k19 (by decide) (by decide)
    have Q19 := pz_nm e19 k_r.1 (by decide) (by decide) rfl
    have Z22 : (((pz_ak 17).2 : Nat) : Int) = 80 := rfl
    refine And.intro ⟨_, _, _, _, _, _, _, rfl, rfl, rfl, by decide, by decide, by decide, by decide, by decide⟩ ?_
    intro M23 q23
    obtain ⟨k123, a123, k223, a223, sp23, dp23, n23, z123, -, z223⟩ := q23
    cases z123
    have hS : pz_rt M M23 := hS.tr (by
      rw [z223]
      exact pz_rt_c (by first | decide | omega))
    have hI : pz_ic M23 := hS hI0
    have T23 := pz_t6_of R_r R_o e5 e2 L9 L14 rfl rfl rfl z223
    refine And.intro rfl ?_
    exact ⟨T23, hS⟩
theorem v_X6_take {fr lo i : Nat} {own : String} (h1 : 1 + 1 ≤ fr) (h2 : 8 + (2 + 11) + 60 ≤ lo) (h3 : .methodLink own i yX6_take ∈ lw_tbl) : pz_cV fr lo own i k_X6_take :=
  pz_cVk (maxL := 2) (fr' := 1) (lo' := 60) 1 6 h_X6_take rfl ⟨(pz_nhc_RX6 yX6_take rfl).1, (pz_nhc_RX6 yX6_take rfl).2, pz_ds42⟩ ⟨pz_wq827, pz_wq825, pz_wq826, pz_wq6⟩ (Or.inl ⟨TX6, 2, rfl⟩) (fun a M _ h => by
    have h : (match (generalizing := false) a with | [.inr (.inr (6, r)), .inr (.inr (6, o))] => pz_ic M | _ => False) := h
    split at h
    · exact ⟨_, _, rfl⟩
    · exact h.elim) h1 h2 h3
noncomputable def k_X6_add : pz_C := (6, 0, fun a M => (match a with | [.inr (.inr (6, r)), .inl n1, .inl n2, .inl n3, .inl n4, .inl n5] => pz_ic M ∧ r = 19 | _ => False), fun a M r M' => (match a, r with | [.inr (.inr (6, r)), .inl n1, .inl n2, .inl n3, .inl n4, .inl n5], none => (pq_rz [n1, n2, n3, n4, n5] M M' ∧ ∀ b j : Nat, b ≠ 19 → b ≠ 26 → M' b j = M b j) ∧ pq_pr pq_Pl M M' | _, _ => False))
noncomputable abbrev ct_X6_add : List (Bool × Nat × pz_C) := []
set_option maxRecDepth 100000 in
set_option maxHeartbeats 4000000 in
theorem h_X6_add : pz_H yX6_add cX6_add 7 none k_X6_add 0 0 := by
  refine pz_mk (own := RX6) (tb := t_X6_add) (fl := pz_flf fl_RX6) (ci := fun _ => none) (ct := pz_ctf ct_X6_add) (rz := false) (pz_pfc_RX6 yX6_add rfl) rfl t_X6_add_ok (pz_flk fl_RX6_ok) (fun i v h => by cases h) ?_ ?_ (rfl) ?_ ?_
  · exact fun i k' h => pz_ctk (l := ct_X6_add) (P := fun b i k => b = true → pz_cV 0 0 RX6 i k) (fun _ h => absurd h List.not_mem_nil) true i k' h rfl
  · exact fun i k' h => pz_ctk (l := ct_X6_add) (P := fun b i k => b = false → (pz_cS 0 0 RX6 i k ∨ (k = pz_kac ∧ 1 ≤ 0 ∧ 60 ≤ 0 ∧ Cond.methodLink RX6 i arraycopyName ∈ pz_tbl))) (fun _ h => absurd h List.not_mem_nil) false i k' h rfl
  · intro a M hlen hpre
    obtain ⟨r, n1, n2, n3, n4, n5, rfl, hpre⟩ : ∃ r n1 n2 n3 n4 n5, a = [.inr (.inr (6, r)), .inl n1, .inl n2, .inl n3, .inl n4, .inl n5] ∧ (pz_ic M ∧ r = 19) := by
      have hpre : (match (generalizing := false) a with | [.inr (.inr (6, r)), .inl n1, .inl n2, .inl n3, .inl n4, .inl n5] => pz_ic M ∧ r = 19 | _ => False) := hpre
      split at hpre
      · exact ⟨_, _, _, _, _, _, rfl, hpre⟩
      · exact hpre.elim
    exact Nat.le_of_ble_eq_true rfl
  · intro a M hlen hcan hM hpre Ok hgo
    obtain ⟨r, n1, n2, n3, n4, n5, rfl, hpre⟩ : ∃ r n1 n2 n3 n4 n5, a = [.inr (.inr (6, r)), .inl n1, .inl n2, .inl n3, .inl n4, .inl n5] ∧ (pz_ic M ∧ r = 19) := by
      have hpre : (match (generalizing := false) a with | [.inr (.inr (6, r)), .inl n1, .inl n2, .inl n3, .inl n4, .inl n5] => pz_ic M ∧ r = 19 | _ => False) := hpre
      split at hpre
      · exact ⟨_, _, _, _, _, _, rfl, hpre⟩
      · exact hpre.elim
    obtain ⟨k_r, hc_r⟩ := pz_tlm hcan
    have k_r : pz_kd r = 6 ∧ r < 231 := k_r
    have R_r := pz_kd6 k_r.1
    obtain ⟨k_n1, hc_n1⟩ := pz_tlm hc_r
    have l_n1 : -2147483648 ≤ n1 := k_n1.1
    have u_n1 : n1 ≤ 2147483647 := k_n1.2
    obtain ⟨k_n2, hc_n2⟩ := pz_tlm hc_n1
    have l_n2 : -2147483648 ≤ n2 := k_n2.1
    have u_n2 : n2 ≤ 2147483647 := k_n2.2
    obtain ⟨k_n3, hc_n3⟩ := pz_tlm hc_n2
    have l_n3 : -2147483648 ≤ n3 := k_n3.1
    have u_n3 : n3 ≤ 2147483647 := k_n3.2
    obtain ⟨k_n4, hc_n4⟩ := pz_tlm hc_n3
    have l_n4 : -2147483648 ≤ n4 := k_n4.1
    have u_n4 : n4 ≤ 2147483647 := k_n4.2
    obtain ⟨k_n5, hc_n5⟩ := pz_tlm hc_n4
    have l_n5 : -2147483648 ≤ n5 := k_n5.1
    have u_n5 : n5 ≤ 2147483647 := k_n5.2
    have hI : pz_ic M := hpre.1
    have hI0 := hI
    have hS : pq_pr pq_Pl M M := pq_pr.rf
    have hr : r = 19 := hpre.2
    refine hgo (fun _ => false) 51 0 _ [] M ?_
    intro v1 e1 a1 b1
    have I1 := hI.2.2.1 r (by first | decide | omega) (by first | decide | omega)
    refine And.intro (fun h6 => ?_) (fun h6 => ?_)
    · skip
      refine And.intro rfl ?_
      first
        | (have Z69 : v69 = M 19 0 := by
             rw [e69, hr, e66, L57, pz_una (by decide), e55, L46, pz_una (by decide), e44, L36, pz_una (by decide), e34, L26, pz_una (by decide), e24, L18]
             exact pz_una (by decide)
           have F9 : M74 = pz_u (pz_u (pz_u (pz_u (pz_u (pz_u M 26 v14.toNat n1) 26 v32.toNat n2) 26 v42.toNat n3) 26 v52.toNat n4) 26 v63.toNat n5) 19 0 v73 := by
             rw [e74, hr, e66, L57, e55, L46, e44, L36, e34, L26, e24, L18]
           have I19 := hI0.2.2.1 19 (by decide) (by decide)
           have F8 := pq_rz_of I19.1 (by first | decide | omega) (by first | decide | omega) (by first | decide | omega) (by first | decide | omega) (by first | decide | omega) (by first | decide | omega) F9
           exact ⟨⟨F8.1, F8.2⟩, hS⟩)
        | exact ⟨⟨fun y => absurd y (by rw [hr] at e1; omega), fun _ _ _ _ => rfl⟩, hS⟩
    · skip
      intro v10 e10 a10 b10
      have I10 := hI.2.2.1 r (by first | decide | omega) (by first | decide | omega)
      intro v14 e14 a14 b14
      try rw [pz_wi (by first | decide | omega) (by first | decide | omega)] at e14
      have V14 : v14 = 5 * M 19 0 := by
        rw [hr] at e10
        omega
      intro r18 e18 k18
      have R18 := pz_kdA k18 (by decide) (by decide)
      have Q18 := pz_nm e18 k_r.1 (by decide) (by decide) rfl
      rw [hr] at e18
      have L18 : r18 = 26 := e18
      have lo24 : (0 : Int) ≤ v14 := by omega
      have tn24 : (((v14).toNat : Nat) : Int) = v14 := Int.toNat_of_nonneg lo24
      refine And.intro (lo24) (And.intro (show _ < (80 : Int) from by omega) ?_)
      intro M24 e24
      have hS : pq_pr pq_Pl M M24 := by
        rw [e24]
        exact pq_pr_u hS (by unfold pq_Pl; first | decide | omega) (by unfold pz_iok; first | decide | omega)
      have hI : pz_ic M24 := hS.1 hI0
      have T24_0 := pz_uve e24 r 0
      intro r26 e26 k26
      have R26 := pz_kdA k26 (by decide) (by decide)
      have Q26 := pz_nm e26 k_r.1 (by decide) (by decide) rfl
      rw [hr] at e26
      have L26 : r26 = 26 := e26
      intro v32 e32 a32 b32
      try rw [pz_wi (by first | decide | omega) (by first | decide | omega)] at e32
      have lo34 : (0 : Int) ≤ v32 := by omega
      have tn34 : (((v32).toNat : Nat) : Int) = v32 := Int.toNat_of_nonneg lo34
      refine And.intro (lo34) (And.intro (show _ < (80 : Int) from by omega) ?_)
      intro M34 e34
      have hS : pq_pr pq_Pl M M34 := by
        rw [e34]
        exact pq_pr_u hS (by unfold pq_Pl; first | decide | omega) (by unfold pz_iok; first | decide | omega)
      have hI : pz_ic M34 := hS.1 hI0
      have T34_0 := pz_uve e34 r 0
      intro r36 e36 k36
      have R36 := pz_kdA k36 (by decide) (by decide)
      have Q36 := pz_nm e36 k_r.1 (by decide) (by decide) rfl
      rw [hr] at e36
      have L36 : r36 = 26 := e36
      intro v42 e42 a42 b42
      try rw [pz_wi (by first | decide | omega) (by first | decide | omega)] at e42
      have lo44 : (0 : Int) ≤ v42 := by omega
      have tn44 : (((v42).toNat : Nat) : Int) = v42 := Int.toNat_of_nonneg lo44
      refine And.intro (lo44) (And.intro (show _ < (80 : Int) from by omega) ?_)
      intro M44 e44
      have hS : pq_pr pq_Pl M M44 := by
        rw [e44]
        exact pq_pr_u hS (by unfold pq_Pl; first | decide | omega) (by unfold pz_iok; first | decide | omega)
      have hI : pz_ic M44 := hS.1 hI0
      have T44_0 := pz_uve e44 r 0
      intro r46 e46 k46
      have R46 := pz_kdA k46 (by decide) (by decide)
      have Q46 := pz_nm e46 k_r.1 (by decide) (by decide) rfl
      rw [hr] at e46
      have L46 : r46 = 26 := e46
      intro v52 e52 a52 b52
      try rw [pz_wi (by first | decide | omega) (by first | decide | omega)] at e52
      have lo55 : (0 : Int) ≤ v52 := by omega
      have tn55 : (((v52).toNat : Nat) : Int) = v52 := Int.toNat_of_nonneg lo55
      refine And.intro (lo55) (And.intro (show _ < (80 : Int) from by omega) ?_)
      intro M55 e55
      have hS : pq_pr pq_Pl M M55 := by
        rw [e55]
        exact pq_pr_u hS (by unfold pq_Pl; first | decide | omega) (by unfold pz_iok; first | decide | omega)
      have hI : pz_ic M55 := hS.1 hI0
      have T55_0 := pz_uve e55 r 0
      intro r57 e57 k57
      have R57 := pz_kdA k57 (by decide) (by decide)
      have Q57 := pz_nm e57 k_r.1 (by decide) (by decide) rfl
      rw [hr] at e57
      have L57 : r57 = 26 := e57
      intro v63 e63 a63 b63
      try rw [pz_wi (by first | decide | omega) (by first | decide | omega)] at e63
      have lo66 : (0 : Int) ≤ v63 := by omega
      have tn66 : (((v63).toNat : Nat) : Int) = v63 := Int.toNat_of_nonneg lo66
      refine And.intro (lo66) (And.intro (show _ < (80 : Int) from by omega) ?_)
      intro M66 e66
      have hS : pq_pr pq_Pl M M66 := by
        rw [e66]
        exact pq_pr_u hS (by unfold pq_Pl; first | decide | omega) (by unfold pz_iok; first | decide | omega)
      have hI : pz_ic M66 := hS.1 hI0
      have T66_0 := pz_uve e66 r 0
      intro v69 e69 a69 b69
      have I69 := hI.2.2.1 r (by first | decide | omega) (by first | decide | omega)
      intro v73 e73 a73 b73
      try rw [pz_wi (by first | decide | omega) (by first | decide | omega)] at e73
      intro M74 e74
      have hS : pq_pr pq_Pl M M74 := by
        rw [e74]
        exact pq_pr_u hS (by unfold pq_Pl; first | decide | omega) (by unfold pz_iok; first | decide | omega)
      have hI : pz_ic M74 := hS.1 hI0
      have T74_0 := pz_uve e74 r 0
      refine And.intro rfl ?_
      first
        | (have Z69 : v69 = M 19 0 := by
             rw [e69, hr, e66, L57, pz_una (by decide), e55, L46, pz_una (by decide), e44, L36, pz_una (by decide), e34, L26, pz_una (by decide), e24, L18]
             exact pz_una (by decide)
           have F9 : M74 = pz_u (pz_u (pz_u (pz_u (pz_u (pz_u M 26 v14.toNat n1) 26 v32.toNat n2) 26 v42.toNat n3) 26 v52.toNat n4) 26 v63.toNat n5) 19 0 v73 := by
             rw [e74, hr, e66, L57, e55, L46, e44, L36, e34, L26, e24, L18]
           have I19 := hI0.2.2.1 19 (by decide) (by decide)
           have F8 := pq_rz_of I19.1 (by first | decide | omega) (by first | decide | omega) (by first | decide | omega) (by first | decide | omega) (by first | decide | omega) (by first | decide | omega) F9
           exact ⟨⟨F8.1, F8.2⟩, hS⟩)
        | exact ⟨⟨fun y => absurd y (by rw [hr] at e1; omega), fun _ _ _ _ => rfl⟩, hS⟩
theorem v_X6_add {fr lo i : Nat} {own : String} (h1 : 0 + 1 ≤ fr) (h2 : 8 + (7 + 11) + 0 ≤ lo) (h3 : .methodLink own i yX6_add ∈ lw_tbl) : pz_cV fr lo own i k_X6_add :=
  pz_cVk (maxL := 7) (fr' := 0) (lo' := 0) 5 6 h_X6_add rfl ⟨(pz_nhc_RX6 yX6_add rfl).1, (pz_nhc_RX6 yX6_add rfl).2, pz_ds22⟩ ⟨pz_wq811, pz_wq809, pz_wq810, pz_wq6⟩ (Or.inl ⟨TX6, 2, rfl⟩) (fun a M _ h => by
    have h : (match (generalizing := false) a with | [.inr (.inr (6, r)), .inl n1, .inl n2, .inl n3, .inl n4, .inl n5] => pz_ic M ∧ r = 19 | _ => False) := h
    split at h
    · exact ⟨_, _, rfl⟩
    · exact h.elim) h1 h2 h3
noncomputable def k_X3_clear : pz_C := (1, 0, fun a M => (match a with | [.inr (.inr (3, g))] => pz_ic M ∧ g = 12 | _ => False), fun a M r M' => (match a, r with | [.inr (.inr (3, g))], none => (pq_clr M M') ∧ pq_pr pq_Pl M M' | _, _ => False))
noncomputable abbrev ct_X3_clear : List (Bool × Nat × pz_C) := []
set_option maxRecDepth 100000 in
set_option maxHeartbeats 4000000 in
theorem h_X3_clear : pz_H yX3_clear cX3_clear 1 none k_X3_clear 0 0 := by
  refine pz_mk (own := RX3) (tb := t_X3_clear) (fl := pz_flf fl_RX3) (ci := fun _ => none) (ct := pz_ctf ct_X3_clear) (rz := false) (pz_pfc_RX3 yX3_clear rfl) rfl t_X3_clear_ok (pz_flk fl_RX3_ok) (fun i v h => by cases h) ?_ ?_ (rfl) ?_ ?_
  · exact fun i k' h => pz_ctk (l := ct_X3_clear) (P := fun b i k => b = true → pz_cV 0 0 RX3 i k) (fun _ h => absurd h List.not_mem_nil) true i k' h rfl
  · exact fun i k' h => pz_ctk (l := ct_X3_clear) (P := fun b i k => b = false → (pz_cS 0 0 RX3 i k ∨ (k = pz_kac ∧ 1 ≤ 0 ∧ 60 ≤ 0 ∧ Cond.methodLink RX3 i arraycopyName ∈ pz_tbl))) (fun _ h => absurd h List.not_mem_nil) false i k' h rfl
  · intro a M hlen hpre
    obtain ⟨g, rfl, hpre⟩ : ∃ g, a = [.inr (.inr (3, g))] ∧ (pz_ic M ∧ g = 12) := by
      have hpre : (match (generalizing := false) a with | [.inr (.inr (3, g))] => pz_ic M ∧ g = 12 | _ => False) := hpre
      split at hpre
      · exact ⟨_, rfl, hpre⟩
      · exact hpre.elim
    exact Nat.le_of_ble_eq_true rfl
  · intro a M hlen hcan hM hpre Ok hgo
    obtain ⟨g, rfl, hpre⟩ : ∃ g, a = [.inr (.inr (3, g))] ∧ (pz_ic M ∧ g = 12) := by
      have hpre : (match (generalizing := false) a with | [.inr (.inr (3, g))] => pz_ic M ∧ g = 12 | _ => False) := hpre
      split at hpre
      · exact ⟨_, rfl, hpre⟩
      · exact hpre.elim
    obtain ⟨k_g, hc_g⟩ := pz_tlm hcan
    have k_g : pz_kd g = 3 ∧ g < 231 := k_g
    have R_g := pz_kd3 k_g.1
    have hI : pz_ic M := hpre.1
    have hI0 := hI
    have hS : pq_pr pq_Pl M M := pq_pr.rf
    have hg : g = 12 := hpre.2
    refine hgo (fun _ => false) 9 0 _ [] M ?_
    intro M2 e2
    have hS : pq_pr pq_Pl M M2 := by
      rw [e2]
      exact pq_pr_u hS (by unfold pq_Pl; first | decide | omega) (by unfold pz_iok; first | decide | omega)
    have hI : pz_ic M2 := hS.1 hI0
    intro M7 e7
    have hS : pq_pr pq_Pl M M7 := by
      rw [e7]
      exact pq_pr_u hS (by unfold pq_Pl; first | decide | omega) (by unfold pz_iok; first | decide | omega)
    have hI : pz_ic M7 := hS.1 hI0
    refine And.intro rfl ?_
    exact ⟨⟨by rw [e7, hg, pz_unk (by decide), e2, hg]; exact pz_uu, by rw [e7, hg]; exact pz_uu, fun b j y => by rw [e7, hg, pz_une (by first | decide | omega), e2, hg]; exact pz_une (by first | decide | omega)⟩, hS⟩
theorem v_X3_clear {fr lo i : Nat} {own : String} (h1 : 0 + 1 ≤ fr) (h2 : 8 + (1 + 11) + 0 ≤ lo) (h3 : .methodLink own i yX3_clear ∈ lw_tbl) : pz_cV fr lo own i k_X3_clear :=
  pz_cVk (maxL := 1) (fr' := 0) (lo' := 0) 0 3 h_X3_clear rfl ⟨(pz_nhc_RX3 yX3_clear rfl).1, (pz_nhc_RX3 yX3_clear rfl).2, pz_ds2⟩ ⟨pz_wq752, pz_wq750, pz_wq751, pz_wq5⟩ (Or.inl ⟨TX3, 8, rfl⟩) (fun a M _ h => by
    have h : (match (generalizing := false) a with | [.inr (.inr (3, g))] => pz_ic M ∧ g = 12 | _ => False) := h
    split at h
    · exact ⟨_, _, rfl⟩
    · exact h.elim) h1 h2 h3
noncomputable def k_X3_take : pz_C := (2, 0, fun a M => (match a with | [.inr (.inr (3, g)), .inr (.inr (3, o))] => pz_ic M ∧ g ≠ o | _ => False), fun a M r M' => (match a, r with | [.inr (.inr (3, g)), .inr (.inr (3, o))], none => (pz_t3 g o M M') ∧ pz_rt M M' | _, _ => False))
noncomputable abbrev ct_X3_take : List (Bool × Nat × pz_C) := [(false, 37, pz_kac)]
set_option maxRecDepth 100000 in
set_option maxHeartbeats 4000000 in
theorem h_X3_take : pz_H yX3_take cX3_take 2 none k_X3_take 1 60 := by
  refine pz_mk (own := RX3) (tb := t_X3_take) (fl := pz_flf fl_RX3) (ci := fun _ => none) (ct := pz_ctf ct_X3_take) (rz := false) (pz_pfc_RX3 yX3_take rfl) rfl t_X3_take_ok (pz_flk fl_RX3_ok) (fun i v h => by cases h) ?_ ?_ (rfl) ?_ ?_
  · exact fun i k' h => pz_ctk (l := ct_X3_take) (P := fun b i k => b = true → pz_cV 1 60 RX3 i k) (List.forall_mem_cons.mpr ⟨((fun z => by cases z)), fun _ h => absurd h List.not_mem_nil⟩) true i k' h rfl
  · exact fun i k' h => pz_ctk (l := ct_X3_take) (P := fun b i k => b = false → (pz_cS 1 60 RX3 i k ∨ (k = pz_kac ∧ 1 ≤ 1 ∧ 60 ≤ 60 ∧ Cond.methodLink RX3 i arraycopyName ∈ pz_tbl))) (List.forall_mem_cons.mpr ⟨(fun _ => Or.inr ⟨rfl, by decide, by decide, pz_tbl_in (by decide +kernel) rfl⟩), fun _ h => absurd h List.not_mem_nil⟩) false i k' h rfl
  · intro a M hlen hpre
    obtain ⟨g, o, rfl, hpre⟩ : ∃ g o, a = [.inr (.inr (3, g)), .inr (.inr (3, o))] ∧ (pz_ic M ∧ g ≠ o) := by
      have hpre : (match (generalizing := false) a with | [.inr (.inr (3, g)), .inr (.inr (3, o))] => pz_ic M ∧ g ≠ o | _ => False) := hpre
      split at hpre
      · exact ⟨_, _, rfl, hpre⟩
      · exact hpre.elim
    exact Nat.le_of_ble_eq_true rfl
  · intro a M hlen hcan hM hpre Ok hgo
    obtain ⟨g, o, rfl, hpre⟩ : ∃ g o, a = [.inr (.inr (3, g)), .inr (.inr (3, o))] ∧ (pz_ic M ∧ g ≠ o) := by
      have hpre : (match (generalizing := false) a with | [.inr (.inr (3, g)), .inr (.inr (3, o))] => pz_ic M ∧ g ≠ o | _ => False) := hpre
      split at hpre
      · exact ⟨_, _, rfl, hpre⟩
      · exact hpre.elim
    obtain ⟨k_g, hc_g⟩ := pz_tlm hcan
    have k_g : pz_kd g = 3 ∧ g < 231 := k_g
    have R_g := pz_kd3 k_g.1
    obtain ⟨k_o, hc_o⟩ := pz_tlm hc_g
    have k_o : pz_kd o = 3 ∧ o < 231 := k_o
    have R_o := pz_kd3 k_o.1
    have hI : pz_ic M := hpre.1
    have hI0 := hI
    have hS : pz_rt M M := pz_rt.rf
    refine hgo (fun _ => false) 51 0 _ [] M ?_
    intro v2 e2 a2 b2
    have I2 := hI.2.2.2.1 o (by first | decide | omega) (by first | decide | omega)
    intro M5 e5
    have hS : pz_rt M M5 := by
      rw [e5]
      exact pz_rt_u hS (by unfold pz_iok; first | decide | omega)
    have hI : pz_ic M5 := hS hI0
    intro v10 e10 a10 b10
    have I10 := hI.2.2.2.1 o (by first | decide | omega) (by first | decide | omega)
    intro M13 e13
    have hS : pz_rt M M13 := by
      rw [e13]
      exact pz_rt_u hS (by unfold pz_iok; first | decide | omega)
    have hI : pz_ic M13 := hS hI0
    intro r17 e17 k17
    have R17 := pz_kdA k17 (by decide) (by decide)
    have Q17 := pz_nm e17 k_o.1 (by decide) (by decide) rfl
    have L17 := e17.trans (pz_rf3 R_o).1
    intro r22 e22 k22
    have R22 := pz_kdA k22 (by decide) (by decide)
    have Q22 := pz_nm e22 k_g.1 (by decide) (by decide) rfl
    have L22 := e22.trans (pz_rf3 R_g).1
    refine And.intro ⟨_, _, _, _, _, _, _, rfl, rfl, rfl, by decide, by decide, by decide, by decide, by decide⟩ ?_
    intro M28 q28
    obtain ⟨k128, a128, k228, a228, sp28, dp28, n28, z128, -, z228⟩ := q28
    cases z128
    have hS : pz_rt M M28 := hS.tr (by
      rw [z228]
      exact pz_rt_c (by first | decide | omega))
    have hI : pz_ic M28 := hS hI0
    intro r32 e32 k32
    have R32 := pz_kdA k32 (by decide) (by decide)
    have Q32 := pz_nm e32 k_o.1 (by decide) (by decide) rfl
    have L32 := e32.trans (pz_rf3 R_o).2.1
    intro r37 e37 k37
    have R37 := pz_kdA k37 (by decide) (by decide)
    have Q37 := pz_nm e37 k_g.1 (by decide) (by decide) rfl
    have L37 := e37.trans (pz_rf3 R_g).2.1
    refine And.intro ⟨_, _, _, _, _, _, _, rfl, rfl, rfl, by decide, by decide, by decide, by decide, by decide⟩ ?_
    intro M43 q43
    obtain ⟨k143, a143, k243, a243, sp43, dp43, n43, z143, -, z243⟩ := q43
    cases z143
    have hS : pz_rt M M43 := hS.tr (by
      rw [z243]
      exact pz_rt_c (by first | decide | omega))
    have hI : pz_ic M43 := hS hI0
    intro r47 e47 k47
    have R47 := pz_kdA k47 (by decide) (by decide)
    have Q47 := pz_nm e47 k_o.1 (by decide) (by decide) rfl
    have L47 := e47.trans (pz_rf3 R_o).2.2.1
    intro r52 e52 k52
    have R52 := pz_kdA k52 (by decide) (by decide)
    have Q52 := pz_nm e52 k_g.1 (by decide) (by decide) rfl
    have L52 := e52.trans (pz_rf3 R_g).2.2.1
    refine And.intro ⟨_, _, _, _, _, _, _, rfl, rfl, rfl, by decide, by decide, by decide, by decide, by decide⟩ ?_
    intro M58 q58
    obtain ⟨k158, a158, k258, a258, sp58, dp58, n58, z158, -, z258⟩ := q58
    cases z158
    have hS : pz_rt M M58 := hS.tr (by
      rw [z258]
      exact pz_rt_c (by first | decide | omega))
    have hI : pz_ic M58 := hS hI0
    intro r62 e62 k62
    have R62 := pz_kdA k62 (by decide) (by decide)
    have Q62 := pz_nm e62 k_o.1 (by decide) (by decide) rfl
    have L62 := e62.trans (pz_rf3 R_o).2.2.2.1
    intro r67 e67 k67
    have R67 := pz_kdA k67 (by decide) (by decide)
    have Q67 := pz_nm e67 k_g.1 (by decide) (by decide) rfl
    have L67 := e67.trans (pz_rf3 R_g).2.2.2.1
    refine And.intro ⟨_, _, _, _, _, _, _, rfl, rfl, rfl, by decide, by decide, by decide, by decide, by decide⟩ ?_
    intro M73 q73
    obtain ⟨k173, a173, k273, a273, sp73, dp73, n73, z173, -, z273⟩ := q73
    cases z173
    have hS : pz_rt M M73 := hS.tr (by
      rw [z273]
      exact pz_rt_c (by first | decide | omega))
    have hI : pz_ic M73 := hS hI0
    intro r77 e77 k77
    have R77 := pz_kdA k77 (by decide) (by decide)
    have Q77 := pz_nm e77 k_o.1 (by decide) (by decide) rfl
    have L77 := e77.trans (pz_rf3 R_o).2.2.2.2
    intro r82 e82 k82
    have R82 := pz_kdA k82 (by decide) (by decide)
    have Q82 := pz_nm e82 k_g.1 (by decide) (by decide) rfl
    have L82 := e82.trans (pz_rf3 R_g).2.2.2.2
    refine And.intro ⟨_, _, _, _, _, _, _, rfl, rfl, rfl, by decide, by decide, by decide, by decide, by decide⟩ ?_
    intro M89 q89
    obtain ⟨k189, a189, k289, a289, sp89, dp89, n89, z189, -, z289⟩ := q89
    cases z189
    have hS : pz_rt M M89 := hS.tr (by
      rw [z289]
      exact pz_rt_c (by first | decide | omega))
    have hI : pz_ic M89 := hS hI0
    refine And.intro rfl ?_
    exact ⟨pz_t3_of R_g R_o hpre.2 e5 e2 e13 e10 L17 L32 L47 L62 L77 L22 L37 L52 L67 L82 z228 z243 z258 z273 z289, hS⟩
theorem v_X3_take {fr lo i : Nat} {own : String} (h1 : 1 + 1 ≤ fr) (h2 : 8 + (2 + 11) + 60 ≤ lo) (h3 : .methodLink own i yX3_take ∈ lw_tbl) : pz_cV fr lo own i k_X3_take :=
  pz_cVk (maxL := 2) (fr' := 1) (lo' := 60) 1 3 h_X3_take rfl ⟨(pz_nhc_RX3 yX3_take rfl).1, (pz_nhc_RX3 yX3_take rfl).2, pz_ds40⟩ ⟨pz_wq788, pz_wq786, pz_wq787, pz_wq5⟩ (Or.inl ⟨TX3, 8, rfl⟩) (fun a M _ h => by
    have h : (match (generalizing := false) a with | [.inr (.inr (3, g)), .inr (.inr (3, o))] => pz_ic M ∧ g ≠ o | _ => False) := h
    split at h
    · exact ⟨_, _, rfl⟩
    · exact h.elim) h1 h2 h3
noncomputable def k_X3_put : pz_C := (2, 0, fun a M => (match a with | [.inr (.inr (3, g)), .inl p] => pz_ic M ∧ g = 12 | _ => False), fun a M r M' => (match a, r with | [.inr (.inr (3, g)), .inl p], none => (pq_put M M' p) ∧ pq_pr pq_Pp M M' | _, _ => False))
noncomputable abbrev ct_X3_put : List (Bool × Nat × pz_C) := []
set_option maxRecDepth 100000 in
set_option maxHeartbeats 4000000 in
theorem h_X3_put : pz_H yX3_put cX3_put 2 none k_X3_put 0 0 := by
  refine pz_mk (own := RX3) (tb := t_X3_put) (fl := pz_flf fl_RX3) (ci := fun _ => none) (ct := pz_ctf ct_X3_put) (rz := false) (pz_pfc_RX3 yX3_put rfl) rfl t_X3_put_ok (pz_flk fl_RX3_ok) (fun i v h => by cases h) ?_ ?_ (rfl) ?_ ?_
  · exact fun i k' h => pz_ctk (l := ct_X3_put) (P := fun b i k => b = true → pz_cV 0 0 RX3 i k) (fun _ h => absurd h List.not_mem_nil) true i k' h rfl
  · exact fun i k' h => pz_ctk (l := ct_X3_put) (P := fun b i k => b = false → (pz_cS 0 0 RX3 i k ∨ (k = pz_kac ∧ 1 ≤ 0 ∧ 60 ≤ 0 ∧ Cond.methodLink RX3 i arraycopyName ∈ pz_tbl))) (fun _ h => absurd h List.not_mem_nil) false i k' h rfl
  · intro a M hlen hpre
    obtain ⟨g, p, rfl, hpre⟩ : ∃ g p, a = [.inr (.inr (3, g)), .inl p] ∧ (pz_ic M ∧ g = 12) := by
      have hpre : (match (generalizing := false) a with | [.inr (.inr (3, g)), .inl p] => pz_ic M ∧ g = 12 | _ => False) := hpre
      split at hpre
      · exact ⟨_, _, rfl, hpre⟩
      · exact hpre.elim
    exact Nat.le_of_ble_eq_true rfl
  · intro a M hlen hcan hM hpre Ok hgo
    obtain ⟨g, p, rfl, hpre⟩ : ∃ g p, a = [.inr (.inr (3, g)), .inl p] ∧ (pz_ic M ∧ g = 12) := by
      have hpre : (match (generalizing := false) a with | [.inr (.inr (3, g)), .inl p] => pz_ic M ∧ g = 12 | _ => False) := hpre
      split at hpre
      · exact ⟨_, _, rfl, hpre⟩
      · exact hpre.elim
    obtain ⟨k_g, hc_g⟩ := pz_tlm hcan
    have k_g : pz_kd g = 3 ∧ g < 231 := k_g
    have R_g := pz_kd3 k_g.1
    obtain ⟨k_p, hc_p⟩ := pz_tlm hc_g
    have l_p : -2147483648 ≤ p := k_p.1
    have u_p : p ≤ 2147483647 := k_p.2
    have hI : pz_ic M := hpre.1
    have hI0 := hI
    have hS : pq_pr pq_Pp M M := pq_pr.rf
    have hg : g = 12 := hpre.2
    refine hgo (fun _ => false) 19 0 _ [] M ?_
    intro v1 e1 a1 b1
    have I1 := hI.2.2.2.1 g (by first | decide | omega) (by first | decide | omega)
    refine And.intro (fun h7 => ?_) (fun h7 => ?_)
    · skip
      refine And.intro rfl ?_
      first
        | (have V22 : v22 = M 12 1 := by
             rw [e22, e19, hg, L11]
             exact pz_una (by decide)
           have F9 : M27 = pz_u (pz_u M 43 (M 12 1).toNat p) 12 1 (M 12 1 + 1) := by
             rw [e27, e26, V22, e19, L11, e15, hg]
           have F8 : M 12 1 < 400 := by
             rw [hg] at e1
             omega
           exact ⟨Or.inl ⟨F8, F9⟩, hS⟩)
        | (have F8 : ¬ M 12 1 < 400 := by
             rw [hg] at e1
             omega
           exact ⟨Or.inr ⟨F8, rfl⟩, hS⟩)
    · skip
      intro r11 e11 k11
      have R11 := pz_kdA k11 (by decide) (by decide)
      have Q11 := pz_nm e11 k_g.1 (by decide) (by decide) rfl
      rw [hg] at e11
      have L11 : r11 = 43 := e11
      intro v15 e15 a15 b15
      have I15 := hI.2.2.2.1 g (by first | decide | omega) (by first | decide | omega)
      have lo19 : (0 : Int) ≤ v15 := by omega
      have tn19 : (((v15).toNat : Nat) : Int) = v15 := Int.toNat_of_nonneg lo19
      refine And.intro (lo19) (And.intro (show _ < (400 : Int) from by omega) ?_)
      intro M19 e19
      have hS : pq_pr pq_Pp M M19 := by
        rw [e19]
        exact pq_pr_u hS (by unfold pq_Pp; first | decide | omega) (by unfold pz_iok; first | decide | omega)
      have hI : pz_ic M19 := hS.1 hI0
      have T19_0 := pz_uve e19 g 1
      intro v22 e22 a22 b22
      have I22 := hI.2.2.2.1 g (by first | decide | omega) (by first | decide | omega)
      intro v26 e26 a26 b26
      try rw [pz_wi (by first | decide | omega) (by first | decide | omega)] at e26
      intro M27 e27
      have hS : pq_pr pq_Pp M M27 := by
        rw [e27]
        exact pq_pr_u hS (by unfold pq_Pp; first | decide | omega) (by unfold pz_iok; first | decide | omega)
      have hI : pz_ic M27 := hS.1 hI0
      have T27_0 := pz_uve e27 g 1
      refine And.intro rfl ?_
      first
        | (have V22 : v22 = M 12 1 := by
             rw [e22, e19, hg, L11]
             exact pz_una (by decide)
           have F9 : M27 = pz_u (pz_u M 43 (M 12 1).toNat p) 12 1 (M 12 1 + 1) := by
             rw [e27, e26, V22, e19, L11, e15, hg]
           have F8 : M 12 1 < 400 := by
             rw [hg] at e1
             omega
           exact ⟨Or.inl ⟨F8, F9⟩, hS⟩)
        | (have F8 : ¬ M 12 1 < 400 := by
             rw [hg] at e1
             omega
           exact ⟨Or.inr ⟨F8, rfl⟩, hS⟩)
theorem v_X3_put {fr lo i : Nat} {own : String} (h1 : 0 + 1 ≤ fr) (h2 : 8 + (2 + 11) + 0 ≤ lo) (h3 : .methodLink own i yX3_put ∈ lw_tbl) : pz_cV fr lo own i k_X3_put :=
  pz_cVk (maxL := 2) (fr' := 0) (lo' := 0) 1 3 h_X3_put rfl ⟨(pz_nhc_RX3 yX3_put rfl).1, (pz_nhc_RX3 yX3_put rfl).2, pz_ds8⟩ ⟨pz_wq768, pz_wq766, pz_wq767, pz_wq5⟩ (Or.inl ⟨TX3, 8, rfl⟩) (fun a M _ h => by
    have h : (match (generalizing := false) a with | [.inr (.inr (3, g)), .inl p] => pz_ic M ∧ g = 12 | _ => False) := h
    split at h
    · exact ⟨_, _, rfl⟩
    · exact h.elim) h1 h2 h3
noncomputable def k_X3_addLine : pz_C := (4, 0, fun a M => (match a with | [.inr (.inr (3, g)), .inl p, .inl q, .inl w] => pz_ic M ∧ g = 12 | _ => False), fun a M r M' => (match a, r with | [.inr (.inr (3, g)), .inl p, .inl q, .inl w], none => (pq_add M M' p q w) ∧ pq_pr pq_Pl M M' | _, _ => False))
noncomputable abbrev ct_X3_addLine : List (Bool × Nat × pz_C) := []
set_option maxRecDepth 100000 in
set_option maxHeartbeats 4000000 in
theorem h_X3_addLine : pz_H yX3_addLine cX3_addLine 4 none k_X3_addLine 0 0 := by
  refine pz_mk (own := RX3) (tb := t_X3_addLine) (fl := pz_flf fl_RX3) (ci := fun _ => none) (ct := pz_ctf ct_X3_addLine) (rz := false) (pz_pfc_RX3 yX3_addLine rfl) rfl t_X3_addLine_ok (pz_flk fl_RX3_ok) (fun i v h => by cases h) ?_ ?_ (rfl) ?_ ?_
  · exact fun i k' h => pz_ctk (l := ct_X3_addLine) (P := fun b i k => b = true → pz_cV 0 0 RX3 i k) (fun _ h => absurd h List.not_mem_nil) true i k' h rfl
  · exact fun i k' h => pz_ctk (l := ct_X3_addLine) (P := fun b i k => b = false → (pz_cS 0 0 RX3 i k ∨ (k = pz_kac ∧ 1 ≤ 0 ∧ 60 ≤ 0 ∧ Cond.methodLink RX3 i arraycopyName ∈ pz_tbl))) (fun _ h => absurd h List.not_mem_nil) false i k' h rfl
  · intro a M hlen hpre
    obtain ⟨g, p, q, w, rfl, hpre⟩ : ∃ g p q w, a = [.inr (.inr (3, g)), .inl p, .inl q, .inl w] ∧ (pz_ic M ∧ g = 12) := by
      have hpre : (match (generalizing := false) a with | [.inr (.inr (3, g)), .inl p, .inl q, .inl w] => pz_ic M ∧ g = 12 | _ => False) := hpre
      split at hpre
      · exact ⟨_, _, _, _, rfl, hpre⟩
      · exact hpre.elim
    exact Nat.le_of_ble_eq_true rfl
  · intro a M hlen hcan hM hpre Ok hgo
    obtain ⟨g, p, q, w, rfl, hpre⟩ : ∃ g p q w, a = [.inr (.inr (3, g)), .inl p, .inl q, .inl w] ∧ (pz_ic M ∧ g = 12) := by
      have hpre : (match (generalizing := false) a with | [.inr (.inr (3, g)), .inl p, .inl q, .inl w] => pz_ic M ∧ g = 12 | _ => False) := hpre
      split at hpre
      · exact ⟨_, _, _, _, rfl, hpre⟩
      · exact hpre.elim
    obtain ⟨k_g, hc_g⟩ := pz_tlm hcan
    have k_g : pz_kd g = 3 ∧ g < 231 := k_g
    have R_g := pz_kd3 k_g.1
    obtain ⟨k_p, hc_p⟩ := pz_tlm hc_g
    have l_p : -2147483648 ≤ p := k_p.1
    have u_p : p ≤ 2147483647 := k_p.2
    obtain ⟨k_q, hc_q⟩ := pz_tlm hc_p
    have l_q : -2147483648 ≤ q := k_q.1
    have u_q : q ≤ 2147483647 := k_q.2
    obtain ⟨k_w, hc_w⟩ := pz_tlm hc_q
    have l_w : -2147483648 ≤ w := k_w.1
    have u_w : w ≤ 2147483647 := k_w.2
    have hI : pz_ic M := hpre.1
    have hI0 := hI
    have hS : pq_pr pq_Pl M M := pq_pr.rf
    have hg : g = 12 := hpre.2
    refine hgo (fun _ => false) 38 0 _ [] M ?_
    intro v1 e1 a1 b1
    have I1 := hI.2.2.2.1 g (by first | decide | omega) (by first | decide | omega)
    refine And.intro (fun h6 => ?_) (fun h6 => ?_)
    · skip
      refine And.intro rfl ?_
      first
        | (have V24 : v24 = M 12 0 := by
             rw [e24, e18, hg, L10]
             exact pz_una (by decide)
           have V34 : v34 = M 12 0 := by
             rw [e34, e28, hg, L20, pz_una (by decide), ← V24, e24, hg]
           have V44 : v44 = M 12 0 := by
             rw [e44, e38, hg, L30, pz_una (by decide), ← V34, e34, hg]
           have V48 : v48 = M 12 1 := by
             rw [e48, e38, hg, L30, pz_una (by decide), e28, L20, pz_una (by decide), e18, L10]
             exact pz_una (by decide)
           have V54 : v54 = M 12 0 := by
             rw [e54, e51, hg, L40, pz_una (by decide), ← V44, e44, hg]
           have V14 : v14 = M 12 0 := by rw [e14, hg]
           have F9 : M59 = pz_u (pz_u (pz_u (pz_u (pz_u M 39 (M 12 0).toNat p) 40 (M 12 0).toNat q) 41 (M 12 0).toNat w) 42 (M 12 0).toNat (M 12 1)) 12 0 (M 12 0 + 1) := by
             rw [e59, e58, V54, e51, V44, V48, L40, e38, V34, L30, e28, V24, L20, e18, V14, L10, hg]
           exact ⟨pq_add_of (by first | decide | omega) F9, hS⟩)
        | exact ⟨fun y => absurd y (by rw [hg] at e1; omega), hS⟩
    · skip
      intro r10 e10 k10
      have R10 := pz_kdA k10 (by decide) (by decide)
      have Q10 := pz_nm e10 k_g.1 (by decide) (by decide) rfl
      rw [hg] at e10
      have L10 : r10 = 39 := e10
      intro v14 e14 a14 b14
      have I14 := hI.2.2.2.1 g (by first | decide | omega) (by first | decide | omega)
      have lo18 : (0 : Int) ≤ v14 := by omega
      have tn18 : (((v14).toNat : Nat) : Int) = v14 := Int.toNat_of_nonneg lo18
      refine And.intro (lo18) (And.intro (show _ < (16 : Int) from by omega) ?_)
      intro M18 e18
      have hS : pq_pr pq_Pl M M18 := by
        rw [e18]
        exact pq_pr_u hS (by unfold pq_Pl; first | decide | omega) (by unfold pz_iok; first | decide | omega)
      have hI : pz_ic M18 := hS.1 hI0
      have T18_0 := pz_uve e18 g 0
      intro r20 e20 k20
      have R20 := pz_kdA k20 (by decide) (by decide)
      have Q20 := pz_nm e20 k_g.1 (by decide) (by decide) rfl
      rw [hg] at e20
      have L20 : r20 = 40 := e20
      intro v24 e24 a24 b24
      have I24 := hI.2.2.2.1 g (by first | decide | omega) (by first | decide | omega)
      have lo28 : (0 : Int) ≤ v24 := by omega
      have tn28 : (((v24).toNat : Nat) : Int) = v24 := Int.toNat_of_nonneg lo28
      refine And.intro (lo28) (And.intro (show _ < (16 : Int) from by omega) ?_)
      intro M28 e28
      have hS : pq_pr pq_Pl M M28 := by
        rw [e28]
        exact pq_pr_u hS (by unfold pq_Pl; first | decide | omega) (by unfold pz_iok; first | decide | omega)
      have hI : pz_ic M28 := hS.1 hI0
      have T28_0 := pz_uve e28 g 0
      intro r30 e30 k30
      have R30 := pz_kdA k30 (by decide) (by decide)
      have Q30 := pz_nm e30 k_g.1 (by decide) (by decide) rfl
      rw [hg] at e30
      have L30 : r30 = 41 := e30
      intro v34 e34 a34 b34
      have I34 := hI.2.2.2.1 g (by first | decide | omega) (by first | decide | omega)
      have lo38 : (0 : Int) ≤ v34 := by omega
      have tn38 : (((v34).toNat : Nat) : Int) = v34 := Int.toNat_of_nonneg lo38
      refine And.intro (lo38) (And.intro (show _ < (16 : Int) from by omega) ?_)
      intro M38 e38
      have hS : pq_pr pq_Pl M M38 := by
        rw [e38]
        exact pq_pr_u hS (by unfold pq_Pl; first | decide | omega) (by unfold pz_iok; first | decide | omega)
      have hI : pz_ic M38 := hS.1 hI0
      have T38_0 := pz_uve e38 g 0
      intro r40 e40 k40
      have R40 := pz_kdA k40 (by decide) (by decide)
      have Q40 := pz_nm e40 k_g.1 (by decide) (by decide) rfl
      rw [hg] at e40
      have L40 : r40 = 42 := e40
      intro v44 e44 a44 b44
      have I44 := hI.2.2.2.1 g (by first | decide | omega) (by first | decide | omega)
      intro v48 e48 a48 b48
      have I48 := hI.2.2.2.1 g (by first | decide | omega) (by first | decide | omega)
      have lo51 : (0 : Int) ≤ v44 := by omega
      have tn51 : (((v44).toNat : Nat) : Int) = v44 := Int.toNat_of_nonneg lo51
      refine And.intro (lo51) (And.intro (show _ < (16 : Int) from by omega) ?_)
      intro M51 e51
      have hS : pq_pr pq_Pl M M51 := by
        rw [e51]
        exact pq_pr_u hS (by unfold pq_Pl; first | decide | omega) (by unfold pz_iok; first | decide | omega)
      have hI : pz_ic M51 := hS.1 hI0
      have T51_0 := pz_uve e51 g 0
      intro v54 e54 a54 b54
      have I54 := hI.2.2.2.1 g (by first | decide | omega) (by first | decide | omega)
      intro v58 e58 a58 b58
      try rw [pz_wi (by first | decide | omega) (by first | decide | omega)] at e58
      intro M59 e59
      have hS : pq_pr pq_Pl M M59 := by
        rw [e59]
        exact pq_pr_u hS (by unfold pq_Pl; first | decide | omega) (by unfold pz_iok; first | decide | omega)
      have hI : pz_ic M59 := hS.1 hI0
      have T59_0 := pz_uve e59 g 0
      refine And.intro rfl ?_
      first
        | (have V24 : v24 = M 12 0 := by
             rw [e24, e18, hg, L10]
             exact pz_una (by decide)
           have V34 : v34 = M 12 0 := by
             rw [e34, e28, hg, L20, pz_una (by decide), ← V24, e24, hg]
           have V44 : v44 = M 12 0 := by
             rw [e44, e38, hg, L30, pz_una (by decide), ← V34, e34, hg]
           have V48 : v48 = M 12 1 := by
             rw [e48, e38, hg, L30, pz_una (by decide), e28, L20, pz_una (by decide), e18, L10]
             exact pz_una (by decide)
           have V54 : v54 = M 12 0 := by
             rw [e54, e51, hg, L40, pz_una (by decide), ← V44, e44, hg]
           have V14 : v14 = M 12 0 := by rw [e14, hg]
           have F9 : M59 = pz_u (pz_u (pz_u (pz_u (pz_u M 39 (M 12 0).toNat p) 40 (M 12 0).toNat q) 41 (M 12 0).toNat w) 42 (M 12 0).toNat (M 12 1)) 12 0 (M 12 0 + 1) := by
             rw [e59, e58, V54, e51, V44, V48, L40, e38, V34, L30, e28, V24, L20, e18, V14, L10, hg]
           exact ⟨pq_add_of (by first | decide | omega) F9, hS⟩)
        | exact ⟨fun y => absurd y (by rw [hg] at e1; omega), hS⟩
theorem v_X3_addLine {fr lo i : Nat} {own : String} (h1 : 0 + 1 ≤ fr) (h2 : 8 + (4 + 11) + 0 ≤ lo) (h3 : .methodLink own i yX3_addLine ∈ lw_tbl) : pz_cV fr lo own i k_X3_addLine :=
  pz_cVk (maxL := 4) (fr' := 0) (lo' := 0) 3 3 h_X3_addLine rfl ⟨(pz_nhc_RX3 yX3_addLine rfl).1, (pz_nhc_RX3 yX3_addLine rfl).2, pz_ds16⟩ ⟨pz_wq784, pz_wq782, pz_wq783, pz_wq5⟩ (Or.inl ⟨TX3, 8, rfl⟩) (fun a M _ h => by
    have h : (match (generalizing := false) a with | [.inr (.inr (3, g)), .inl p, .inl q, .inl w] => pz_ic M ∧ g = 12 | _ => False) := h
    split at h
    · exact ⟨_, _, rfl⟩
    · exact h.elim) h1 h2 h3
end
