theorem pz_iom_w {k : Nat} {v : Int} (h1 : k ≤ 840) (h2 : k ≠ 88) (h3 : k ≠ 89) (h4 : k ≠ 90) (h5 : k ≠ 92) (h6 : k ≠ 3) : pz_iom 60 k v := by unfold pz_iom; omega
theorem pz_iom_w1 {k : Nat} {v : Int} (h1 : 4 ≤ k) (h2 : k ≤ 87) : pz_iom 60 k v := pz_iom_w (by omega) (by omega) (by omega) (by omega) (by omega) (by omega)
theorem pz_iom_w2 {k : Nat} {v : Int} (h1 : 93 ≤ k) (h2 : k ≤ 840) : pz_iom 60 k v := pz_iom_w (by omega) (by omega) (by omega) (by omega) (by omega) (by omega)
theorem pz_iom_88 {v : Int} (h : 0 ≤ v ∧ v ≤ 12) : pz_iom 60 88 v := by unfold pz_iom; omega
theorem pz_iom_90 {v : Int} (h : 0 ≤ v ∧ v ≤ 16) : pz_iom 60 90 v := by unfold pz_iom; omega
theorem pz_iom_92 {v : Int} (h : 0 ≤ v ∧ v ≤ 16) : pz_iom 60 92 v := by unfold pz_iom; omega
theorem pz_iom_3 {v : Int} (h : 0 ≤ v ∧ v ≤ 150) : pz_iom 60 3 v := by unfold pz_iom; omega
theorem pz_iom_u {k : Nat} {v : Int} (h1 : k ≤ 87) (h : k = 3 → 0 ≤ v ∧ v ≤ 150) : pz_iom 60 k v := by
  by_cases q : k = 3
  · rw [q]
    exact pz_iom_3 (h q)
  · exact pz_iom_w (by omega) (by omega) (by omega) (by omega) (by omega) q
theorem pz_iom_62 {k : Nat} {v : Int} (h : k % 88 = 3 → 0 ≤ v ∧ v ≤ 150) : pz_iom 62 k v := by unfold pz_iom; omega
theorem pz_iom_63 {k : Nat} {v : Int} (h : k = 3 → 0 ≤ v ∧ v ≤ 150) : pz_iom 63 k v := by unfold pz_iom; omega
theorem pz_iom_w0 {k : Nat} {v : Int} (h : k ≤ 2) : pz_iom 60 k v := pz_iom_w (by omega) (by omega) (by omega) (by omega) (by omega) (by omega)
theorem pz_iom_a {a k : Nat} {v : Int} (h : 64 ≤ a ∧ a < 71) : pz_iom a k v := by unfold pz_iom; omega
theorem pz_iom_f {k : Nat} {v : Int} (h : k ≠ 4 ∧ k ≠ 13 ∧ k ≠ 14 ∧ k ≠ 15 ∧ k ≠ 16 ∧ k ≠ 17 ∧ k ≠ 19) : pz_iom 1 k v := by unfold pz_iom; omega
theorem pz_iom_4 {v : Int} (h : 0 ≤ v ∧ v ≤ 6) : pz_iom 1 4 v := by unfold pz_iom; omega
theorem pz_iom_13 {v : Int} (h : 0 ≤ v ∧ v ≤ 16) : pz_iom 1 13 v := by unfold pz_iom; omega
theorem pz_iom_14 {v : Int} (h : 0 ≤ v ∧ v ≤ 410) : pz_iom 1 14 v := by unfold pz_iom; omega
theorem pz_iom_15 {v : Int} (h : 0 ≤ v ∧ v ≤ 16) : pz_iom 1 15 v := by unfold pz_iom; omega
theorem pz_iom_16 {v : Int} (h : 0 ≤ v ∧ v ≤ 400) : pz_iom 1 16 v := by unfold pz_iom; omega
theorem pz_iom_17 {v : Int} (h : 0 ≤ v ∧ v ≤ 400) : pz_iom 1 17 v := by unfold pz_iom; omega
theorem pz_iom_19 {v : Int} (h : 0 ≤ v ∧ v ≤ 400) : pz_iom 1 19 v := by unfold pz_iom; omega
noncomputable def k_X12_isIn : pz_C := (3, 1, fun a M => (match a with | [.inl x, .inl y, .inl z] => True | _ => False), fun a M r M' => (match a, r with | [.inl x, .inl y, .inl z], some (.inl v) => ((v = 1 ∧ y ≤ x ∧ x ≤ z) ∨ (v = 0 ∧ ¬ (y ≤ x ∧ x ≤ z))) ∧ M = M' | _, _ => False))
noncomputable abbrev ct_X12_isIn : List (Bool × Nat × pz_C) := []
set_option maxRecDepth 100000 in
set_option maxHeartbeats 4000000 in
theorem h_X12_isIn : pz_H yX12_isIn cX12_isIn 3 (some .boolean) k_X12_isIn 0 0 := by
  refine pz_mk (own := RX12) (tb := t_X12_isIn) (fl := pz_flf fl_RX12) (ci := pz_cif ci_RX12) (ct := pz_ctf ct_X12_isIn) (rz := true) (by decide +kernel) rfl t_X12_isIn_ok (pz_flk fl_RX12_ok) (pz_cik ci_RX12_ok) ?_ ?_ (Or.inr ⟨rfl, rfl⟩) ?_ ?_
  · exact fun i k' h => pz_ctk (l := ct_X12_isIn) (P := fun b i k => b = true → pz_cV 0 0 RX12 i k) (fun _ h => absurd h List.not_mem_nil) true i k' h rfl
  · exact fun i k' h => pz_ctk (l := ct_X12_isIn) (P := fun b i k => b = false → (pz_cS 0 0 RX12 i k ∨ (k = pz_kac ∧ 1 ≤ 0 ∧ 60 ≤ 0 ∧ Cond.methodLink RX12 i arraycopyName ∈ pz_tbl))) (fun _ h => absurd h List.not_mem_nil) false i k' h rfl
  · intro a M hlen hpre
    obtain ⟨x, y, z, rfl, hpre⟩ : ∃ x y z, a = [.inl x, .inl y, .inl z] ∧ (True) := by
      have hpre : (match (generalizing := false) a with | [.inl x, .inl y, .inl z] => True | _ => False) := hpre
      split at hpre
      · exact ⟨_, _, _, rfl, hpre⟩
      · exact hpre.elim
    exact Nat.le_of_ble_eq_true rfl
  · intro a M hlen hcan hM hpre Ok hgo
    obtain ⟨x, y, z, rfl, hpre⟩ : ∃ x y z, a = [.inl x, .inl y, .inl z] ∧ (True) := by
      have hpre : (match (generalizing := false) a with | [.inl x, .inl y, .inl z] => True | _ => False) := hpre
      split at hpre
      · exact ⟨_, _, _, rfl, hpre⟩
      · exact hpre.elim
    obtain ⟨k_x, hc_x⟩ := pz_tlm hcan
    have l_x : -2147483648 ≤ x := k_x.1
    have u_x : x ≤ 2147483647 := k_x.2
    obtain ⟨k_y, hc_y⟩ := pz_tlm hc_x
    have l_y : -2147483648 ≤ y := k_y.1
    have u_y : y ≤ 2147483647 := k_y.2
    obtain ⟨k_z, hc_z⟩ := pz_tlm hc_y
    have l_z : -2147483648 ≤ z := k_z.1
    have u_z : z ≤ 2147483647 := k_z.2
    refine hgo (fun _ => false) 12 0 _ [] M ?_
    refine And.intro (fun h2 => ?_) (fun h2 => ?_)
    · skip
      refine And.intro (by omega) ?_
      refine And.intro rfl ?_
      exact ⟨by omega, rfl⟩
    · skip
      refine And.intro (fun h7 => ?_) (fun h7 => ?_)
      · skip
        refine And.intro (by omega) ?_
        refine And.intro rfl ?_
        exact ⟨by omega, rfl⟩
      · skip
        refine And.intro (by omega) ?_
        refine And.intro rfl ?_
        exact ⟨by omega, rfl⟩
theorem s_X12_isIn {fr lo i : Nat} {own : String} (h1 : 0 + 1 ≤ fr) (h2 : 8 + (3 + 11) + 0 ≤ lo) (h3 : .methodLink own i yX12_isIn ∈ lw_tbl ∨ (own = RX1 ∧ i = 35 ∧ yX12_isIn = yX11_within)) : pz_cS fr lo own i k_X12_isIn := pz_cSk (maxL := 3) (fr' := 0) (lo' := 0) 3 h_X12_isIn rfl ⟨by decide +kernel, by decide +kernel, by decide +kernel⟩ ⟨(pz_mt 1219 (by decide +kernel)), (pz_mt 1218 (by decide +kernel)), (pz_mt 13 (by decide +kernel))⟩ h1 h2 h3
noncomputable def k_X12_lesser : pz_C := (2, 1, fun a M => (match a with | [.inl x, .inl y] => True | _ => False), fun a M r M' => (match a, r with | [.inl x, .inl y], some (.inl v) => (v ≤ x ∧ v ≤ y ∧ (v = x ∨ v = y)) ∧ M = M' | _, _ => False))
noncomputable abbrev ct_X12_lesser : List (Bool × Nat × pz_C) := []
set_option maxRecDepth 100000 in
set_option maxHeartbeats 4000000 in
theorem h_X12_lesser : pz_H yX12_lesser cX12_lesser 2 (some .int) k_X12_lesser 0 0 := by
  refine pz_mk (own := RX12) (tb := t_X12_lesser) (fl := pz_flf fl_RX12) (ci := pz_cif ci_RX12) (ct := pz_ctf ct_X12_lesser) (rz := false) (by decide +kernel) rfl t_X12_lesser_ok (pz_flk fl_RX12_ok) (pz_cik ci_RX12_ok) ?_ ?_ (Or.inl ⟨rfl, rfl⟩) ?_ ?_
  · exact fun i k' h => pz_ctk (l := ct_X12_lesser) (P := fun b i k => b = true → pz_cV 0 0 RX12 i k) (fun _ h => absurd h List.not_mem_nil) true i k' h rfl
  · exact fun i k' h => pz_ctk (l := ct_X12_lesser) (P := fun b i k => b = false → (pz_cS 0 0 RX12 i k ∨ (k = pz_kac ∧ 1 ≤ 0 ∧ 60 ≤ 0 ∧ Cond.methodLink RX12 i arraycopyName ∈ pz_tbl))) (fun _ h => absurd h List.not_mem_nil) false i k' h rfl
  · intro a M hlen hpre
    obtain ⟨x, y, rfl, hpre⟩ : ∃ x y, a = [.inl x, .inl y] ∧ (True) := by
      have hpre : (match (generalizing := false) a with | [.inl x, .inl y] => True | _ => False) := hpre
      split at hpre
      · exact ⟨_, _, rfl, hpre⟩
      · exact hpre.elim
    exact Nat.le_of_ble_eq_true rfl
  · intro a M hlen hcan hM hpre Ok hgo
    obtain ⟨x, y, rfl, hpre⟩ : ∃ x y, a = [.inl x, .inl y] ∧ (True) := by
      have hpre : (match (generalizing := false) a with | [.inl x, .inl y] => True | _ => False) := hpre
      split at hpre
      · exact ⟨_, _, rfl, hpre⟩
      · exact hpre.elim
    obtain ⟨k_x, hc_x⟩ := pz_tlm hcan
    have l_x : -2147483648 ≤ x := k_x.1
    have u_x : x ≤ 2147483647 := k_x.2
    obtain ⟨k_y, hc_y⟩ := pz_tlm hc_x
    have l_y : -2147483648 ≤ y := k_y.1
    have u_y : y ≤ 2147483647 := k_y.2
    refine hgo (fun _ => false) 9 0 _ [] M ?_
    refine And.intro (fun h2 => ?_) (fun h2 => ?_)
    · skip
      refine And.intro rfl ?_
      exact ⟨by omega, rfl⟩
    · skip
      refine And.intro rfl ?_
      exact ⟨by omega, rfl⟩
theorem s_X12_lesser {fr lo i : Nat} {own : String} (h1 : 0 + 1 ≤ fr) (h2 : 8 + (2 + 11) + 0 ≤ lo) (h3 : .methodLink own i yX12_lesser ∈ lw_tbl ∨ (own = RX1 ∧ i = 35 ∧ yX12_lesser = yX11_within)) : pz_cS fr lo own i k_X12_lesser := pz_cSk (maxL := 2) (fr' := 0) (lo' := 0) 2 h_X12_lesser rfl ⟨by decide +kernel, by decide +kernel, by decide +kernel⟩ ⟨(pz_mt 1464 (by decide +kernel)), (pz_mt 1463 (by decide +kernel)), (pz_mt 13 (by decide +kernel))⟩ h1 h2 h3
noncomputable def k_X12_greater : pz_C := (2, 1, fun a M => (match a with | [.inl x, .inl y] => True | _ => False), fun a M r M' => (match a, r with | [.inl x, .inl y], some (.inl v) => (x ≤ v ∧ y ≤ v ∧ (v = x ∨ v = y)) ∧ M = M' | _, _ => False))
noncomputable abbrev ct_X12_greater : List (Bool × Nat × pz_C) := []
set_option maxRecDepth 100000 in
set_option maxHeartbeats 4000000 in
theorem h_X12_greater : pz_H yX12_greater cX12_greater 2 (some .int) k_X12_greater 0 0 := by
  refine pz_mk (own := RX12) (tb := t_X12_greater) (fl := pz_flf fl_RX12) (ci := pz_cif ci_RX12) (ct := pz_ctf ct_X12_greater) (rz := false) (by decide +kernel) rfl t_X12_greater_ok (pz_flk fl_RX12_ok) (pz_cik ci_RX12_ok) ?_ ?_ (Or.inl ⟨rfl, rfl⟩) ?_ ?_
  · exact fun i k' h => pz_ctk (l := ct_X12_greater) (P := fun b i k => b = true → pz_cV 0 0 RX12 i k) (fun _ h => absurd h List.not_mem_nil) true i k' h rfl
  · exact fun i k' h => pz_ctk (l := ct_X12_greater) (P := fun b i k => b = false → (pz_cS 0 0 RX12 i k ∨ (k = pz_kac ∧ 1 ≤ 0 ∧ 60 ≤ 0 ∧ Cond.methodLink RX12 i arraycopyName ∈ pz_tbl))) (fun _ h => absurd h List.not_mem_nil) false i k' h rfl
  · intro a M hlen hpre
    obtain ⟨x, y, rfl, hpre⟩ : ∃ x y, a = [.inl x, .inl y] ∧ (True) := by
      have hpre : (match (generalizing := false) a with | [.inl x, .inl y] => True | _ => False) := hpre
      split at hpre
      · exact ⟨_, _, rfl, hpre⟩
      · exact hpre.elim
    exact Nat.le_of_ble_eq_true rfl
  · intro a M hlen hcan hM hpre Ok hgo
    obtain ⟨x, y, rfl, hpre⟩ : ∃ x y, a = [.inl x, .inl y] ∧ (True) := by
      have hpre : (match (generalizing := false) a with | [.inl x, .inl y] => True | _ => False) := hpre
      split at hpre
      · exact ⟨_, _, rfl, hpre⟩
      · exact hpre.elim
    obtain ⟨k_x, hc_x⟩ := pz_tlm hcan
    have l_x : -2147483648 ≤ x := k_x.1
    have u_x : x ≤ 2147483647 := k_x.2
    obtain ⟨k_y, hc_y⟩ := pz_tlm hc_x
    have l_y : -2147483648 ≤ y := k_y.1
    have u_y : y ≤ 2147483647 := k_y.2
    refine hgo (fun _ => false) 9 0 _ [] M ?_
    refine And.intro (fun h2 => ?_) (fun h2 => ?_)
    · skip
      refine And.intro rfl ?_
      exact ⟨by omega, rfl⟩
    · skip
      refine And.intro rfl ?_
      exact ⟨by omega, rfl⟩
theorem s_X12_greater {fr lo i : Nat} {own : String} (h1 : 0 + 1 ≤ fr) (h2 : 8 + (2 + 11) + 0 ≤ lo) (h3 : .methodLink own i yX12_greater ∈ lw_tbl ∨ (own = RX1 ∧ i = 35 ∧ yX12_greater = yX11_within)) : pz_cS fr lo own i k_X12_greater := pz_cSk (maxL := 2) (fr' := 0) (lo' := 0) 2 h_X12_greater rfl ⟨by decide +kernel, by decide +kernel, by decide +kernel⟩ ⟨(pz_mt 1449 (by decide +kernel)), (pz_mt 1448 (by decide +kernel)), (pz_mt 13 (by decide +kernel))⟩ h1 h2 h3

noncomputable def k_X12_isLink : pz_C := (2, 1, fun a M => (match a with | [.inr (.inr (12, th)), .inl i] => pz_im M | _ => False), fun a M r M' => (match a, r with | [.inr (.inr (12, th)), .inl i], some (.inl v) => ((v = 1 ∧ 0 ≤ i ∧ i < M 60 88 ∧ M 60 88 ≤ 12) ∨ (v = 0 ∧ ¬ (0 ≤ i ∧ i < M 60 88))) ∧ M = M' | _, _ => False))
noncomputable abbrev ct_X12_isLink : List (Bool × Nat × pz_C) := [(false, 54, k_X12_isIn)]
set_option maxRecDepth 100000 in
set_option maxHeartbeats 4000000 in
theorem h_X12_isLink : pz_H yX12_isLink cX12_isLink 2 (some .boolean) k_X12_isLink 1 22 := by
  refine pz_mk (own := RX12) (tb := t_X12_isLink) (fl := pz_flf fl_RX12) (ci := pz_cif ci_RX12) (ct := pz_ctf ct_X12_isLink) (rz := true) (by decide +kernel) rfl t_X12_isLink_ok (pz_flk fl_RX12_ok) (pz_cik ci_RX12_ok) ?_ ?_ (Or.inr ⟨rfl, rfl⟩) ?_ ?_
  · exact fun i k' h => pz_ctk (l := ct_X12_isLink) (P := fun b i k => b = true → pz_cV 1 22 RX12 i k) (List.forall_mem_cons.mpr ⟨((fun z => by cases z)), fun _ h => absurd h List.not_mem_nil⟩) true i k' h rfl
  · exact fun i k' h => pz_ctk (l := ct_X12_isLink) (P := fun b i k => b = false → (pz_cS 1 22 RX12 i k ∨ (k = pz_kac ∧ 1 ≤ 1 ∧ 60 ≤ 22 ∧ Cond.methodLink RX12 i arraycopyName ∈ pz_tbl))) (List.forall_mem_cons.mpr ⟨(fun _ => Or.inl (s_X12_isIn (by decide) (by decide) (Or.inl (pz_mt 1217 (by decide +kernel))))), fun _ h => absurd h List.not_mem_nil⟩) false i k' h rfl
  · intro a M hlen hpre
    obtain ⟨th, i, rfl, hpre⟩ : ∃ th i, a = [.inr (.inr (12, th)), .inl i] ∧ (pz_im M) := by
      have hpre : (match (generalizing := false) a with | [.inr (.inr (12, th)), .inl i] => pz_im M | _ => False) := hpre
      split at hpre
      · exact ⟨_, _, rfl, hpre⟩
      · exact hpre.elim
    exact Nat.le_of_ble_eq_true rfl
  · intro a M hlen hcan hM hpre Ok hgo
    obtain ⟨th, i, rfl, hpre⟩ : ∃ th i, a = [.inr (.inr (12, th)), .inl i] ∧ (pz_im M) := by
      have hpre : (match (generalizing := false) a with | [.inr (.inr (12, th)), .inl i] => pz_im M | _ => False) := hpre
      split at hpre
      · exact ⟨_, _, rfl, hpre⟩
      · exact hpre.elim
    obtain ⟨k_th, hc_th⟩ := pz_tlm hcan
    have k_th : pz_kd th = 12 ∧ th < 231 := k_th
    have R_th := pz_kd12 k_th.1
    subst R_th
    clear k_th
    obtain ⟨k_i, hc_i⟩ := pz_tlm hc_th
    have l_i : -2147483648 ≤ i := k_i.1
    have u_i : i ≤ 2147483647 := k_i.2
    have hI : pz_im M := hpre
    refine hgo (fun _ => false) 12 0 _ [] M ?_
    refine pz_nrc (c := 60) rfl ?_
    refine And.intro (by omega) (And.intro (show _ < (1725 : Int) from by omega) ?_)
    intro v8 e8 a8 b8
    replace e8 : v8 = M 60 88 := e8
    have I8 : 0 ≤ v8 ∧ v8 ≤ 12 := by
      rw [e8]
      exact hI.1.1
    clear a8 b8
    intro v10 e10 a10 b10
    rw [pz_wi (by omega) (by omega)] at e10
    clear a10 b10
    refine And.intro (True.intro) ?_
    intro v11 M11 a11 b11 q11
    obtain ⟨q11, z11⟩ := q11
    subst z11
    clear a11 b11
    refine And.intro (by omega) ?_
    refine And.intro rfl ?_
    exact ⟨by omega, rfl⟩
theorem v_X12_isLink {fr lo i : Nat} {own : String} (h1 : 1 + 1 ≤ fr) (h2 : 8 + (2 + 11) + 22 ≤ lo) (h3 : .methodLink own i yX12_isLink ∈ lw_tbl) : pz_cV fr lo own i k_X12_isLink :=
  pz_cVk (maxL := 2) (fr' := 1) (lo' := 22) 1 12 h_X12_isLink rfl ⟨by decide +kernel, by decide +kernel, by decide +kernel⟩ ⟨(pz_mt 1227 (by decide +kernel)), (pz_mt 1226 (by decide +kernel)), (pz_ms 5 (by decide +kernel)), (pz_mt 13 (by decide +kernel))⟩ (Or.inl ⟨TX12, 28, rfl⟩) (fun a M _ h => by
    have h : (match (generalizing := false) a with | [.inr (.inr (12, th)), .inl i] => pz_im M | _ => False) := h
    split at h
    · exact ⟨_, _, rfl⟩
    · exact h.elim) h1 h2 h3
