def k_X12_isIn : pz_C := (3, 1, fun a M => (match a with | [.inl x, .inl y, .inl z] => True | _ => False), fun a M r M' => (match a, r with | [.inl x, .inl y, .inl z], some (.inl v) => ((v = 1 ∧ y ≤ x ∧ x ≤ z) ∨ (v = 0 ∧ ¬ (y ≤ x ∧ x ≤ z))) ∧ M = M' | _, _ => False))
abbrev ct_X12_isIn : List (Bool × Nat × pz_C) := []
set_option maxRecDepth 100000 in
set_option maxHeartbeats 4000000 in
theorem h_X12_isIn : pz_H yX12_isIn cX12_isIn 3 (some .boolean) k_X12_isIn 0 0 := by
  refine pz_mk (own := RX12) (tb := t_X12_isIn) (fl := pz_flf fl_RX12) (ci := pz_cif ci_RX12) (ct := pz_ctf ct_X12_isIn) (rz := true) (by decide +kernel) rfl t_X12_isIn_ok (pz_flk fl_RX12_ok) (pz_cik ci_RX12_ok) ?_ ?_ (Or.inr ⟨rfl, rfl⟩) ?_ ?_
  · exact fun i k' h => pz_ctk (l := ct_X12_isIn) (P := fun b i k => b = true → pz_cV 0 0 RX12 i k) (fun _ h => absurd h List.not_mem_nil) true i k' h rfl
  · exact fun i k' h => pz_ctk (l := ct_X12_isIn) (P := fun b i k => b = false → (pz_cS 0 0 RX12 i k ∨ (k = pz_kac ∧ 1 ≤ 0 ∧ 60 ≤ 0 ∧ Cond.methodLink RX12 i arraycopyName ∈ pz_tbl))) (fun _ h => absurd h List.not_mem_nil) false i k' h rfl
  · intro a M hlen hpre
    obtain ⟨x, y, z, rfl, hpre⟩ : ∃ x y z, a = [.inl x, .inl y, .inl z] ∧ (True) := by
      have hpre : (match (generalizing := false) a with | [.inl x, .inl y, .inl z] => True | _ => False) := hpre
      split at hpre
      · exact ⟨_, _, _, rfl, hpre⟩
      · exact hpre.elim
    exact Nat.le_of_ble_eq_true rfl
  · intro a M hlen hcan hM hpre Ok hgo
    obtain ⟨x, y, z, rfl, hpre⟩ : ∃ x y z, a = [.inl x, .inl y, .inl z] ∧ (True) := by
      have hpre : (match (generalizing := false) a with | [.inl x, .inl y, .inl z] => True | _ => False) := hpre
      split at hpre
      · exact ⟨_, _, _, rfl, hpre⟩
      · exact hpre.elim
    obtain ⟨k_x, hc_x⟩ := pz_tlm hcan
    have l_x : -2147483648 ≤ x := k_x.1
    have u_x : x ≤ 2147483647 := k_x.2
    obtain ⟨k_y, hc_y⟩ := pz_tlm hc_x
    have l_y : -2147483648 ≤ y := k_y.1
    have u_y : y ≤ 2147483647 := k_y.2
    obtain ⟨k_z, hc_z⟩ := pz_tlm hc_y
    have l_z : -2147483648 ≤ z := k_z.1
    have u_z : z ≤ 2147483647 := k_z.2
    refine hgo (fun _ => false) 12 0 _ [] M ?_
    refine And.intro (fun h2 => ?_) (fun h2 => ?_)
    · skip
      refine And.intro (by omega) ?_
      refine And.intro rfl ?_
      exact ⟨by omega, rfl⟩
    · skip
      refine And.intro (fun h7 => ?_) (fun h7 => ?_)
      · skip
        refine And.intro (by omega) ?_
        refine And.intro rfl ?_
        exact ⟨by omega, rfl⟩
      · skip
        refine And.intro (by omega) ?_
        refine And.intro rfl ?_
        exact ⟨by omega, rfl⟩
theorem s_X12_isIn {fr lo i : Nat} {own : String} (h1 : 0 + 1 ≤ fr) (h2 : 8 + (3 + 11) + 0 ≤ lo) (h3 : .methodLink own i yX12_isIn ∈ lw_tbl ∨ (own = RX1 ∧ i = 35 ∧ yX12_isIn = yX11_within)) : pz_cS fr lo own i k_X12_isIn := pz_cSk (maxL := 3) (fr' := 0) (lo' := 0) 3 h_X12_isIn rfl ⟨by decide +kernel, by decide +kernel, by decide +kernel⟩ ⟨by decide +kernel, by decide +kernel, by decide +kernel⟩ h1 h2 h3
def k_X12_lesser : pz_C := (2, 1, fun a M => (match a with | [.inl x, .inl y] => True | _ => False), fun a M r M' => (match a, r with | [.inl x, .inl y], some (.inl v) => (v ≤ x ∧ v ≤ y ∧ (v = x ∨ v = y)) ∧ M = M' | _, _ => False))
abbrev ct_X12_lesser : List (Bool × Nat × pz_C) := []
set_option maxRecDepth 100000 in
set_option maxHeartbeats 4000000 in
theorem h_X12_lesser : pz_H yX12_lesser cX12_lesser 2 (some .int) k_X12_lesser 0 0 := by
  refine pz_mk (own := RX12) (tb := t_X12_lesser) (fl := pz_flf fl_RX12) (ci := pz_cif ci_RX12) (ct := pz_ctf ct_X12_lesser) (rz := false) (by decide +kernel) rfl t_X12_lesser_ok (pz_flk fl_RX12_ok) (pz_cik ci_RX12_ok) ?_ ?_ (Or.inl ⟨rfl, rfl⟩) ?_ ?_
  · exact fun i k' h => pz_ctk (l := ct_X12_lesser) (P := fun b i k => b = true → pz_cV 0 0 RX12 i k) (fun _ h => absurd h List.not_mem_nil) true i k' h rfl
  · exact fun i k' h => pz_ctk (l := ct_X12_lesser) (P := fun b i k => b = false → (pz_cS 0 0 RX12 i k ∨ (k = pz_kac ∧ 1 ≤ 0 ∧ 60 ≤ 0 ∧ Cond.methodLink RX12 i arraycopyName ∈ pz_tbl))) (fun _ h => absurd h List.not_mem_nil) false i k' h rfl
  · intro a M hlen hpre
    obtain ⟨x, y, rfl, hpre⟩ : ∃ x y, a = [.inl x, .inl y] ∧ (True) := by
      have hpre : (match (generalizing := false) a with | [.inl x, .inl y] => True | _ => False) := hpre
      split at hpre
      · exact ⟨_, _, rfl, hpre⟩
      · exact hpre.elim
    exact Nat.le_of_ble_eq_true rfl
  · intro a M hlen hcan hM hpre Ok hgo
    obtain ⟨x, y, rfl, hpre⟩ : ∃ x y, a = [.inl x, .inl y] ∧ (True) := by
      have hpre : (match (generalizing := false) a with | [.inl x, .inl y] => True | _ => False) := hpre
      split at hpre
      · exact ⟨_, _, rfl, hpre⟩
      · exact hpre.elim
    obtain ⟨k_x, hc_x⟩ := pz_tlm hcan
    have l_x : -2147483648 ≤ x := k_x.1
    have u_x : x ≤ 2147483647 := k_x.2
    obtain ⟨k_y, hc_y⟩ := pz_tlm hc_x
    have l_y : -2147483648 ≤ y := k_y.1
    have u_y : y ≤ 2147483647 := k_y.2
    refine hgo (fun _ => false) 9 0 _ [] M ?_
    refine And.intro (fun h2 => ?_) (fun h2 => ?_)
    · skip
      refine And.intro rfl ?_
      exact ⟨by omega, rfl⟩
    · skip
      refine And.intro rfl ?_
      exact ⟨by omega, rfl⟩
theorem s_X12_lesser {fr lo i : Nat} {own : String} (h1 : 0 + 1 ≤ fr) (h2 : 8 + (2 + 11) + 0 ≤ lo) (h3 : .methodLink own i yX12_lesser ∈ lw_tbl ∨ (own = RX1 ∧ i = 35 ∧ yX12_lesser = yX11_within)) : pz_cS fr lo own i k_X12_lesser := pz_cSk (maxL := 2) (fr' := 0) (lo' := 0) 2 h_X12_lesser rfl ⟨by decide +kernel, by decide +kernel, by decide +kernel⟩ ⟨by decide +kernel, by decide +kernel, by decide +kernel⟩ h1 h2 h3
def k_X12_greater : pz_C := (2, 1, fun a M => (match a with | [.inl x, .inl y] => True | _ => False), fun a M r M' => (match a, r with | [.inl x, .inl y], some (.inl v) => (x ≤ v ∧ y ≤ v ∧ (v = x ∨ v = y)) ∧ M = M' | _, _ => False))
abbrev ct_X12_greater : List (Bool × Nat × pz_C) := []
set_option maxRecDepth 100000 in
set_option maxHeartbeats 4000000 in
theorem h_X12_greater : pz_H yX12_greater cX12_greater 2 (some .int) k_X12_greater 0 0 := by
  refine pz_mk (own := RX12) (tb := t_X12_greater) (fl := pz_flf fl_RX12) (ci := pz_cif ci_RX12) (ct := pz_ctf ct_X12_greater) (rz := false) (by decide +kernel) rfl t_X12_greater_ok (pz_flk fl_RX12_ok) (pz_cik ci_RX12_ok) ?_ ?_ (Or.inl ⟨rfl, rfl⟩) ?_ ?_
  · exact fun i k' h => pz_ctk (l := ct_X12_greater) (P := fun b i k => b = true → pz_cV 0 0 RX12 i k) (fun _ h => absurd h List.not_mem_nil) true i k' h rfl
  · exact fun i k' h => pz_ctk (l := ct_X12_greater) (P := fun b i k => b = false → (pz_cS 0 0 RX12 i k ∨ (k = pz_kac ∧ 1 ≤ 0 ∧ 60 ≤ 0 ∧ Cond.methodLink RX12 i arraycopyName ∈ pz_tbl))) (fun _ h => absurd h List.not_mem_nil) false i k' h rfl
  · intro a M hlen hpre
    obtain ⟨x, y, rfl, hpre⟩ : ∃ x y, a = [.inl x, .inl y] ∧ (True) := by
      have hpre : (match (generalizing := false) a with | [.inl x, .inl y] => True | _ => False) := hpre
      split at hpre
      · exact ⟨_, _, rfl, hpre⟩
      · exact hpre.elim
    exact Nat.le_of_ble_eq_true rfl
  · intro a M hlen hcan hM hpre Ok hgo
    obtain ⟨x, y, rfl, hpre⟩ : ∃ x y, a = [.inl x, .inl y] ∧ (True) := by
      have hpre : (match (generalizing := false) a with | [.inl x, .inl y] => True | _ => False) := hpre
      split at hpre
      · exact ⟨_, _, rfl, hpre⟩
      · exact hpre.elim
    obtain ⟨k_x, hc_x⟩ := pz_tlm hcan
    have l_x : -2147483648 ≤ x := k_x.1
    have u_x : x ≤ 2147483647 := k_x.2
    obtain ⟨k_y, hc_y⟩ := pz_tlm hc_x
    have l_y : -2147483648 ≤ y := k_y.1
    have u_y : y ≤ 2147483647 := k_y.2
    refine hgo (fun _ => false) 9 0 _ [] M ?_
    refine And.intro (fun h2 => ?_) (fun h2 => ?_)
    · skip
      refine And.intro rfl ?_
      exact ⟨by omega, rfl⟩
    · skip
      refine And.intro rfl ?_
      exact ⟨by omega, rfl⟩
theorem s_X12_greater {fr lo i : Nat} {own : String} (h1 : 0 + 1 ≤ fr) (h2 : 8 + (2 + 11) + 0 ≤ lo) (h3 : .methodLink own i yX12_greater ∈ lw_tbl ∨ (own = RX1 ∧ i = 35 ∧ yX12_greater = yX11_within)) : pz_cS fr lo own i k_X12_greater := pz_cSk (maxL := 2) (fr' := 0) (lo' := 0) 2 h_X12_greater rfl ⟨by decide +kernel, by decide +kernel, by decide +kernel⟩ ⟨by decide +kernel, by decide +kernel, by decide +kernel⟩ h1 h2 h3
def k_X12_held : pz_C := (3, 1, fun a M => (match a with | [.inl x, .inl y, .inl z] => True | _ => False), fun a M r M' => (match a, r with | [.inl x, .inl y, .inl z], some (.inl v) => (True) ∧ M = M' | _, _ => False))
abbrev ct_X12_held : List (Bool × Nat × pz_C) := [(false, 47, k_X12_lesser), (false, 51, k_X12_greater)]
set_option maxRecDepth 100000 in
set_option maxHeartbeats 4000000 in
theorem h_X12_held : pz_H yX12_held cX12_held 3 (some .int) k_X12_held 1 21 := by
  refine pz_mk (own := RX12) (tb := t_X12_held) (fl := pz_flf fl_RX12) (ci := pz_cif ci_RX12) (ct := pz_ctf ct_X12_held) (rz := false) (by decide +kernel) rfl t_X12_held_ok (pz_flk fl_RX12_ok) (pz_cik ci_RX12_ok) ?_ ?_ (Or.inl ⟨rfl, rfl⟩) ?_ ?_
  · exact fun i k' h => pz_ctk (l := ct_X12_held) (P := fun b i k => b = true → pz_cV 1 21 RX12 i k) (List.forall_mem_cons.mpr ⟨((fun z => by cases z)), List.forall_mem_cons.mpr ⟨((fun z => by cases z)), fun _ h => absurd h List.not_mem_nil⟩⟩) true i k' h rfl
  · exact fun i k' h => pz_ctk (l := ct_X12_held) (P := fun b i k => b = false → (pz_cS 1 21 RX12 i k ∨ (k = pz_kac ∧ 1 ≤ 1 ∧ 60 ≤ 21 ∧ Cond.methodLink RX12 i arraycopyName ∈ pz_tbl))) (List.forall_mem_cons.mpr ⟨(fun _ => Or.inl (s_X12_lesser (by decide) (by decide) (Or.inl (by decide +kernel)))), List.forall_mem_cons.mpr ⟨(fun _ => Or.inl (s_X12_greater (by decide) (by decide) (Or.inl (by decide +kernel)))), fun _ h => absurd h List.not_mem_nil⟩⟩) false i k' h rfl
  · intro a M hlen hpre
    obtain ⟨x, y, z, rfl, hpre⟩ : ∃ x y z, a = [.inl x, .inl y, .inl z] ∧ (True) := by
      have hpre : (match (generalizing := false) a with | [.inl x, .inl y, .inl z] => True | _ => False) := hpre
      split at hpre
      · exact ⟨_, _, _, rfl, hpre⟩
      · exact hpre.elim
    exact Nat.le_of_ble_eq_true rfl
  · intro a M hlen hcan hM hpre Ok hgo
    obtain ⟨x, y, z, rfl, hpre⟩ : ∃ x y z, a = [.inl x, .inl y, .inl z] ∧ (True) := by
      have hpre : (match (generalizing := false) a with | [.inl x, .inl y, .inl z] => True | _ => False) := hpre
      split at hpre
      · exact ⟨_, _, _, rfl, hpre⟩
      · exact hpre.elim
    obtain ⟨k_x, hc_x⟩ := pz_tlm hcan
    have l_x : -2147483648 ≤ x := k_x.1
    have u_x : x ≤ 2147483647 := k_x.2
    obtain ⟨k_y, hc_y⟩ := pz_tlm hc_x
    have l_y : -2147483648 ≤ y := k_y.1
    have u_y : y ≤ 2147483647 := k_y.2
    obtain ⟨k_z, hc_z⟩ := pz_tlm hc_y
    have l_z : -2147483648 ≤ z := k_z.1
    have u_z : z ≤ 2147483647 := k_z.2
    refine hgo (fun _ => false) 8 0 _ [] M ?_
    refine And.intro (True.intro) ?_
    intro v3 M3 a3 b3 q3
    obtain ⟨q3, z3⟩ := q3
    subst z3
    refine And.intro (True.intro) ?_
    intro v6 M6 a6 b6 q6
    obtain ⟨q6, z6⟩ := q6
    subst z6
    refine And.intro rfl ?_
    exact ⟨trivial, rfl⟩
theorem s_X12_held {fr lo i : Nat} {own : String} (h1 : 1 + 1 ≤ fr) (h2 : 8 + (3 + 11) + 21 ≤ lo) (h3 : .methodLink own i yX12_held ∈ lw_tbl ∨ (own = RX1 ∧ i = 35 ∧ yX12_held = yX11_within)) : pz_cS fr lo own i k_X12_held := pz_cSk (maxL := 3) (fr' := 1) (lo' := 21) 3 h_X12_held rfl ⟨by decide +kernel, by decide +kernel, by decide +kernel⟩ ⟨by decide +kernel, by decide +kernel, by decide +kernel⟩ h1 h2 h3
def k_X12_isLink : pz_C := (2, 1, fun a M => (match a with | [.inr (.inr (12, th)), .inl i] => pz_im M | _ => False), fun a M r M' => (match a, r with | [.inr (.inr (12, th)), .inl i], some (.inl v) => ((v = 1 ∧ 0 ≤ i ∧ i < M 60 88 ∧ M 60 88 ≤ 12) ∨ v = 0) ∧ M = M' | _, _ => False))
abbrev ct_X12_isLink : List (Bool × Nat × pz_C) := [(false, 54, k_X12_isIn)]
set_option maxRecDepth 100000 in
set_option maxHeartbeats 4000000 in
theorem h_X12_isLink : pz_H yX12_isLink cX12_isLink 2 (some .boolean) k_X12_isLink 1 22 := by
  refine pz_mk (own := RX12) (tb := t_X12_isLink) (fl := pz_flf fl_RX12) (ci := pz_cif ci_RX12) (ct := pz_ctf ct_X12_isLink) (rz := true) (by decide +kernel) rfl t_X12_isLink_ok (pz_flk fl_RX12_ok) (pz_cik ci_RX12_ok) ?_ ?_ (Or.inr ⟨rfl, rfl⟩) ?_ ?_
  · exact fun i k' h => pz_ctk (l := ct_X12_isLink) (P := fun b i k => b = true → pz_cV 1 22 RX12 i k) (List.forall_mem_cons.mpr ⟨((fun z => by cases z)), fun _ h => absurd h List.not_mem_nil⟩) true i k' h rfl
  · exact fun i k' h => pz_ctk (l := ct_X12_isLink) (P := fun b i k => b = false → (pz_cS 1 22 RX12 i k ∨ (k = pz_kac ∧ 1 ≤ 1 ∧ 60 ≤ 22 ∧ Cond.methodLink RX12 i arraycopyName ∈ pz_tbl))) (List.forall_mem_cons.mpr ⟨(fun _ => Or.inl (s_X12_isIn (by decide) (by decide) (Or.inl (by decide +kernel)))), fun _ h => absurd h List.not_mem_nil⟩) false i k' h rfl
  · intro a M hlen hpre
    obtain ⟨th, i, rfl, hpre⟩ : ∃ th i, a = [.inr (.inr (12, th)), .inl i] ∧ (pz_im M) := by
      have hpre : (match (generalizing := false) a with | [.inr (.inr (12, th)), .inl i] => pz_im M | _ => False) := hpre
      split at hpre
      · exact ⟨_, _, rfl, hpre⟩
      · exact hpre.elim
    exact Nat.le_of_ble_eq_true rfl
  · intro a M hlen hcan hM hpre Ok hgo
    obtain ⟨th, i, rfl, hpre⟩ : ∃ th i, a = [.inr (.inr (12, th)), .inl i] ∧ (pz_im M) := by
      have hpre : (match (generalizing := false) a with | [.inr (.inr (12, th)), .inl i] => pz_im M | _ => False) := hpre
      split at hpre
      · exact ⟨_, _, rfl, hpre⟩
      · exact hpre.elim
    obtain ⟨k_th, hc_th⟩ := pz_tlm hcan
    have k_th : pz_kd th = 12 ∧ th < 231 := k_th
    have R_th := pz_kd12 k_th.1
    subst R_th
    obtain ⟨k_i, hc_i⟩ := pz_tlm hc_th
    have l_i : -2147483648 ≤ i := k_i.1
    have u_i : i ≤ 2147483647 := k_i.2
    have hI : pz_im M := hpre
    refine hgo (fun _ => false) 12 0 _ [] M ?_
    intro r3 e3 k3
    have e3 : r3 = 60 := e3
    subst e3
    refine And.intro (by omega) (And.intro (show _ < (1725 : Int) from by omega) ?_)
    intro v8 e8 a8 b8
    have e8 : v8 = M 60 88 := e8
    have I8 := hI.1.1
    intro v10 e10 a10 b10
    try rw [pz_wi (by omega) (by omega)] at e10
    refine And.intro (True.intro) ?_
    intro v11 M11 a11 b11 q11
    obtain ⟨q11, z11⟩ := q11
    subst z11
    refine And.intro (by omega) ?_
    refine And.intro rfl ?_
    exact ⟨by omega, rfl⟩
theorem v_X12_isLink {fr lo i : Nat} {own : String} (h1 : 1 + 1 ≤ fr) (h2 : 8 + (2 + 11) + 22 ≤ lo) (h3 : .methodLink own i yX12_isLink ∈ lw_tbl) : pz_cV fr lo own i k_X12_isLink :=
  pz_cVk (maxL := 2) (fr' := 1) (lo' := 22) 1 12 h_X12_isLink rfl ⟨by decide +kernel, by decide +kernel, by decide +kernel⟩ ⟨by decide +kernel, by decide +kernel, by decide +kernel, by decide +kernel⟩ (Or.inl ⟨TX12, 28, rfl⟩) (fun a M _ h => by
    have h : (match (generalizing := false) a with | [.inr (.inr (12, th)), .inl i] => pz_im M | _ => False) := h
    split at h
    · exact ⟨_, _, rfl⟩
    · exact h.elim) h1 h2 h3
def k_X12_isReady : pz_C := (2, 1, fun a M => (match a with | [.inr (.inr (12, th)), .inl i] => pz_im M ∧ -40 ≤ i ∧ i ≤ 1000 | _ => False), fun a M r M' => (match a, r with | [.inr (.inr (12, th)), .inl i], some (.inl v) => (v = 0 ∨ v = 1) ∧ M = M' | _, _ => False))
abbrev ct_X12_isReady : List (Bool × Nat × pz_C) := []
set_option maxRecDepth 100000 in
set_option maxHeartbeats 4000000 in
theorem h_X12_isReady : pz_H yX12_isReady cX12_isReady 2 (some .boolean) k_X12_isReady 0 0 := by
  refine pz_mk (own := RX12) (tb := t_X12_isReady) (fl := pz_flf fl_RX12) (ci := pz_cif ci_RX12) (ct := pz_ctf ct_X12_isReady) (rz := true) (by decide +kernel) rfl t_X12_isReady_ok (pz_flk fl_RX12_ok) (pz_cik ci_RX12_ok) ?_ ?_ (Or.inr ⟨rfl, rfl⟩) ?_ ?_
  · exact fun i k' h => pz_ctk (l := ct_X12_isReady) (P := fun b i k => b = true → pz_cV 0 0 RX12 i k) (fun _ h => absurd h List.not_mem_nil) true i k' h rfl
  · exact fun i k' h => pz_ctk (l := ct_X12_isReady) (P := fun b i k => b = false → (pz_cS 0 0 RX12 i k ∨ (k = pz_kac ∧ 1 ≤ 0 ∧ 60 ≤ 0 ∧ Cond.methodLink RX12 i arraycopyName ∈ pz_tbl))) (fun _ h => absurd h List.not_mem_nil) false i k' h rfl
  · intro a M hlen hpre
    obtain ⟨th, i, rfl, hpre⟩ : ∃ th i, a = [.inr (.inr (12, th)), .inl i] ∧ (pz_im M ∧ -40 ≤ i ∧ i ≤ 1000) := by
      have hpre : (match (generalizing := false) a with | [.inr (.inr (12, th)), .inl i] => pz_im M ∧ -40 ≤ i ∧ i ≤ 1000 | _ => False) := hpre
      split at hpre
      · exact ⟨_, _, rfl, hpre⟩
      · exact hpre.elim
    exact Nat.le_of_ble_eq_true rfl
  · intro a M hlen hcan hM hpre Ok hgo
    obtain ⟨th, i, rfl, hpre⟩ : ∃ th i, a = [.inr (.inr (12, th)), .inl i] ∧ (pz_im M ∧ -40 ≤ i ∧ i ≤ 1000) := by
      have hpre : (match (generalizing := false) a with | [.inr (.inr (12, th)), .inl i] => pz_im M ∧ -40 ≤ i ∧ i ≤ 1000 | _ => False) := hpre
      split at hpre
      · exact ⟨_, _, rfl, hpre⟩
      · exact hpre.elim
    obtain ⟨k_th, hc_th⟩ := pz_tlm hcan
    have k_th : pz_kd th = 12 ∧ th < 231 := k_th
    have R_th := pz_kd12 k_th.1
    subst R_th
    obtain ⟨k_i, hc_i⟩ := pz_tlm hc_th
    have l_i : -2147483648 ≤ i := k_i.1
    have u_i : i ≤ 2147483647 := k_i.2
    have hI : pz_im M := hpre.1
    refine hgo (fun _ => false) 14 0 _ [] M ?_
    intro r1 e1 k1
    have e1 : r1 = 60 := e1
    subst e1
    intro v7 e7 a7 b7
    try rw [pz_wi (by omega) (by omega)] at e7
    refine And.intro (by omega) (And.intro (show _ < (1725 : Int) from by omega) ?_)
    intro v8 e8 a8 b8
    refine And.intro (fun h10 => ?_) (fun h10 => ?_)
    · skip
      refine And.intro (by omega) ?_
      refine And.intro rfl ?_
      exact ⟨by omega, rfl⟩
    · skip
      refine And.intro (by omega) ?_
      refine And.intro rfl ?_
      exact ⟨by omega, rfl⟩
theorem v_X12_isReady {fr lo i : Nat} {own : String} (h1 : 0 + 1 ≤ fr) (h2 : 8 + (2 + 11) + 0 ≤ lo) (h3 : .methodLink own i yX12_isReady ∈ lw_tbl) : pz_cV fr lo own i k_X12_isReady :=
  pz_cVk (maxL := 2) (fr' := 0) (lo' := 0) 1 12 h_X12_isReady rfl ⟨by decide +kernel, by decide +kernel, by decide +kernel⟩ ⟨by decide +kernel, by decide +kernel, by decide +kernel, by decide +kernel⟩ (Or.inl ⟨TX12, 28, rfl⟩) (fun a M _ h => by
    have h : (match (generalizing := false) a with | [.inr (.inr (12, th)), .inl i] => pz_im M ∧ -40 ≤ i ∧ i ≤ 1000 | _ => False) := h
    split at h
    · exact ⟨_, _, rfl⟩
    · exact h.elim) h1 h2 h3
def k_X12_isOut : pz_C := (2, 1, fun a M => (match a with | [.inr (.inr (12, th)), .inl i] => pz_im M ∧ -52 ≤ i ∧ i ≤ 1000 | _ => False), fun a M r M' => (match a, r with | [.inr (.inr (12, th)), .inl i], some (.inl v) => (v = 0 ∨ v = 1) ∧ M = M' | _, _ => False))
abbrev ct_X12_isOut : List (Bool × Nat × pz_C) := []
set_option maxRecDepth 100000 in
set_option maxHeartbeats 4000000 in
theorem h_X12_isOut : pz_H yX12_isOut cX12_isOut 2 (some .boolean) k_X12_isOut 0 0 := by
  refine pz_mk (own := RX12) (tb := t_X12_isOut) (fl := pz_flf fl_RX12) (ci := pz_cif ci_RX12) (ct := pz_ctf ct_X12_isOut) (rz := true) (by decide +kernel) rfl t_X12_isOut_ok (pz_flk fl_RX12_ok) (pz_cik ci_RX12_ok) ?_ ?_ (Or.inr ⟨rfl, rfl⟩) ?_ ?_
  · exact fun i k' h => pz_ctk (l := ct_X12_isOut) (P := fun b i k => b = true → pz_cV 0 0 RX12 i k) (fun _ h => absurd h List.not_mem_nil) true i k' h rfl
  · exact fun i k' h => pz_ctk (l := ct_X12_isOut) (P := fun b i k => b = false → (pz_cS 0 0 RX12 i k ∨ (k = pz_kac ∧ 1 ≤ 0 ∧ 60 ≤ 0 ∧ Cond.methodLink RX12 i arraycopyName ∈ pz_tbl))) (fun _ h => absurd h List.not_mem_nil) false i k' h rfl
  · intro a M hlen hpre
    obtain ⟨th, i, rfl, hpre⟩ : ∃ th i, a = [.inr (.inr (12, th)), .inl i] ∧ (pz_im M ∧ -52 ≤ i ∧ i ≤ 1000) := by
      have hpre : (match (generalizing := false) a with | [.inr (.inr (12, th)), .inl i] => pz_im M ∧ -52 ≤ i ∧ i ≤ 1000 | _ => False) := hpre
      split at hpre
      · exact ⟨_, _, rfl, hpre⟩
      · exact hpre.elim
    exact Nat.le_of_ble_eq_true rfl
  · intro a M hlen hcan hM hpre Ok hgo
    obtain ⟨th, i, rfl, hpre⟩ : ∃ th i, a = [.inr (.inr (12, th)), .inl i] ∧ (pz_im M ∧ -52 ≤ i ∧ i ≤ 1000) := by
      have hpre : (match (generalizing := false) a with | [.inr (.inr (12, th)), .inl i] => pz_im M ∧ -52 ≤ i ∧ i ≤ 1000 | _ => False) := hpre
      split at hpre
      · exact ⟨_, _, rfl, hpre⟩
      · exact hpre.elim
    obtain ⟨k_th, hc_th⟩ := pz_tlm hcan
    have k_th : pz_kd th = 12 ∧ th < 231 := k_th
    have R_th := pz_kd12 k_th.1
    subst R_th
    obtain ⟨k_i, hc_i⟩ := pz_tlm hc_th
    have l_i : -2147483648 ≤ i := k_i.1
    have u_i : i ≤ 2147483647 := k_i.2
    have hI : pz_im M := hpre.1
    refine hgo (fun _ => false) 14 0 _ [] M ?_
    intro r1 e1 k1
    have e1 : r1 = 60 := e1
    subst e1
    intro v7 e7 a7 b7
    try rw [pz_wi (by omega) (by omega)] at e7
    refine And.intro (by omega) (And.intro (show _ < (1725 : Int) from by omega) ?_)
    intro v8 e8 a8 b8
    refine And.intro (fun h10 => ?_) (fun h10 => ?_)
    · skip
      refine And.intro (by omega) ?_
      refine And.intro rfl ?_
      exact ⟨by omega, rfl⟩
    · skip
      refine And.intro (by omega) ?_
      refine And.intro rfl ?_
      exact ⟨by omega, rfl⟩
theorem v_X12_isOut {fr lo i : Nat} {own : String} (h1 : 0 + 1 ≤ fr) (h2 : 8 + (2 + 11) + 0 ≤ lo) (h3 : .methodLink own i yX12_isOut ∈ lw_tbl) : pz_cV fr lo own i k_X12_isOut :=
  pz_cVk (maxL := 2) (fr' := 0) (lo' := 0) 1 12 h_X12_isOut rfl ⟨by decide +kernel, by decide +kernel, by decide +kernel⟩ ⟨by decide +kernel, by decide +kernel, by decide +kernel, by decide +kernel⟩ (Or.inl ⟨TX12, 28, rfl⟩) (fun a M _ h => by
    have h : (match (generalizing := false) a with | [.inr (.inr (12, th)), .inl i] => pz_im M ∧ -52 ≤ i ∧ i ≤ 1000 | _ => False) := h
    split at h
    · exact ⟨_, _, rfl⟩
    · exact h.elim) h1 h2 h3
def k_X12_isBridged : pz_C := (2, 1, fun a M => (match a with | [.inr (.inr (12, th)), .inl i] => pz_im M ∧ -64 ≤ i ∧ i ≤ 1000 | _ => False), fun a M r M' => (match a, r with | [.inr (.inr (12, th)), .inl i], some (.inl v) => (v = 0 ∨ v = 1) ∧ M = M' | _, _ => False))
abbrev ct_X12_isBridged : List (Bool × Nat × pz_C) := []
set_option maxRecDepth 100000 in
set_option maxHeartbeats 4000000 in
theorem h_X12_isBridged : pz_H yX12_isBridged cX12_isBridged 2 (some .boolean) k_X12_isBridged 0 0 := by
  refine pz_mk (own := RX12) (tb := t_X12_isBridged) (fl := pz_flf fl_RX12) (ci := pz_cif ci_RX12) (ct := pz_ctf ct_X12_isBridged) (rz := true) (by decide +kernel) rfl t_X12_isBridged_ok (pz_flk fl_RX12_ok) (pz_cik ci_RX12_ok) ?_ ?_ (Or.inr ⟨rfl, rfl⟩) ?_ ?_
  · exact fun i k' h => pz_ctk (l := ct_X12_isBridged) (P := fun b i k => b = true → pz_cV 0 0 RX12 i k) (fun _ h => absurd h List.not_mem_nil) true i k' h rfl
  · exact fun i k' h => pz_ctk (l := ct_X12_isBridged) (P := fun b i k => b = false → (pz_cS 0 0 RX12 i k ∨ (k = pz_kac ∧ 1 ≤ 0 ∧ 60 ≤ 0 ∧ Cond.methodLink RX12 i arraycopyName ∈ pz_tbl))) (fun _ h => absurd h List.not_mem_nil) false i k' h rfl
  · intro a M hlen hpre
    obtain ⟨th, i, rfl, hpre⟩ : ∃ th i, a = [.inr (.inr (12, th)), .inl i] ∧ (pz_im M ∧ -64 ≤ i ∧ i ≤ 1000) := by
      have hpre : (match (generalizing := false) a with | [.inr (.inr (12, th)), .inl i] => pz_im M ∧ -64 ≤ i ∧ i ≤ 1000 | _ => False) := hpre
      split at hpre
      · exact ⟨_, _, rfl, hpre⟩
      · exact hpre.elim
    exact Nat.le_of_ble_eq_true rfl
  · intro a M hlen hcan hM hpre Ok hgo
    obtain ⟨th, i, rfl, hpre⟩ : ∃ th i, a = [.inr (.inr (12, th)), .inl i] ∧ (pz_im M ∧ -64 ≤ i ∧ i ≤ 1000) := by
      have hpre : (match (generalizing := false) a with | [.inr (.inr (12, th)), .inl i] => pz_im M ∧ -64 ≤ i ∧ i ≤ 1000 | _ => False) := hpre
      split at hpre
      · exact ⟨_, _, rfl, hpre⟩
      · exact hpre.elim
    obtain ⟨k_th, hc_th⟩ := pz_tlm hcan
    have k_th : pz_kd th = 12 ∧ th < 231 := k_th
    have R_th := pz_kd12 k_th.1
    subst R_th
    obtain ⟨k_i, hc_i⟩ := pz_tlm hc_th
    have l_i : -2147483648 ≤ i := k_i.1
    have u_i : i ≤ 2147483647 := k_i.2
    have hI : pz_im M := hpre.1
    refine hgo (fun _ => false) 14 0 _ [] M ?_
    intro r1 e1 k1
    have e1 : r1 = 60 := e1
    subst e1
    intro v7 e7 a7 b7
    try rw [pz_wi (by omega) (by omega)] at e7
    refine And.intro (by omega) (And.intro (show _ < (1725 : Int) from by omega) ?_)
    intro v8 e8 a8 b8
    refine And.intro (fun h10 => ?_) (fun h10 => ?_)
    · skip
      refine And.intro (by omega) ?_
      refine And.intro rfl ?_
      exact ⟨by omega, rfl⟩
    · skip
      refine And.intro (by omega) ?_
      refine And.intro rfl ?_
      exact ⟨by omega, rfl⟩
theorem v_X12_isBridged {fr lo i : Nat} {own : String} (h1 : 0 + 1 ≤ fr) (h2 : 8 + (2 + 11) + 0 ≤ lo) (h3 : .methodLink own i yX12_isBridged ∈ lw_tbl) : pz_cV fr lo own i k_X12_isBridged :=
  pz_cVk (maxL := 2) (fr' := 0) (lo' := 0) 1 12 h_X12_isBridged rfl ⟨by decide +kernel, by decide +kernel, by decide +kernel⟩ ⟨by decide +kernel, by decide +kernel, by decide +kernel, by decide +kernel⟩ (Or.inl ⟨TX12, 28, rfl⟩) (fun a M _ h => by
    have h : (match (generalizing := false) a with | [.inr (.inr (12, th)), .inl i] => pz_im M ∧ -64 ≤ i ∧ i ≤ 1000 | _ => False) := h
    split at h
    · exact ⟨_, _, rfl⟩
    · exact h.elim) h1 h2 h3
def k_X12_hasMoved : pz_C := (2, 1, fun a M => (match a with | [.inr (.inr (12, th)), .inl i] => pz_im M ∧ -76 ≤ i ∧ i ≤ 1000 | _ => False), fun a M r M' => (match a, r with | [.inr (.inr (12, th)), .inl i], some (.inl v) => (v = 0 ∨ v = 1) ∧ M = M' | _, _ => False))
abbrev ct_X12_hasMoved : List (Bool × Nat × pz_C) := []
set_option maxRecDepth 100000 in
set_option maxHeartbeats 4000000 in
theorem h_X12_hasMoved : pz_H yX12_hasMoved cX12_hasMoved 2 (some .boolean) k_X12_hasMoved 0 0 := by
  refine pz_mk (own := RX12) (tb := t_X12_hasMoved) (fl := pz_flf fl_RX12) (ci := pz_cif ci_RX12) (ct := pz_ctf ct_X12_hasMoved) (rz := true) (by decide +kernel) rfl t_X12_hasMoved_ok (pz_flk fl_RX12_ok) (pz_cik ci_RX12_ok) ?_ ?_ (Or.inr ⟨rfl, rfl⟩) ?_ ?_
  · exact fun i k' h => pz_ctk (l := ct_X12_hasMoved) (P := fun b i k => b = true → pz_cV 0 0 RX12 i k) (fun _ h => absurd h List.not_mem_nil) true i k' h rfl
  · exact fun i k' h => pz_ctk (l := ct_X12_hasMoved) (P := fun b i k => b = false → (pz_cS 0 0 RX12 i k ∨ (k = pz_kac ∧ 1 ≤ 0 ∧ 60 ≤ 0 ∧ Cond.methodLink RX12 i arraycopyName ∈ pz_tbl))) (fun _ h => absurd h List.not_mem_nil) false i k' h rfl
  · intro a M hlen hpre
    obtain ⟨th, i, rfl, hpre⟩ : ∃ th i, a = [.inr (.inr (12, th)), .inl i] ∧ (pz_im M ∧ -76 ≤ i ∧ i ≤ 1000) := by
      have hpre : (match (generalizing := false) a with | [.inr (.inr (12, th)), .inl i] => pz_im M ∧ -76 ≤ i ∧ i ≤ 1000 | _ => False) := hpre
      split at hpre
      · exact ⟨_, _, rfl, hpre⟩
      · exact hpre.elim
    exact Nat.le_of_ble_eq_true rfl
  · intro a M hlen hcan hM hpre Ok hgo
    obtain ⟨th, i, rfl, hpre⟩ : ∃ th i, a = [.inr (.inr (12, th)), .inl i] ∧ (pz_im M ∧ -76 ≤ i ∧ i ≤ 1000) := by
      have hpre : (match (generalizing := false) a with | [.inr (.inr (12, th)), .inl i] => pz_im M ∧ -76 ≤ i ∧ i ≤ 1000 | _ => False) := hpre
      split at hpre
      · exact ⟨_, _, rfl, hpre⟩
      · exact hpre.elim
    obtain ⟨k_th, hc_th⟩ := pz_tlm hcan
    have k_th : pz_kd th = 12 ∧ th < 231 := k_th
    have R_th := pz_kd12 k_th.1
    subst R_th
    obtain ⟨k_i, hc_i⟩ := pz_tlm hc_th
    have l_i : -2147483648 ≤ i := k_i.1
    have u_i : i ≤ 2147483647 := k_i.2
    have hI : pz_im M := hpre.1
    refine hgo (fun _ => false) 14 0 _ [] M ?_
    intro r1 e1 k1
    have e1 : r1 = 60 := e1
    subst e1
    intro v7 e7 a7 b7
    try rw [pz_wi (by omega) (by omega)] at e7
    refine And.intro (by omega) (And.intro (show _ < (1725 : Int) from by omega) ?_)
    intro v8 e8 a8 b8
    refine And.intro (fun h10 => ?_) (fun h10 => ?_)
    · skip
      refine And.intro (by omega) ?_
      refine And.intro rfl ?_
      exact ⟨by omega, rfl⟩
    · skip
      refine And.intro (by omega) ?_
      refine And.intro rfl ?_
      exact ⟨by omega, rfl⟩
theorem v_X12_hasMoved {fr lo i : Nat} {own : String} (h1 : 0 + 1 ≤ fr) (h2 : 8 + (2 + 11) + 0 ≤ lo) (h3 : .methodLink own i yX12_hasMoved ∈ lw_tbl) : pz_cV fr lo own i k_X12_hasMoved :=
  pz_cVk (maxL := 2) (fr' := 0) (lo' := 0) 1 12 h_X12_hasMoved rfl ⟨by decide +kernel, by decide +kernel, by decide +kernel⟩ ⟨by decide +kernel, by decide +kernel, by decide +kernel, by decide +kernel⟩ (Or.inl ⟨TX12, 28, rfl⟩) (fun a M _ h => by
    have h : (match (generalizing := false) a with | [.inr (.inr (12, th)), .inl i] => pz_im M ∧ -76 ≤ i ∧ i ≤ 1000 | _ => False) := h
    split at h
    · exact ⟨_, _, rfl⟩
    · exact h.elim) h1 h2 h3
def k_X12_isThere : pz_C := (2, 1, fun a M => (match a with | [.inr (.inr (12, th)), .inl i] => pz_im M | _ => False), fun a M r M' => (match a, r with | [.inr (.inr (12, th)), .inl i], some (.inl v) => ((v = 1 ∧ 0 ≤ i ∧ i < M 60 88 ∧ M 60 88 ≤ 12) ∨ v = 0) ∧ M = M' | _, _ => False))
abbrev ct_X12_isThere : List (Bool × Nat × pz_C) := [(true, 58, k_X12_isLink), (true, 62, k_X12_isOut), (true, 65, k_X12_hasMoved)]
set_option maxRecDepth 100000 in
set_option maxHeartbeats 4000000 in
theorem h_X12_isThere : pz_H yX12_isThere cX12_isThere 2 (some .boolean) k_X12_isThere 2 43 := by
  refine pz_mk (own := RX12) (tb := t_X12_isThere) (fl := pz_flf fl_RX12) (ci := pz_cif ci_RX12) (ct := pz_ctf ct_X12_isThere) (rz := true) (by decide +kernel) rfl t_X12_isThere_ok (pz_flk fl_RX12_ok) (pz_cik ci_RX12_ok) ?_ ?_ (Or.inr ⟨rfl, rfl⟩) ?_ ?_
  · exact fun i k' h => pz_ctk (l := ct_X12_isThere) (P := fun b i k => b = true → pz_cV 2 43 RX12 i k) (List.forall_mem_cons.mpr ⟨(fun _ => v_X12_isLink (by decide) (by decide) (by decide +kernel)), List.forall_mem_cons.mpr ⟨(fun _ => v_X12_isOut (by decide) (by decide) (by decide +kernel)), List.forall_mem_cons.mpr ⟨(fun _ => v_X12_hasMoved (by decide) (by decide) (by decide +kernel)), fun _ h => absurd h List.not_mem_nil⟩⟩⟩) true i k' h rfl
  · exact fun i k' h => pz_ctk (l := ct_X12_isThere) (P := fun b i k => b = false → (pz_cS 2 43 RX12 i k ∨ (k = pz_kac ∧ 1 ≤ 2 ∧ 60 ≤ 43 ∧ Cond.methodLink RX12 i arraycopyName ∈ pz_tbl))) (List.forall_mem_cons.mpr ⟨((fun z => by cases z)), List.forall_mem_cons.mpr ⟨((fun z => by cases z)), List.forall_mem_cons.mpr ⟨((fun z => by cases z)), fun _ h => absurd h List.not_mem_nil⟩⟩⟩) false i k' h rfl
  · intro a M hlen hpre
    obtain ⟨th, i, rfl, hpre⟩ : ∃ th i, a = [.inr (.inr (12, th)), .inl i] ∧ (pz_im M) := by
      have hpre : (match (generalizing := false) a with | [.inr (.inr (12, th)), .inl i] => pz_im M | _ => False) := hpre
      split at hpre
      · exact ⟨_, _, rfl, hpre⟩
      · exact hpre.elim
    exact Nat.le_of_ble_eq_true rfl
  · intro a M hlen hcan hM hpre Ok hgo
    obtain ⟨th, i, rfl, hpre⟩ : ∃ th i, a = [.inr (.inr (12, th)), .inl i] ∧ (pz_im M) := by
      have hpre : (match (generalizing := false) a with | [.inr (.inr (12, th)), .inl i] => pz_im M | _ => False) := hpre
      split at hpre
      · exact ⟨_, _, rfl, hpre⟩
      · exact hpre.elim
    obtain ⟨k_th, hc_th⟩ := pz_tlm hcan
    have k_th : pz_kd th = 12 ∧ th < 231 := k_th
    have R_th := pz_kd12 k_th.1
    subst R_th
    obtain ⟨k_i, hc_i⟩ := pz_tlm hc_th
    have l_i : -2147483648 ≤ i := k_i.1
    have u_i : i ≤ 2147483647 := k_i.2
    have hI : pz_im M := hpre
    refine hgo (fun _ => false) 18 0 _ [] M ?_
    refine And.intro (hI) ?_
    intro v2 M2 a2 b2 q2
    obtain ⟨q2, z2⟩ := q2
    subst z2
    refine And.intro (fun h5 => ?_) (fun h5 => ?_)
    · skip
      refine And.intro (by omega) ?_
      refine And.intro rfl ?_
      exact ⟨by omega, rfl⟩
    · skip
      refine And.intro (And.intro hI (And.intro (by omega) (by omega))) ?_
      intro v10 M10 a10 b10 q10
      obtain ⟨q10, z10⟩ := q10
      subst z10
      refine And.intro (fun h13 => ?_) (fun h13 => ?_)
      · skip
        refine And.intro (by omega) ?_
        refine And.intro rfl ?_
        exact ⟨by omega, rfl⟩
      · skip
        refine And.intro (And.intro hI (And.intro (by omega) (by omega))) ?_
        intro v18 M18 a18 b18 q18
        obtain ⟨q18, z18⟩ := q18
        subst z18
        refine And.intro (fun h21 => ?_) (fun h21 => ?_)
        · skip
          refine And.intro (by omega) ?_
          refine And.intro rfl ?_
          exact ⟨by omega, rfl⟩
        · skip
          refine And.intro (by omega) ?_
          refine And.intro rfl ?_
          exact ⟨by omega, rfl⟩
theorem v_X12_isThere {fr lo i : Nat} {own : String} (h1 : 2 + 1 ≤ fr) (h2 : 8 + (2 + 11) + 43 ≤ lo) (h3 : .methodLink own i yX12_isThere ∈ lw_tbl) : pz_cV fr lo own i k_X12_isThere :=
  pz_cVk (maxL := 2) (fr' := 2) (lo' := 43) 1 12 h_X12_isThere rfl ⟨by decide +kernel, by decide +kernel, by decide +kernel⟩ ⟨by decide +kernel, by decide +kernel, by decide +kernel, by decide +kernel⟩ (Or.inl ⟨TX12, 28, rfl⟩) (fun a M _ h => by
    have h : (match (generalizing := false) a with | [.inr (.inr (12, th)), .inl i] => pz_im M | _ => False) := h
    split at h
    · exact ⟨_, _, rfl⟩
    · exact h.elim) h1 h2 h3
def k_X12_count : pz_C := (1, 1, fun a M => (match a with | [.inl x] => True | _ => False), fun a M r M' => (match a, r with | [.inl x], some (.inl v) => (True) ∧ M = M' | _, _ => False))
abbrev ct_X12_count : List (Bool × Nat × pz_C) := []
set_option maxRecDepth 100000 in
set_option maxHeartbeats 4000000 in
theorem h_X12_count : pz_H yX12_count cX12_count 3 (some .int) k_X12_count 0 0 := by
  refine pz_mk (own := RX12) (tb := t_X12_count) (fl := pz_flf fl_RX12) (ci := pz_cif ci_RX12) (ct := pz_ctf ct_X12_count) (rz := false) (by decide +kernel) rfl t_X12_count_ok (pz_flk fl_RX12_ok) (pz_cik ci_RX12_ok) ?_ ?_ (Or.inl ⟨rfl, rfl⟩) ?_ ?_
  · exact fun i k' h => pz_ctk (l := ct_X12_count) (P := fun b i k => b = true → pz_cV 0 0 RX12 i k) (fun _ h => absurd h List.not_mem_nil) true i k' h rfl
  · exact fun i k' h => pz_ctk (l := ct_X12_count) (P := fun b i k => b = false → (pz_cS 0 0 RX12 i k ∨ (k = pz_kac ∧ 1 ≤ 0 ∧ 60 ≤ 0 ∧ Cond.methodLink RX12 i arraycopyName ∈ pz_tbl))) (fun _ h => absurd h List.not_mem_nil) false i k' h rfl
  · intro a M hlen hpre
    obtain ⟨x, rfl, hpre⟩ : ∃ x, a = [.inl x] ∧ (True) := by
      have hpre : (match (generalizing := false) a with | [.inl x] => True | _ => False) := hpre
      split at hpre
      · exact ⟨_, rfl, hpre⟩
      · exact hpre.elim
    exact Nat.le_of_ble_eq_true rfl
  · intro a M hlen hcan hM hpre Ok hgo
    obtain ⟨x, rfl, hpre⟩ : ∃ x, a = [.inl x] ∧ (True) := by
      have hpre : (match (generalizing := false) a with | [.inl x] => True | _ => False) := hpre
      split at hpre
      · exact ⟨_, rfl, hpre⟩
      · exact hpre.elim
    obtain ⟨k_x, hc_x⟩ := pz_tlm hcan
    have l_x : -2147483648 ≤ x := k_x.1
    have u_x : x ≤ 2147483647 := k_x.2
    have L4 : ∀ (fu : Nat) (x1 : Int) (x2 : Int), (12 - x2).toNat < fu → (0 ≤ x2) → Ok 4 [some (.inl x), some (.inl x1), some (.inl x2)] [] M := by
      intro fu
      induction fu with
      | zero => exact fun _ _ hn => absurd hn (Nat.not_lt_zero _)
      | succ fu ih4 =>
        intro x1 x2 hn4 g4_0
        refine hgo (fun p => Nat.beq p 4) 21 4 _ _ _ ?_
        refine And.intro (fun h7 => ?_) (fun h7 => ?_)
        · skip
          refine And.intro rfl ?_
          exact ⟨trivial, rfl⟩
        · skip
          intro v13 e13 a13 b13
          intro v15 e15 a15 b15
          intro v16 e16 a16 b16
          try rw [pz_wi (by omega) (by omega)] at e16
          intro v18 e18 a18 b18
          try rw [pz_wi (by omega) (by omega)] at e18
          exact ih4 _ _ (by omega) (by omega)
    refine hgo (fun p => Nat.beq p 4) 21 0 _ [] M ?_
    exact L4 _ _ _ (Nat.lt_succ_self _) (by omega)
theorem s_X12_count {fr lo i : Nat} {own : String} (h1 : 0 + 1 ≤ fr) (h2 : 8 + (3 + 11) + 0 ≤ lo) (h3 : .methodLink own i yX12_count ∈ lw_tbl ∨ (own = RX1 ∧ i = 35 ∧ yX12_count = yX11_within)) : pz_cS fr lo own i k_X12_count := pz_cSk (maxL := 3) (fr' := 0) (lo' := 0) 1 h_X12_count rfl ⟨by decide +kernel, by decide +kernel, by decide +kernel⟩ ⟨by decide +kernel, by decide +kernel, by decide +kernel⟩ h1 h2 h3
def k_X12_forgets : pz_C := (1, 0, fun a M => (match a with | [.inr (.inr (12, th))] => pz_im M | _ => False), fun a M r M' => (match a, r with | [.inr (.inr (12, th))], none => (True) ∧ pz_sm M M' | _, _ => False))
abbrev ct_X12_forgets : List (Bool × Nat × pz_C) := []
set_option maxRecDepth 100000 in
set_option maxHeartbeats 4000000 in
theorem h_X12_forgets : pz_H yX12_forgets cX12_forgets 1 none k_X12_forgets 0 0 := by
  refine pz_mk (own := RX12) (tb := t_X12_forgets) (fl := pz_flf fl_RX12) (ci := pz_cif ci_RX12) (ct := pz_ctf ct_X12_forgets) (rz := false) (by decide +kernel) rfl t_X12_forgets_ok (pz_flk fl_RX12_ok) (pz_cik ci_RX12_ok) ?_ ?_ (rfl) ?_ ?_
  · exact fun i k' h => pz_ctk (l := ct_X12_forgets) (P := fun b i k => b = true → pz_cV 0 0 RX12 i k) (fun _ h => absurd h List.not_mem_nil) true i k' h rfl
  · exact fun i k' h => pz_ctk (l := ct_X12_forgets) (P := fun b i k => b = false → (pz_cS 0 0 RX12 i k ∨ (k = pz_kac ∧ 1 ≤ 0 ∧ 60 ≤ 0 ∧ Cond.methodLink RX12 i arraycopyName ∈ pz_tbl))) (fun _ h => absurd h List.not_mem_nil) false i k' h rfl
  · intro a M hlen hpre
    obtain ⟨th, rfl, hpre⟩ : ∃ th, a = [.inr (.inr (12, th))] ∧ (pz_im M) := by
      have hpre : (match (generalizing := false) a with | [.inr (.inr (12, th))] => pz_im M | _ => False) := hpre
      split at hpre
      · exact ⟨_, rfl, hpre⟩
      · exact hpre.elim
    exact Nat.le_of_ble_eq_true rfl
  · intro a M hlen hcan hM hpre Ok hgo
    obtain ⟨th, rfl, hpre⟩ : ∃ th, a = [.inr (.inr (12, th))] ∧ (pz_im M) := by
      have hpre : (match (generalizing := false) a with | [.inr (.inr (12, th))] => pz_im M | _ => False) := hpre
      split at hpre
      · exact ⟨_, rfl, hpre⟩
      · exact hpre.elim
    obtain ⟨k_th, hc_th⟩ := pz_tlm hcan
    have k_th : pz_kd th = 12 ∧ th < 231 := k_th
    have R_th := pz_kd12 k_th.1
    subst R_th
    have hI : pz_im M := hpre
    have hI0 := hI
    have hS : pz_sm M M := pz_sm.rf
    refine hgo (fun _ => false) 6 0 _ [] M ?_
    intro M2 e2
    have hS : pz_sm M M2 := by
      rw [e2]
      exact pz_sm_u hS (by unfold pz_mid; omega) (by omega) (by omega) (by unfold pz_iom; omega)
    have hI : pz_im M2 := hS.1.1.1 hI0
    refine And.intro rfl ?_
    exact ⟨trivial, hS⟩
theorem v_X12_forgets {fr lo i : Nat} {own : String} (h1 : 0 + 1 ≤ fr) (h2 : 8 + (1 + 11) + 0 ≤ lo) (h3 : .methodLink own i yX12_forgets ∈ lw_tbl) : pz_cV fr lo own i k_X12_forgets :=
  pz_cVk (maxL := 1) (fr' := 0) (lo' := 0) 0 12 h_X12_forgets rfl ⟨by decide +kernel, by decide +kernel, by decide +kernel⟩ ⟨by decide +kernel, by decide +kernel, by decide +kernel, by decide +kernel⟩ (Or.inl ⟨TX12, 28, rfl⟩) (fun a M _ h => by
    have h : (match (generalizing := false) a with | [.inr (.inr (12, th))] => pz_im M | _ => False) := h
    split at h
    · exact ⟨_, _, rfl⟩
    · exact h.elim) h1 h2 h3
def k_X12_state : pz_C := (2, 1, fun a M => (match a with | [.inr (.inr (12, th)), .inl x] => pz_im M | _ => False), fun a M r M' => (match a, r with | [.inr (.inr (12, th)), .inl x], some (.inl v) => (True) ∧ pz_sm M M' | _, _ => False))
abbrev ct_X12_state : List (Bool × Nat × pz_C) := [(true, 71, k_X12_forgets)]
set_option maxRecDepth 100000 in
set_option maxHeartbeats 4000000 in
theorem h_X12_state : pz_H yX12_state cX12_state 3 (some .int) k_X12_state 1 20 := by
  refine pz_mk (own := RX12) (tb := t_X12_state) (fl := pz_flf fl_RX12) (ci := pz_cif ci_RX12) (ct := pz_ctf ct_X12_state) (rz := false) (by decide +kernel) rfl t_X12_state_ok (pz_flk fl_RX12_ok) (pz_cik ci_RX12_ok) ?_ ?_ (Or.inl ⟨rfl, rfl⟩) ?_ ?_
  · exact fun i k' h => pz_ctk (l := ct_X12_state) (P := fun b i k => b = true → pz_cV 1 20 RX12 i k) (List.forall_mem_cons.mpr ⟨(fun _ => v_X12_forgets (by decide) (by decide) (by decide +kernel)), fun _ h => absurd h List.not_mem_nil⟩) true i k' h rfl
  · exact fun i k' h => pz_ctk (l := ct_X12_state) (P := fun b i k => b = false → (pz_cS 1 20 RX12 i k ∨ (k = pz_kac ∧ 1 ≤ 1 ∧ 60 ≤ 20 ∧ Cond.methodLink RX12 i arraycopyName ∈ pz_tbl))) (List.forall_mem_cons.mpr ⟨((fun z => by cases z)), fun _ h => absurd h List.not_mem_nil⟩) false i k' h rfl
  · intro a M hlen hpre
    obtain ⟨th, x, rfl, hpre⟩ : ∃ th x, a = [.inr (.inr (12, th)), .inl x] ∧ (pz_im M) := by
      have hpre : (match (generalizing := false) a with | [.inr (.inr (12, th)), .inl x] => pz_im M | _ => False) := hpre
      split at hpre
      · exact ⟨_, _, rfl, hpre⟩
      · exact hpre.elim
    exact Nat.le_of_ble_eq_true rfl
  · intro a M hlen hcan hM hpre Ok hgo
    obtain ⟨th, x, rfl, hpre⟩ : ∃ th x, a = [.inr (.inr (12, th)), .inl x] ∧ (pz_im M) := by
      have hpre : (match (generalizing := false) a with | [.inr (.inr (12, th)), .inl x] => pz_im M | _ => False) := hpre
      split at hpre
      · exact ⟨_, _, rfl, hpre⟩
      · exact hpre.elim
    obtain ⟨k_th, hc_th⟩ := pz_tlm hcan
    have k_th : pz_kd th = 12 ∧ th < 231 := k_th
    have R_th := pz_kd12 k_th.1
    subst R_th
    obtain ⟨k_x, hc_x⟩ := pz_tlm hc_th
    have l_x : -2147483648 ≤ x := k_x.1
    have u_x : x ≤ 2147483647 := k_x.2
    have hI : pz_im M := hpre
    have hI0 := hI
    have hS : pz_sm M M := pz_sm.rf
    refine hgo (fun _ => false) 16 0 _ [] M ?_
    intro r1 e1 k1
    have e1 : r1 = 60 := e1
    subst e1
    refine And.intro (by omega) (And.intro (show _ < (1725 : Int) from by omega) ?_)
    intro v5 e5 a5 b5
    have e5 : v5 = M 60 2 := e5
    intro r8 e8 k8
    have e8 : r8 = 60 := e8
    subst e8
    refine And.intro (by omega) (And.intro (show _ < (1725 : Int) from by omega) ?_)
    intro M13 e13
    have hS : pz_sm M M13 := by
      rw [e13]
      exact pz_sm_u hS (by unfold pz_mid; omega) (by omega) (by omega) (by unfold pz_iom; omega)
    have hI : pz_im M13 := hS.1.1.1 hI0
    refine And.intro (hI) ?_
    intro M15 q15
    obtain ⟨q15, z15⟩ := q15
    have hS : pz_sm M M15 := hS.tr z15
    have hI : pz_im M15 := hS.1.1.1 hI0
    refine And.intro rfl ?_
    exact ⟨trivial, hS⟩
theorem v_X12_state {fr lo i : Nat} {own : String} (h1 : 1 + 1 ≤ fr) (h2 : 8 + (3 + 11) + 20 ≤ lo) (h3 : .methodLink own i yX12_state ∈ lw_tbl) : pz_cV fr lo own i k_X12_state :=
  pz_cVk (maxL := 3) (fr' := 1) (lo' := 20) 1 12 h_X12_state rfl ⟨by decide +kernel, by decide +kernel, by decide +kernel⟩ ⟨by decide +kernel, by decide +kernel, by decide +kernel, by decide +kernel⟩ (Or.inl ⟨TX12, 28, rfl⟩) (fun a M _ h => by
    have h : (match (generalizing := false) a with | [.inr (.inr (12, th)), .inl x] => pz_im M | _ => False) := h
    split at h
    · exact ⟨_, _, rfl⟩
    · exact h.elim) h1 h2 h3
def k_X12_draw : pz_C := (2, 1, fun a M => (match a with | [.inr (.inr (12, th)), .inl n] => pz_im M ∧ n ≠ 0 | _ => False), fun a M r M' => (match a, r with | [.inr (.inr (12, th)), .inl n], some (.inl v) => (True) ∧ pz_sm M M' | _, _ => False))
abbrev ct_X12_draw : List (Bool × Nat × pz_C) := []
set_option maxRecDepth 100000 in
set_option maxHeartbeats 4000000 in
theorem h_X12_draw : pz_H yX12_draw cX12_draw 2 (some .int) k_X12_draw 0 0 := by
  refine pz_mk (own := RX12) (tb := t_X12_draw) (fl := pz_flf fl_RX12) (ci := pz_cif ci_RX12) (ct := pz_ctf ct_X12_draw) (rz := false) (by decide +kernel) rfl t_X12_draw_ok (pz_flk fl_RX12_ok) (pz_cik ci_RX12_ok) ?_ ?_ (Or.inl ⟨rfl, rfl⟩) ?_ ?_
  · exact fun i k' h => pz_ctk (l := ct_X12_draw) (P := fun b i k => b = true → pz_cV 0 0 RX12 i k) (fun _ h => absurd h List.not_mem_nil) true i k' h rfl
  · exact fun i k' h => pz_ctk (l := ct_X12_draw) (P := fun b i k => b = false → (pz_cS 0 0 RX12 i k ∨ (k = pz_kac ∧ 1 ≤ 0 ∧ 60 ≤ 0 ∧ Cond.methodLink RX12 i arraycopyName ∈ pz_tbl))) (fun _ h => absurd h List.not_mem_nil) false i k' h rfl
  · intro a M hlen hpre
    obtain ⟨th, n, rfl, hpre⟩ : ∃ th n, a = [.inr (.inr (12, th)), .inl n] ∧ (pz_im M ∧ n ≠ 0) := by
      have hpre : (match (generalizing := false) a with | [.inr (.inr (12, th)), .inl n] => pz_im M ∧ n ≠ 0 | _ => False) := hpre
      split at hpre
      · exact ⟨_, _, rfl, hpre⟩
      · exact hpre.elim
    exact Nat.le_of_ble_eq_true rfl
  · intro a M hlen hcan hM hpre Ok hgo
    obtain ⟨th, n, rfl, hpre⟩ : ∃ th n, a = [.inr (.inr (12, th)), .inl n] ∧ (pz_im M ∧ n ≠ 0) := by
      have hpre : (match (generalizing := false) a with | [.inr (.inr (12, th)), .inl n] => pz_im M ∧ n ≠ 0 | _ => False) := hpre
      split at hpre
      · exact ⟨_, _, rfl, hpre⟩
      · exact hpre.elim
    obtain ⟨k_th, hc_th⟩ := pz_tlm hcan
    have k_th : pz_kd th = 12 ∧ th < 231 := k_th
    have R_th := pz_kd12 k_th.1
    subst R_th
    obtain ⟨k_n, hc_n⟩ := pz_tlm hc_th
    have l_n : -2147483648 ≤ n := k_n.1
    have u_n : n ≤ 2147483647 := k_n.2
    have hI : pz_im M := hpre.1
    have hI0 := hI
    have hS : pz_sm M M := pz_sm.rf
    refine hgo (fun _ => false) 23 0 _ [] M ?_
    intro r1 e1 k1
    have e1 : r1 = 60 := e1
    subst e1
    intro r8 e8 k8
    have e8 : r8 = 60 := e8
    subst e8
    refine And.intro (by omega) (And.intro (show _ < (1725 : Int) from by omega) ?_)
    intro v12 e12 a12 b12
    have e12 : v12 = M 60 2 := e12
    intro v13 e13 a13 b13
    try rw [pz_wi (by omega) (by omega)] at e13
    intro v16 e16 a16 b16
    try rw [pz_wi (by omega) (by omega)] at e16
    refine And.intro (by omega) (And.intro (show _ < (1725 : Int) from by omega) ?_)
    intro M17 e17
    have hS : pz_sm M M17 := by
      rw [e17]
      exact pz_sm_u hS (by unfold pz_mid; omega) (by omega) (by omega) (by unfold pz_iom; omega)
    have hI : pz_im M17 := hS.1.1.1 hI0
    intro r19 e19 k19
    have e19 : r19 = 60 := e19
    subst e19
    refine And.intro (by omega) (And.intro (show _ < (1725 : Int) from by omega) ?_)
    intro v23 e23 a23 b23
    have e23 : v23 = M17 60 2 := e23
    intro v26 e26 a26 b26
    refine And.intro (by omega) ?_
    intro v28 e28 a28 b28
    refine And.intro rfl ?_
    exact ⟨trivial, hS⟩
theorem v_X12_draw {fr lo i : Nat} {own : String} (h1 : 0 + 1 ≤ fr) (h2 : 8 + (2 + 11) + 0 ≤ lo) (h3 : .methodLink own i yX12_draw ∈ lw_tbl) : pz_cV fr lo own i k_X12_draw :=
  pz_cVk (maxL := 2) (fr' := 0) (lo' := 0) 1 12 h_X12_draw rfl ⟨by decide +kernel, by decide +kernel, by decide +kernel⟩ ⟨by decide +kernel, by decide +kernel, by decide +kernel, by decide +kernel⟩ (Or.inl ⟨TX12, 28, rfl⟩) (fun a M _ h => by
    have h : (match (generalizing := false) a with | [.inr (.inr (12, th)), .inl n] => pz_im M ∧ n ≠ 0 | _ => False) := h
    split at h
    · exact ⟨_, _, rfl⟩
    · exact h.elim) h1 h2 h3
def k_X12_link : pz_C := (5, 1, fun a M => (match a with | [.inr (.inr (12, th)), .inl p, .inl q, .inl w, .inl s] => pz_im M | _ => False), fun a M r M' => (match a, r with | [.inr (.inr (12, th)), .inl p, .inl q, .inl w, .inl s], some (.inl v) => (True) ∧ pz_sk M M' | _, _ => False))
abbrev ct_X12_link : List (Bool × Nat × pz_C) := [(false, 54, k_X12_isIn), (true, 71, k_X12_forgets)]
set_option maxRecDepth 100000 in
set_option maxHeartbeats 4000000 in
theorem h_X12_link : pz_H yX12_link cX12_link 6 (some .int) k_X12_link 1 22 := by
  refine pz_mk (own := RX12) (tb := t_X12_link) (fl := pz_flf fl_RX12) (ci := pz_cif ci_RX12) (ct := pz_ctf ct_X12_link) (rz := false) (by decide +kernel) rfl t_X12_link_ok (pz_flk fl_RX12_ok) (pz_cik ci_RX12_ok) ?_ ?_ (Or.inl ⟨rfl, rfl⟩) ?_ ?_
  · exact fun i k' h => pz_ctk (l := ct_X12_link) (P := fun b i k => b = true → pz_cV 1 22 RX12 i k) (List.forall_mem_cons.mpr ⟨((fun z => by cases z)), List.forall_mem_cons.mpr ⟨(fun _ => v_X12_forgets (by decide) (by decide) (by decide +kernel)), fun _ h => absurd h List.not_mem_nil⟩⟩) true i k' h rfl
  · exact fun i k' h => pz_ctk (l := ct_X12_link) (P := fun b i k => b = false → (pz_cS 1 22 RX12 i k ∨ (k = pz_kac ∧ 1 ≤ 1 ∧ 60 ≤ 22 ∧ Cond.methodLink RX12 i arraycopyName ∈ pz_tbl))) (List.forall_mem_cons.mpr ⟨(fun _ => Or.inl (s_X12_isIn (by decide) (by decide) (Or.inl (by decide +kernel)))), List.forall_mem_cons.mpr ⟨((fun z => by cases z)), fun _ h => absurd h List.not_mem_nil⟩⟩) false i k' h rfl
  · intro a M hlen hpre
    obtain ⟨th, p, q, w, s, rfl, hpre⟩ : ∃ th p q w s, a = [.inr (.inr (12, th)), .inl p, .inl q, .inl w, .inl s] ∧ (pz_im M) := by
      have hpre : (match (generalizing := false) a with | [.inr (.inr (12, th)), .inl p, .inl q, .inl w, .inl s] => pz_im M | _ => False) := hpre
      split at hpre
      · exact ⟨_, _, _, _, _, rfl, hpre⟩
      · exact hpre.elim
    exact Nat.le_of_ble_eq_true rfl
  · intro a M hlen hcan hM hpre Ok hgo
    obtain ⟨th, p, q, w, s, rfl, hpre⟩ : ∃ th p q w s, a = [.inr (.inr (12, th)), .inl p, .inl q, .inl w, .inl s] ∧ (pz_im M) := by
      have hpre : (match (generalizing := false) a with | [.inr (.inr (12, th)), .inl p, .inl q, .inl w, .inl s] => pz_im M | _ => False) := hpre
      split at hpre
      · exact ⟨_, _, _, _, _, rfl, hpre⟩
      · exact hpre.elim
    obtain ⟨k_th, hc_th⟩ := pz_tlm hcan
    have k_th : pz_kd th = 12 ∧ th < 231 := k_th
    have R_th := pz_kd12 k_th.1
    subst R_th
    obtain ⟨k_p, hc_p⟩ := pz_tlm hc_th
    have l_p : -2147483648 ≤ p := k_p.1
    have u_p : p ≤ 2147483647 := k_p.2
    obtain ⟨k_q, hc_q⟩ := pz_tlm hc_p
    have l_q : -2147483648 ≤ q := k_q.1
    have u_q : q ≤ 2147483647 := k_q.2
    obtain ⟨k_w, hc_w⟩ := pz_tlm hc_q
    have l_w : -2147483648 ≤ w := k_w.1
    have u_w : w ≤ 2147483647 := k_w.2
    obtain ⟨k_s, hc_s⟩ := pz_tlm hc_w
    have l_s : -2147483648 ≤ s := k_s.1
    have u_s : s ≤ 2147483647 := k_s.2
    have hI : pz_im M := hpre
    have hI0 := hI
    have hS : pz_sk M M := pz_sk.rf
    refine hgo (fun _ => false) 123 0 _ [] M ?_
    refine And.intro (True.intro) ?_
    intro v5 M5 a5 b5 q5
    obtain ⟨q5, z5⟩ := q5
    subst z5
    refine And.intro (fun h8 => ?_) (fun h8 => ?_)
    · skip
      refine And.intro rfl ?_
      exact ⟨trivial, hS⟩
    · skip
      refine And.intro (True.intro) ?_
      intro v18 M18 a18 b18 q18
      obtain ⟨q18, z18⟩ := q18
      subst z18
      refine And.intro (fun h21 => ?_) (fun h21 => ?_)
      · skip
        refine And.intro rfl ?_
        exact ⟨trivial, hS⟩
      · skip
        refine And.intro (True.intro) ?_
        intro v31 M31 a31 b31 q31
        obtain ⟨q31, z31⟩ := q31
        subst z31
        refine And.intro (fun h34 => ?_) (fun h34 => ?_)
        · skip
          refine And.intro rfl ?_
          exact ⟨trivial, hS⟩
        · skip
          refine And.intro (True.intro) ?_
          intro v42 M42 a42 b42 q42
          obtain ⟨q42, z42⟩ := q42
          subst z42
          refine And.intro (fun h45 => ?_) (fun h45 => ?_)
          · skip
            refine And.intro rfl ?_
            exact ⟨trivial, hS⟩
          · skip
            intro r49 e49 k49
            have e49 : r49 = 60 := e49
            subst e49
            refine And.intro (by omega) (And.intro (show _ < (1725 : Int) from by omega) ?_)
            intro v54 e54 a54 b54
            have e54 : v54 = M 60 88 := e54
            have I54 := hI.1.1
            refine And.intro (fun h57 => ?_) (fun h57 => ?_)
            · skip
              intro r63 e63 k63
              have e63 : r63 = 60 := e63
              subst e63
              refine And.intro (by omega) (And.intro (show _ < (1725 : Int) from by omega) ?_)
              intro v68 e68 a68 b68
              have e68 : v68 = M 60 88 := e68
              have I68 := hI.1.1
              intro r72 e72 k72
              have e72 : r72 = 60 := e72
              subst e72
              intro v78 e78 a78 b78
              try rw [pz_wi (by omega) (by omega)] at e78
              refine And.intro (by omega) (And.intro (show _ < (1725 : Int) from by omega) ?_)
              intro M80 e80
              have hS : pz_sk M M80 := by
                rw [e80]
                exact pz_sk_u hS (by unfold pz_mid; omega) (by omega) (by unfold pz_iom; omega)
              have hI : pz_im M80 := hS.1.1 hI0
              have T80_0 := pz_uve e80 60 88
              intro r82 e82 k82
              have e82 : r82 = 60 := e82
              subst e82
              intro v89 e89 a89 b89
              try rw [pz_wi (by omega) (by omega)] at e89
              refine And.intro (by omega) (And.intro (show _ < (1725 : Int) from by omega) ?_)
              intro M91 e91
              have hS : pz_sk M M91 := by
                rw [e91]
                exact pz_sk_u hS (by unfold pz_mid; omega) (by omega) (by unfold pz_iom; omega)
              have hI : pz_im M91 := hS.1.1 hI0
              have T91_0 := pz_uve e91 60 88
              intro r93 e93 k93
              have e93 : r93 = 60 := e93
              subst e93
              intro v100 e100 a100 b100
              try rw [pz_wi (by omega) (by omega)] at e100
              refine And.intro (by omega) (And.intro (show _ < (1725 : Int) from by omega) ?_)
              intro M102 e102
              have hS : pz_sk M M102 := by
                rw [e102]
                exact pz_sk_u hS (by unfold pz_mid; omega) (by omega) (by unfold pz_iom; omega)
              have hI : pz_im M102 := hS.1.1 hI0
              have T102_0 := pz_uve e102 60 88
              intro r104 e104 k104
              have e104 : r104 = 60 := e104
              subst e104
              intro v111 e111 a111 b111
              try rw [pz_wi (by omega) (by omega)] at e111
              refine And.intro (by omega) (And.intro (show _ < (1725 : Int) from by omega) ?_)
              intro M114 e114
              have hS : pz_sk M M114 := by
                rw [e114]
                exact pz_sk_u hS (by unfold pz_mid; omega) (by omega) (by unfold pz_iom; omega)
              have hI : pz_im M114 := hS.1.1 hI0
              have T114_0 := pz_uve e114 60 88
              intro r116 e116 k116
              have e116 : r116 = 60 := e116
              subst e116
              intro v123 e123 a123 b123
              try rw [pz_wi (by omega) (by omega)] at e123
              refine And.intro (by omega) (And.intro (show _ < (1725 : Int) from by omega) ?_)
              intro M125 e125
              have hS : pz_sk M M125 := by
                rw [e125]
                exact pz_sk_u hS (by unfold pz_mid; omega) (by omega) (by unfold pz_iom; omega)
              have hI : pz_im M125 := hS.1.1 hI0
              have T125_0 := pz_uve e125 60 88
              intro r127 e127 k127
              have e127 : r127 = 60 := e127
              subst e127
              intro v134 e134 a134 b134
              try rw [pz_wi (by omega) (by omega)] at e134
              refine And.intro (by omega) (And.intro (show _ < (1725 : Int) from by omega) ?_)
              intro M136 e136
              have hS : pz_sk M M136 := by
                rw [e136]
                exact pz_sk_u hS (by unfold pz_mid; omega) (by omega) (by unfold pz_iom; omega)
              have hI : pz_im M136 := hS.1.1 hI0
              have T136_0 := pz_uve e136 60 88
              intro r138 e138 k138
              have e138 : r138 = 60 := e138
              subst e138
              intro v145 e145 a145 b145
              try rw [pz_wi (by omega) (by omega)] at e145
              refine And.intro (by omega) (And.intro (show _ < (1725 : Int) from by omega) ?_)
              intro M147 e147
              have hS : pz_sk M M147 := by
                rw [e147]
                exact pz_sk_u hS (by unfold pz_mid; omega) (by omega) (by unfold pz_iom; omega)
              have hI : pz_im M147 := hS.1.1 hI0
              have T147_0 := pz_uve e147 60 88
              intro r149 e149 k149
              have e149 : r149 = 60 := e149
              subst e149
              intro v156 e156 a156 b156
              try rw [pz_wi (by omega) (by omega)] at e156
              refine And.intro (by omega) (And.intro (show _ < (1725 : Int) from by omega) ?_)
              intro M158 e158
              have hS : pz_sk M M158 := by
                rw [e158]
                exact pz_sk_u hS (by unfold pz_mid; omega) (by omega) (by unfold pz_iom; omega)
              have hI : pz_im M158 := hS.1.1 hI0
              have T158_0 := pz_uve e158 60 88
              intro r160 e160 k160
              have e160 : r160 = 60 := e160
              subst e160
              intro v168 e168 a168 b168
              try rw [pz_wi (by omega) (by omega)] at e168
              intro v169 e169 a169 b169
              try rw [pz_wi (by omega) (by omega)] at e169
              refine And.intro (by omega) (And.intro (show _ < (1725 : Int) from by omega) ?_)
              intro M171 e171
              have hS : pz_sk M M171 := by
                rw [e171]
                exact pz_sk_u hS (by unfold pz_mid; omega) (by omega) (by unfold pz_iom; omega)
              have hI : pz_im M171 := hS.1.1 hI0
              have T171_0 := pz_uve e171 60 88
              intro r173 e173 k173
              have e173 : r173 = 60 := e173
              subst e173
              intro v181 e181 a181 b181
              try rw [pz_wi (by omega) (by omega)] at e181
              intro v182 e182 a182 b182
              try rw [pz_wi (by omega) (by omega)] at e182
              intro v184 e184 a184 b184
              try rw [pz_wi (by omega) (by omega)] at e184
              refine And.intro (by omega) (And.intro (show _ < (1725 : Int) from by omega) ?_)
              intro M188 e188
              have hS : pz_sk M M188 := by
                rw [e188]
                exact pz_sk_u hS (by unfold pz_mid; omega) (by omega) (by unfold pz_iom; omega)
              have hI : pz_im M188 := hS.1.1 hI0
              have T188_0 := pz_uve e188 60 88
              intro r190 e190 k190
              have e190 : r190 = 60 := e190
              subst e190
              refine And.intro (by omega) (And.intro (show _ < (1725 : Int) from by omega) ?_)
              intro v196 e196 a196 b196
              have e196 : v196 = M188 60 88 := e196
              have I196 := hI.1.1
              intro v198 e198 a198 b198
              try rw [pz_wi (by omega) (by omega)] at e198
              refine And.intro (by omega) (And.intro (show _ < (1725 : Int) from by omega) ?_)
              intro M199 e199
              have hS : pz_sk M M199 := by
                rw [e199]
                exact pz_sk_u hS (by unfold pz_mid; omega) (by omega) (by unfold pz_iom; omega)
              have hI : pz_im M199 := hS.1.1 hI0
              have T199_0 := pz_uve e199 60 88
              refine And.intro (hI) ?_
              intro M201 q201
              obtain ⟨q201, z201⟩ := q201
              have hS : pz_sk M M201 := hS.tr z201.1
              have T201a := z201.2
              have T201b := z201.1.2
              have hI : pz_im M201 := hS.1.1 hI0
              refine And.intro rfl ?_
              exact ⟨trivial, hS⟩
            · skip
              refine And.intro rfl ?_
              exact ⟨trivial, hS⟩
theorem v_X12_link {fr lo i : Nat} {own : String} (h1 : 1 + 1 ≤ fr) (h2 : 8 + (6 + 11) + 22 ≤ lo) (h3 : .methodLink own i yX12_link ∈ lw_tbl) : pz_cV fr lo own i k_X12_link :=
  pz_cVk (maxL := 6) (fr' := 1) (lo' := 22) 4 12 h_X12_link rfl ⟨by decide +kernel, by decide +kernel, by decide +kernel⟩ ⟨by decide +kernel, by decide +kernel, by decide +kernel, by decide +kernel⟩ (Or.inl ⟨TX12, 28, rfl⟩) (fun a M _ h => by
    have h : (match (generalizing := false) a with | [.inr (.inr (12, th)), .inl p, .inl q, .inl w, .inl s] => pz_im M | _ => False) := h
    split at h
    · exact ⟨_, _, rfl⟩
    · exact h.elim) h1 h2 h3
def k_X12_canBe : pz_C := (2, 1, fun a M => (match a with | [.inl x, .inl y] => True | _ => False), fun a M r M' => (match a, r with | [.inl x, .inl y], some (.inl v) => (v = 0 ∨ v = 1) ∧ M = M' | _, _ => False))
abbrev ct_X12_canBe : List (Bool × Nat × pz_C) := [(false, 54, k_X12_isIn)]
set_option maxRecDepth 100000 in
set_option maxHeartbeats 4000000 in
theorem h_X12_canBe : pz_H yX12_canBe cX12_canBe 2 (some .boolean) k_X12_canBe 1 22 := by
  refine pz_mk (own := RX12) (tb := t_X12_canBe) (fl := pz_flf fl_RX12) (ci := pz_cif ci_RX12) (ct := pz_ctf ct_X12_canBe) (rz := true) (by decide +kernel) rfl t_X12_canBe_ok (pz_flk fl_RX12_ok) (pz_cik ci_RX12_ok) ?_ ?_ (Or.inr ⟨rfl, rfl⟩) ?_ ?_
  · exact fun i k' h => pz_ctk (l := ct_X12_canBe) (P := fun b i k => b = true → pz_cV 1 22 RX12 i k) (List.forall_mem_cons.mpr ⟨((fun z => by cases z)), fun _ h => absurd h List.not_mem_nil⟩) true i k' h rfl
  · exact fun i k' h => pz_ctk (l := ct_X12_canBe) (P := fun b i k => b = false → (pz_cS 1 22 RX12 i k ∨ (k = pz_kac ∧ 1 ≤ 1 ∧ 60 ≤ 22 ∧ Cond.methodLink RX12 i arraycopyName ∈ pz_tbl))) (List.forall_mem_cons.mpr ⟨(fun _ => Or.inl (s_X12_isIn (by decide) (by decide) (Or.inl (by decide +kernel)))), fun _ h => absurd h List.not_mem_nil⟩) false i k' h rfl
  · intro a M hlen hpre
    obtain ⟨x, y, rfl, hpre⟩ : ∃ x y, a = [.inl x, .inl y] ∧ (True) := by
      have hpre : (match (generalizing := false) a with | [.inl x, .inl y] => True | _ => False) := hpre
      split at hpre
      · exact ⟨_, _, rfl, hpre⟩
      · exact hpre.elim
    exact Nat.le_of_ble_eq_true rfl
  · intro a M hlen hcan hM hpre Ok hgo
    obtain ⟨x, y, rfl, hpre⟩ : ∃ x y, a = [.inl x, .inl y] ∧ (True) := by
      have hpre : (match (generalizing := false) a with | [.inl x, .inl y] => True | _ => False) := hpre
      split at hpre
      · exact ⟨_, _, rfl, hpre⟩
      · exact hpre.elim
    obtain ⟨k_x, hc_x⟩ := pz_tlm hcan
    have l_x : -2147483648 ≤ x := k_x.1
    have u_x : x ≤ 2147483647 := k_x.2
    obtain ⟨k_y, hc_y⟩ := pz_tlm hc_x
    have l_y : -2147483648 ≤ y := k_y.1
    have u_y : y ≤ 2147483647 := k_y.2
    refine hgo (fun _ => false) 31 0 _ [] M ?_
    refine And.intro ?_ ?_
    · skip
      refine And.intro (fun h1 => ?_) ?_
      · skip
        refine And.intro (True.intro) ?_
        intro v41 M41 a41 b41 q41
        obtain ⟨q41, z41⟩ := q41
        subst z41
        refine And.intro (by omega) ?_
        refine And.intro rfl ?_
        exact ⟨by omega, rfl⟩
      refine And.intro (fun h1 => ?_) ?_
      · skip
        refine And.intro (True.intro) ?_
        intro v52 M52 a52 b52 q52
        obtain ⟨q52, z52⟩ := q52
        subst z52
        refine And.intro (by omega) ?_
        refine And.intro rfl ?_
        exact ⟨by omega, rfl⟩
      refine And.intro (fun h1 => ?_) ?_
      · skip
        refine And.intro (True.intro) ?_
        intro v63 M63 a63 b63 q63
        obtain ⟨q63, z63⟩ := q63
        subst z63
        refine And.intro (by omega) ?_
        refine And.intro rfl ?_
        exact ⟨by omega, rfl⟩
      refine And.intro (fun h1 => ?_) ?_
      · skip
        refine And.intro (True.intro) ?_
        intro v71 M71 a71 b71 q71
        obtain ⟨q71, z71⟩ := q71
        subst z71
        refine And.intro (by omega) ?_
        refine And.intro rfl ?_
        exact ⟨by omega, rfl⟩
      refine And.intro (fun h1 => ?_) ?_
      · skip
        refine And.intro (True.intro) ?_
        intro v78 M78 a78 b78 q78
        obtain ⟨q78, z78⟩ := q78
        subst z78
        refine And.intro (by omega) ?_
        refine And.intro rfl ?_
        exact ⟨by omega, rfl⟩
      exact True.intro
    · intro h1
      refine And.intro (by omega) ?_
      refine And.intro rfl ?_
      exact ⟨by omega, rfl⟩
theorem s_X12_canBe {fr lo i : Nat} {own : String} (h1 : 1 + 1 ≤ fr) (h2 : 8 + (2 + 11) + 22 ≤ lo) (h3 : .methodLink own i yX12_canBe ∈ lw_tbl ∨ (own = RX1 ∧ i = 35 ∧ yX12_canBe = yX11_within)) : pz_cS fr lo own i k_X12_canBe := pz_cSk (maxL := 2) (fr' := 1) (lo' := 22) 2 h_X12_canBe rfl ⟨by decide +kernel, by decide +kernel, by decide +kernel⟩ ⟨by decide +kernel, by decide +kernel, by decide +kernel⟩ h1 h2 h3
def k_X12_set : pz_C := (4, 1, fun a M => (match a with | [.inr (.inr (12, th)), .inl p, .inl i, .inl n] => pz_im M | _ => False), fun a M r M' => (match a, r with | [.inr (.inr (12, th)), .inl p, .inl i, .inl n], some (.inl v) => (v = 0 ∨ v = 1) ∧ pz_sm M M' | _, _ => False))
abbrev ct_X12_set : List (Bool × Nat × pz_C) := [(true, 58, k_X12_isLink), (false, 76, k_X12_canBe), (true, 71, k_X12_forgets)]
set_option maxRecDepth 100000 in
set_option maxHeartbeats 4000000 in
theorem h_X12_set : pz_H yX12_set cX12_set 4 (some .boolean) k_X12_set 2 43 := by
  refine pz_mk (own := RX12) (tb := t_X12_set) (fl := pz_flf fl_RX12) (ci := pz_cif ci_RX12) (ct := pz_ctf ct_X12_set) (rz := true) (by decide +kernel) rfl t_X12_set_ok (pz_flk fl_RX12_ok) (pz_cik ci_RX12_ok) ?_ ?_ (Or.inr ⟨rfl, rfl⟩) ?_ ?_
  · exact fun i k' h => pz_ctk (l := ct_X12_set) (P := fun b i k => b = true → pz_cV 2 43 RX12 i k) (List.forall_mem_cons.mpr ⟨(fun _ => v_X12_isLink (by decide) (by decide) (by decide +kernel)), List.forall_mem_cons.mpr ⟨((fun z => by cases z)), List.forall_mem_cons.mpr ⟨(fun _ => v_X12_forgets (by decide) (by decide) (by decide +kernel)), fun _ h => absurd h List.not_mem_nil⟩⟩⟩) true i k' h rfl
  · exact fun i k' h => pz_ctk (l := ct_X12_set) (P := fun b i k => b = false → (pz_cS 2 43 RX12 i k ∨ (k = pz_kac ∧ 1 ≤ 2 ∧ 60 ≤ 43 ∧ Cond.methodLink RX12 i arraycopyName ∈ pz_tbl))) (List.forall_mem_cons.mpr ⟨((fun z => by cases z)), List.forall_mem_cons.mpr ⟨(fun _ => Or.inl (s_X12_canBe (by decide) (by decide) (Or.inl (by decide +kernel)))), List.forall_mem_cons.mpr ⟨((fun z => by cases z)), fun _ h => absurd h List.not_mem_nil⟩⟩⟩) false i k' h rfl
  · intro a M hlen hpre
    obtain ⟨th, p, i, n, rfl, hpre⟩ : ∃ th p i n, a = [.inr (.inr (12, th)), .inl p, .inl i, .inl n] ∧ (pz_im M) := by
      have hpre : (match (generalizing := false) a with | [.inr (.inr (12, th)), .inl p, .inl i, .inl n] => pz_im M | _ => False) := hpre
      split at hpre
      · exact ⟨_, _, _, _, rfl, hpre⟩
      · exact hpre.elim
    exact Nat.le_of_ble_eq_true rfl
  · intro a M hlen hcan hM hpre Ok hgo
    obtain ⟨th, p, i, n, rfl, hpre⟩ : ∃ th p i n, a = [.inr (.inr (12, th)), .inl p, .inl i, .inl n] ∧ (pz_im M) := by
      have hpre : (match (generalizing := false) a with | [.inr (.inr (12, th)), .inl p, .inl i, .inl n] => pz_im M | _ => False) := hpre
      split at hpre
      · exact ⟨_, _, _, _, rfl, hpre⟩
      · exact hpre.elim
    obtain ⟨k_th, hc_th⟩ := pz_tlm hcan
    have k_th : pz_kd th = 12 ∧ th < 231 := k_th
    have R_th := pz_kd12 k_th.1
    subst R_th
    obtain ⟨k_p, hc_p⟩ := pz_tlm hc_th
    have l_p : -2147483648 ≤ p := k_p.1
    have u_p : p ≤ 2147483647 := k_p.2
    obtain ⟨k_i, hc_i⟩ := pz_tlm hc_p
    have l_i : -2147483648 ≤ i := k_i.1
    have u_i : i ≤ 2147483647 := k_i.2
    obtain ⟨k_n, hc_n⟩ := pz_tlm hc_i
    have l_n : -2147483648 ≤ n := k_n.1
    have u_n : n ≤ 2147483647 := k_n.2
    have hI : pz_im M := hpre
    have hI0 := hI
    have hS : pz_sm M M := pz_sm.rf
    refine hgo (fun _ => false) 42 0 _ [] M ?_
    refine And.intro (hI) ?_
    intro v2 M2 a2 b2 q2
    obtain ⟨q2, z2⟩ := q2
    subst z2
    refine And.intro (fun h5 => ?_) (fun h5 => ?_)
    · skip
      refine And.intro (by omega) ?_
      refine And.intro rfl ?_
      exact ⟨by omega, hS⟩
    · skip
      refine And.intro (True.intro) ?_
      intro v10 M10 a10 b10 q10
      obtain ⟨q10, z10⟩ := q10
      subst z10
      refine And.intro (fun h13 => ?_) (fun h13 => ?_)
      · skip
        intro r19 e19 k19
        have e19 : r19 = 60 := e19
        subst e19
        refine And.intro (fun h23 => ?_) (fun h23 => ?_)
        · skip
          refine And.intro (fun h32 => ?_) (fun h32 => ?_)
          · skip
            refine And.intro (fun h42 => ?_) (fun h42 => ?_)
            · skip
              refine And.intro (fun h52 => ?_) (fun h52 => ?_)
              · skip
                intro v63 e63 a63 b63
                try rw [pz_wi (by omega) (by omega)] at e63
                refine And.intro (by omega) (And.intro (show _ < (1725 : Int) from by omega) ?_)
                intro M65 e65
                have hS : pz_sm M M65 := by
                  rw [e65]
                  exact pz_sm_u hS (by unfold pz_mid; omega) (by omega) (by omega) (by unfold pz_iom; omega)
                have hI : pz_im M65 := hS.1.1.1 hI0
                refine And.intro (hI) ?_
                intro M67 q67
                obtain ⟨q67, z67⟩ := q67
                have hS : pz_sm M M67 := hS.tr z67
                have hI : pz_im M67 := hS.1.1.1 hI0
                refine And.intro (by omega) ?_
                refine And.intro rfl ?_
                exact ⟨by omega, hS⟩
              · skip
                intro v63 e63 a63 b63
                try rw [pz_wi (by omega) (by omega)] at e63
                refine And.intro (by omega) (And.intro (show _ < (1725 : Int) from by omega) ?_)
                intro M65 e65
                have hS : pz_sm M M65 := by
                  rw [e65]
                  exact pz_sm_u hS (by unfold pz_mid; omega) (by omega) (by omega) (by unfold pz_iom; omega)
                have hI : pz_im M65 := hS.1.1.1 hI0
                refine And.intro (hI) ?_
                intro M67 q67
                obtain ⟨q67, z67⟩ := q67
                have hS : pz_sm M M67 := hS.tr z67
                have hI : pz_im M67 := hS.1.1.1 hI0
                refine And.intro (by omega) ?_
                refine And.intro rfl ?_
                exact ⟨by omega, hS⟩
            · skip
              intro v63 e63 a63 b63
              try rw [pz_wi (by omega) (by omega)] at e63
              refine And.intro (by omega) (And.intro (show _ < (1725 : Int) from by omega) ?_)
              intro M65 e65
              have hS : pz_sm M M65 := by
                rw [e65]
                exact pz_sm_u hS (by unfold pz_mid; omega) (by omega) (by omega) (by unfold pz_iom; omega)
              have hI : pz_im M65 := hS.1.1.1 hI0
              refine And.intro (hI) ?_
              intro M67 q67
              obtain ⟨q67, z67⟩ := q67
              have hS : pz_sm M M67 := hS.tr z67
              have hI : pz_im M67 := hS.1.1.1 hI0
              refine And.intro (by omega) ?_
              refine And.intro rfl ?_
              exact ⟨by omega, hS⟩
          · skip
            intro v63 e63 a63 b63
            try rw [pz_wi (by omega) (by omega)] at e63
            refine And.intro (by omega) (And.intro (show _ < (1725 : Int) from by omega) ?_)
            intro M65 e65
            have hS : pz_sm M M65 := by
              rw [e65]
              exact pz_sm_u hS (by unfold pz_mid; omega) (by omega) (by omega) (by unfold pz_iom; omega)
            have hI : pz_im M65 := hS.1.1.1 hI0
            refine And.intro (hI) ?_
            intro M67 q67
            obtain ⟨q67, z67⟩ := q67
            have hS : pz_sm M M67 := hS.tr z67
            have hI : pz_im M67 := hS.1.1.1 hI0
            refine And.intro (by omega) ?_
            refine And.intro rfl ?_
            exact ⟨by omega, hS⟩
        · skip
          intro v63 e63 a63 b63
          try rw [pz_wi (by omega) (by omega)] at e63
          refine And.intro (by omega) (And.intro (show _ < (1725 : Int) from by omega) ?_)
          intro M65 e65
          have hS : pz_sm M M65 := by
            rw [e65]
            exact pz_sm_u hS (by unfold pz_mid; omega) (by omega) (by omega) (by unfold pz_iom; omega)
          have hI : pz_im M65 := hS.1.1.1 hI0
          refine And.intro (hI) ?_
          intro M67 q67
          obtain ⟨q67, z67⟩ := q67
          have hS : pz_sm M M67 := hS.tr z67
          have hI : pz_im M67 := hS.1.1.1 hI0
          refine And.intro (by omega) ?_
          refine And.intro rfl ?_
          exact ⟨by omega, hS⟩
      · skip
        refine And.intro (by omega) ?_
        refine And.intro rfl ?_
        exact ⟨by omega, hS⟩
theorem v_X12_set {fr lo i : Nat} {own : String} (h1 : 2 + 1 ≤ fr) (h2 : 8 + (4 + 11) + 43 ≤ lo) (h3 : .methodLink own i yX12_set ∈ lw_tbl) : pz_cV fr lo own i k_X12_set :=
  pz_cVk (maxL := 4) (fr' := 2) (lo' := 43) 3 12 h_X12_set rfl ⟨by decide +kernel, by decide +kernel, by decide +kernel⟩ ⟨by decide +kernel, by decide +kernel, by decide +kernel, by decide +kernel⟩ (Or.inl ⟨TX12, 28, rfl⟩) (fun a M _ h => by
    have h : (match (generalizing := false) a with | [.inr (.inr (12, th)), .inl p, .inl i, .inl n] => pz_im M | _ => False) := h
    split at h
    · exact ⟨_, _, rfl⟩
    · exact h.elim) h1 h2 h3
def k_X12_feed : pz_C := (6, 1, fun a M => (match a with | [.inr (.inr (12, th)), .inl p, .inl q, .inl w, .inl s, .inl u] => pz_im M | _ => False), fun a M r M' => (match a, r with | [.inr (.inr (12, th)), .inl p, .inl q, .inl w, .inl s, .inl u], some (.inl v) => ((if M 1 16 + 20 ≤ 400 then v = M 1 16 + 20 ∧ M' 1 16 = M 1 16 + 20 else v = -1 ∧ M' 1 16 = M 1 16)) ∧ pz_sn M M' | _, _ => False))
abbrev ct_X12_feed : List (Bool × Nat × pz_C) := []
set_option maxRecDepth 100000 in
set_option maxHeartbeats 4000000 in
theorem h_X12_feed : pz_H yX12_feed cX12_feed 8 (some .int) k_X12_feed 0 0 := by
  refine pz_mk (own := RX12) (tb := t_X12_feed) (fl := pz_flf fl_RX12) (ci := pz_cif ci_RX12) (ct := pz_ctf ct_X12_feed) (rz := false) (by decide +kernel) rfl t_X12_feed_ok (pz_flk fl_RX12_ok) (pz_cik ci_RX12_ok) ?_ ?_ (Or.inl ⟨rfl, rfl⟩) ?_ ?_
  · exact fun i k' h => pz_ctk (l := ct_X12_feed) (P := fun b i k => b = true → pz_cV 0 0 RX12 i k) (fun _ h => absurd h List.not_mem_nil) true i k' h rfl
  · exact fun i k' h => pz_ctk (l := ct_X12_feed) (P := fun b i k => b = false → (pz_cS 0 0 RX12 i k ∨ (k = pz_kac ∧ 1 ≤ 0 ∧ 60 ≤ 0 ∧ Cond.methodLink RX12 i arraycopyName ∈ pz_tbl))) (fun _ h => absurd h List.not_mem_nil) false i k' h rfl
  · intro a M hlen hpre
    obtain ⟨th, p, q, w, s, u, rfl, hpre⟩ : ∃ th p q w s u, a = [.inr (.inr (12, th)), .inl p, .inl q, .inl w, .inl s, .inl u] ∧ (pz_im M) := by
      have hpre : (match (generalizing := false) a with | [.inr (.inr (12, th)), .inl p, .inl q, .inl w, .inl s, .inl u] => pz_im M | _ => False) := hpre
      split at hpre
      · exact ⟨_, _, _, _, _, _, rfl, hpre⟩
      · exact hpre.elim
    exact Nat.le_of_ble_eq_true rfl
  · intro a M hlen hcan hM hpre Ok hgo
    obtain ⟨th, p, q, w, s, u, rfl, hpre⟩ : ∃ th p q w s u, a = [.inr (.inr (12, th)), .inl p, .inl q, .inl w, .inl s, .inl u] ∧ (pz_im M) := by
      have hpre : (match (generalizing := false) a with | [.inr (.inr (12, th)), .inl p, .inl q, .inl w, .inl s, .inl u] => pz_im M | _ => False) := hpre
      split at hpre
      · exact ⟨_, _, _, _, _, _, rfl, hpre⟩
      · exact hpre.elim
    obtain ⟨k_th, hc_th⟩ := pz_tlm hcan
    have k_th : pz_kd th = 12 ∧ th < 231 := k_th
    have R_th := pz_kd12 k_th.1
    subst R_th
    obtain ⟨k_p, hc_p⟩ := pz_tlm hc_th
    have l_p : -2147483648 ≤ p := k_p.1
    have u_p : p ≤ 2147483647 := k_p.2
    obtain ⟨k_q, hc_q⟩ := pz_tlm hc_p
    have l_q : -2147483648 ≤ q := k_q.1
    have u_q : q ≤ 2147483647 := k_q.2
    obtain ⟨k_w, hc_w⟩ := pz_tlm hc_q
    have l_w : -2147483648 ≤ w := k_w.1
    have u_w : w ≤ 2147483647 := k_w.2
    obtain ⟨k_s, hc_s⟩ := pz_tlm hc_w
    have l_s : -2147483648 ≤ s := k_s.1
    have u_s : s ≤ 2147483647 := k_s.2
    obtain ⟨k_u, hc_u⟩ := pz_tlm hc_s
    have l_u : -2147483648 ≤ u := k_u.1
    have u_u : u ≤ 2147483647 := k_u.2
    have hI : pz_im M := hpre
    have hI0 := hI
    have hS : pz_sn M M := pz_sn.rf
    have L18 : ∀ (fu : Nat) (x6 : Int) (d7 : Option pz_V) (N18 : pz_M), (20 - x6).toNat < fu → (pz_sn M N18) → (0 ≤ x6) → (x6 ≤ 20) → (M 1 16 + 20 ≤ 400) → (N18 1 16 = M 1 16 + x6) → Ok 18 [some (.inr (.inr (12, 1))), some (.inl p), some (.inl q), some (.inl w), some (.inl s), some (.inl u), some (.inl x6), d7] [] N18 := by
      intro fu
      induction fu with
      | zero => exact fun _ _ _ hn => absurd hn (Nat.not_lt_zero _)
      | succ fu ih18 =>
        intro x6 d7 N18 hn18 hS g18_1 g18_2 g18_3 g18_4
        have hI : pz_im N18 := hS.1 hI0
        have L71 : ∀ (x6 : Int) (d7 : Option pz_V) (s0 : Int) (N71 : pz_M), (pz_sn M N71) → (0 ≤ x6) → (x6 < 20) → ((20 - x6).toNat < fu + 1) → (N71 1 16 = M 1 16 + x6) → Ok 71 [some (.inr (.inr (12, 1))), some (.inl p), some (.inl q), some (.inl w), some (.inl s), some (.inl u), some (.inl x6), d7] [.inl s0] N71 := by
          intro x6 d7 s0 N71 hS g71_1 g71_2 g71_3 g71_4
          have hI : pz_im N71 := hS.1 hI0
          refine hgo (fun p => Nat.beq p 18 || Nat.beq p 71) 64 71 _ _ _ ?_
          intro r74 e74 k74
          have e74 : r74 = 67 := e74
          subst e74
          intro v78 e78 a78 b78
          have I78 := hI.2.1.2.1
          refine And.intro (by omega) ?_
          intro v90 e90 a90 b90
          intro v91 e91 a91 b91
          try rw [pz_wi (by omega) (by omega)] at e91
          intro v92 e92 a92 b92
          try rw [pz_wi (by omega) (by omega)] at e92
          intro v93 e93 a93 b93
          intro v97 e97 a97 b97
          refine And.intro (by omega) (And.intro (show _ < (400 : Int) from by omega) ?_)
          intro M98 e98
          have hS : pz_sn M M98 := by
            rw [e98]
            exact pz_sn_u hS (by unfold pz_mid; omega) (by unfold pz_iom; omega)
          have hI : pz_im M98 := hS.1 hI0
          have T98_0 := pz_uve e98 1 16
          intro v101 e101 a101 b101
          have I101 := hI.2.1.2.1
          intro v105 e105 a105 b105
          try rw [pz_wi (by omega) (by omega)] at e105
          intro M106 e106
          have hS : pz_sn M M106 := by
            rw [e106]
            exact pz_sn_u hS (by unfold pz_mid; omega) (by unfold pz_iom; omega)
          have hI : pz_im M106 := hS.1 hI0
          have T106_0 := pz_uve e106 1 16
          intro v109 e109 a109 b109
          try rw [pz_wi (by omega) (by omega)] at e109
          exact ih18 _ _ _ (by omega) hS (by omega) (by omega) (by omega) (by omega)
        refine hgo (fun p => Nat.beq p 18 || Nat.beq p 71) 64 18 _ _ _ ?_
        refine And.intro (fun h22 => ?_) (fun h22 => ?_)
        · skip
          intro v116 e116 a116 b116
          have I116 := hI.2.1.2.1
          refine And.intro rfl ?_
          refine And.intro ?_ hS
          split <;> omega
        · skip
          refine And.intro (fun h28 => ?_) (fun h28 => ?_)
          · skip
            refine And.intro (fun h39 => ?_) (fun h39 => ?_)
            · skip
              refine And.intro (fun h50 => ?_) (fun h50 => ?_)
              · skip
                refine And.intro (fun h61 => ?_) (fun h61 => ?_)
                · skip
                  exact L71 _ _ _ _ hS (by omega) (by omega) (by omega) (by omega)
                · skip
                  exact L71 _ _ _ _ hS (by omega) (by omega) (by omega) (by omega)
              · skip
                exact L71 _ _ _ _ hS (by omega) (by omega) (by omega) (by omega)
            · skip
              exact L71 _ _ _ _ hS (by omega) (by omega) (by omega) (by omega)
          · skip
            exact L71 _ _ _ _ hS (by omega) (by omega) (by omega) (by omega)
    refine hgo (fun p => Nat.beq p 18 || Nat.beq p 71) 64 0 _ [] M ?_
    intro v1 e1 a1 b1
    have I1 := hI.2.1.2.1
    intro v6 e6 a6 b6
    try rw [pz_wi (by omega) (by omega)] at e6
    refine And.intro (fun h10 => ?_) (fun h10 => ?_)
    · skip
      exact L18 _ _ _ _ (Nat.lt_succ_self _) hS (by omega) (by omega) (by omega) (by omega)
    · skip
      refine And.intro rfl ?_
      refine And.intro ?_ hS
      split <;> omega
theorem v_X12_feed {fr lo i : Nat} {own : String} (h1 : 0 + 1 ≤ fr) (h2 : 8 + (8 + 11) + 0 ≤ lo) (h3 : .methodLink own i yX12_feed ∈ lw_tbl) : pz_cV fr lo own i k_X12_feed :=
  pz_cVk (maxL := 8) (fr' := 0) (lo' := 0) 5 12 h_X12_feed rfl ⟨by decide +kernel, by decide +kernel, by decide +kernel⟩ ⟨by decide +kernel, by decide +kernel, by decide +kernel, by decide +kernel⟩ (Or.inl ⟨TX12, 28, rfl⟩) (fun a M _ h => by
    have h : (match (generalizing := false) a with | [.inr (.inr (12, th)), .inl p, .inl q, .inl w, .inl s, .inl u] => pz_im M | _ => False) := h
    split at h
    · exact ⟨_, _, rfl⟩
    · exact h.elim) h1 h2 h3
def k_X12_end : pz_C := (2, 1, fun a M => (match a with | [.inr (.inr (12, th)), .inl n] => pz_im M | _ => False), fun a M r M' => (match a, r with | [.inr (.inr (12, th)), .inl n], some (.inl v) => ((if 0 ≤ n ∧ n ≤ M 1 16 then v = 1 ∧ M' 1 16 = n else v = 0 ∧ M' 1 16 = M 1 16)) ∧ pz_sn M M' | _, _ => False))
abbrev ct_X12_end : List (Bool × Nat × pz_C) := [(false, 54, k_X12_isIn)]
set_option maxRecDepth 100000 in
set_option maxHeartbeats 4000000 in
theorem h_X12_end : pz_H yX12_end cX12_end 2 (some .boolean) k_X12_end 1 22 := by
  refine pz_mk (own := RX12) (tb := t_X12_end) (fl := pz_flf fl_RX12) (ci := pz_cif ci_RX12) (ct := pz_ctf ct_X12_end) (rz := true) (by decide +kernel) rfl t_X12_end_ok (pz_flk fl_RX12_ok) (pz_cik ci_RX12_ok) ?_ ?_ (Or.inr ⟨rfl, rfl⟩) ?_ ?_
  · exact fun i k' h => pz_ctk (l := ct_X12_end) (P := fun b i k => b = true → pz_cV 1 22 RX12 i k) (List.forall_mem_cons.mpr ⟨((fun z => by cases z)), fun _ h => absurd h List.not_mem_nil⟩) true i k' h rfl
  · exact fun i k' h => pz_ctk (l := ct_X12_end) (P := fun b i k => b = false → (pz_cS 1 22 RX12 i k ∨ (k = pz_kac ∧ 1 ≤ 1 ∧ 60 ≤ 22 ∧ Cond.methodLink RX12 i arraycopyName ∈ pz_tbl))) (List.forall_mem_cons.mpr ⟨(fun _ => Or.inl (s_X12_isIn (by decide) (by decide) (Or.inl (by decide +kernel)))), fun _ h => absurd h List.not_mem_nil⟩) false i k' h rfl
  · intro a M hlen hpre
    obtain ⟨th, n, rfl, hpre⟩ : ∃ th n, a = [.inr (.inr (12, th)), .inl n] ∧ (pz_im M) := by
      have hpre : (match (generalizing := false) a with | [.inr (.inr (12, th)), .inl n] => pz_im M | _ => False) := hpre
      split at hpre
      · exact ⟨_, _, rfl, hpre⟩
      · exact hpre.elim
    exact Nat.le_of_ble_eq_true rfl
  · intro a M hlen hcan hM hpre Ok hgo
    obtain ⟨th, n, rfl, hpre⟩ : ∃ th n, a = [.inr (.inr (12, th)), .inl n] ∧ (pz_im M) := by
      have hpre : (match (generalizing := false) a with | [.inr (.inr (12, th)), .inl n] => pz_im M | _ => False) := hpre
      split at hpre
      · exact ⟨_, _, rfl, hpre⟩
      · exact hpre.elim
    obtain ⟨k_th, hc_th⟩ := pz_tlm hcan
    have k_th : pz_kd th = 12 ∧ th < 231 := k_th
    have R_th := pz_kd12 k_th.1
    subst R_th
    obtain ⟨k_n, hc_n⟩ := pz_tlm hc_th
    have l_n : -2147483648 ≤ n := k_n.1
    have u_n : n ≤ 2147483647 := k_n.2
    have hI : pz_im M := hpre
    have hI0 := hI
    have hS : pz_sn M M := pz_sn.rf
    refine hgo (fun _ => false) 15 0 _ [] M ?_
    intro v3 e3 a3 b3
    have I3 := hI.2.1.2.1
    refine And.intro (True.intro) ?_
    intro v6 M6 a6 b6 q6
    obtain ⟨q6, z6⟩ := q6
    subst z6
    refine And.intro (fun h9 => ?_) (fun h9 => ?_)
    · skip
      intro M16 e16
      have hS : pz_sn M M16 := by
        rw [e16]
        exact pz_sn_u hS (by unfold pz_mid; omega) (by unfold pz_iom; omega)
      have hI : pz_im M16 := hS.1 hI0
      have T16_0 := pz_uve e16 1 16
      refine And.intro (by omega) ?_
      refine And.intro rfl ?_
      refine And.intro ?_ hS
      split <;> omega
    · skip
      refine And.intro (by omega) ?_
      refine And.intro rfl ?_
      refine And.intro ?_ hS
      split <;> omega
theorem v_X12_end {fr lo i : Nat} {own : String} (h1 : 1 + 1 ≤ fr) (h2 : 8 + (2 + 11) + 22 ≤ lo) (h3 : .methodLink own i yX12_end ∈ lw_tbl) : pz_cV fr lo own i k_X12_end :=
  pz_cVk (maxL := 2) (fr' := 1) (lo' := 22) 1 12 h_X12_end rfl ⟨by decide +kernel, by decide +kernel, by decide +kernel⟩ ⟨by decide +kernel, by decide +kernel, by decide +kernel, by decide +kernel⟩ (Or.inl ⟨TX12, 28, rfl⟩) (fun a M _ h => by
    have h : (match (generalizing := false) a with | [.inr (.inr (12, th)), .inl n] => pz_im M | _ => False) := h
    split at h
    · exact ⟨_, _, rfl⟩
    · exact h.elim) h1 h2 h3
def k_X12_both : pz_C := (3, 1, fun a M => (match a with | [.inl o, .inl x, .inl y] => True | _ => False), fun a M r M' => (match a, r with | [.inl o, .inl x, .inl y], some (.inl v) => (True) ∧ M = M' | _, _ => False))
abbrev ct_X12_both : List (Bool × Nat × pz_C) := []
set_option maxRecDepth 100000 in
set_option maxHeartbeats 4000000 in
theorem h_X12_both : pz_H yX12_both cX12_both 3 (some .int) k_X12_both 0 0 := by
  refine pz_mk (own := RX12) (tb := t_X12_both) (fl := pz_flf fl_RX12) (ci := pz_cif ci_RX12) (ct := pz_ctf ct_X12_both) (rz := false) (by decide +kernel) rfl t_X12_both_ok (pz_flk fl_RX12_ok) (pz_cik ci_RX12_ok) ?_ ?_ (Or.inl ⟨rfl, rfl⟩) ?_ ?_
  · exact fun i k' h => pz_ctk (l := ct_X12_both) (P := fun b i k => b = true → pz_cV 0 0 RX12 i k) (fun _ h => absurd h List.not_mem_nil) true i k' h rfl
  · exact fun i k' h => pz_ctk (l := ct_X12_both) (P := fun b i k => b = false → (pz_cS 0 0 RX12 i k ∨ (k = pz_kac ∧ 1 ≤ 0 ∧ 60 ≤ 0 ∧ Cond.methodLink RX12 i arraycopyName ∈ pz_tbl))) (fun _ h => absurd h List.not_mem_nil) false i k' h rfl
  · intro a M hlen hpre
    obtain ⟨o, x, y, rfl, hpre⟩ : ∃ o x y, a = [.inl o, .inl x, .inl y] ∧ (True) := by
      have hpre : (match (generalizing := false) a with | [.inl o, .inl x, .inl y] => True | _ => False) := hpre
      split at hpre
      · exact ⟨_, _, _, rfl, hpre⟩
      · exact hpre.elim
    exact Nat.le_of_ble_eq_true rfl
  · intro a M hlen hcan hM hpre Ok hgo
    obtain ⟨o, x, y, rfl, hpre⟩ : ∃ o x y, a = [.inl o, .inl x, .inl y] ∧ (True) := by
      have hpre : (match (generalizing := false) a with | [.inl o, .inl x, .inl y] => True | _ => False) := hpre
      split at hpre
      · exact ⟨_, _, _, rfl, hpre⟩
      · exact hpre.elim
    obtain ⟨k_o, hc_o⟩ := pz_tlm hcan
    have l_o : -2147483648 ≤ o := k_o.1
    have u_o : o ≤ 2147483647 := k_o.2
    obtain ⟨k_x, hc_x⟩ := pz_tlm hc_o
    have l_x : -2147483648 ≤ x := k_x.1
    have u_x : x ≤ 2147483647 := k_x.2
    obtain ⟨k_y, hc_y⟩ := pz_tlm hc_x
    have l_y : -2147483648 ≤ y := k_y.1
    have u_y : y ≤ 2147483647 := k_y.2
    refine hgo (fun _ => false) 45 0 _ [] M ?_
    refine And.intro ?_ ?_
    · skip
      refine And.intro (fun h1 => ?_) ?_
      · skip
        intro v54 e54 a54 b54
        try rw [pz_wi (by omega) (by omega)] at e54
        refine And.intro rfl ?_
        exact ⟨trivial, rfl⟩
      refine And.intro (fun h1 => ?_) ?_
      · skip
        intro v58 e58 a58 b58
        try rw [pz_wi (by omega) (by omega)] at e58
        refine And.intro rfl ?_
        exact ⟨trivial, rfl⟩
      refine And.intro (fun h1 => ?_) ?_
      · skip
        intro v62 e62 a62 b62
        try rw [pz_wi (by omega) (by omega)] at e62
        refine And.intro rfl ?_
        exact ⟨trivial, rfl⟩
      refine And.intro (fun h1 => ?_) ?_
      · skip
        intro v103 e103 a103 b103
        refine And.intro rfl ?_
        exact ⟨trivial, rfl⟩
      refine And.intro (fun h1 => ?_) ?_
      · skip
        refine And.intro (fun h66 => ?_) (fun h66 => ?_)
        · skip
          refine And.intro rfl ?_
          exact ⟨trivial, rfl⟩
        · skip
          refine And.intro rfl ?_
          exact ⟨trivial, rfl⟩
      refine And.intro (fun h1 => ?_) ?_
      · skip
        refine And.intro (fun h77 => ?_) (fun h77 => ?_)
        · skip
          refine And.intro rfl ?_
          exact ⟨trivial, rfl⟩
        · skip
          refine And.intro rfl ?_
          exact ⟨trivial, rfl⟩
      refine And.intro (fun h1 => ?_) ?_
      · skip
        refine And.intro (fun h88 => ?_) (fun h88 => ?_)
        · skip
          refine And.intro rfl ?_
          exact ⟨trivial, rfl⟩
        · skip
          refine And.intro rfl ?_
          exact ⟨trivial, rfl⟩
      refine And.intro (fun h1 => ?_) ?_
      · skip
        intro v103 e103 a103 b103
        refine And.intro rfl ?_
        exact ⟨trivial, rfl⟩
      refine And.intro (fun h1 => ?_) ?_
      · skip
        intro v99 e99 a99 b99
        refine And.intro rfl ?_
        exact ⟨trivial, rfl⟩
      exact True.intro
    · intro h1
      intro v103 e103 a103 b103
      refine And.intro rfl ?_
      exact ⟨trivial, rfl⟩
theorem s_X12_both {fr lo i : Nat} {own : String} (h1 : 0 + 1 ≤ fr) (h2 : 8 + (3 + 11) + 0 ≤ lo) (h3 : .methodLink own i yX12_both ∈ lw_tbl ∨ (own = RX1 ∧ i = 35 ∧ yX12_both = yX11_within)) : pz_cS fr lo own i k_X12_both := pz_cSk (maxL := 3) (fr' := 0) (lo' := 0) 3 h_X12_both rfl ⟨by decide +kernel, by decide +kernel, by decide +kernel⟩ ⟨by decide +kernel, by decide +kernel, by decide +kernel⟩ h1 h2 h3
def k_X12_comesTo : pz_C := (4, 1, fun a M => (match a with | [.inr (.inr (12, th)), .inl k, .inl a, .inl b] => pz_im M ∧ k = 0 ∧ 0 ≤ a ∧ b ≤ 410 ∧ pz_sg (fun j => M 60 (905 + j)) a b | _ => False), fun a M r M' => (match a, r with | [.inr (.inr (12, th)), .inl k, .inl a, .inl b], some (.inl v) => (True) ∧ pz_rl pz_Q3 M M' | _, _ => False))
abbrev ct_X12_comesTo : List (Bool × Nat × pz_C) := [(false, 282, k_X12_both)]
set_option maxRecDepth 100000 in
set_option maxHeartbeats 4000000 in
theorem h_X12_comesTo : pz_H yX12_comesTo cX12_comesTo 8 (some .int) k_X12_comesTo 1 22 := by
  refine pz_mk (own := RX12) (tb := t_X12_comesTo) (fl := pz_flf fl_RX12) (ci := pz_cif ci_RX12) (ct := pz_ctf ct_X12_comesTo) (rz := false) (by decide +kernel) rfl t_X12_comesTo_ok (pz_flk fl_RX12_ok) (pz_cik ci_RX12_ok) ?_ ?_ (Or.inl ⟨rfl, rfl⟩) ?_ ?_
  · exact fun i k' h => pz_ctk (l := ct_X12_comesTo) (P := fun b i k => b = true → pz_cV 1 22 RX12 i k) (List.forall_mem_cons.mpr ⟨((fun z => by cases z)), fun _ h => absurd h List.not_mem_nil⟩) true i k' h rfl
  · exact fun i k' h => pz_ctk (l := ct_X12_comesTo) (P := fun b i k => b = false → (pz_cS 1 22 RX12 i k ∨ (k = pz_kac ∧ 1 ≤ 1 ∧ 60 ≤ 22 ∧ Cond.methodLink RX12 i arraycopyName ∈ pz_tbl))) (List.forall_mem_cons.mpr ⟨(fun _ => Or.inl (s_X12_both (by decide) (by decide) (Or.inl (by decide +kernel)))), fun _ h => absurd h List.not_mem_nil⟩) false i k' h rfl
  · intro a M hlen hpre
    obtain ⟨th, k, a, b, rfl, hpre⟩ : ∃ th k a b, a = [.inr (.inr (12, th)), .inl k, .inl a, .inl b] ∧ (pz_im M ∧ k = 0 ∧ 0 ≤ a ∧ b ≤ 410 ∧ pz_sg (fun j => M 60 (905 + j)) a b) := by
      have hpre : (match (generalizing := false) a with | [.inr (.inr (12, th)), .inl k, .inl a, .inl b] => pz_im M ∧ k = 0 ∧ 0 ≤ a ∧ b ≤ 410 ∧ pz_sg (fun j => M 60 (905 + j)) a b | _ => False) := hpre
      split at hpre
      · exact ⟨_, _, _, _, rfl, hpre⟩
      · exact hpre.elim
    exact Nat.le_of_ble_eq_true rfl
  · intro a M hlen hcan hM hpre Ok hgo
    obtain ⟨th, k, a, b, rfl, hpre⟩ : ∃ th k a b, a = [.inr (.inr (12, th)), .inl k, .inl a, .inl b] ∧ (pz_im M ∧ k = 0 ∧ 0 ≤ a ∧ b ≤ 410 ∧ pz_sg (fun j => M 60 (905 + j)) a b) := by
      have hpre : (match (generalizing := false) a with | [.inr (.inr (12, th)), .inl k, .inl a, .inl b] => pz_im M ∧ k = 0 ∧ 0 ≤ a ∧ b ≤ 410 ∧ pz_sg (fun j => M 60 (905 + j)) a b | _ => False) := hpre
      split at hpre
      · exact ⟨_, _, _, _, rfl, hpre⟩
      · exact hpre.elim
    obtain ⟨k_th, hc_th⟩ := pz_tlm hcan
    have k_th : pz_kd th = 12 ∧ th < 231 := k_th
    have R_th := pz_kd12 k_th.1
    subst R_th
    obtain ⟨k_k, hc_k⟩ := pz_tlm hc_th
    have l_k : -2147483648 ≤ k := k_k.1
    have u_k : k ≤ 2147483647 := k_k.2
    obtain ⟨k_a, hc_a⟩ := pz_tlm hc_k
    have l_a : -2147483648 ≤ a := k_a.1
    have u_a : a ≤ 2147483647 := k_a.2
    obtain ⟨k_b, hc_b⟩ := pz_tlm hc_a
    have l_b : -2147483648 ≤ b := k_b.1
    have u_b : b ≤ 2147483647 := k_b.2
    have hI : pz_im M := hpre.1
    have hI0 := hI
    have hS : pz_rl pz_Q3 M M := pz_rl.rf
    obtain ⟨-, hk0, hp0, hp1, hst, d, hd0, hd1, hd⟩ := hpre
    have L6 : ∀ (fu : Nat) (x4 : Int) (x5 : Int) (d6 : Option pz_V) (d7 : Option pz_V) (N6 : pz_M), (b - x5).toNat < fu → (pz_rl pz_Q3 M N6) → (x4 = d x5) → (0 ≤ x4) → (x4 ≤ x5 - a) → (a ≤ x5) → (x5 ≤ b) → Ok 6 [some (.inr (.inr (12, 1))), some (.inl k), some (.inl a), some (.inl b), some (.inl x4), some (.inl x5), d6, d7] [] N6 := by
      intro fu
      induction fu with
      | zero => exact fun _ _ _ _ _ hn => absurd hn (Nat.not_lt_zero _)
      | succ fu ih6 =>
        intro x4 x5 d6 d7 N6 hn6 hS g6_1 g6_2 g6_3 g6_4 g6_5
        have hI : pz_im N6 := hS.1 hI0
        have L180 : ∀ (x4 : Int) (x5 : Int) (x6 : Int) (x7 : Int) (N180 : pz_M), (pz_rl pz_Q3 M N180) → (x4 = d (x5 + 1)) → (0 ≤ x4) → (x4 ≤ x5 + 1 - a) → (a ≤ x5) → (x5 < b) → ((b - x5).toNat < fu + 1) → Ok 180 [some (.inr (.inr (12, 1))), some (.inl k), some (.inl a), some (.inl b), some (.inl x4), some (.inl x5), some (.inl x6), some (.inl x7)] [] N180 := by
          intro x4 x5 x6 x7 N180 hS g180_1 g180_2 g180_3 g180_4 g180_5 g180_6
          have hI : pz_im N180 := hS.1 hI0
          refine hgo (fun p => Nat.beq p 6 || Nat.beq p 180) 112 180 _ _ _ ?_
          intro v180 e180 a180 b180
          try rw [pz_wi (by omega) (by omega)] at e180
          have D180 : d v180 = d (x5 + 1) := by rw [e180]
          exact ih6 _ _ _ _ _ (by omega) hS (by omega) (by omega) (by omega) (by omega) (by omega)
        refine hgo (fun p => Nat.beq p 6 || Nat.beq p 180) 112 6 _ _ _ ?_
        refine And.intro (fun h9 => ?_) (fun h9 => ?_)
        · skip
          intro r187 e187 k187
          have e187 : r187 = 68 := e187
          subst e187
          refine And.intro (by omega) (And.intro (show _ < (420 : Int) from by omega) ?_)
          intro v191 e191 a191 b191
          have e191 : v191 = N6 68 0 := e191
          refine And.intro rfl ?_
          exact ⟨trivial, hS⟩
        · skip
          intro r13 e13 k13
          have e13 : r13 = 60 := e13
          subst e13
          intro v23 e23 a23 b23
          try rw [pz_wi (by omega) (by omega)] at e23
          intro v24 e24 a24 b24
          try rw [pz_wi (by omega) (by omega)] at e24
          intro v28 e28 a28 b28
          try rw [pz_wi (by omega) (by omega)] at e28
          intro v29 e29 a29 b29
          try rw [pz_wi (by omega) (by omega)] at e29
          refine And.intro (by omega) (And.intro (show _ < (1725 : Int) from by omega) ?_)
          intro v30 e30 a30 b30
          rw [show v29.toNat = 905 + (2 * x5).toNat by omega, hS.2 60 _ (by unfold pz_Q3; omega)] at e30
          intro r34 e34 k34
          have e34 : r34 = 60 := e34
          subst e34
          intro v44 e44 a44 b44
          try rw [pz_wi (by omega) (by omega)] at e44
          intro v45 e45 a45 b45
          try rw [pz_wi (by omega) (by omega)] at e45
          intro v49 e49 a49 b49
          try rw [pz_wi (by omega) (by omega)] at e49
          intro v50 e50 a50 b50
          try rw [pz_wi (by omega) (by omega)] at e50
          intro v52 e52 a52 b52
          try rw [pz_wi (by omega) (by omega)] at e52
          refine And.intro (by omega) (And.intro (show _ < (1725 : Int) from by omega) ?_)
          intro v53 e53 a53 b53
          rw [show v52.toNat = 905 + (2 * x5 + 1).toNat by omega, hS.2 60 _ (by unfold pz_Q3; omega)] at e53
          have D53 : 0 ≤ d x5 ∧ pz_sp1 v30 v53 (d x5) (d (x5 + 1)) := by
            rw [e30, e53]
            exact hd x5 (by omega) (by omega)
          unfold pz_sp1 at D53
          refine And.intro (fun h60 => ?_) (fun h60 => ?_)
          · skip
            refine And.intro (fun h97 => ?_) (fun h97 => ?_)
            · skip
              refine And.intro (fun h121 => ?_) (fun h121 => ?_)
              · skip
                intro v147 e147 a147 b147
                try rw [pz_wi (by omega) (by omega)] at e147
                intro r151 e151 k151
                have e151 : r151 = 68 := e151
                subst e151
                intro v157 e157 a157 b157
                try rw [pz_wi (by omega) (by omega)] at e157
                intro r161 e161 k161
                have e161 : r161 = 68 := e161
                subst e161
                intro v167 e167 a167 b167
                try rw [pz_wi (by omega) (by omega)] at e167
                refine And.intro (by omega) (And.intro (show _ < (420 : Int) from by omega) ?_)
                intro v168 e168 a168 b168
                intro r170 e170 k170
                have e170 : r170 = 68 := e170
                subst e170
                refine And.intro (by omega) (And.intro (show _ < (420 : Int) from by omega) ?_)
                intro v175 e175 a175 b175
                refine And.intro (True.intro) ?_
                intro v176 M176 a176 b176 q176
                obtain ⟨q176, z176⟩ := q176
                subst z176
                refine And.intro (by omega) (And.intro (show _ < (420 : Int) from by omega) ?_)
                intro M179 e179
                have hS : pz_rl pz_Q3 M M179 := by
                  rw [e179]
                  exact pz_rl_u hS (by unfold pz_Q3; omega) (by unfold pz_iom; omega)
                have hI : pz_im M179 := hS.1 hI0
                exact L180 _ _ _ _ _ hS (by omega) (by omega) (by omega) (by omega) (by omega) (by omega)
              · skip
                intro r125 e125 k125
                have e125 : r125 = 68 := e125
                subst e125
                intro v131 e131 a131 b131
                try rw [pz_wi (by omega) (by omega)] at e131
                intro r134 e134 k134
                have e134 : r134 = 68 := e134
                subst e134
                intro v140 e140 a140 b140
                try rw [pz_wi (by omega) (by omega)] at e140
                refine And.intro (by omega) (And.intro (show _ < (420 : Int) from by omega) ?_)
                intro v141 e141 a141 b141
                intro v142 e142 a142 b142
                try rw [pz_wi (by omega) (by omega)] at e142
                refine And.intro (by omega) (And.intro (show _ < (420 : Int) from by omega) ?_)
                intro M143 e143
                have hS : pz_rl pz_Q3 M M143 := by
                  rw [e143]
                  exact pz_rl_u hS (by unfold pz_Q3; omega) (by unfold pz_iom; omega)
                have hI : pz_im M143 := hS.1 hI0
                exact L180 _ _ _ _ _ hS (by omega) (by omega) (by omega) (by omega) (by omega) (by omega)
            · skip
              intro r101 e101 k101
              have e101 : r101 = 68 := e101
              subst e101
              intro v107 e107 a107 b107
              try rw [pz_wi (by omega) (by omega)] at e107
              refine And.intro (by omega) (And.intro (show _ < (420 : Int) from by omega) ?_)
              intro v109 e109 a109 b109
              refine And.intro (by omega) ?_
              intro v112 e112 a112 b112
              refine And.intro (by omega) (And.intro (show _ < (420 : Int) from by omega) ?_)
              intro M113 e113
              have hS : pz_rl pz_Q3 M M113 := by
                rw [e113]
                exact pz_rl_u hS (by unfold pz_Q3; omega) (by unfold pz_iom; omega)
              have hI : pz_im M113 := hS.1 hI0
              exact L180 _ _ _ _ _ hS (by omega) (by omega) (by omega) (by omega) (by omega) (by omega)
          · skip
            intro r64 e64 k64
            have e64 : r64 = 68 := e64
            subst e64
            refine And.intro (fun h71 => ?_) (fun h71 => ?_)
            · skip
              intro r80 e80 k80
              have e80 : r80 = 69 := e80
              subst e80
              refine And.intro (by omega) (And.intro (show _ < (10 : Int) from by omega) ?_)
              intro v85 e85 a85 b85
              refine And.intro (by omega) (And.intro (show _ < (420 : Int) from by omega) ?_)
              intro M86 e86
              have hS : pz_rl pz_Q3 M M86 := by
                rw [e86]
                exact pz_rl_u hS (by unfold pz_Q3; omega) (by unfold pz_iom; omega)
              have hI : pz_im M86 := hS.1 hI0
              intro v87 e87 a87 b87
              try rw [pz_wi (by omega) (by omega)] at e87
              exact L180 _ _ _ _ _ hS (by omega) (by omega) (by omega) (by omega) (by omega) (by omega)
            · skip
              refine And.intro (by omega) (And.intro (show _ < (420 : Int) from by omega) ?_)
              intro M86 e86
              have hS : pz_rl pz_Q3 M M86 := by
                rw [e86]
                exact pz_rl_u hS (by unfold pz_Q3; omega) (by unfold pz_iom; omega)
              have hI : pz_im M86 := hS.1 hI0
              intro v87 e87 a87 b87
              try rw [pz_wi (by omega) (by omega)] at e87
              exact L180 _ _ _ _ _ hS (by omega) (by omega) (by omega) (by omega) (by omega) (by omega)
    refine hgo (fun p => Nat.beq p 6 || Nat.beq p 180) 112 0 _ [] M ?_
    exact L6 _ _ _ _ _ _ (Nat.lt_succ_self _) hS (by omega) (by omega) (by omega) (by omega) (by omega)
theorem v_X12_comesTo {fr lo i : Nat} {own : String} (h1 : 1 + 1 ≤ fr) (h2 : 8 + (8 + 11) + 22 ≤ lo) (h3 : .methodLink own i yX12_comesTo ∈ lw_tbl) : pz_cV fr lo own i k_X12_comesTo :=
  pz_cVk (maxL := 8) (fr' := 1) (lo' := 22) 3 12 h_X12_comesTo rfl ⟨by decide +kernel, by decide +kernel, by decide +kernel⟩ ⟨by decide +kernel, by decide +kernel, by decide +kernel, by decide +kernel⟩ (Or.inl ⟨TX12, 28, rfl⟩) (fun a M _ h => by
    have h : (match (generalizing := false) a with | [.inr (.inr (12, th)), .inl k, .inl a, .inl b] => pz_im M ∧ k = 0 ∧ 0 ≤ a ∧ b ≤ 410 ∧ pz_sg (fun j => M 60 (905 + j)) a b | _ => False) := h
    split at h
    · exact ⟨_, _, rfl⟩
    · exact h.elim) h1 h2 h3
def k_X12_isSo : pz_C := (2, 1, fun a M => (match a with | [.inr (.inr (12, th)), .inl i] => pz_im M ∧ 0 ≤ i ∧ i < M 60 89 | _ => False), fun a M r M' => (match a, r with | [.inr (.inr (12, th)), .inl i], some (.inl v) => (v = 0 ∨ v = 1) ∧ pz_rl pz_Q3 M M' | _, _ => False))
abbrev ct_X12_isSo : List (Bool × Nat × pz_C) := [(true, 285, k_X12_comesTo)]
set_option maxRecDepth 100000 in
set_option maxHeartbeats 4000000 in
theorem h_X12_isSo : pz_H yX12_isSo cX12_isSo 2 (some .boolean) k_X12_isSo 2 49 := by
  refine pz_mk (own := RX12) (tb := t_X12_isSo) (fl := pz_flf fl_RX12) (ci := pz_cif ci_RX12) (ct := pz_ctf ct_X12_isSo) (rz := true) (by decide +kernel) rfl t_X12_isSo_ok (pz_flk fl_RX12_ok) (pz_cik ci_RX12_ok) ?_ ?_ (Or.inr ⟨rfl, rfl⟩) ?_ ?_
  · exact fun i k' h => pz_ctk (l := ct_X12_isSo) (P := fun b i k => b = true → pz_cV 2 49 RX12 i k) (List.forall_mem_cons.mpr ⟨(fun _ => v_X12_comesTo (by decide) (by decide) (by decide +kernel)), fun _ h => absurd h List.not_mem_nil⟩) true i k' h rfl
  · exact fun i k' h => pz_ctk (l := ct_X12_isSo) (P := fun b i k => b = false → (pz_cS 2 49 RX12 i k ∨ (k = pz_kac ∧ 1 ≤ 2 ∧ 60 ≤ 49 ∧ Cond.methodLink RX12 i arraycopyName ∈ pz_tbl))) (List.forall_mem_cons.mpr ⟨((fun z => by cases z)), fun _ h => absurd h List.not_mem_nil⟩) false i k' h rfl
  · intro a M hlen hpre
    obtain ⟨th, i, rfl, hpre⟩ : ∃ th i, a = [.inr (.inr (12, th)), .inl i] ∧ (pz_im M ∧ 0 ≤ i ∧ i < M 60 89) := by
      have hpre : (match (generalizing := false) a with | [.inr (.inr (12, th)), .inl i] => pz_im M ∧ 0 ≤ i ∧ i < M 60 89 | _ => False) := hpre
      split at hpre
      · exact ⟨_, _, rfl, hpre⟩
      · exact hpre.elim
    exact Nat.le_of_ble_eq_true rfl
  · intro a M hlen hcan hM hpre Ok hgo
    obtain ⟨th, i, rfl, hpre⟩ : ∃ th i, a = [.inr (.inr (12, th)), .inl i] ∧ (pz_im M ∧ 0 ≤ i ∧ i < M 60 89) := by
      have hpre : (match (generalizing := false) a with | [.inr (.inr (12, th)), .inl i] => pz_im M ∧ 0 ≤ i ∧ i < M 60 89 | _ => False) := hpre
      split at hpre
      · exact ⟨_, _, rfl, hpre⟩
      · exact hpre.elim
    obtain ⟨k_th, hc_th⟩ := pz_tlm hcan
    have k_th : pz_kd th = 12 ∧ th < 231 := k_th
    have R_th := pz_kd12 k_th.1
    subst R_th
    obtain ⟨k_i, hc_i⟩ := pz_tlm hc_th
    have l_i : -2147483648 ≤ i := k_i.1
    have u_i : i ≤ 2147483647 := k_i.2
    have hI : pz_im M := hpre.1
    have hI0 := hI
    have hS : pz_rl pz_Q3 M M := pz_rl.rf
    have W9 := hI.2.2.1 i (by omega) (by omega)
    obtain ⟨w1, w2, w3, w4⟩ := W9
    have I9 := hI.1.2.1
    refine hgo (fun _ => false) 36 0 _ [] M ?_
    intro r1 e1 k1
    have e1 : r1 = 60 := e1
    subst e1
    intro v8 e8 a8 b8
    try rw [pz_wi (by omega) (by omega)] at e8
    refine And.intro (by omega) (And.intro (show _ < (1725 : Int) from by omega) ?_)
    intro v9 e9 a9 b9
    rw [e8] at e9
    intro r11 e11 k11
    have e11 : r11 = 60 := e11
    subst e11
    intro v18 e18 a18 b18
    try rw [pz_wi (by omega) (by omega)] at e18
    refine And.intro (by omega) (And.intro (show _ < (1725 : Int) from by omega) ?_)
    intro v19 e19 a19 b19
    rw [e18] at e19
    refine And.intro (fun h20 => ?_) (fun h20 => ?_)
    · skip
      refine And.intro (by omega) ?_
      refine And.intro rfl ?_
      exact ⟨by omega, hS⟩
    · skip
      intro r26 e26 k26
      have e26 : r26 = 60 := e26
      subst e26
      intro v33 e33 a33 b33
      try rw [pz_wi (by omega) (by omega)] at e33
      refine And.intro (by omega) (And.intro (show _ < (1725 : Int) from by omega) ?_)
      intro v34 e34 a34 b34
      rw [e33] at e34
      intro r36 e36 k36
      have e36 : r36 = 60 := e36
      subst e36
      intro v43 e43 a43 b43
      try rw [pz_wi (by omega) (by omega)] at e43
      refine And.intro (by omega) (And.intro (show _ < (1725 : Int) from by omega) ?_)
      intro v44 e44 a44 b44
      rw [e43] at e44
      refine And.intro (by
        refine ⟨hI, rfl, ?_, ?_, ?_⟩
        · rw [e34]; have := w3.1; omega
        · rw [e44]; omega
        · rw [e34, e44]
          rcases w4 with w4 | w4
          · exact absurd (e9.trans (w4.symm.trans e19.symm)) h20
          · exact w4) ?_
      intro v45 M45 a45 b45 q45
      obtain ⟨q45, z45⟩ := q45
      have hS : pz_rl pz_Q3 M M45 := hS.tr z45
      have hI : pz_im M45 := hS.1 hI0
      refine And.intro (fun h49 => ?_) (fun h49 => ?_)
      · skip
        refine And.intro (by omega) ?_
        refine And.intro rfl ?_
        exact ⟨by omega, hS⟩
      · skip
        refine And.intro (by omega) ?_
        refine And.intro rfl ?_
        exact ⟨by omega, hS⟩
theorem v_X12_isSo {fr lo i : Nat} {own : String} (h1 : 2 + 1 ≤ fr) (h2 : 8 + (2 + 11) + 49 ≤ lo) (h3 : .methodLink own i yX12_isSo ∈ lw_tbl) : pz_cV fr lo own i k_X12_isSo :=
  pz_cVk (maxL := 2) (fr' := 2) (lo' := 49) 1 12 h_X12_isSo rfl ⟨by decide +kernel, by decide +kernel, by decide +kernel⟩ ⟨by decide +kernel, by decide +kernel, by decide +kernel, by decide +kernel⟩ (Or.inl ⟨TX12, 28, rfl⟩) (fun a M _ h => by
    have h : (match (generalizing := false) a with | [.inr (.inr (12, th)), .inl i] => pz_im M ∧ 0 ≤ i ∧ i < M 60 89 | _ => False) := h
    split at h
    · exact ⟨_, _, rfl⟩
    · exact h.elim) h1 h2 h3
def k_X12_endOf : pz_C := (3, 1, fun a M => (match a with | [.inr (.inr (12, th)), .inl i, .inl x] => pz_im M ∧ 0 ≤ i ∧ i ≤ 100 | _ => False), fun a M r M' => (match a, r with | [.inr (.inr (12, th)), .inl i, .inl x], some (.inl v) => (v < 12 ∧ (v = M 60 88 - 1 ∨ (i < v ∧ v < M 60 88 - 1))) ∧ M = M' | _, _ => False))
abbrev ct_X12_endOf : List (Bool × Nat × pz_C) := [(false, 47, k_X12_lesser)]
set_option maxRecDepth 100000 in
set_option maxHeartbeats 4000000 in
theorem h_X12_endOf : pz_H yX12_endOf cX12_endOf 4 (some .int) k_X12_endOf 1 21 := by
  refine pz_mk (own := RX12) (tb := t_X12_endOf) (fl := pz_flf fl_RX12) (ci := pz_cif ci_RX12) (ct := pz_ctf ct_X12_endOf) (rz := false) (by decide +kernel) rfl t_X12_endOf_ok (pz_flk fl_RX12_ok) (pz_cik ci_RX12_ok) ?_ ?_ (Or.inl ⟨rfl, rfl⟩) ?_ ?_
  · exact fun i k' h => pz_ctk (l := ct_X12_endOf) (P := fun b i k => b = true → pz_cV 1 21 RX12 i k) (List.forall_mem_cons.mpr ⟨((fun z => by cases z)), fun _ h => absurd h List.not_mem_nil⟩) true i k' h rfl
  · exact fun i k' h => pz_ctk (l := ct_X12_endOf) (P := fun b i k => b = false → (pz_cS 1 21 RX12 i k ∨ (k = pz_kac ∧ 1 ≤ 1 ∧ 60 ≤ 21 ∧ Cond.methodLink RX12 i arraycopyName ∈ pz_tbl))) (List.forall_mem_cons.mpr ⟨(fun _ => Or.inl (s_X12_lesser (by decide) (by decide) (Or.inl (by decide +kernel)))), fun _ h => absurd h List.not_mem_nil⟩) false i k' h rfl
  · intro a M hlen hpre
    obtain ⟨th, i, x, rfl, hpre⟩ : ∃ th i x, a = [.inr (.inr (12, th)), .inl i, .inl x] ∧ (pz_im M ∧ 0 ≤ i ∧ i ≤ 100) := by
      have hpre : (match (generalizing := false) a with | [.inr (.inr (12, th)), .inl i, .inl x] => pz_im M ∧ 0 ≤ i ∧ i ≤ 100 | _ => False) := hpre
      split at hpre
      · exact ⟨_, _, _, rfl, hpre⟩
      · exact hpre.elim
    exact Nat.le_of_ble_eq_true rfl
  · intro a M hlen hcan hM hpre Ok hgo
    obtain ⟨th, i, x, rfl, hpre⟩ : ∃ th i x, a = [.inr (.inr (12, th)), .inl i, .inl x] ∧ (pz_im M ∧ 0 ≤ i ∧ i ≤ 100) := by
      have hpre : (match (generalizing := false) a with | [.inr (.inr (12, th)), .inl i, .inl x] => pz_im M ∧ 0 ≤ i ∧ i ≤ 100 | _ => False) := hpre
      split at hpre
      · exact ⟨_, _, _, rfl, hpre⟩
      · exact hpre.elim
    obtain ⟨k_th, hc_th⟩ := pz_tlm hcan
    have k_th : pz_kd th = 12 ∧ th < 231 := k_th
    have R_th := pz_kd12 k_th.1
    subst R_th
    obtain ⟨k_i, hc_i⟩ := pz_tlm hc_th
    have l_i : -2147483648 ≤ i := k_i.1
    have u_i : i ≤ 2147483647 := k_i.2
    obtain ⟨k_x, hc_x⟩ := pz_tlm hc_i
    have l_x : -2147483648 ≤ x := k_x.1
    have u_x : x ≤ 2147483647 := k_x.2
    have hI : pz_im M := hpre.1
    have L4 : ∀ (fu : Nat) (x3 : Int), (101 - x3).toNat < fu → (i < x3) → (x3 ≤ 101) → Ok 4 [some (.inr (.inr (12, 1))), some (.inl i), some (.inl x), some (.inl x3)] [] M := by
      intro fu
      induction fu with
      | zero => exact fun _ hn => absurd hn (Nat.not_lt_zero _)
      | succ fu ih4 =>
        intro x3 hn4 g4_0 g4_1
        refine hgo (fun p => Nat.beq p 4) 31 4 _ _ _ ?_
        intro r6 e6 k6
        have e6 : r6 = 60 := e6
        subst e6
        refine And.intro (by omega) (And.intro (show _ < (1725 : Int) from by omega) ?_)
        intro v11 e11 a11 b11
        have e11 : v11 = M 60 88 := e11
        have I11 := hI.1.1
        intro v13 e13 a13 b13
        try rw [pz_wi (by omega) (by omega)] at e13
        refine And.intro (fun h14 => ?_) (fun h14 => ?_)
        · skip
          intro r33 e33 k33
          have e33 : r33 = 60 := e33
          subst e33
          refine And.intro (by omega) (And.intro (show _ < (1725 : Int) from by omega) ?_)
          intro v38 e38 a38 b38
          have e38 : v38 = M 60 88 := e38
          have I38 := hI.1.1
          intro v40 e40 a40 b40
          try rw [pz_wi (by omega) (by omega)] at e40
          refine And.intro (True.intro) ?_
          intro v41 M41 a41 b41 q41
          obtain ⟨q41, z41⟩ := q41
          subst z41
          refine And.intro rfl ?_
          exact ⟨by omega, rfl⟩
        · skip
          intro v19 e19 a19 b19
          intro v21 e21 a21 b21
          refine And.intro (fun h22 => ?_) (fun h22 => ?_)
          · skip
            intro r33 e33 k33
            have e33 : r33 = 60 := e33
            subst e33
            refine And.intro (by omega) (And.intro (show _ < (1725 : Int) from by omega) ?_)
            intro v38 e38 a38 b38
            have e38 : v38 = M 60 88 := e38
            have I38 := hI.1.1
            intro v40 e40 a40 b40
            try rw [pz_wi (by omega) (by omega)] at e40
            refine And.intro (True.intro) ?_
            intro v41 M41 a41 b41 q41
            obtain ⟨q41, z41⟩ := q41
            subst z41
            refine And.intro rfl ?_
            exact ⟨by omega, rfl⟩
          · skip
            intro v25 e25 a25 b25
            try rw [pz_wi (by omega) (by omega)] at e25
            exact ih4 _ (by omega) (by omega) (by omega)
    refine hgo (fun p => Nat.beq p 4) 31 0 _ [] M ?_
    intro v2 e2 a2 b2
    try rw [pz_wi (by omega) (by omega)] at e2
    exact L4 _ _ (Nat.lt_succ_self _) (by omega) (by omega)
theorem v_X12_endOf {fr lo i : Nat} {own : String} (h1 : 1 + 1 ≤ fr) (h2 : 8 + (4 + 11) + 21 ≤ lo) (h3 : .methodLink own i yX12_endOf ∈ lw_tbl) : pz_cV fr lo own i k_X12_endOf :=
  pz_cVk (maxL := 4) (fr' := 1) (lo' := 21) 2 12 h_X12_endOf rfl ⟨by decide +kernel, by decide +kernel, by decide +kernel⟩ ⟨by decide +kernel, by decide +kernel, by decide +kernel, by decide +kernel⟩ (Or.inl ⟨TX12, 28, rfl⟩) (fun a M _ h => by
    have h : (match (generalizing := false) a with | [.inr (.inr (12, th)), .inl i, .inl x] => pz_im M ∧ 0 ≤ i ∧ i ≤ 100 | _ => False) := h
    split at h
    · exact ⟨_, _, rfl⟩
    · exact h.elim) h1 h2 h3
def k_X12_bridgedOnes : pz_C := (1, 1, fun a M => (match a with | [.inr (.inr (12, th))] => pz_im M | _ => False), fun a M r M' => (match a, r with | [.inr (.inr (12, th))], some (.inl v) => (True) ∧ M = M' | _, _ => False))
abbrev ct_X12_bridgedOnes : List (Bool × Nat × pz_C) := [(true, 288, k_X12_isBridged)]
set_option maxRecDepth 100000 in
set_option maxHeartbeats 4000000 in
theorem h_X12_bridgedOnes : pz_H yX12_bridgedOnes cX12_bridgedOnes 3 (some .int) k_X12_bridgedOnes 1 21 := by
  refine pz_mk (own := RX12) (tb := t_X12_bridgedOnes) (fl := pz_flf fl_RX12) (ci := pz_cif ci_RX12) (ct := pz_ctf ct_X12_bridgedOnes) (rz := false) (by decide +kernel) rfl t_X12_bridgedOnes_ok (pz_flk fl_RX12_ok) (pz_cik ci_RX12_ok) ?_ ?_ (Or.inl ⟨rfl, rfl⟩) ?_ ?_
  · exact fun i k' h => pz_ctk (l := ct_X12_bridgedOnes) (P := fun b i k => b = true → pz_cV 1 21 RX12 i k) (List.forall_mem_cons.mpr ⟨(fun _ => v_X12_isBridged (by decide) (by decide) (by decide +kernel)), fun _ h => absurd h List.not_mem_nil⟩) true i k' h rfl
  · exact fun i k' h => pz_ctk (l := ct_X12_bridgedOnes) (P := fun b i k => b = false → (pz_cS 1 21 RX12 i k ∨ (k = pz_kac ∧ 1 ≤ 1 ∧ 60 ≤ 21 ∧ Cond.methodLink RX12 i arraycopyName ∈ pz_tbl))) (List.forall_mem_cons.mpr ⟨((fun z => by cases z)), fun _ h => absurd h List.not_mem_nil⟩) false i k' h rfl
  · intro a M hlen hpre
    obtain ⟨th, rfl, hpre⟩ : ∃ th, a = [.inr (.inr (12, th))] ∧ (pz_im M) := by
      have hpre : (match (generalizing := false) a with | [.inr (.inr (12, th))] => pz_im M | _ => False) := hpre
      split at hpre
      · exact ⟨_, rfl, hpre⟩
      · exact hpre.elim
    exact Nat.le_of_ble_eq_true rfl
  · intro a M hlen hcan hM hpre Ok hgo
    obtain ⟨th, rfl, hpre⟩ : ∃ th, a = [.inr (.inr (12, th))] ∧ (pz_im M) := by
      have hpre : (match (generalizing := false) a with | [.inr (.inr (12, th))] => pz_im M | _ => False) := hpre
      split at hpre
      · exact ⟨_, rfl, hpre⟩
      · exact hpre.elim
    obtain ⟨k_th, hc_th⟩ := pz_tlm hcan
    have k_th : pz_kd th = 12 ∧ th < 231 := k_th
    have R_th := pz_kd12 k_th.1
    subst R_th
    have hI : pz_im M := hpre
    have L4 : ∀ (fu : Nat) (x1 : Int) (x2 : Int), (12 - x2).toNat < fu → (0 ≤ x2) → Ok 4 [some (.inr (.inr (12, 1))), some (.inl x1), some (.inl x2)] [] M := by
      intro fu
      induction fu with
      | zero => exact fun _ _ hn => absurd hn (Nat.not_lt_zero _)
      | succ fu ih4 =>
        intro x1 x2 hn4 g4_0
        have L31 : ∀ (x1 : Int) (x2 : Int) (s0 : Int) (s1 : Int), (0 ≤ x2) → (x2 < 12) → ((12 - x2).toNat < fu + 1) → Ok 31 [some (.inr (.inr (12, 1))), some (.inl x1), some (.inl x2)] [.inl s1, .inl s0] M := by
          intro x1 x2 s0 s1 g31_0 g31_1 g31_2
          refine hgo (fun p => Nat.beq p 4 || Nat.beq p 31) 28 31 _ _ _ ?_
          intro v31 e31 a31 b31
          intro v33 e33 a33 b33
          try rw [pz_wi (by omega) (by omega)] at e33
          exact ih4 _ _ (by omega) (by omega)
        refine hgo (fun p => Nat.beq p 4 || Nat.beq p 31) 28 4 _ _ _ ?_
        intro r6 e6 k6
        have e6 : r6 = 60 := e6
        subst e6
        refine And.intro (by omega) (And.intro (show _ < (1725 : Int) from by omega) ?_)
        intro v11 e11 a11 b11
        have e11 : v11 = M 60 88 := e11
        have I11 := hI.1.1
        refine And.intro (fun h12 => ?_) (fun h12 => ?_)
        · skip
          refine And.intro rfl ?_
          exact ⟨trivial, rfl⟩
        · skip
          refine And.intro (And.intro hI (And.intro (by omega) (by omega))) ?_
          intro v18 M18 a18 b18 q18
          obtain ⟨q18, z18⟩ := q18
          subst z18
          refine And.intro (fun h21 => ?_) (fun h21 => ?_)
          · skip
            exact L31 _ _ _ _ (by omega) (by omega) (by omega)
          · skip
            intro v26 e26 a26 b26
            exact L31 _ _ _ _ (by omega) (by omega) (by omega)
    refine hgo (fun p => Nat.beq p 4 || Nat.beq p 31) 28 0 _ [] M ?_
    exact L4 _ _ _ (Nat.lt_succ_self _) (by omega)
theorem v_X12_bridgedOnes {fr lo i : Nat} {own : String} (h1 : 1 + 1 ≤ fr) (h2 : 8 + (3 + 11) + 21 ≤ lo) (h3 : .methodLink own i yX12_bridgedOnes ∈ lw_tbl) : pz_cV fr lo own i k_X12_bridgedOnes :=
  pz_cVk (maxL := 3) (fr' := 1) (lo' := 21) 0 12 h_X12_bridgedOnes rfl ⟨by decide +kernel, by decide +kernel, by decide +kernel⟩ ⟨by decide +kernel, by decide +kernel, by decide +kernel, by decide +kernel⟩ (Or.inl ⟨TX12, 28, rfl⟩) (fun a M _ h => by
    have h : (match (generalizing := false) a with | [.inr (.inr (12, th))] => pz_im M | _ => False) := h
    split at h
    · exact ⟨_, _, rfl⟩
    · exact h.elim) h1 h2 h3
def k_X12_lacksOf : pz_C := (2, 1, fun a M => (match a with | [.inr (.inr (12, th)), .inl i] => pz_im M ∧ 0 ≤ i ∧ i < 12 | _ => False), fun a M r M' => (match a, r with | [.inr (.inr (12, th)), .inl i], some (.inl v) => (True) ∧ M = M' | _, _ => False))
abbrev ct_X12_lacksOf : List (Bool × Nat × pz_C) := [(false, 51, k_X12_greater), (true, 288, k_X12_isBridged), (true, 291, k_X12_bridgedOnes), (true, 294, k_X12_endOf), (true, 297, k_X12_isReady)]
set_option maxRecDepth 100000 in
set_option maxHeartbeats 4000000 in
theorem h_X12_lacksOf : pz_H yX12_lacksOf cX12_lacksOf 6 (some .int) k_X12_lacksOf 2 44 := by
  refine pz_mk (own := RX12) (tb := t_X12_lacksOf) (fl := pz_flf fl_RX12) (ci := pz_cif ci_RX12) (ct := pz_ctf ct_X12_lacksOf) (rz := false) (by decide +kernel) rfl t_X12_lacksOf_ok (pz_flk fl_RX12_ok) (pz_cik ci_RX12_ok) ?_ ?_ (Or.inl ⟨rfl, rfl⟩) ?_ ?_
  · exact fun i k' h => pz_ctk (l := ct_X12_lacksOf) (P := fun b i k => b = true → pz_cV 2 44 RX12 i k) (List.forall_mem_cons.mpr ⟨((fun z => by cases z)), List.forall_mem_cons.mpr ⟨(fun _ => v_X12_isBridged (by decide) (by decide) (by decide +kernel)), List.forall_mem_cons.mpr ⟨(fun _ => v_X12_bridgedOnes (by decide) (by decide) (by decide +kernel)), List.forall_mem_cons.mpr ⟨(fun _ => v_X12_endOf (by decide) (by decide) (by decide +kernel)), List.forall_mem_cons.mpr ⟨(fun _ => v_X12_isReady (by decide) (by decide) (by decide +kernel)), fun _ h => absurd h List.not_mem_nil⟩⟩⟩⟩⟩) true i k' h rfl
  · exact fun i k' h => pz_ctk (l := ct_X12_lacksOf) (P := fun b i k => b = false → (pz_cS 2 44 RX12 i k ∨ (k = pz_kac ∧ 1 ≤ 2 ∧ 60 ≤ 44 ∧ Cond.methodLink RX12 i arraycopyName ∈ pz_tbl))) (List.forall_mem_cons.mpr ⟨(fun _ => Or.inl (s_X12_greater (by decide) (by decide) (Or.inl (by decide +kernel)))), List.forall_mem_cons.mpr ⟨((fun z => by cases z)), List.forall_mem_cons.mpr ⟨((fun z => by cases z)), List.forall_mem_cons.mpr ⟨((fun z => by cases z)), List.forall_mem_cons.mpr ⟨((fun z => by cases z)), fun _ h => absurd h List.not_mem_nil⟩⟩⟩⟩⟩) false i k' h rfl
  · intro a M hlen hpre
    obtain ⟨th, i, rfl, hpre⟩ : ∃ th i, a = [.inr (.inr (12, th)), .inl i] ∧ (pz_im M ∧ 0 ≤ i ∧ i < 12) := by
      have hpre : (match (generalizing := false) a with | [.inr (.inr (12, th)), .inl i] => pz_im M ∧ 0 ≤ i ∧ i < 12 | _ => False) := hpre
      split at hpre
      · exact ⟨_, _, rfl, hpre⟩
      · exact hpre.elim
    exact Nat.le_of_ble_eq_true rfl
  · intro a M hlen hcan hM hpre Ok hgo
    obtain ⟨th, i, rfl, hpre⟩ : ∃ th i, a = [.inr (.inr (12, th)), .inl i] ∧ (pz_im M ∧ 0 ≤ i ∧ i < 12) := by
      have hpre : (match (generalizing := false) a with | [.inr (.inr (12, th)), .inl i] => pz_im M ∧ 0 ≤ i ∧ i < 12 | _ => False) := hpre
      split at hpre
      · exact ⟨_, _, rfl, hpre⟩
      · exact hpre.elim
    obtain ⟨k_th, hc_th⟩ := pz_tlm hcan
    have k_th : pz_kd th = 12 ∧ th < 231 := k_th
    have R_th := pz_kd12 k_th.1
    subst R_th
    obtain ⟨k_i, hc_i⟩ := pz_tlm hc_th
    have l_i : -2147483648 ≤ i := k_i.1
    have u_i : i ≤ 2147483647 := k_i.2
    have hI : pz_im M := hpre.1
    have L66 : ∀ (fu : Nat) (x2 : Int) (x3 : Int) (x4 : Int) (x5 : Int), (12 - x5).toNat < fu → (0 ≤ x5) → (x3 < 12) → Ok 66 [some (.inr (.inr (12, 1))), some (.inl i), some (.inl x2), some (.inl x3), some (.inl x4), some (.inl x5)] [] M := by
      intro fu
      induction fu with
      | zero => exact fun _ _ _ _ hn => absurd hn (Nat.not_lt_zero _)
      | succ fu ih66 =>
        intro x2 x3 x4 x5 hn66 g66_0 g66_1
        refine hgo (fun p => Nat.beq p 8 || Nat.beq p 26 || Nat.beq p 59 || Nat.beq p 66) 55 66 _ _ _ ?_
        refine And.intro (fun h69 => ?_) (fun h69 => ?_)
        · skip
          refine And.intro rfl ?_
          exact ⟨trivial, rfl⟩
        · skip
          refine And.intro (And.intro hI (And.intro (by omega) (by omega))) ?_
          intro v77 M77 a77 b77 q77
          obtain ⟨q77, z77⟩ := q77
          subst z77
          refine And.intro (fun h80 => ?_) (fun h80 => ?_)
          · skip
            intro v88 e88 a88 b88
            try rw [pz_wi (by omega) (by omega)] at e88
            intro v91 e91 a91 b91
            try rw [pz_wi (by omega) (by omega)] at e91
            exact ih66 _ _ _ _ (by omega) (by omega) (by omega)
          · skip
            intro v88 e88 a88 b88
            try rw [pz_wi (by omega) (by omega)] at e88
            intro v91 e91 a91 b91
            try rw [pz_wi (by omega) (by omega)] at e91
            exact ih66 _ _ _ _ (by omega) (by omega) (by omega)
    have L59 : ∀ (x2 : Int) (d3 : Option pz_V) (d4 : Option pz_V) (d5 : Option pz_V) (s0 : Int), (0 ≤ x2) → (s0 < 12) → Ok 59 [some (.inr (.inr (12, 1))), some (.inl i), some (.inl x2), d3, d4, d5] [.inl s0] M := by
      intro x2 d3 d4 d5 s0 g59_0 g59_1
      refine hgo (fun p => Nat.beq p 8 || Nat.beq p 26 || Nat.beq p 59 || Nat.beq p 66) 55 59 _ _ _ ?_
      exact L66 _ _ _ _ _ (Nat.lt_succ_self _) (by omega) (by omega)
    have L8 : ∀ (fu : Nat) (x2 : Int) (d3 : Option pz_V) (d4 : Option pz_V) (d5 : Option pz_V), x2.toNat < fu → (0 ≤ x2) → (x2 < 12) → Ok 8 [some (.inr (.inr (12, 1))), some (.inl i), some (.inl x2), d3, d4, d5] [] M := by
      intro fu
      induction fu with
      | zero => exact fun _ _ _ _ hn => absurd hn (Nat.not_lt_zero _)
      | succ fu ih8 =>
        intro x2 d3 d4 d5 hn8 g8_0 g8_1
        have L26 : ∀ (x2 : Int) (d3 : Option pz_V) (d4 : Option pz_V) (d5 : Option pz_V), (0 ≤ x2) → (x2 < 12) → Ok 26 [some (.inr (.inr (12, 1))), some (.inl i), some (.inl x2), d3, d4, d5] [] M := by
          intro x2 d3 d4 d5 g26_0 g26_1
          refine hgo (fun p => Nat.beq p 8 || Nat.beq p 26 || Nat.beq p 59 || Nat.beq p 66) 55 26 _ _ _ ?_
          refine And.intro (And.intro hI (And.intro (by omega) (by omega))) ?_
          intro v28 M28 a28 b28 q28
          obtain ⟨q28, z28⟩ := q28
          subst z28
          refine And.intro (fun h31 => ?_) (fun h31 => ?_)
          · skip
            refine And.intro (hI) ?_
            intro v41 M41 a41 b41 q41
            obtain ⟨q41, z41⟩ := q41
            subst z41
            refine And.intro (And.intro hI (And.intro (by omega) (by omega))) ?_
            intro v44 M44 a44 b44 q44
            obtain ⟨q44, z44⟩ := q44
            subst z44
            exact L59 _ _ _ _ _ (by omega) (by omega)
          · skip
            refine And.intro (fun h35 => ?_) (fun h35 => ?_)
            · skip
              refine And.intro (hI) ?_
              intro v53 M53 a53 b53 q53
              obtain ⟨q53, z53⟩ := q53
              subst z53
              refine And.intro (And.intro hI (And.intro (by omega) (by omega))) ?_
              intro v56 M56 a56 b56 q56
              obtain ⟨q56, z56⟩ := q56
              subst z56
              exact L59 _ _ _ _ _ (by omega) (by omega)
            · skip
              refine And.intro (hI) ?_
              intro v41 M41 a41 b41 q41
              obtain ⟨q41, z41⟩ := q41
              subst z41
              refine And.intro (And.intro hI (And.intro (by omega) (by omega))) ?_
              intro v44 M44 a44 b44 q44
              obtain ⟨q44, z44⟩ := q44
              subst z44
              exact L59 _ _ _ _ _ (by omega) (by omega)
        refine hgo (fun p => Nat.beq p 8 || Nat.beq p 26 || Nat.beq p 59 || Nat.beq p 66) 55 8 _ _ _ ?_
        refine And.intro (fun h9 => ?_) (fun h9 => ?_)
        · skip
          exact L26 _ _ _ _ (by omega) (by omega)
        · skip
          refine And.intro (And.intro hI (And.intro (by omega) (by omega))) ?_
          intro v14 M14 a14 b14 q14
          obtain ⟨q14, z14⟩ := q14
          subst z14
          refine And.intro (fun h17 => ?_) (fun h17 => ?_)
          · skip
            exact L26 _ _ _ _ (by omega) (by omega)
          · skip
            intro v20 e20 a20 b20
            try rw [pz_wi (by omega) (by omega)] at e20
            exact ih8 _ _ _ _ (by omega) (by omega) (by omega)
    refine hgo (fun p => Nat.beq p 8 || Nat.beq p 26 || Nat.beq p 59 || Nat.beq p 66) 55 0 _ [] M ?_
    intro v3 e3 a3 b3
    try rw [pz_wi (by omega) (by omega)] at e3
    refine And.intro (True.intro) ?_
    intro v4 M4 a4 b4 q4
    obtain ⟨q4, z4⟩ := q4
    subst z4
    exact L8 _ _ _ _ _ (Nat.lt_succ_self _) (by omega) (by omega)
theorem v_X12_lacksOf {fr lo i : Nat} {own : String} (h1 : 2 + 1 ≤ fr) (h2 : 8 + (6 + 11) + 44 ≤ lo) (h3 : .methodLink own i yX12_lacksOf ∈ lw_tbl) : pz_cV fr lo own i k_X12_lacksOf :=
  pz_cVk (maxL := 6) (fr' := 2) (lo' := 44) 1 12 h_X12_lacksOf rfl ⟨by decide +kernel, by decide +kernel, by decide +kernel⟩ ⟨by decide +kernel, by decide +kernel, by decide +kernel, by decide +kernel⟩ (Or.inl ⟨TX12, 28, rfl⟩) (fun a M _ h => by
    have h : (match (generalizing := false) a with | [.inr (.inr (12, th)), .inl i] => pz_im M ∧ 0 ≤ i ∧ i < 12 | _ => False) := h
    split at h
    · exact ⟨_, _, rfl⟩
    · exact h.elim) h1 h2 h3
def k_X12_says : pz_C := (5, 1, fun a M => (match a with | [.inr (.inr (12, th)), .inl k, .inl i, .inl x, .inl y] => pz_im M ∧ 0 ≤ i ∧ i < 12 | _ => False), fun a M r M' => (match a, r with | [.inr (.inr (12, th)), .inl k, .inl i, .inl x, .inl y], some (.inl v) => (True) ∧ pz_sm M M' | _, _ => False))
abbrev ct_X12_says : List (Bool × Nat × pz_C) := [(true, 300, k_X12_lacksOf), (true, 303, k_X12_isSo), (true, 285, k_X12_comesTo), (false, 306, k_X12_held)]
set_option maxRecDepth 100000 in
set_option maxHeartbeats 4000000 in
theorem h_X12_says : pz_H yX12_says cX12_says 6 (some .int) k_X12_says 3 70 := by
  refine pz_mk (own := RX12) (tb := t_X12_says) (fl := pz_flf fl_RX12) (ci := pz_cif ci_RX12) (ct := pz_ctf ct_X12_says) (rz := false) (by decide +kernel) rfl t_X12_says_ok (pz_flk fl_RX12_ok) (pz_cik ci_RX12_ok) ?_ ?_ (Or.inl ⟨rfl, rfl⟩) ?_ ?_
  · exact fun i k' h => pz_ctk (l := ct_X12_says) (P := fun b i k => b = true → pz_cV 3 70 RX12 i k) (List.forall_mem_cons.mpr ⟨(fun _ => v_X12_lacksOf (by decide) (by decide) (by decide +kernel)), List.forall_mem_cons.mpr ⟨(fun _ => v_X12_isSo (by decide) (by decide) (by decide +kernel)), List.forall_mem_cons.mpr ⟨(fun _ => v_X12_comesTo (by decide) (by decide) (by decide +kernel)), List.forall_mem_cons.mpr ⟨((fun z => by cases z)), fun _ h => absurd h List.not_mem_nil⟩⟩⟩⟩) true i k' h rfl
  · exact fun i k' h => pz_ctk (l := ct_X12_says) (P := fun b i k => b = false → (pz_cS 3 70 RX12 i k ∨ (k = pz_kac ∧ 1 ≤ 3 ∧ 60 ≤ 70 ∧ Cond.methodLink RX12 i arraycopyName ∈ pz_tbl))) (List.forall_mem_cons.mpr ⟨((fun z => by cases z)), List.forall_mem_cons.mpr ⟨((fun z => by cases z)), List.forall_mem_cons.mpr ⟨((fun z => by cases z)), List.forall_mem_cons.mpr ⟨(fun _ => Or.inl (s_X12_held (by decide) (by decide) (Or.inl (by decide +kernel)))), fun _ h => absurd h List.not_mem_nil⟩⟩⟩⟩) false i k' h rfl
  · intro a M hlen hpre
    obtain ⟨th, k, i, x, y, rfl, hpre⟩ : ∃ th k i x y, a = [.inr (.inr (12, th)), .inl k, .inl i, .inl x, .inl y] ∧ (pz_im M ∧ 0 ≤ i ∧ i < 12) := by
      have hpre : (match (generalizing := false) a with | [.inr (.inr (12, th)), .inl k, .inl i, .inl x, .inl y] => pz_im M ∧ 0 ≤ i ∧ i < 12 | _ => False) := hpre
      split at hpre
      · exact ⟨_, _, _, _, _, rfl, hpre⟩
      · exact hpre.elim
    exact Nat.le_of_ble_eq_true rfl
  · intro a M hlen hcan hM hpre Ok hgo
    obtain ⟨th, k, i, x, y, rfl, hpre⟩ : ∃ th k i x y, a = [.inr (.inr (12, th)), .inl k, .inl i, .inl x, .inl y] ∧ (pz_im M ∧ 0 ≤ i ∧ i < 12) := by
      have hpre : (match (generalizing := false) a with | [.inr (.inr (12, th)), .inl k, .inl i, .inl x, .inl y] => pz_im M ∧ 0 ≤ i ∧ i < 12 | _ => False) := hpre
      split at hpre
      · exact ⟨_, _, _, _, _, rfl, hpre⟩
      · exact hpre.elim
    obtain ⟨k_th, hc_th⟩ := pz_tlm hcan
    have k_th : pz_kd th = 12 ∧ th < 231 := k_th
    have R_th := pz_kd12 k_th.1
    subst R_th
    obtain ⟨k_k, hc_k⟩ := pz_tlm hc_th
    have l_k : -2147483648 ≤ k := k_k.1
    have u_k : k ≤ 2147483647 := k_k.2
    obtain ⟨k_i, hc_i⟩ := pz_tlm hc_k
    have l_i : -2147483648 ≤ i := k_i.1
    have u_i : i ≤ 2147483647 := k_i.2
    obtain ⟨k_x, hc_x⟩ := pz_tlm hc_i
    have l_x : -2147483648 ≤ x := k_x.1
    have u_x : x ≤ 2147483647 := k_x.2
    obtain ⟨k_y, hc_y⟩ := pz_tlm hc_x
    have l_y : -2147483648 ≤ y := k_y.1
    have u_y : y ≤ 2147483647 := k_y.2
    have hI : pz_im M := hpre.1
    have hI0 := hI
    have hS : pz_sm M M := pz_sm.rf
    have L124 : ∀ (fu : Nat) (x5 : Int) (N124 : pz_M), (16 - x5).toNat < fu → (pz_sm M N124) → (0 ≤ x5) → (x5 ≤ 16) → Ok 124 [some (.inr (.inr (12, 1))), some (.inl k), some (.inl i), some (.inl x), some (.inl y), some (.inl x5)] [] N124 := by
      intro fu
      induction fu with
      | zero => exact fun _ _ hn => absurd hn (Nat.not_lt_zero _)
      | succ fu ih124 =>
        intro x5 N124 hn124 hS g124_1 g124_2
        have hI : pz_im N124 := hS.1.1.1 hI0
        have L194 : ∀ (x5 : Int) (N194 : pz_M), (pz_sm M N194) → (0 ≤ x5) → (x5 < 16) → ((16 - x5).toNat < fu + 1) → Ok 194 [some (.inr (.inr (12, 1))), some (.inl k), some (.inl i), some (.inl x), some (.inl y), some (.inl x5)] [] N194 := by
          intro x5 N194 hS g194_1 g194_2 g194_3
          have hI : pz_im N194 := hS.1.1.1 hI0
          refine hgo (fun p => Nat.beq p 124 || Nat.beq p 194) 126 194 _ _ _ ?_
          intro v194 e194 a194 b194
          try rw [pz_wi (by omega) (by omega)] at e194
          exact ih124 _ _ (by omega) hS (by omega) (by omega)
        refine hgo (fun p => Nat.beq p 124 || Nat.beq p 194) 126 124 _ _ _ ?_
        intro r127 e127 k127
        have e127 : r127 = 60 := e127
        subst e127
        refine And.intro (by omega) (And.intro (show _ < (1725 : Int) from by omega) ?_)
        intro v132 e132 a132 b132
        have e132 : v132 = N124 60 89 := e132
        have I132 := hI.1.2.1
        refine And.intro (fun h133 => ?_) (fun h133 => ?_)
        · skip
          refine And.intro (True.intro) ?_
          intro v204 M204 a204 b204 q204
          obtain ⟨q204, z204⟩ := q204
          subst z204
          refine And.intro rfl ?_
          exact ⟨trivial, hS⟩
        · skip
          intro r137 e137 k137
          have e137 : r137 = 60 := e137
          subst e137
          intro v145 e145 a145 b145
          try rw [pz_wi (by omega) (by omega)] at e145
          refine And.intro (by omega) (And.intro (show _ < (1725 : Int) from by omega) ?_)
          intro v146 e146 a146 b146
          refine And.intro (fun h148 => ?_) (fun h148 => ?_)
          · skip
            exact L194 _ _ hS (by omega) (by omega) (by omega)
          · skip
            refine And.intro (And.intro hI (And.intro (by omega) (by omega))) ?_
            intro v154 M154 a154 b154 q154
            obtain ⟨q154, z154⟩ := q154
            have hS : pz_sm M M154 := hS.tr (pz_rl.sm (by intro b j q; unfold pz_Q3 at q; unfold pz_mid; omega) z154)
            have hI : pz_im M154 := hS.1.1.1 hI0
            refine And.intro (fun h157 => ?_) (fun h157 => ?_)
            · skip
              exact L194 _ _ hS (by omega) (by omega) (by omega)
            · skip
              intro r163 e163 k163
              have e163 : r163 = 60 := e163
              subst e163
              intro v171 e171 a171 b171
              try rw [pz_wi (by omega) (by omega)] at e171
              refine And.intro (by omega) (And.intro (show _ < (1725 : Int) from by omega) ?_)
              intro v172 e172 a172 b172
              rw [e171] at e172
              intro r174 e174 k174
              have e174 : r174 = 60 := e174
              subst e174
              intro v182 e182 a182 b182
              try rw [pz_wi (by omega) (by omega)] at e182
              refine And.intro (by omega) (And.intro (show _ < (1725 : Int) from by omega) ?_)
              intro v183 e183 a183 b183
              rw [e182] at e183
              refine And.intro (by
                obtain ⟨w1, w2, w3, w4⟩ := hI.2.2.1 x5 (by omega) (by omega)
                refine ⟨hI, rfl, ?_, ?_, ?_⟩
                · rw [e172]; exact w1
                · rw [e183]; rcases w4 with w4 | w4
                  · omega
                  · have := w4.1; omega
                · rw [e172, e183]; exact w3) ?_
              intro v184 M184 a184 b184 q184
              obtain ⟨q184, z184⟩ := q184
              have hS : pz_sm M M184 := hS.tr (pz_rl.sm (by intro b j q; unfold pz_Q3 at q; unfold pz_mid; omega) z184)
              have hI : pz_im M184 := hS.1.1.1 hI0
              refine And.intro (True.intro) ?_
              intro v190 M190 a190 b190 q190
              obtain ⟨q190, z190⟩ := q190
              subst z190
              refine And.intro rfl ?_
              exact ⟨trivial, hS⟩
    refine hgo (fun p => Nat.beq p 124 || Nat.beq p 194) 126 0 _ [] M ?_
    intro r1 e1 k1
    have e1 : r1 = 69 := e1
    subst e1
    refine And.intro (by omega) (And.intro (show _ < (10 : Int) from by omega) ?_)
    intro M6 e6
    have hS : pz_sm M M6 := by
      rw [e6]
      exact pz_sm_u hS (by unfold pz_mid; omega) (by omega) (by omega) (by unfold pz_iom; omega)
    have hI : pz_im M6 := hS.1.1.1 hI0
    intro r8 e8 k8
    have e8 : r8 = 69 := e8
    subst e8
    intro r13 e13 k13
    have e13 : r13 = 60 := e13
    subst e13
    intro v18 e18 a18 b18
    try rw [pz_wi (by omega) (by omega)] at e18
    refine And.intro (by omega) (And.intro (show _ < (1725 : Int) from by omega) ?_)
    intro v19 e19 a19 b19
    refine And.intro (by omega) (And.intro (show _ < (10 : Int) from by omega) ?_)
    intro M20 e20
    have hS : pz_sm M M20 := by
      rw [e20]
      exact pz_sm_u hS (by unfold pz_mid; omega) (by omega) (by omega) (by unfold pz_iom; omega)
    have hI : pz_im M20 := hS.1.1.1 hI0
    intro r22 e22 k22
    have e22 : r22 = 69 := e22
    subst e22
    intro r27 e27 k27
    have e27 : r27 = 60 := e27
    subst e27
    intro v33 e33 a33 b33
    try rw [pz_wi (by omega) (by omega)] at e33
    refine And.intro (by omega) (And.intro (show _ < (1725 : Int) from by omega) ?_)
    intro v34 e34 a34 b34
    refine And.intro (by omega) (And.intro (show _ < (10 : Int) from by omega) ?_)
    intro M35 e35
    have hS : pz_sm M M35 := by
      rw [e35]
      exact pz_sm_u hS (by unfold pz_mid; omega) (by omega) (by omega) (by unfold pz_iom; omega)
    have hI : pz_im M35 := hS.1.1.1 hI0
    intro r37 e37 k37
    have e37 : r37 = 69 := e37
    subst e37
    intro r42 e42 k42
    have e42 : r42 = 60 := e42
    subst e42
    intro v48 e48 a48 b48
    try rw [pz_wi (by omega) (by omega)] at e48
    refine And.intro (by omega) (And.intro (show _ < (1725 : Int) from by omega) ?_)
    intro v49 e49 a49 b49
    refine And.intro (by omega) (And.intro (show _ < (10 : Int) from by omega) ?_)
    intro M50 e50
    have hS : pz_sm M M50 := by
      rw [e50]
      exact pz_sm_u hS (by unfold pz_mid; omega) (by omega) (by omega) (by unfold pz_iom; omega)
    have hI : pz_im M50 := hS.1.1.1 hI0
    intro r52 e52 k52
    have e52 : r52 = 69 := e52
    subst e52
    intro r57 e57 k57
    have e57 : r57 = 60 := e57
    subst e57
    intro v63 e63 a63 b63
    try rw [pz_wi (by omega) (by omega)] at e63
    refine And.intro (by omega) (And.intro (show _ < (1725 : Int) from by omega) ?_)
    intro v64 e64 a64 b64
    refine And.intro (by omega) (And.intro (show _ < (10 : Int) from by omega) ?_)
    intro M65 e65
    have hS : pz_sm M M65 := by
      rw [e65]
      exact pz_sm_u hS (by unfold pz_mid; omega) (by omega) (by omega) (by unfold pz_iom; omega)
    have hI : pz_im M65 := hS.1.1.1 hI0
    intro r67 e67 k67
    have e67 : r67 = 69 := e67
    subst e67
    intro r73 e73 k73
    have e73 : r73 = 60 := e73
    subst e73
    refine And.intro (by omega) (And.intro (show _ < (1725 : Int) from by omega) ?_)
    intro v77 e77 a77 b77
    have e77 : v77 = M65 60 0 := e77
    refine And.intro (by omega) (And.intro (show _ < (10 : Int) from by omega) ?_)
    intro M78 e78
    have hS : pz_sm M M78 := by
      rw [e78]
      exact pz_sm_u hS (by unfold pz_mid; omega) (by omega) (by omega) (by unfold pz_iom; omega)
    have hI : pz_im M78 := hS.1.1.1 hI0
    intro r80 e80 k80
    have e80 : r80 = 69 := e80
    subst e80
    intro r86 e86 k86
    have e86 : r86 = 60 := e86
    subst e86
    refine And.intro (by omega) (And.intro (show _ < (1725 : Int) from by omega) ?_)
    intro v91 e91 a91 b91
    have e91 : v91 = M78 60 88 := e91
    have I91 := hI.1.1
    refine And.intro (by omega) (And.intro (show _ < (10 : Int) from by omega) ?_)
    intro M92 e92
    have hS : pz_sm M M92 := by
      rw [e92]
      exact pz_sm_u hS (by unfold pz_mid; omega) (by omega) (by omega) (by unfold pz_iom; omega)
    have hI : pz_im M92 := hS.1.1.1 hI0
    intro r94 e94 k94
    have e94 : r94 = 69 := e94
    subst e94
    intro r100 e100 k100
    have e100 : r100 = 60 := e100
    subst e100
    intro v106 e106 a106 b106
    try rw [pz_wi (by omega) (by omega)] at e106
    refine And.intro (by omega) (And.intro (show _ < (1725 : Int) from by omega) ?_)
    intro v107 e107 a107 b107
    refine And.intro (by omega) (And.intro (show _ < (10 : Int) from by omega) ?_)
    intro M108 e108
    have hS : pz_sm M M108 := by
      rw [e108]
      exact pz_sm_u hS (by unfold pz_mid; omega) (by omega) (by omega) (by unfold pz_iom; omega)
    have hI : pz_im M108 := hS.1.1.1 hI0
    intro r110 e110 k110
    have e110 : r110 = 69 := e110
    subst e110
    refine And.intro (And.intro hI (And.intro (by omega) (by omega))) ?_
    intro v117 M117 a117 b117 q117
    obtain ⟨q117, z117⟩ := q117
    subst z117
    refine And.intro (by omega) (And.intro (show _ < (10 : Int) from by omega) ?_)
    intro M120 e120
    have hS : pz_sm M M120 := by
      rw [e120]
      exact pz_sm_u hS (by unfold pz_mid; omega) (by omega) (by omega) (by unfold pz_iom; omega)
    have hI : pz_im M120 := hS.1.1.1 hI0
    exact L124 _ _ _ (Nat.lt_succ_self _) hS (by omega) (by omega)
theorem v_X12_says {fr lo i : Nat} {own : String} (h1 : 3 + 1 ≤ fr) (h2 : 8 + (6 + 11) + 70 ≤ lo) (h3 : .methodLink own i yX12_says ∈ lw_tbl) : pz_cV fr lo own i k_X12_says :=
  pz_cVk (maxL := 6) (fr' := 3) (lo' := 70) 4 12 h_X12_says rfl ⟨by decide +kernel, by decide +kernel, by decide +kernel⟩ ⟨by decide +kernel, by decide +kernel, by decide +kernel, by decide +kernel⟩ (Or.inl ⟨TX12, 28, rfl⟩) (fun a M _ h => by
    have h : (match (generalizing := false) a with | [.inr (.inr (12, th)), .inl k, .inl i, .inl x, .inl y] => pz_im M ∧ 0 ≤ i ∧ i < 12 | _ => False) := h
    split at h
    · exact ⟨_, _, rfl⟩
    · exact h.elim) h1 h2 h3
def k_X12_readyOf : pz_C := (2, 1, fun a M => (match a with | [.inr (.inr (12, th)), .inl i] => pz_im M ∧ 0 ≤ i ∧ i < 12 | _ => False), fun a M r M' => (match a, r with | [.inr (.inr (12, th)), .inl i], some (.inl v) => (True) ∧ pz_sm M M' | _, _ => False))
abbrev ct_X12_readyOf : List (Bool × Nat × pz_C) := [(true, 309, k_X12_says)]
set_option maxRecDepth 100000 in
set_option maxHeartbeats 4000000 in
theorem h_X12_readyOf : pz_H yX12_readyOf cX12_readyOf 2 (some .int) k_X12_readyOf 4 95 := by
  refine pz_mk (own := RX12) (tb := t_X12_readyOf) (fl := pz_flf fl_RX12) (ci := pz_cif ci_RX12) (ct := pz_ctf ct_X12_readyOf) (rz := false) (by decide +kernel) rfl t_X12_readyOf_ok (pz_flk fl_RX12_ok) (pz_cik ci_RX12_ok) ?_ ?_ (Or.inl ⟨rfl, rfl⟩) ?_ ?_
  · exact fun i k' h => pz_ctk (l := ct_X12_readyOf) (P := fun b i k => b = true → pz_cV 4 95 RX12 i k) (List.forall_mem_cons.mpr ⟨(fun _ => v_X12_says (by decide) (by decide) (by decide +kernel)), fun _ h => absurd h List.not_mem_nil⟩) true i k' h rfl
  · exact fun i k' h => pz_ctk (l := ct_X12_readyOf) (P := fun b i k => b = false → (pz_cS 4 95 RX12 i k ∨ (k = pz_kac ∧ 1 ≤ 4 ∧ 60 ≤ 95 ∧ Cond.methodLink RX12 i arraycopyName ∈ pz_tbl))) (List.forall_mem_cons.mpr ⟨((fun z => by cases z)), fun _ h => absurd h List.not_mem_nil⟩) false i k' h rfl
  · intro a M hlen hpre
    obtain ⟨th, i, rfl, hpre⟩ : ∃ th i, a = [.inr (.inr (12, th)), .inl i] ∧ (pz_im M ∧ 0 ≤ i ∧ i < 12) := by
      have hpre : (match (generalizing := false) a with | [.inr (.inr (12, th)), .inl i] => pz_im M ∧ 0 ≤ i ∧ i < 12 | _ => False) := hpre
      split at hpre
      · exact ⟨_, _, rfl, hpre⟩
      · exact hpre.elim
    exact Nat.le_of_ble_eq_true rfl
  · intro a M hlen hcan hM hpre Ok hgo
    obtain ⟨th, i, rfl, hpre⟩ : ∃ th i, a = [.inr (.inr (12, th)), .inl i] ∧ (pz_im M ∧ 0 ≤ i ∧ i < 12) := by
      have hpre : (match (generalizing := false) a with | [.inr (.inr (12, th)), .inl i] => pz_im M ∧ 0 ≤ i ∧ i < 12 | _ => False) := hpre
      split at hpre
      · exact ⟨_, _, rfl, hpre⟩
      · exact hpre.elim
    obtain ⟨k_th, hc_th⟩ := pz_tlm hcan
    have k_th : pz_kd th = 12 ∧ th < 231 := k_th
    have R_th := pz_kd12 k_th.1
    subst R_th
    obtain ⟨k_i, hc_i⟩ := pz_tlm hc_th
    have l_i : -2147483648 ≤ i := k_i.1
    have u_i : i ≤ 2147483647 := k_i.2
    have hI : pz_im M := hpre.1
    have hI0 := hI
    have hS : pz_sm M M := pz_sm.rf
    refine hgo (fun _ => false) 18 0 _ [] M ?_
    intro r10 e10 k10
    have e10 : r10 = 60 := e10
    subst e10
    intro v16 e16 a16 b16
    try rw [pz_wi (by omega) (by omega)] at e16
    refine And.intro (by omega) (And.intro (show _ < (1725 : Int) from by omega) ?_)
    intro v17 e17 a17 b17
    intro v18 e18 a18 b18
    try rw [pz_wi (by omega) (by omega)] at e18
    intro v19 e19 a19 b19
    try rw [pz_wi (by omega) (by omega)] at e19
    refine And.intro (And.intro hI (And.intro (by omega) (by omega))) ?_
    intro v23 M23 a23 b23 q23
    obtain ⟨q23, z23⟩ := q23
    have hS : pz_sm M M23 := hS.tr z23
    have hI : pz_im M23 := hS.1.1.1 hI0
    refine And.intro rfl ?_
    exact ⟨trivial, hS⟩
theorem v_X12_readyOf {fr lo i : Nat} {own : String} (h1 : 4 + 1 ≤ fr) (h2 : 8 + (2 + 11) + 95 ≤ lo) (h3 : .methodLink own i yX12_readyOf ∈ lw_tbl) : pz_cV fr lo own i k_X12_readyOf :=
  pz_cVk (maxL := 2) (fr' := 4) (lo' := 95) 1 12 h_X12_readyOf rfl ⟨by decide +kernel, by decide +kernel, by decide +kernel⟩ ⟨by decide +kernel, by decide +kernel, by decide +kernel, by decide +kernel⟩ (Or.inl ⟨TX12, 28, rfl⟩) (fun a M _ h => by
    have h : (match (generalizing := false) a with | [.inr (.inr (12, th)), .inl i] => pz_im M ∧ 0 ≤ i ∧ i < 12 | _ => False) := h
    split at h
    · exact ⟨_, _, rfl⟩
    · exact h.elim) h1 h2 h3
def k_X12_leaveOf : pz_C := (2, 1, fun a M => (match a with | [.inr (.inr (12, th)), .inl i] => pz_im M ∧ 0 ≤ i ∧ i < 12 | _ => False), fun a M r M' => (match a, r with | [.inr (.inr (12, th)), .inl i], some (.inl v) => (True) ∧ pz_sm M M' | _, _ => False))
abbrev ct_X12_leaveOf : List (Bool × Nat × pz_C) := [(true, 309, k_X12_says)]
set_option maxRecDepth 100000 in
set_option maxHeartbeats 4000000 in
theorem h_X12_leaveOf : pz_H yX12_leaveOf cX12_leaveOf 2 (some .int) k_X12_leaveOf 4 95 := by
  refine pz_mk (own := RX12) (tb := t_X12_leaveOf) (fl := pz_flf fl_RX12) (ci := pz_cif ci_RX12) (ct := pz_ctf ct_X12_leaveOf) (rz := false) (by decide +kernel) rfl t_X12_leaveOf_ok (pz_flk fl_RX12_ok) (pz_cik ci_RX12_ok) ?_ ?_ (Or.inl ⟨rfl, rfl⟩) ?_ ?_
  · exact fun i k' h => pz_ctk (l := ct_X12_leaveOf) (P := fun b i k => b = true → pz_cV 4 95 RX12 i k) (List.forall_mem_cons.mpr ⟨(fun _ => v_X12_says (by decide) (by decide) (by decide +kernel)), fun _ h => absurd h List.not_mem_nil⟩) true i k' h rfl
  · exact fun i k' h => pz_ctk (l := ct_X12_leaveOf) (P := fun b i k => b = false → (pz_cS 4 95 RX12 i k ∨ (k = pz_kac ∧ 1 ≤ 4 ∧ 60 ≤ 95 ∧ Cond.methodLink RX12 i arraycopyName ∈ pz_tbl))) (List.forall_mem_cons.mpr ⟨((fun z => by cases z)), fun _ h => absurd h List.not_mem_nil⟩) false i k' h rfl
  · intro a M hlen hpre
    obtain ⟨th, i, rfl, hpre⟩ : ∃ th i, a = [.inr (.inr (12, th)), .inl i] ∧ (pz_im M ∧ 0 ≤ i ∧ i < 12) := by
      have hpre : (match (generalizing := false) a with | [.inr (.inr (12, th)), .inl i] => pz_im M ∧ 0 ≤ i ∧ i < 12 | _ => False) := hpre
      split at hpre
      · exact ⟨_, _, rfl, hpre⟩
      · exact hpre.elim
    exact Nat.le_of_ble_eq_true rfl
  · intro a M hlen hcan hM hpre Ok hgo
    obtain ⟨th, i, rfl, hpre⟩ : ∃ th i, a = [.inr (.inr (12, th)), .inl i] ∧ (pz_im M ∧ 0 ≤ i ∧ i < 12) := by
      have hpre : (match (generalizing := false) a with | [.inr (.inr (12, th)), .inl i] => pz_im M ∧ 0 ≤ i ∧ i < 12 | _ => False) := hpre
      split at hpre
      · exact ⟨_, _, rfl, hpre⟩
      · exact hpre.elim
    obtain ⟨k_th, hc_th⟩ := pz_tlm hcan
    have k_th : pz_kd th = 12 ∧ th < 231 := k_th
    have R_th := pz_kd12 k_th.1
    subst R_th
    obtain ⟨k_i, hc_i⟩ := pz_tlm hc_th
    have l_i : -2147483648 ≤ i := k_i.1
    have u_i : i ≤ 2147483647 := k_i.2
    have hI : pz_im M := hpre.1
    have hI0 := hI
    have hS : pz_sm M M := pz_sm.rf
    refine hgo (fun _ => false) 9 0 _ [] M ?_
    refine And.intro (And.intro hI (And.intro (by omega) (by omega))) ?_
    intro v8 M8 a8 b8 q8
    obtain ⟨q8, z8⟩ := q8
    have hS : pz_sm M M8 := hS.tr z8
    have hI : pz_im M8 := hS.1.1.1 hI0
    refine And.intro rfl ?_
    exact ⟨trivial, hS⟩
theorem v_X12_leaveOf {fr lo i : Nat} {own : String} (h1 : 4 + 1 ≤ fr) (h2 : 8 + (2 + 11) + 95 ≤ lo) (h3 : .methodLink own i yX12_leaveOf ∈ lw_tbl) : pz_cV fr lo own i k_X12_leaveOf :=
  pz_cVk (maxL := 2) (fr' := 4) (lo' := 95) 1 12 h_X12_leaveOf rfl ⟨by decide +kernel, by decide +kernel, by decide +kernel⟩ ⟨by decide +kernel, by decide +kernel, by decide +kernel, by decide +kernel⟩ (Or.inl ⟨TX12, 28, rfl⟩) (fun a M _ h => by
    have h : (match (generalizing := false) a with | [.inr (.inr (12, th)), .inl i] => pz_im M ∧ 0 ≤ i ∧ i < 12 | _ => False) := h
    split at h
    · exact ⟨_, _, rfl⟩
    · exact h.elim) h1 h2 h3
def k_X12_giveOf : pz_C := (2, 1, fun a M => (match a with | [.inr (.inr (12, th)), .inl i] => pz_im M ∧ 0 ≤ i ∧ i < 12 | _ => False), fun a M r M' => (match a, r with | [.inr (.inr (12, th)), .inl i], some (.inl v) => (True) ∧ pz_sm M M' | _, _ => False))
abbrev ct_X12_giveOf : List (Bool × Nat × pz_C) := [(true, 309, k_X12_says)]
set_option maxRecDepth 100000 in
set_option maxHeartbeats 4000000 in
theorem h_X12_giveOf : pz_H yX12_giveOf cX12_giveOf 2 (some .int) k_X12_giveOf 4 95 := by
  refine pz_mk (own := RX12) (tb := t_X12_giveOf) (fl := pz_flf fl_RX12) (ci := pz_cif ci_RX12) (ct := pz_ctf ct_X12_giveOf) (rz := false) (by decide +kernel) rfl t_X12_giveOf_ok (pz_flk fl_RX12_ok) (pz_cik ci_RX12_ok) ?_ ?_ (Or.inl ⟨rfl, rfl⟩) ?_ ?_
  · exact fun i k' h => pz_ctk (l := ct_X12_giveOf) (P := fun b i k => b = true → pz_cV 4 95 RX12 i k) (List.forall_mem_cons.mpr ⟨(fun _ => v_X12_says (by decide) (by decide) (by decide +kernel)), fun _ h => absurd h List.not_mem_nil⟩) true i k' h rfl
  · exact fun i k' h => pz_ctk (l := ct_X12_giveOf) (P := fun b i k => b = false → (pz_cS 4 95 RX12 i k ∨ (k = pz_kac ∧ 1 ≤ 4 ∧ 60 ≤ 95 ∧ Cond.methodLink RX12 i arraycopyName ∈ pz_tbl))) (List.forall_mem_cons.mpr ⟨((fun z => by cases z)), fun _ h => absurd h List.not_mem_nil⟩) false i k' h rfl
  · intro a M hlen hpre
    obtain ⟨th, i, rfl, hpre⟩ : ∃ th i, a = [.inr (.inr (12, th)), .inl i] ∧ (pz_im M ∧ 0 ≤ i ∧ i < 12) := by
      have hpre : (match (generalizing := false) a with | [.inr (.inr (12, th)), .inl i] => pz_im M ∧ 0 ≤ i ∧ i < 12 | _ => False) := hpre
      split at hpre
      · exact ⟨_, _, rfl, hpre⟩
      · exact hpre.elim
    exact Nat.le_of_ble_eq_true rfl
  · intro a M hlen hcan hM hpre Ok hgo
    obtain ⟨th, i, rfl, hpre⟩ : ∃ th i, a = [.inr (.inr (12, th)), .inl i] ∧ (pz_im M ∧ 0 ≤ i ∧ i < 12) := by
      have hpre : (match (generalizing := false) a with | [.inr (.inr (12, th)), .inl i] => pz_im M ∧ 0 ≤ i ∧ i < 12 | _ => False) := hpre
      split at hpre
      · exact ⟨_, _, rfl, hpre⟩
      · exact hpre.elim
    obtain ⟨k_th, hc_th⟩ := pz_tlm hcan
    have k_th : pz_kd th = 12 ∧ th < 231 := k_th
    have R_th := pz_kd12 k_th.1
    subst R_th
    obtain ⟨k_i, hc_i⟩ := pz_tlm hc_th
    have l_i : -2147483648 ≤ i := k_i.1
    have u_i : i ≤ 2147483647 := k_i.2
    have hI : pz_im M := hpre.1
    have hI0 := hI
    have hS : pz_sm M M := pz_sm.rf
    refine hgo (fun _ => false) 25 0 _ [] M ?_
    intro r5 e5 k5
    have e5 : r5 = 60 := e5
    subst e5
    intro v11 e11 a11 b11
    try rw [pz_wi (by omega) (by omega)] at e11
    refine And.intro (by omega) (And.intro (show _ < (1725 : Int) from by omega) ?_)
    intro v12 e12 a12 b12
    refine And.intro (fun h13 => ?_) (fun h13 => ?_)
    · skip
      intro r21 e21 k21
      have e21 : r21 = 60 := e21
      subst e21
      intro v27 e27 a27 b27
      try rw [pz_wi (by omega) (by omega)] at e27
      refine And.intro (by omega) (And.intro (show _ < (1725 : Int) from by omega) ?_)
      intro v28 e28 a28 b28
      refine And.intro (by omega) ?_
      intro v30 e30 a30 b30
      refine And.intro (And.intro hI (And.intro (by omega) (by omega))) ?_
      intro v34 M34 a34 b34 q34
      obtain ⟨q34, z34⟩ := q34
      have hS : pz_sm M M34 := hS.tr z34
      have hI : pz_im M34 := hS.1.1.1 hI0
      refine And.intro rfl ?_
      exact ⟨trivial, hS⟩
    · skip
      refine And.intro (And.intro hI (And.intro (by omega) (by omega))) ?_
      intro v34 M34 a34 b34 q34
      obtain ⟨q34, z34⟩ := q34
      have hS : pz_sm M M34 := hS.tr z34
      have hI : pz_im M34 := hS.1.1.1 hI0
      refine And.intro rfl ?_
      exact ⟨trivial, hS⟩
theorem v_X12_giveOf {fr lo i : Nat} {own : String} (h1 : 4 + 1 ≤ fr) (h2 : 8 + (2 + 11) + 95 ≤ lo) (h3 : .methodLink own i yX12_giveOf ∈ lw_tbl) : pz_cV fr lo own i k_X12_giveOf :=
  pz_cVk (maxL := 2) (fr' := 4) (lo' := 95) 1 12 h_X12_giveOf rfl ⟨by decide +kernel, by decide +kernel, by decide +kernel⟩ ⟨by decide +kernel, by decide +kernel, by decide +kernel, by decide +kernel⟩ (Or.inl ⟨TX12, 28, rfl⟩) (fun a M _ h => by
    have h : (match (generalizing := false) a with | [.inr (.inr (12, th)), .inl i] => pz_im M ∧ 0 ≤ i ∧ i < 12 | _ => False) := h
    split at h
    · exact ⟨_, _, rfl⟩
    · exact h.elim) h1 h2 h3
def k_X12_costOf : pz_C := (2, 1, fun a M => (match a with | [.inr (.inr (12, th)), .inl i] => pz_im M ∧ 0 ≤ i ∧ i < 12 | _ => False), fun a M r M' => (match a, r with | [.inr (.inr (12, th)), .inl i], some (.inl v) => (True) ∧ pz_sm M M' | _, _ => False))
abbrev ct_X12_costOf : List (Bool × Nat × pz_C) := [(true, 309, k_X12_says)]
set_option maxRecDepth 100000 in
set_option maxHeartbeats 4000000 in
theorem h_X12_costOf : pz_H yX12_costOf cX12_costOf 2 (some .int) k_X12_costOf 4 95 := by
  refine pz_mk (own := RX12) (tb := t_X12_costOf) (fl := pz_flf fl_RX12) (ci := pz_cif ci_RX12) (ct := pz_ctf ct_X12_costOf) (rz := false) (by decide +kernel) rfl t_X12_costOf_ok (pz_flk fl_RX12_ok) (pz_cik ci_RX12_ok) ?_ ?_ (Or.inl ⟨rfl, rfl⟩) ?_ ?_
  · exact fun i k' h => pz_ctk (l := ct_X12_costOf) (P := fun b i k => b = true → pz_cV 4 95 RX12 i k) (List.forall_mem_cons.mpr ⟨(fun _ => v_X12_says (by decide) (by decide) (by decide +kernel)), fun _ h => absurd h List.not_mem_nil⟩) true i k' h rfl
  · exact fun i k' h => pz_ctk (l := ct_X12_costOf) (P := fun b i k => b = false → (pz_cS 4 95 RX12 i k ∨ (k = pz_kac ∧ 1 ≤ 4 ∧ 60 ≤ 95 ∧ Cond.methodLink RX12 i arraycopyName ∈ pz_tbl))) (List.forall_mem_cons.mpr ⟨((fun z => by cases z)), fun _ h => absurd h List.not_mem_nil⟩) false i k' h rfl
  · intro a M hlen hpre
    obtain ⟨th, i, rfl, hpre⟩ : ∃ th i, a = [.inr (.inr (12, th)), .inl i] ∧ (pz_im M ∧ 0 ≤ i ∧ i < 12) := by
      have hpre : (match (generalizing := false) a with | [.inr (.inr (12, th)), .inl i] => pz_im M ∧ 0 ≤ i ∧ i < 12 | _ => False) := hpre
      split at hpre
      · exact ⟨_, _, rfl, hpre⟩
      · exact hpre.elim
    exact Nat.le_of_ble_eq_true rfl
  · intro a M hlen hcan hM hpre Ok hgo
    obtain ⟨th, i, rfl, hpre⟩ : ∃ th i, a = [.inr (.inr (12, th)), .inl i] ∧ (pz_im M ∧ 0 ≤ i ∧ i < 12) := by
      have hpre : (match (generalizing := false) a with | [.inr (.inr (12, th)), .inl i] => pz_im M ∧ 0 ≤ i ∧ i < 12 | _ => False) := hpre
      split at hpre
      · exact ⟨_, _, rfl, hpre⟩
      · exact hpre.elim
    obtain ⟨k_th, hc_th⟩ := pz_tlm hcan
    have k_th : pz_kd th = 12 ∧ th < 231 := k_th
    have R_th := pz_kd12 k_th.1
    subst R_th
    obtain ⟨k_i, hc_i⟩ := pz_tlm hc_th
    have l_i : -2147483648 ≤ i := k_i.1
    have u_i : i ≤ 2147483647 := k_i.2
    have hI : pz_im M := hpre.1
    have hI0 := hI
    have hS : pz_sm M M := pz_sm.rf
    refine hgo (fun _ => false) 9 0 _ [] M ?_
    refine And.intro (And.intro hI (And.intro (by omega) (by omega))) ?_
    intro v7 M7 a7 b7 q7
    obtain ⟨q7, z7⟩ := q7
    have hS : pz_sm M M7 := hS.tr z7
    have hI : pz_im M7 := hS.1.1.1 hI0
    refine And.intro rfl ?_
    exact ⟨trivial, hS⟩
theorem v_X12_costOf {fr lo i : Nat} {own : String} (h1 : 4 + 1 ≤ fr) (h2 : 8 + (2 + 11) + 95 ≤ lo) (h3 : .methodLink own i yX12_costOf ∈ lw_tbl) : pz_cV fr lo own i k_X12_costOf :=
  pz_cVk (maxL := 2) (fr' := 4) (lo' := 95) 1 12 h_X12_costOf rfl ⟨by decide +kernel, by decide +kernel, by decide +kernel⟩ ⟨by decide +kernel, by decide +kernel, by decide +kernel, by decide +kernel⟩ (Or.inl ⟨TX12, 28, rfl⟩) (fun a M _ h => by
    have h : (match (generalizing := false) a with | [.inr (.inr (12, th)), .inl i] => pz_im M ∧ 0 ≤ i ∧ i < 12 | _ => False) := h
    split at h
    · exact ⟨_, _, rfl⟩
    · exact h.elim) h1 h2 h3
def k_X12_canPay : pz_C := (2, 1, fun a M => (match a with | [.inr (.inr (12, th)), .inl i] => pz_im M ∧ 0 ≤ i ∧ i < 12 | _ => False), fun a M r M' => (match a, r with | [.inr (.inr (12, th)), .inl i], some (.inl v) => (v = 0 ∨ v = 1) ∧ M = M' | _, _ => False))
abbrev ct_X12_canPay : List (Bool × Nat × pz_C) := []
set_option maxRecDepth 100000 in
set_option maxHeartbeats 4000000 in
theorem h_X12_canPay : pz_H yX12_canPay cX12_canPay 2 (some .boolean) k_X12_canPay 0 0 := by
  refine pz_mk (own := RX12) (tb := t_X12_canPay) (fl := pz_flf fl_RX12) (ci := pz_cif ci_RX12) (ct := pz_ctf ct_X12_canPay) (rz := true) (by decide +kernel) rfl t_X12_canPay_ok (pz_flk fl_RX12_ok) (pz_cik ci_RX12_ok) ?_ ?_ (Or.inr ⟨rfl, rfl⟩) ?_ ?_
  · exact fun i k' h => pz_ctk (l := ct_X12_canPay) (P := fun b i k => b = true → pz_cV 0 0 RX12 i k) (fun _ h => absurd h List.not_mem_nil) true i k' h rfl
  · exact fun i k' h => pz_ctk (l := ct_X12_canPay) (P := fun b i k => b = false → (pz_cS 0 0 RX12 i k ∨ (k = pz_kac ∧ 1 ≤ 0 ∧ 60 ≤ 0 ∧ Cond.methodLink RX12 i arraycopyName ∈ pz_tbl))) (fun _ h => absurd h List.not_mem_nil) false i k' h rfl
  · intro a M hlen hpre
    obtain ⟨th, i, rfl, hpre⟩ : ∃ th i, a = [.inr (.inr (12, th)), .inl i] ∧ (pz_im M ∧ 0 ≤ i ∧ i < 12) := by
      have hpre : (match (generalizing := false) a with | [.inr (.inr (12, th)), .inl i] => pz_im M ∧ 0 ≤ i ∧ i < 12 | _ => False) := hpre
      split at hpre
      · exact ⟨_, _, rfl, hpre⟩
      · exact hpre.elim
    exact Nat.le_of_ble_eq_true rfl
  · intro a M hlen hcan hM hpre Ok hgo
    obtain ⟨th, i, rfl, hpre⟩ : ∃ th i, a = [.inr (.inr (12, th)), .inl i] ∧ (pz_im M ∧ 0 ≤ i ∧ i < 12) := by
      have hpre : (match (generalizing := false) a with | [.inr (.inr (12, th)), .inl i] => pz_im M ∧ 0 ≤ i ∧ i < 12 | _ => False) := hpre
      split at hpre
      · exact ⟨_, _, rfl, hpre⟩
      · exact hpre.elim
    obtain ⟨k_th, hc_th⟩ := pz_tlm hcan
    have k_th : pz_kd th = 12 ∧ th < 231 := k_th
    have R_th := pz_kd12 k_th.1
    subst R_th
    obtain ⟨k_i, hc_i⟩ := pz_tlm hc_th
    have l_i : -2147483648 ≤ i := k_i.1
    have u_i : i ≤ 2147483647 := k_i.2
    have hI : pz_im M := hpre.1
    refine hgo (fun _ => false) 42 0 _ [] M ?_
    intro r2 e2 k2
    have e2 : r2 = 60 := e2
    subst e2
    refine And.intro (by omega) (And.intro (show _ < (1725 : Int) from by omega) ?_)
    intro v7 e7 a7 b7
    have e7 : v7 = M 60 88 := e7
    have I7 := hI.1.1
    intro v9 e9 a9 b9
    try rw [pz_wi (by omega) (by omega)] at e9
    refine And.intro (fun h10 => ?_) (fun h10 => ?_)
    · skip
      intro r16 e16 k16
      have e16 : r16 = 60 := e16
      subst e16
      intro v21 e21 a21 b21
      try rw [pz_wi (by omega) (by omega)] at e21
      intro v23 e23 a23 b23
      try rw [pz_wi (by omega) (by omega)] at e23
      refine And.intro (by omega) (And.intro (show _ < (1725 : Int) from by omega) ?_)
      intro v24 e24 a24 b24
      intro r26 e26 k26
      have e26 : r26 = 60 := e26
      subst e26
      intro v32 e32 a32 b32
      try rw [pz_wi (by omega) (by omega)] at e32
      refine And.intro (by omega) (And.intro (show _ < (1725 : Int) from by omega) ?_)
      intro v33 e33 a33 b33
      refine And.intro (fun h35 => ?_) (fun h35 => ?_)
      · skip
        intro r43 e43 k43
        have e43 : r43 = 60 := e43
        subst e43
        intro v48 e48 a48 b48
        try rw [pz_wi (by omega) (by omega)] at e48
        refine And.intro (by omega) (And.intro (show _ < (1725 : Int) from by omega) ?_)
        intro v49 e49 a49 b49
        intro v50 e50 a50 b50
        try rw [pz_wi (by omega) (by omega)] at e50
        refine And.intro (fun h51 => ?_) (fun h51 => ?_)
        · skip
          refine And.intro (by omega) ?_
          refine And.intro rfl ?_
          exact ⟨by omega, rfl⟩
        · skip
          refine And.intro (by omega) ?_
          refine And.intro rfl ?_
          exact ⟨by omega, rfl⟩
      · skip
        intro v50 e50 a50 b50
        try rw [pz_wi (by omega) (by omega)] at e50
        refine And.intro (fun h51 => ?_) (fun h51 => ?_)
        · skip
          refine And.intro (by omega) ?_
          refine And.intro rfl ?_
          exact ⟨by omega, rfl⟩
        · skip
          refine And.intro (by omega) ?_
          refine And.intro rfl ?_
          exact ⟨by omega, rfl⟩
    · skip
      refine And.intro (by omega) ?_
      refine And.intro rfl ?_
      exact ⟨by omega, rfl⟩
theorem v_X12_canPay {fr lo i : Nat} {own : String} (h1 : 0 + 1 ≤ fr) (h2 : 8 + (2 + 11) + 0 ≤ lo) (h3 : .methodLink own i yX12_canPay ∈ lw_tbl) : pz_cV fr lo own i k_X12_canPay :=
  pz_cVk (maxL := 2) (fr' := 0) (lo' := 0) 1 12 h_X12_canPay rfl ⟨by decide +kernel, by decide +kernel, by decide +kernel⟩ ⟨by decide +kernel, by decide +kernel, by decide +kernel, by decide +kernel⟩ (Or.inl ⟨TX12, 28, rfl⟩) (fun a M _ h => by
    have h : (match (generalizing := false) a with | [.inr (.inr (12, th)), .inl i] => pz_im M ∧ 0 ≤ i ∧ i < 12 | _ => False) := h
    split at h
    · exact ⟨_, _, rfl⟩
    · exact h.elim) h1 h2 h3
def k_X12_keeps : pz_C := (1, 0, fun a M => (match a with | [.inr (.inr (12, th))] => pz_im M | _ => False), fun a M r M' => (match a, r with | [.inr (.inr (12, th))], none => (True) ∧ pz_sm M M' | _, _ => False))
abbrev ct_X12_keeps : List (Bool × Nat × pz_C) := []
set_option maxRecDepth 100000 in
set_option maxHeartbeats 4000000 in
theorem h_X12_keeps : pz_H yX12_keeps cX12_keeps 2 none k_X12_keeps 0 0 := by
  refine pz_mk (own := RX12) (tb := t_X12_keeps) (fl := pz_flf fl_RX12) (ci := pz_cif ci_RX12) (ct := pz_ctf ct_X12_keeps) (rz := false) (by decide +kernel) rfl t_X12_keeps_ok (pz_flk fl_RX12_ok) (pz_cik ci_RX12_ok) ?_ ?_ (rfl) ?_ ?_
  · exact fun i k' h => pz_ctk (l := ct_X12_keeps) (P := fun b i k => b = true → pz_cV 0 0 RX12 i k) (fun _ h => absurd h List.not_mem_nil) true i k' h rfl
  · exact fun i k' h => pz_ctk (l := ct_X12_keeps) (P := fun b i k => b = false → (pz_cS 0 0 RX12 i k ∨ (k = pz_kac ∧ 1 ≤ 0 ∧ 60 ≤ 0 ∧ Cond.methodLink RX12 i arraycopyName ∈ pz_tbl))) (fun _ h => absurd h List.not_mem_nil) false i k' h rfl
  · intro a M hlen hpre
    obtain ⟨th, rfl, hpre⟩ : ∃ th, a = [.inr (.inr (12, th))] ∧ (pz_im M) := by
      have hpre : (match (generalizing := false) a with | [.inr (.inr (12, th))] => pz_im M | _ => False) := hpre
      split at hpre
      · exact ⟨_, rfl, hpre⟩
      · exact hpre.elim
    exact Nat.le_of_ble_eq_true rfl
  · intro a M hlen hcan hM hpre Ok hgo
    obtain ⟨th, rfl, hpre⟩ : ∃ th, a = [.inr (.inr (12, th))] ∧ (pz_im M) := by
      have hpre : (match (generalizing := false) a with | [.inr (.inr (12, th))] => pz_im M | _ => False) := hpre
      split at hpre
      · exact ⟨_, rfl, hpre⟩
      · exact hpre.elim
    obtain ⟨k_th, hc_th⟩ := pz_tlm hcan
    have k_th : pz_kd th = 12 ∧ th < 231 := k_th
    have R_th := pz_kd12 k_th.1
    subst R_th
    have hI : pz_im M := hpre
    have hI0 := hI
    have hS : pz_sm M M := pz_sm.rf
    have L51 : ∀ (fu : Nat) (x1 : Int) (N51 : pz_M), (88 - x1).toNat < fu → (pz_sm M N51) → (0 ≤ x1) → (N51 1 4 ≤ 5) → Ok 51 [some (.inr (.inr (12, 1))), some (.inl x1)] [] N51 := by
      intro fu
      induction fu with
      | zero => exact fun _ _ hn => absurd hn (Nat.not_lt_zero _)
      | succ fu ih51 =>
        intro x1 N51 hn51 hS g51_1 g51_2
        have hI : pz_im N51 := hS.1.1.1 hI0
        refine hgo (fun p => Nat.beq p 11 || Nat.beq p 51) 59 51 _ _ _ ?_
        refine And.intro (fun h54 => ?_) (fun h54 => ?_)
        · skip
          intro v85 e85 a85 b85
          have I85 := hI.2.1.1
          intro v89 e89 a89 b89
          try rw [pz_wi (by omega) (by omega)] at e89
          intro M90 e90
          have hS : pz_sm M M90 := by
            rw [e90]
            exact pz_sm_u hS (by unfold pz_mid; omega) (by omega) (by omega) (by unfold pz_iom; omega)
          have hI : pz_im M90 := hS.1.1.1 hI0
          have T90_0 := pz_uve e90 1 4
          refine And.intro (by omega) ?_
          intro M95 e95
          have hS : pz_sm M M95 := by
            rw [e95]
            exact pz_sm_u hS (by unfold pz_mid; omega) (by omega) (by omega) (by unfold pz_iom; omega)
          have hI : pz_im M95 := hS.1.1.1 hI0
          have T95_0 := pz_uve e95 1 4
          refine And.intro rfl ?_
          exact ⟨trivial, hS⟩
        · skip
          intro r58 e58 k58
          have e58 : r58 = 62 := e58
          subst e58
          intro v64 e64 a64 b64
          have I64 := hI.2.1.1
          intro v67 e67 a67 b67
          try rw [pz_wi (by omega) (by omega)] at e67
          intro v69 e69 a69 b69
          try rw [pz_wi (by omega) (by omega)] at e69
          intro r71 e71 k71
          have e71 : r71 = 60 := e71
          subst e71
          refine And.intro (by omega) (And.intro (show _ < (1725 : Int) from by omega) ?_)
          intro v75 e75 a75 b75
          have J75 : x1 = 3 → 0 ≤ v75 ∧ v75 ≤ 150 := fun q => by
            rw [e75, q]
            exact hI.1.2.2.2.2
          refine And.intro (by omega) (And.intro (show _ < (528 : Int) from by omega) ?_)
          intro M76 e76
          have hS : pz_sm M M76 := by
            rw [e76]
            exact pz_sm_u hS (by unfold pz_mid; omega) (by omega) (by omega) (by unfold pz_iom; omega)
          have hI : pz_im M76 := hS.1.1.1 hI0
          have T76_0 := pz_uve e76 1 4
          intro v77 e77 a77 b77
          try rw [pz_wi (by omega) (by omega)] at e77
          exact ih51 _ _ (by omega) hS (by omega) (by omega)
    have L11 : ∀ (fu : Nat) (x1 : Int) (N11 : pz_M), (440 - x1).toNat < fu → (pz_sm M N11) → (0 ≤ x1) → (N11 1 4 = 6) → Ok 11 [some (.inr (.inr (12, 1))), some (.inl x1)] [] N11 := by
      intro fu
      induction fu with
      | zero => exact fun _ _ hn => absurd hn (Nat.not_lt_zero _)
      | succ fu ih11 =>
        intro x1 N11 hn11 hS g11_1 g11_2
        have hI : pz_im N11 := hS.1.1.1 hI0
        refine hgo (fun p => Nat.beq p 11 || Nat.beq p 51) 59 11 _ _ _ ?_
        refine And.intro (fun h15 => ?_) (fun h15 => ?_)
        · skip
          intro v41 e41 a41 b41
          have I41 := hI.2.1.1
          intro v45 e45 a45 b45
          try rw [pz_wi (by omega) (by omega)] at e45
          intro M46 e46
          have hS : pz_sm M M46 := by
            rw [e46]
            exact pz_sm_u hS (by unfold pz_mid; omega) (by omega) (by omega) (by unfold pz_iom; omega)
          have hI : pz_im M46 := hS.1.1.1 hI0
          have T46_0 := pz_uve e46 1 4
          exact L51 _ _ _ (Nat.lt_succ_self _) hS (by omega) (by omega)
        · skip
          intro r19 e19 k19
          have e19 : r19 = 62 := e19
          subst e19
          intro r24 e24 k24
          have e24 : r24 = 62 := e24
          subst e24
          intro v30 e30 a30 b30
          try rw [pz_wi (by omega) (by omega)] at e30
          refine And.intro (by omega) (And.intro (show _ < (528 : Int) from by omega) ?_)
          intro v31 e31 a31 b31
          have J31 : v30 % 88 = 3 → 0 ≤ v31 ∧ v31 ≤ 150 := fun q => by
            have z := hI.2.1.2.2.2.2.2.2.2.2 (v30 / 88).toNat (by omega)
            rw [show 88 * (v30 / 88).toNat + 3 = v30.toNat by omega] at z
            rw [e31]
            exact z
          refine And.intro (by omega) (And.intro (show _ < (528 : Int) from by omega) ?_)
          intro M32 e32
          have hS : pz_sm M M32 := by
            rw [e32]
            exact pz_sm_u hS (by unfold pz_mid; omega) (by omega) (by omega) (by unfold pz_iom; omega)
          have hI : pz_im M32 := hS.1.1.1 hI0
          have T32_0 := pz_uve e32 1 4
          intro v33 e33 a33 b33
          try rw [pz_wi (by omega) (by omega)] at e33
          exact ih11 _ _ (by omega) hS (by omega) (by omega)
    refine hgo (fun p => Nat.beq p 11 || Nat.beq p 51) 59 0 _ [] M ?_
    intro v1 e1 a1 b1
    have I1 := hI.2.1.1
    refine And.intro (fun h6 => ?_) (fun h6 => ?_)
    · skip
      exact L51 _ _ _ (Nat.lt_succ_self _) hS (by omega) (by omega)
    · skip
      exact L11 _ _ _ (Nat.lt_succ_self _) hS (by omega) (by omega)
theorem v_X12_keeps {fr lo i : Nat} {own : String} (h1 : 0 + 1 ≤ fr) (h2 : 8 + (2 + 11) + 0 ≤ lo) (h3 : .methodLink own i yX12_keeps ∈ lw_tbl) : pz_cV fr lo own i k_X12_keeps :=
  pz_cVk (maxL := 2) (fr' := 0) (lo' := 0) 0 12 h_X12_keeps rfl ⟨by decide +kernel, by decide +kernel, by decide +kernel⟩ ⟨by decide +kernel, by decide +kernel, by decide +kernel, by decide +kernel⟩ (Or.inl ⟨TX12, 28, rfl⟩) (fun a M _ h => by
    have h : (match (generalizing := false) a with | [.inr (.inr (12, th))] => pz_im M | _ => False) := h
    split at h
    · exact ⟨_, _, rfl⟩
    · exact h.elim) h1 h2 h3
def k_X12_undo : pz_C := (1, 1, fun a M => (match a with | [.inr (.inr (12, th))] => pz_im M | _ => False), fun a M r M' => (match a, r with | [.inr (.inr (12, th))], some (.inl v) => (v = 0 ∨ v = 1) ∧ pz_sm M M' | _, _ => False))
abbrev ct_X12_undo : List (Bool × Nat × pz_C) := []
set_option maxRecDepth 100000 in
set_option maxHeartbeats 4000000 in
theorem h_X12_undo : pz_H yX12_undo cX12_undo 2 (some .boolean) k_X12_undo 0 0 := by
  refine pz_mk (own := RX12) (tb := t_X12_undo) (fl := pz_flf fl_RX12) (ci := pz_cif ci_RX12) (ct := pz_ctf ct_X12_undo) (rz := true) (by decide +kernel) rfl t_X12_undo_ok (pz_flk fl_RX12_ok) (pz_cik ci_RX12_ok) ?_ ?_ (Or.inr ⟨rfl, rfl⟩) ?_ ?_
  · exact fun i k' h => pz_ctk (l := ct_X12_undo) (P := fun b i k => b = true → pz_cV 0 0 RX12 i k) (fun _ h => absurd h List.not_mem_nil) true i k' h rfl
  · exact fun i k' h => pz_ctk (l := ct_X12_undo) (P := fun b i k => b = false → (pz_cS 0 0 RX12 i k ∨ (k = pz_kac ∧ 1 ≤ 0 ∧ 60 ≤ 0 ∧ Cond.methodLink RX12 i arraycopyName ∈ pz_tbl))) (fun _ h => absurd h List.not_mem_nil) false i k' h rfl
  · intro a M hlen hpre
    obtain ⟨th, rfl, hpre⟩ : ∃ th, a = [.inr (.inr (12, th))] ∧ (pz_im M) := by
      have hpre : (match (generalizing := false) a with | [.inr (.inr (12, th))] => pz_im M | _ => False) := hpre
      split at hpre
      · exact ⟨_, rfl, hpre⟩
      · exact hpre.elim
    exact Nat.le_of_ble_eq_true rfl
  · intro a M hlen hcan hM hpre Ok hgo
    obtain ⟨th, rfl, hpre⟩ : ∃ th, a = [.inr (.inr (12, th))] ∧ (pz_im M) := by
      have hpre : (match (generalizing := false) a with | [.inr (.inr (12, th))] => pz_im M | _ => False) := hpre
      split at hpre
      · exact ⟨_, rfl, hpre⟩
      · exact hpre.elim
    obtain ⟨k_th, hc_th⟩ := pz_tlm hcan
    have k_th : pz_kd th = 12 ∧ th < 231 := k_th
    have R_th := pz_kd12 k_th.1
    subst R_th
    have hI : pz_im M := hpre
    have hI0 := hI
    have hS : pz_sm M M := pz_sm.rf
    have L21 : ∀ (fu : Nat) (x1 : Int) (N21 : pz_M), (88 - x1).toNat < fu → (pz_sm M N21) → (0 ≤ x1) → (0 ≤ N21 1 4) → (N21 1 4 ≤ 5) → Ok 21 [some (.inr (.inr (12, 1))), some (.inl x1)] [] N21 := by
      intro fu
      induction fu with
      | zero => exact fun _ _ hn => absurd hn (Nat.not_lt_zero _)
      | succ fu ih21 =>
        intro x1 N21 hn21 hS g21_1 g21_2 g21_3
        have hI : pz_im N21 := hS.1.1.1 hI0
        refine hgo (fun p => Nat.beq p 21) 35 21 _ _ _ ?_
        refine And.intro (fun h24 => ?_) (fun h24 => ?_)
        · skip
          refine And.intro (by omega) ?_
          refine And.intro rfl ?_
          exact ⟨by omega, hS⟩
        · skip
          intro r28 e28 k28
          have e28 : r28 = 60 := e28
          subst e28
          intro r33 e33 k33
          have e33 : r33 = 62 := e33
          subst e33
          intro v39 e39 a39 b39
          have I39 := hI.2.1.1
          intro v42 e42 a42 b42
          try rw [pz_wi (by omega) (by omega)] at e42
          intro v44 e44 a44 b44
          try rw [pz_wi (by omega) (by omega)] at e44
          refine And.intro (by omega) (And.intro (show _ < (528 : Int) from by omega) ?_)
          intro v45 e45 a45 b45
          have J45 : x1 = 3 → 0 ≤ v45 ∧ v45 ≤ 150 := fun q => by
            have z := hI.2.1.2.2.2.2.2.2.2.2 v39.toNat (by omega)
            rw [show 88 * v39.toNat + 3 = v44.toNat by omega] at z
            rw [e45]
            exact z
          refine And.intro (by omega) (And.intro (show _ < (1725 : Int) from by omega) ?_)
          intro M46 e46
          have hS : pz_sm M M46 := by
            rw [e46]
            exact pz_sm_u hS (by unfold pz_mid; omega) (by omega) (by omega) (by unfold pz_iom; omega)
          have hI : pz_im M46 := hS.1.1.1 hI0
          have T46_0 := pz_uve e46 1 4
          intro v47 e47 a47 b47
          try rw [pz_wi (by omega) (by omega)] at e47
          exact ih21 _ _ (by omega) hS (by omega) (by omega) (by omega)
    refine hgo (fun p => Nat.beq p 21) 35 0 _ [] M ?_
    intro v1 e1 a1 b1
    have I1 := hI.2.1.1
    refine And.intro (fun h4 => ?_) (fun h4 => ?_)
    · skip
      intro v11 e11 a11 b11
      have I11 := hI.2.1.1
      intro v15 e15 a15 b15
      try rw [pz_wi (by omega) (by omega)] at e15
      intro M16 e16
      have hS : pz_sm M M16 := by
        rw [e16]
        exact pz_sm_u hS (by unfold pz_mid; omega) (by omega) (by omega) (by unfold pz_iom; omega)
      have hI : pz_im M16 := hS.1.1.1 hI0
      have T16_0 := pz_uve e16 1 4
      exact L21 _ _ _ (Nat.lt_succ_self _) hS (by omega) (by omega) (by omega)
    · skip
      refine And.intro (by omega) ?_
      refine And.intro rfl ?_
      exact ⟨by omega, hS⟩
theorem v_X12_undo {fr lo i : Nat} {own : String} (h1 : 0 + 1 ≤ fr) (h2 : 8 + (2 + 11) + 0 ≤ lo) (h3 : .methodLink own i yX12_undo ∈ lw_tbl) : pz_cV fr lo own i k_X12_undo :=
  pz_cVk (maxL := 2) (fr' := 0) (lo' := 0) 0 12 h_X12_undo rfl ⟨by decide +kernel, by decide +kernel, by decide +kernel⟩ ⟨by decide +kernel, by decide +kernel, by decide +kernel, by decide +kernel⟩ (Or.inl ⟨TX12, 28, rfl⟩) (fun a M _ h => by
    have h : (match (generalizing := false) a with | [.inr (.inr (12, th))] => pz_im M | _ => False) := h
    split at h
    · exact ⟨_, _, rfl⟩
    · exact h.elim) h1 h2 h3
def k_X12_notes : pz_C := (4, 0, fun a M => (match a with | [.inr (.inr (12, th)), .inl x, .inl y, .inl z] => pz_im M | _ => False), fun a M r M' => (match a, r with | [.inr (.inr (12, th)), .inl x, .inl y, .inl z], none => (True) ∧ pz_sm M M' | _, _ => False))
abbrev ct_X12_notes : List (Bool × Nat × pz_C) := []
set_option maxRecDepth 100000 in
set_option maxHeartbeats 4000000 in
theorem h_X12_notes : pz_H yX12_notes cX12_notes 5 none k_X12_notes 0 0 := by
  refine pz_mk (own := RX12) (tb := t_X12_notes) (fl := pz_flf fl_RX12) (ci := pz_cif ci_RX12) (ct := pz_ctf ct_X12_notes) (rz := false) (by decide +kernel) rfl t_X12_notes_ok (pz_flk fl_RX12_ok) (pz_cik ci_RX12_ok) ?_ ?_ (rfl) ?_ ?_
  · exact fun i k' h => pz_ctk (l := ct_X12_notes) (P := fun b i k => b = true → pz_cV 0 0 RX12 i k) (fun _ h => absurd h List.not_mem_nil) true i k' h rfl
  · exact fun i k' h => pz_ctk (l := ct_X12_notes) (P := fun b i k => b = false → (pz_cS 0 0 RX12 i k ∨ (k = pz_kac ∧ 1 ≤ 0 ∧ 60 ≤ 0 ∧ Cond.methodLink RX12 i arraycopyName ∈ pz_tbl))) (fun _ h => absurd h List.not_mem_nil) false i k' h rfl
  · intro a M hlen hpre
    obtain ⟨th, x, y, z, rfl, hpre⟩ : ∃ th x y z, a = [.inr (.inr (12, th)), .inl x, .inl y, .inl z] ∧ (pz_im M) := by
      have hpre : (match (generalizing := false) a with | [.inr (.inr (12, th)), .inl x, .inl y, .inl z] => pz_im M | _ => False) := hpre
      split at hpre
      · exact ⟨_, _, _, _, rfl, hpre⟩
      · exact hpre.elim
    exact Nat.le_of_ble_eq_true rfl
  · intro a M hlen hcan hM hpre Ok hgo
    obtain ⟨th, x, y, z, rfl, hpre⟩ : ∃ th x y z, a = [.inr (.inr (12, th)), .inl x, .inl y, .inl z] ∧ (pz_im M) := by
      have hpre : (match (generalizing := false) a with | [.inr (.inr (12, th)), .inl x, .inl y, .inl z] => pz_im M | _ => False) := hpre
      split at hpre
      · exact ⟨_, _, _, _, rfl, hpre⟩
      · exact hpre.elim
    obtain ⟨k_th, hc_th⟩ := pz_tlm hcan
    have k_th : pz_kd th = 12 ∧ th < 231 := k_th
    have R_th := pz_kd12 k_th.1
    subst R_th
    obtain ⟨k_x, hc_x⟩ := pz_tlm hc_th
    have l_x : -2147483648 ≤ x := k_x.1
    have u_x : x ≤ 2147483647 := k_x.2
    obtain ⟨k_y, hc_y⟩ := pz_tlm hc_x
    have l_y : -2147483648 ≤ y := k_y.1
    have u_y : y ≤ 2147483647 := k_y.2
    obtain ⟨k_z, hc_z⟩ := pz_tlm hc_y
    have l_z : -2147483648 ≤ z := k_z.1
    have u_z : z ≤ 2147483647 := k_z.2
    have hI : pz_im M := hpre
    have hI0 := hI
    have hS : pz_sm M M := pz_sm.rf
    refine hgo (fun _ => false) 59 0 _ [] M ?_
    intro v1 e1 a1 b1
    refine And.intro (fun h4 => ?_) (fun h4 => ?_)
    · skip
      refine And.intro rfl ?_
      exact ⟨trivial, hS⟩
    · skip
      intro r8 e8 k8
      have e8 : r8 = 60 := e8
      subst e8
      refine And.intro (by omega) (And.intro (show _ < (1725 : Int) from by omega) ?_)
      intro v12 e12 a12 b12
      have e12 : v12 = M 60 3 := e12
      have I12 := hI.1.2.2.2.2
      refine And.intro (fun h16 => ?_) (fun h16 => ?_)
      · skip
        intro r25 e25 k25
        have e25 : r25 = 60 := e25
        subst e25
        refine And.intro (by omega) (And.intro (show _ < (1725 : Int) from by omega) ?_)
        intro v29 e29 a29 b29
        have e29 : v29 = M 60 3 := e29
        have I29 := hI.1.2.2.2.2
        intro v30 e30 a30 b30
        try rw [pz_wi (by omega) (by omega)] at e30
        intro v31 e31 a31 b31
        try rw [pz_wi (by omega) (by omega)] at e31
        intro r35 e35 k35
        have e35 : r35 = 60 := e35
        subst e35
        intro r41 e41 k41
        have e41 : r41 = 60 := e41
        subst e41
        refine And.intro (by omega) (And.intro (show _ < (1725 : Int) from by omega) ?_)
        intro v45 e45 a45 b45
        have e45 : v45 = M 60 0 := e45
        refine And.intro (by omega) (And.intro (show _ < (1725 : Int) from by omega) ?_)
        intro M46 e46
        have hS : pz_sm M M46 := by
          rw [e46]
          exact pz_sm_u hS (by unfold pz_mid; omega) (by omega) (by omega) (by unfold pz_iom; omega)
        have hI : pz_im M46 := hS.1.1.1 hI0
        intro r48 e48 k48
        have e48 : r48 = 60 := e48
        subst e48
        intro v54 e54 a54 b54
        try rw [pz_wi (by omega) (by omega)] at e54
        refine And.intro (by omega) (And.intro (show _ < (1725 : Int) from by omega) ?_)
        intro M56 e56
        have hS : pz_sm M M56 := by
          rw [e56]
          exact pz_sm_u hS (by unfold pz_mid; omega) (by omega) (by omega) (by unfold pz_iom; omega)
        have hI : pz_im M56 := hS.1.1.1 hI0
        intro r58 e58 k58
        have e58 : r58 = 60 := e58
        subst e58
        intro v64 e64 a64 b64
        try rw [pz_wi (by omega) (by omega)] at e64
        refine And.intro (by omega) (And.intro (show _ < (1725 : Int) from by omega) ?_)
        intro M66 e66
        have hS : pz_sm M M66 := by
          rw [e66]
          exact pz_sm_u hS (by unfold pz_mid; omega) (by omega) (by omega) (by unfold pz_iom; omega)
        have hI : pz_im M66 := hS.1.1.1 hI0
        intro r68 e68 k68
        have e68 : r68 = 60 := e68
        subst e68
        intro v74 e74 a74 b74
        try rw [pz_wi (by omega) (by omega)] at e74
        refine And.intro (by omega) (And.intro (show _ < (1725 : Int) from by omega) ?_)
        intro M76 e76
        have hS : pz_sm M M76 := by
          rw [e76]
          exact pz_sm_u hS (by unfold pz_mid; omega) (by omega) (by omega) (by unfold pz_iom; omega)
        have hI : pz_im M76 := hS.1.1.1 hI0
        intro r78 e78 k78
        have e78 : r78 = 60 := e78
        subst e78
        refine And.intro (by omega) (And.intro (show _ < (1725 : Int) from by omega) ?_)
        intro v83 e83 a83 b83
        have e83 : v83 = M76 60 3 := e83
        have I83 := hI.1.2.2.2.2
        intro v85 e85 a85 b85
        try rw [pz_wi (by omega) (by omega)] at e85
        refine And.intro (by omega) (And.intro (show _ < (1725 : Int) from by omega) ?_)
        intro M86 e86
        have hS : pz_sm M M86 := by
          rw [e86]
          exact pz_sm_u hS (by unfold pz_mid; omega) (by omega) (by omega) (by unfold pz_iom; omega)
        have hI : pz_im M86 := hS.1.1.1 hI0
        refine And.intro rfl ?_
        exact ⟨trivial, hS⟩
      · skip
        refine And.intro rfl ?_
        exact ⟨trivial, hS⟩
theorem v_X12_notes {fr lo i : Nat} {own : String} (h1 : 0 + 1 ≤ fr) (h2 : 8 + (5 + 11) + 0 ≤ lo) (h3 : .methodLink own i yX12_notes ∈ lw_tbl) : pz_cV fr lo own i k_X12_notes :=
  pz_cVk (maxL := 5) (fr' := 0) (lo' := 0) 3 12 h_X12_notes rfl ⟨by decide +kernel, by decide +kernel, by decide +kernel⟩ ⟨by decide +kernel, by decide +kernel, by decide +kernel, by decide +kernel⟩ (Or.inl ⟨TX12, 28, rfl⟩) (fun a M _ h => by
    have h : (match (generalizing := false) a with | [.inr (.inr (12, th)), .inl x, .inl y, .inl z] => pz_im M | _ => False) := h
    split at h
    · exact ⟨_, _, rfl⟩
    · exact h.elim) h1 h2 h3
def k_X12_canAsk : pz_C := (2, 1, fun a M => (match a with | [.inr (.inr (12, th)), .inl i] => pz_im M | _ => False), fun a M r M' => (match a, r with | [.inr (.inr (12, th)), .inl i], some (.inl v) => ((v = 1 ∧ 0 ≤ i ∧ i + 1 < M 60 88 ∧ M 60 88 ≤ 12) ∨ v = 0) ∧ M = M' | _, _ => False))
abbrev ct_X12_canAsk : List (Bool × Nat × pz_C) := [(true, 58, k_X12_isLink), (true, 317, k_X12_isThere)]
set_option maxRecDepth 100000 in
set_option maxHeartbeats 4000000 in
theorem h_X12_canAsk : pz_H yX12_canAsk cX12_canAsk 2 (some .boolean) k_X12_canAsk 3 64 := by
  refine pz_mk (own := RX12) (tb := t_X12_canAsk) (fl := pz_flf fl_RX12) (ci := pz_cif ci_RX12) (ct := pz_ctf ct_X12_canAsk) (rz := true) (by decide +kernel) rfl t_X12_canAsk_ok (pz_flk fl_RX12_ok) (pz_cik ci_RX12_ok) ?_ ?_ (Or.inr ⟨rfl, rfl⟩) ?_ ?_
  · exact fun i k' h => pz_ctk (l := ct_X12_canAsk) (P := fun b i k => b = true → pz_cV 3 64 RX12 i k) (List.forall_mem_cons.mpr ⟨(fun _ => v_X12_isLink (by decide) (by decide) (by decide +kernel)), List.forall_mem_cons.mpr ⟨(fun _ => v_X12_isThere (by decide) (by decide) (by decide +kernel)), fun _ h => absurd h List.not_mem_nil⟩⟩) true i k' h rfl
  · exact fun i k' h => pz_ctk (l := ct_X12_canAsk) (P := fun b i k => b = false → (pz_cS 3 64 RX12 i k ∨ (k = pz_kac ∧ 1 ≤ 3 ∧ 60 ≤ 64 ∧ Cond.methodLink RX12 i arraycopyName ∈ pz_tbl))) (List.forall_mem_cons.mpr ⟨((fun z => by cases z)), List.forall_mem_cons.mpr ⟨((fun z => by cases z)), fun _ h => absurd h List.not_mem_nil⟩⟩) false i k' h rfl
  · intro a M hlen hpre
    obtain ⟨th, i, rfl, hpre⟩ : ∃ th i, a = [.inr (.inr (12, th)), .inl i] ∧ (pz_im M) := by
      have hpre : (match (generalizing := false) a with | [.inr (.inr (12, th)), .inl i] => pz_im M | _ => False) := hpre
      split at hpre
      · exact ⟨_, _, rfl, hpre⟩
      · exact hpre.elim
    exact Nat.le_of_ble_eq_true rfl
  · intro a M hlen hcan hM hpre Ok hgo
    obtain ⟨th, i, rfl, hpre⟩ : ∃ th i, a = [.inr (.inr (12, th)), .inl i] ∧ (pz_im M) := by
      have hpre : (match (generalizing := false) a with | [.inr (.inr (12, th)), .inl i] => pz_im M | _ => False) := hpre
      split at hpre
      · exact ⟨_, _, rfl, hpre⟩
      · exact hpre.elim
    obtain ⟨k_th, hc_th⟩ := pz_tlm hcan
    have k_th : pz_kd th = 12 ∧ th < 231 := k_th
    have R_th := pz_kd12 k_th.1
    subst R_th
    obtain ⟨k_i, hc_i⟩ := pz_tlm hc_th
    have l_i : -2147483648 ≤ i := k_i.1
    have u_i : i ≤ 2147483647 := k_i.2
    have hI : pz_im M := hpre
    refine hgo (fun _ => false) 16 0 _ [] M ?_
    refine And.intro (hI) ?_
    intro v2 M2 a2 b2 q2
    obtain ⟨q2, z2⟩ := q2
    subst z2
    refine And.intro (fun h5 => ?_) (fun h5 => ?_)
    · skip
      refine And.intro (by omega) ?_
      refine And.intro rfl ?_
      exact ⟨by omega, rfl⟩
    · skip
      intro v11 e11 a11 b11
      try rw [pz_wi (by omega) (by omega)] at e11
      refine And.intro (hI) ?_
      intro v12 M12 a12 b12 q12
      obtain ⟨q12, z12⟩ := q12
      subst z12
      refine And.intro (fun h15 => ?_) (fun h15 => ?_)
      · skip
        refine And.intro (by omega) ?_
        refine And.intro rfl ?_
        exact ⟨by omega, rfl⟩
      · skip
        refine And.intro (by omega) ?_
        refine And.intro rfl ?_
        exact ⟨by omega, rfl⟩
theorem v_X12_canAsk {fr lo i : Nat} {own : String} (h1 : 3 + 1 ≤ fr) (h2 : 8 + (2 + 11) + 64 ≤ lo) (h3 : .methodLink own i yX12_canAsk ∈ lw_tbl) : pz_cV fr lo own i k_X12_canAsk :=
  pz_cVk (maxL := 2) (fr' := 3) (lo' := 64) 1 12 h_X12_canAsk rfl ⟨by decide +kernel, by decide +kernel, by decide +kernel⟩ ⟨by decide +kernel, by decide +kernel, by decide +kernel, by decide +kernel⟩ (Or.inl ⟨TX12, 28, rfl⟩) (fun a M _ h => by
    have h : (match (generalizing := false) a with | [.inr (.inr (12, th)), .inl i] => pz_im M | _ => False) := h
    split at h
    · exact ⟨_, _, rfl⟩
    · exact h.elim) h1 h2 h3
def k_X12_asks : pz_C := (3, 1, fun a M => (match a with | [.inr (.inr (12, th)), .inl i, .inl n] => pz_im M ∧ 0 ≤ i ∧ i < 11 | _ => False), fun a M r M' => (match a, r with | [.inr (.inr (12, th)), .inl i, .inl n], some (.inl v) => (True) ∧ pz_sm M M' | _, _ => False))
abbrev ct_X12_asks : List (Bool × Nat × pz_C) := [(true, 320, k_X12_giveOf), (false, 47, k_X12_lesser), (false, 51, k_X12_greater), (true, 323, k_X12_notes)]
set_option maxRecDepth 100000 in
set_option maxHeartbeats 4000000 in
theorem h_X12_asks : pz_H yX12_asks cX12_asks 5 (some .int) k_X12_asks 5 116 := by
  refine pz_mk (own := RX12) (tb := t_X12_asks) (fl := pz_flf fl_RX12) (ci := pz_cif ci_RX12) (ct := pz_ctf ct_X12_asks) (rz := false) (by decide +kernel) rfl t_X12_asks_ok (pz_flk fl_RX12_ok) (pz_cik ci_RX12_ok) ?_ ?_ (Or.inl ⟨rfl, rfl⟩) ?_ ?_
  · exact fun i k' h => pz_ctk (l := ct_X12_asks) (P := fun b i k => b = true → pz_cV 5 116 RX12 i k) (List.forall_mem_cons.mpr ⟨(fun _ => v_X12_giveOf (by decide) (by decide) (by decide +kernel)), List.forall_mem_cons.mpr ⟨((fun z => by cases z)), List.forall_mem_cons.mpr ⟨((fun z => by cases z)), List.forall_mem_cons.mpr ⟨(fun _ => v_X12_notes (by decide) (by decide) (by decide +kernel)), fun _ h => absurd h List.not_mem_nil⟩⟩⟩⟩) true i k' h rfl
  · exact fun i k' h => pz_ctk (l := ct_X12_asks) (P := fun b i k => b = false → (pz_cS 5 116 RX12 i k ∨ (k = pz_kac ∧ 1 ≤ 5 ∧ 60 ≤ 116 ∧ Cond.methodLink RX12 i arraycopyName ∈ pz_tbl))) (List.forall_mem_cons.mpr ⟨((fun z => by cases z)), List.forall_mem_cons.mpr ⟨(fun _ => Or.inl (s_X12_lesser (by decide) (by decide) (Or.inl (by decide +kernel)))), List.forall_mem_cons.mpr ⟨(fun _ => Or.inl (s_X12_greater (by decide) (by decide) (Or.inl (by decide +kernel)))), List.forall_mem_cons.mpr ⟨((fun z => by cases z)), fun _ h => absurd h List.not_mem_nil⟩⟩⟩⟩) false i k' h rfl
  · intro a M hlen hpre
    obtain ⟨th, i, n, rfl, hpre⟩ : ∃ th i n, a = [.inr (.inr (12, th)), .inl i, .inl n] ∧ (pz_im M ∧ 0 ≤ i ∧ i < 11) := by
      have hpre : (match (generalizing := false) a with | [.inr (.inr (12, th)), .inl i, .inl n] => pz_im M ∧ 0 ≤ i ∧ i < 11 | _ => False) := hpre
      split at hpre
      · exact ⟨_, _, _, rfl, hpre⟩
      · exact hpre.elim
    exact Nat.le_of_ble_eq_true rfl
  · intro a M hlen hcan hM hpre Ok hgo
    obtain ⟨th, i, n, rfl, hpre⟩ : ∃ th i n, a = [.inr (.inr (12, th)), .inl i, .inl n] ∧ (pz_im M ∧ 0 ≤ i ∧ i < 11) := by
      have hpre : (match (generalizing := false) a with | [.inr (.inr (12, th)), .inl i, .inl n] => pz_im M ∧ 0 ≤ i ∧ i < 11 | _ => False) := hpre
      split at hpre
      · exact ⟨_, _, _, rfl, hpre⟩
      · exact hpre.elim
    obtain ⟨k_th, hc_th⟩ := pz_tlm hcan
    have k_th : pz_kd th = 12 ∧ th < 231 := k_th
    have R_th := pz_kd12 k_th.1
    subst R_th
    obtain ⟨k_i, hc_i⟩ := pz_tlm hc_th
    have l_i : -2147483648 ≤ i := k_i.1
    have u_i : i ≤ 2147483647 := k_i.2
    obtain ⟨k_n, hc_n⟩ := pz_tlm hc_i
    have l_n : -2147483648 ≤ n := k_n.1
    have u_n : n ≤ 2147483647 := k_n.2
    have hI : pz_im M := hpre.1
    have hI0 := hI
    have hS : pz_sm M M := pz_sm.rf
    refine hgo (fun _ => false) 54 0 _ [] M ?_
    intro v2 e2 a2 b2
    try rw [pz_wi (by omega) (by omega)] at e2
    refine And.intro (And.intro hI (And.intro (by omega) (by omega))) ?_
    intro v6 M6 a6 b6 q6
    obtain ⟨q6, z6⟩ := q6
    have hS : pz_sm M M6 := hS.tr z6
    have hI : pz_im M6 := hS.1.1.1 hI0
    refine And.intro (True.intro) ?_
    intro v10 M10 a10 b10 q10
    obtain ⟨q10, z10⟩ := q10
    subst z10
    intro r14 e14 k14
    have e14 : r14 = 60 := e14
    subst e14
    intro v19 e19 a19 b19
    try rw [pz_wi (by omega) (by omega)] at e19
    refine And.intro (by omega) (And.intro (show _ < (1725 : Int) from by omega) ?_)
    intro v20 e20 a20 b20
    intro v22 e22 a22 b22
    try rw [pz_wi (by omega) (by omega)] at e22
    refine And.intro (True.intro) ?_
    intro v23 M23 a23 b23 q23
    obtain ⟨q23, z23⟩ := q23
    subst z23
    intro r29 e29 k29
    have e29 : r29 = 60 := e29
    subst e29
    intro v34 e34 a34 b34
    try rw [pz_wi (by omega) (by omega)] at e34
    refine And.intro (by omega) (And.intro (show _ < (1725 : Int) from by omega) ?_)
    intro v36 e36 a36 b36
    intro v39 e39 a39 b39
    try rw [pz_wi (by omega) (by omega)] at e39
    refine And.intro (by omega) (And.intro (show _ < (1725 : Int) from by omega) ?_)
    intro M40 e40
    have hS : pz_sm M M40 := by
      rw [e40]
      exact pz_sm_u hS (by unfold pz_mid; omega) (by omega) (by omega) (by unfold pz_iom; omega)
    have hI : pz_im M40 := hS.1.1.1 hI0
    intro r42 e42 k42
    have e42 : r42 = 60 := e42
    subst e42
    intro v48 e48 a48 b48
    try rw [pz_wi (by omega) (by omega)] at e48
    intro r53 e53 k53
    have e53 : r53 = 60 := e53
    subst e53
    intro v59 e59 a59 b59
    try rw [pz_wi (by omega) (by omega)] at e59
    refine And.intro (by omega) (And.intro (show _ < (1725 : Int) from by omega) ?_)
    intro v60 e60 a60 b60
    intro v63 e63 a63 b63
    try rw [pz_wi (by omega) (by omega)] at e63
    refine And.intro (True.intro) ?_
    intro v64 M64 a64 b64 q64
    obtain ⟨q64, z64⟩ := q64
    subst z64
    refine And.intro (by omega) (And.intro (show _ < (1725 : Int) from by omega) ?_)
    intro M67 e67
    have hS : pz_sm M M67 := by
      rw [e67]
      exact pz_sm_u hS (by unfold pz_mid; omega) (by omega) (by omega) (by unfold pz_iom; omega)
    have hI : pz_im M67 := hS.1.1.1 hI0
    refine And.intro (hI) ?_
    intro M73 q73
    obtain ⟨q73, z73⟩ := q73
    have hS : pz_sm M M73 := hS.tr z73
    have hI : pz_im M73 := hS.1.1.1 hI0
    refine And.intro rfl ?_
    exact ⟨trivial, hS⟩
theorem v_X12_asks {fr lo i : Nat} {own : String} (h1 : 5 + 1 ≤ fr) (h2 : 8 + (5 + 11) + 116 ≤ lo) (h3 : .methodLink own i yX12_asks ∈ lw_tbl) : pz_cV fr lo own i k_X12_asks :=
  pz_cVk (maxL := 5) (fr' := 5) (lo' := 116) 2 12 h_X12_asks rfl ⟨by decide +kernel, by decide +kernel, by decide +kernel⟩ ⟨by decide +kernel, by decide +kernel, by decide +kernel, by decide +kernel⟩ (Or.inl ⟨TX12, 28, rfl⟩) (fun a M _ h => by
    have h : (match (generalizing := false) a with | [.inr (.inr (12, th)), .inl i, .inl n] => pz_im M ∧ 0 ≤ i ∧ i < 11 | _ => False) := h
    split at h
    · exact ⟨_, _, rfl⟩
    · exact h.elim) h1 h2 h3
def k_X12_canBridge : pz_C := (2, 1, fun a M => (match a with | [.inr (.inr (12, th)), .inl i] => pz_im M | _ => False), fun a M r M' => (match a, r with | [.inr (.inr (12, th)), .inl i], some (.inl v) => ((v = 1 ∧ 0 ≤ i ∧ i < M 60 88 ∧ M 60 88 ≤ 12) ∨ v = 0) ∧ M = M' | _, _ => False))
abbrev ct_X12_canBridge : List (Bool × Nat × pz_C) := [(true, 317, k_X12_isThere), (true, 288, k_X12_isBridged)]
set_option maxRecDepth 100000 in
set_option maxHeartbeats 4000000 in
theorem h_X12_canBridge : pz_H yX12_canBridge cX12_canBridge 2 (some .boolean) k_X12_canBridge 3 64 := by
  refine pz_mk (own := RX12) (tb := t_X12_canBridge) (fl := pz_flf fl_RX12) (ci := pz_cif ci_RX12) (ct := pz_ctf ct_X12_canBridge) (rz := true) (by decide +kernel) rfl t_X12_canBridge_ok (pz_flk fl_RX12_ok) (pz_cik ci_RX12_ok) ?_ ?_ (Or.inr ⟨rfl, rfl⟩) ?_ ?_
  · exact fun i k' h => pz_ctk (l := ct_X12_canBridge) (P := fun b i k => b = true → pz_cV 3 64 RX12 i k) (List.forall_mem_cons.mpr ⟨(fun _ => v_X12_isThere (by decide) (by decide) (by decide +kernel)), List.forall_mem_cons.mpr ⟨(fun _ => v_X12_isBridged (by decide) (by decide) (by decide +kernel)), fun _ h => absurd h List.not_mem_nil⟩⟩) true i k' h rfl
  · exact fun i k' h => pz_ctk (l := ct_X12_canBridge) (P := fun b i k => b = false → (pz_cS 3 64 RX12 i k ∨ (k = pz_kac ∧ 1 ≤ 3 ∧ 60 ≤ 64 ∧ Cond.methodLink RX12 i arraycopyName ∈ pz_tbl))) (List.forall_mem_cons.mpr ⟨((fun z => by cases z)), List.forall_mem_cons.mpr ⟨((fun z => by cases z)), fun _ h => absurd h List.not_mem_nil⟩⟩) false i k' h rfl
  · intro a M hlen hpre
    obtain ⟨th, i, rfl, hpre⟩ : ∃ th i, a = [.inr (.inr (12, th)), .inl i] ∧ (pz_im M) := by
      have hpre : (match (generalizing := false) a with | [.inr (.inr (12, th)), .inl i] => pz_im M | _ => False) := hpre
      split at hpre
      · exact ⟨_, _, rfl, hpre⟩
      · exact hpre.elim
    exact Nat.le_of_ble_eq_true rfl
  · intro a M hlen hcan hM hpre Ok hgo
    obtain ⟨th, i, rfl, hpre⟩ : ∃ th i, a = [.inr (.inr (12, th)), .inl i] ∧ (pz_im M) := by
      have hpre : (match (generalizing := false) a with | [.inr (.inr (12, th)), .inl i] => pz_im M | _ => False) := hpre
      split at hpre
      · exact ⟨_, _, rfl, hpre⟩
      · exact hpre.elim
    obtain ⟨k_th, hc_th⟩ := pz_tlm hcan
    have k_th : pz_kd th = 12 ∧ th < 231 := k_th
    have R_th := pz_kd12 k_th.1
    subst R_th
    obtain ⟨k_i, hc_i⟩ := pz_tlm hc_th
    have l_i : -2147483648 ≤ i := k_i.1
    have u_i : i ≤ 2147483647 := k_i.2
    have hI : pz_im M := hpre
    refine hgo (fun _ => false) 24 0 _ [] M ?_
    refine And.intro (hI) ?_
    intro v2 M2 a2 b2 q2
    obtain ⟨q2, z2⟩ := q2
    subst z2
    refine And.intro (fun h5 => ?_) (fun h5 => ?_)
    · skip
      refine And.intro (by omega) ?_
      refine And.intro rfl ?_
      exact ⟨by omega, rfl⟩
    · skip
      refine And.intro (fun h9 => ?_) (fun h9 => ?_)
      · skip
        refine And.intro (by omega) ?_
        refine And.intro rfl ?_
        exact ⟨by omega, rfl⟩
      · skip
        intro r14 e14 k14
        have e14 : r14 = 60 := e14
        subst e14
        refine And.intro (by omega) (And.intro (show _ < (1725 : Int) from by omega) ?_)
        intro v19 e19 a19 b19
        have e19 : v19 = M 60 88 := e19
        have I19 := hI.1.1
        intro v21 e21 a21 b21
        try rw [pz_wi (by omega) (by omega)] at e21
        refine And.intro (fun h22 => ?_) (fun h22 => ?_)
        · skip
          refine And.intro (by omega) ?_
          refine And.intro rfl ?_
          exact ⟨by omega, rfl⟩
        · skip
          refine And.intro (And.intro hI (And.intro (by omega) (by omega))) ?_
          intro v27 M27 a27 b27 q27
          obtain ⟨q27, z27⟩ := q27
          subst z27
          refine And.intro (fun h30 => ?_) (fun h30 => ?_)
          · skip
            refine And.intro (by omega) ?_
            refine And.intro rfl ?_
            exact ⟨by omega, rfl⟩
          · skip
            refine And.intro (by omega) ?_
            refine And.intro rfl ?_
            exact ⟨by omega, rfl⟩
theorem v_X12_canBridge {fr lo i : Nat} {own : String} (h1 : 3 + 1 ≤ fr) (h2 : 8 + (2 + 11) + 64 ≤ lo) (h3 : .methodLink own i yX12_canBridge ∈ lw_tbl) : pz_cV fr lo own i k_X12_canBridge :=
  pz_cVk (maxL := 2) (fr' := 3) (lo' := 64) 1 12 h_X12_canBridge rfl ⟨by decide +kernel, by decide +kernel, by decide +kernel⟩ ⟨by decide +kernel, by decide +kernel, by decide +kernel, by decide +kernel⟩ (Or.inl ⟨TX12, 28, rfl⟩) (fun a M _ h => by
    have h : (match (generalizing := false) a with | [.inr (.inr (12, th)), .inl i] => pz_im M | _ => False) := h
    split at h
    · exact ⟨_, _, rfl⟩
    · exact h.elim) h1 h2 h3
def k_X12_bridges0 : pz_C := (2, 0, fun a M => (match a with | [.inr (.inr (12, th)), .inl i] => pz_im M ∧ 0 ≤ i ∧ i < 12 | _ => False), fun a M r M' => (match a, r with | [.inr (.inr (12, th)), .inl i], none => (True) ∧ pz_sm M M' | _, _ => False))
abbrev ct_X12_bridges0 : List (Bool × Nat × pz_C) := [(true, 323, k_X12_notes)]
set_option maxRecDepth 100000 in
set_option maxHeartbeats 4000000 in
theorem h_X12_bridges0 : pz_H yX12_bridges0 cX12_bridges0 2 none k_X12_bridges0 1 24 := by
  refine pz_mk (own := RX12) (tb := t_X12_bridges0) (fl := pz_flf fl_RX12) (ci := pz_cif ci_RX12) (ct := pz_ctf ct_X12_bridges0) (rz := false) (by decide +kernel) rfl t_X12_bridges0_ok (pz_flk fl_RX12_ok) (pz_cik ci_RX12_ok) ?_ ?_ (rfl) ?_ ?_
  · exact fun i k' h => pz_ctk (l := ct_X12_bridges0) (P := fun b i k => b = true → pz_cV 1 24 RX12 i k) (List.forall_mem_cons.mpr ⟨(fun _ => v_X12_notes (by decide) (by decide) (by decide +kernel)), fun _ h => absurd h List.not_mem_nil⟩) true i k' h rfl
  · exact fun i k' h => pz_ctk (l := ct_X12_bridges0) (P := fun b i k => b = false → (pz_cS 1 24 RX12 i k ∨ (k = pz_kac ∧ 1 ≤ 1 ∧ 60 ≤ 24 ∧ Cond.methodLink RX12 i arraycopyName ∈ pz_tbl))) (List.forall_mem_cons.mpr ⟨((fun z => by cases z)), fun _ h => absurd h List.not_mem_nil⟩) false i k' h rfl
  · intro a M hlen hpre
    obtain ⟨th, i, rfl, hpre⟩ : ∃ th i, a = [.inr (.inr (12, th)), .inl i] ∧ (pz_im M ∧ 0 ≤ i ∧ i < 12) := by
      have hpre : (match (generalizing := false) a with | [.inr (.inr (12, th)), .inl i] => pz_im M ∧ 0 ≤ i ∧ i < 12 | _ => False) := hpre
      split at hpre
      · exact ⟨_, _, rfl, hpre⟩
      · exact hpre.elim
    exact Nat.le_of_ble_eq_true rfl
  · intro a M hlen hcan hM hpre Ok hgo
    obtain ⟨th, i, rfl, hpre⟩ : ∃ th i, a = [.inr (.inr (12, th)), .inl i] ∧ (pz_im M ∧ 0 ≤ i ∧ i < 12) := by
      have hpre : (match (generalizing := false) a with | [.inr (.inr (12, th)), .inl i] => pz_im M ∧ 0 ≤ i ∧ i < 12 | _ => False) := hpre
      split at hpre
      · exact ⟨_, _, rfl, hpre⟩
      · exact hpre.elim
    obtain ⟨k_th, hc_th⟩ := pz_tlm hcan
    have k_th : pz_kd th = 12 ∧ th < 231 := k_th
    have R_th := pz_kd12 k_th.1
    subst R_th
    obtain ⟨k_i, hc_i⟩ := pz_tlm hc_th
    have l_i : -2147483648 ≤ i := k_i.1
    have u_i : i ≤ 2147483647 := k_i.2
    have hI : pz_im M := hpre.1
    have hI0 := hI
    have hS : pz_sm M M := pz_sm.rf
    refine hgo (fun _ => false) 15 0 _ [] M ?_
    intro r1 e1 k1
    have e1 : r1 = 60 := e1
    subst e1
    intro v7 e7 a7 b7
    try rw [pz_wi (by omega) (by omega)] at e7
    refine And.intro (by omega) (And.intro (show _ < (1725 : Int) from by omega) ?_)
    intro M9 e9
    have hS : pz_sm M M9 := by
      rw [e9]
      exact pz_sm_u hS (by unfold pz_mid; omega) (by omega) (by omega) (by unfold pz_iom; omega)
    have hI : pz_im M9 := hS.1.1.1 hI0
    refine And.intro (hI) ?_
    intro M14 q14
    obtain ⟨q14, z14⟩ := q14
    have hS : pz_sm M M14 := hS.tr z14
    have hI : pz_im M14 := hS.1.1.1 hI0
    refine And.intro rfl ?_
    exact ⟨trivial, hS⟩
theorem v_X12_bridges0 {fr lo i : Nat} {own : String} (h1 : 1 + 1 ≤ fr) (h2 : 8 + (2 + 11) + 24 ≤ lo) (h3 : .methodLink own i yX12_bridges0 ∈ lw_tbl) : pz_cV fr lo own i k_X12_bridges0 :=
  pz_cVk (maxL := 2) (fr' := 1) (lo' := 24) 1 12 h_X12_bridges0 rfl ⟨by decide +kernel, by decide +kernel, by decide +kernel⟩ ⟨by decide +kernel, by decide +kernel, by decide +kernel, by decide +kernel⟩ (Or.inl ⟨TX12, 28, rfl⟩) (fun a M _ h => by
    have h : (match (generalizing := false) a with | [.inr (.inr (12, th)), .inl i] => pz_im M ∧ 0 ≤ i ∧ i < 12 | _ => False) := h
    split at h
    · exact ⟨_, _, rfl⟩
    · exact h.elim) h1 h2 h3
def k_X12_canPay0 : pz_C := (4, 1, fun a M => (match a with | [.inr (.inr (12, th)), .inl i, .inl j, .inl n] => pz_im M | _ => False), fun a M r M' => (match a, r with | [.inr (.inr (12, th)), .inl i, .inl j, .inl n], some (.inl v) => ((v = 1 ∧ 0 ≤ i ∧ i < 12 ∧ 0 ≤ j ∧ j < 12) ∨ v = 0) ∧ M = M' | _, _ => False))
abbrev ct_X12_canPay0 : List (Bool × Nat × pz_C) := [(true, 58, k_X12_isLink)]
set_option maxRecDepth 100000 in
set_option maxHeartbeats 4000000 in
theorem h_X12_canPay0 : pz_H yX12_canPay0 cX12_canPay0 4 (some .boolean) k_X12_canPay0 2 43 := by
  refine pz_mk (own := RX12) (tb := t_X12_canPay0) (fl := pz_flf fl_RX12) (ci := pz_cif ci_RX12) (ct := pz_ctf ct_X12_canPay0) (rz := true) (by decide +kernel) rfl t_X12_canPay0_ok (pz_flk fl_RX12_ok) (pz_cik ci_RX12_ok) ?_ ?_ (Or.inr ⟨rfl, rfl⟩) ?_ ?_
  · exact fun i k' h => pz_ctk (l := ct_X12_canPay0) (P := fun b i k => b = true → pz_cV 2 43 RX12 i k) (List.forall_mem_cons.mpr ⟨(fun _ => v_X12_isLink (by decide) (by decide) (by decide +kernel)), fun _ h => absurd h List.not_mem_nil⟩) true i k' h rfl
  · exact fun i k' h => pz_ctk (l := ct_X12_canPay0) (P := fun b i k => b = false → (pz_cS 2 43 RX12 i k ∨ (k = pz_kac ∧ 1 ≤ 2 ∧ 60 ≤ 43 ∧ Cond.methodLink RX12 i arraycopyName ∈ pz_tbl))) (List.forall_mem_cons.mpr ⟨((fun z => by cases z)), fun _ h => absurd h List.not_mem_nil⟩) false i k' h rfl
  · intro a M hlen hpre
    obtain ⟨th, i, j, n, rfl, hpre⟩ : ∃ th i j n, a = [.inr (.inr (12, th)), .inl i, .inl j, .inl n] ∧ (pz_im M) := by
      have hpre : (match (generalizing := false) a with | [.inr (.inr (12, th)), .inl i, .inl j, .inl n] => pz_im M | _ => False) := hpre
      split at hpre
      · exact ⟨_, _, _, _, rfl, hpre⟩
      · exact hpre.elim
    exact Nat.le_of_ble_eq_true rfl
  · intro a M hlen hcan hM hpre Ok hgo
    obtain ⟨th, i, j, n, rfl, hpre⟩ : ∃ th i j n, a = [.inr (.inr (12, th)), .inl i, .inl j, .inl n] ∧ (pz_im M) := by
      have hpre : (match (generalizing := false) a with | [.inr (.inr (12, th)), .inl i, .inl j, .inl n] => pz_im M | _ => False) := hpre
      split at hpre
      · exact ⟨_, _, _, _, rfl, hpre⟩
      · exact hpre.elim
    obtain ⟨k_th, hc_th⟩ := pz_tlm hcan
    have k_th : pz_kd th = 12 ∧ th < 231 := k_th
    have R_th := pz_kd12 k_th.1
    subst R_th
    obtain ⟨k_i, hc_i⟩ := pz_tlm hc_th
    have l_i : -2147483648 ≤ i := k_i.1
    have u_i : i ≤ 2147483647 := k_i.2
    obtain ⟨k_j, hc_j⟩ := pz_tlm hc_i
    have l_j : -2147483648 ≤ j := k_j.1
    have u_j : j ≤ 2147483647 := k_j.2
    obtain ⟨k_n, hc_n⟩ := pz_tlm hc_j
    have l_n : -2147483648 ≤ n := k_n.1
    have u_n : n ≤ 2147483647 := k_n.2
    have hI : pz_im M := hpre
    refine hgo (fun _ => false) 37 0 _ [] M ?_
    refine And.intro (hI) ?_
    intro v2 M2 a2 b2 q2
    obtain ⟨q2, z2⟩ := q2
    subst z2
    refine And.intro (fun h5 => ?_) (fun h5 => ?_)
    · skip
      refine And.intro (by omega) ?_
      refine And.intro rfl ?_
      exact ⟨by omega, rfl⟩
    · skip
      refine And.intro (hI) ?_
      intro v10 M10 a10 b10 q10
      obtain ⟨q10, z10⟩ := q10
      subst z10
      refine And.intro (fun h13 => ?_) (fun h13 => ?_)
      · skip
        refine And.intro (by omega) ?_
        refine And.intro rfl ?_
        exact ⟨by omega, rfl⟩
      · skip
        refine And.intro (fun h18 => ?_) (fun h18 => ?_)
        · skip
          refine And.intro (by omega) ?_
          refine And.intro rfl ?_
          exact ⟨by omega, rfl⟩
        · skip
          intro r22 e22 k22
          have e22 : r22 = 60 := e22
          subst e22
          intro v28 e28 a28 b28
          try rw [pz_wi (by omega) (by omega)] at e28
          refine And.intro (by omega) (And.intro (show _ < (1725 : Int) from by omega) ?_)
          intro v29 e29 a29 b29
          intro v31 e31 a31 b31
          try rw [pz_wi (by omega) (by omega)] at e31
          refine And.intro (fun h35 => ?_) (fun h35 => ?_)
          · skip
            refine And.intro (by omega) ?_
            refine And.intro rfl ?_
            exact ⟨by omega, rfl⟩
          · skip
            intro r39 e39 k39
            have e39 : r39 = 60 := e39
            subst e39
            intro v45 e45 a45 b45
            try rw [pz_wi (by omega) (by omega)] at e45
            refine And.intro (by omega) (And.intro (show _ < (1725 : Int) from by omega) ?_)
            intro v46 e46 a46 b46
            intro v48 e48 a48 b48
            try rw [pz_wi (by omega) (by omega)] at e48
            refine And.intro (fun h52 => ?_) (fun h52 => ?_)
            · skip
              refine And.intro (by omega) ?_
              refine And.intro rfl ?_
              exact ⟨by omega, rfl⟩
            · skip
              refine And.intro (by omega) ?_
              refine And.intro rfl ?_
              exact ⟨by omega, rfl⟩
theorem v_X12_canPay0 {fr lo i : Nat} {own : String} (h1 : 2 + 1 ≤ fr) (h2 : 8 + (4 + 11) + 43 ≤ lo) (h3 : .methodLink own i yX12_canPay0 ∈ lw_tbl) : pz_cV fr lo own i k_X12_canPay0 :=
  pz_cVk (maxL := 4) (fr' := 2) (lo' := 43) 3 12 h_X12_canPay0 rfl ⟨by decide +kernel, by decide +kernel, by decide +kernel⟩ ⟨by decide +kernel, by decide +kernel, by decide +kernel, by decide +kernel⟩ (Or.inl ⟨TX12, 28, rfl⟩) (fun a M _ h => by
    have h : (match (generalizing := false) a with | [.inr (.inr (12, th)), .inl i, .inl j, .inl n] => pz_im M | _ => False) := h
    split at h
    · exact ⟨_, _, rfl⟩
    · exact h.elim) h1 h2 h3
def k_X12_pays : pz_C := (4, 0, fun a M => (match a with | [.inr (.inr (12, th)), .inl i, .inl j, .inl n] => pz_im M ∧ 0 ≤ i ∧ i < 12 ∧ 0 ≤ j ∧ j < 12 | _ => False), fun a M r M' => (match a, r with | [.inr (.inr (12, th)), .inl i, .inl j, .inl n], none => (True) ∧ pz_sm M M' | _, _ => False))
abbrev ct_X12_pays : List (Bool × Nat × pz_C) := [(true, 323, k_X12_notes)]
set_option maxRecDepth 100000 in
set_option maxHeartbeats 4000000 in
theorem h_X12_pays : pz_H yX12_pays cX12_pays 4 none k_X12_pays 1 24 := by
  refine pz_mk (own := RX12) (tb := t_X12_pays) (fl := pz_flf fl_RX12) (ci := pz_cif ci_RX12) (ct := pz_ctf ct_X12_pays) (rz := false) (by decide +kernel) rfl t_X12_pays_ok (pz_flk fl_RX12_ok) (pz_cik ci_RX12_ok) ?_ ?_ (rfl) ?_ ?_
  · exact fun i k' h => pz_ctk (l := ct_X12_pays) (P := fun b i k => b = true → pz_cV 1 24 RX12 i k) (List.forall_mem_cons.mpr ⟨(fun _ => v_X12_notes (by decide) (by decide) (by decide +kernel)), fun _ h => absurd h List.not_mem_nil⟩) true i k' h rfl
  · exact fun i k' h => pz_ctk (l := ct_X12_pays) (P := fun b i k => b = false → (pz_cS 1 24 RX12 i k ∨ (k = pz_kac ∧ 1 ≤ 1 ∧ 60 ≤ 24 ∧ Cond.methodLink RX12 i arraycopyName ∈ pz_tbl))) (List.forall_mem_cons.mpr ⟨((fun z => by cases z)), fun _ h => absurd h List.not_mem_nil⟩) false i k' h rfl
  · intro a M hlen hpre
    obtain ⟨th, i, j, n, rfl, hpre⟩ : ∃ th i j n, a = [.inr (.inr (12, th)), .inl i, .inl j, .inl n] ∧ (pz_im M ∧ 0 ≤ i ∧ i < 12 ∧ 0 ≤ j ∧ j < 12) := by
      have hpre : (match (generalizing := false) a with | [.inr (.inr (12, th)), .inl i, .inl j, .inl n] => pz_im M ∧ 0 ≤ i ∧ i < 12 ∧ 0 ≤ j ∧ j < 12 | _ => False) := hpre
      split at hpre
      · exact ⟨_, _, _, _, rfl, hpre⟩
      · exact hpre.elim
    exact Nat.le_of_ble_eq_true rfl
  · intro a M hlen hcan hM hpre Ok hgo
    obtain ⟨th, i, j, n, rfl, hpre⟩ : ∃ th i j n, a = [.inr (.inr (12, th)), .inl i, .inl j, .inl n] ∧ (pz_im M ∧ 0 ≤ i ∧ i < 12 ∧ 0 ≤ j ∧ j < 12) := by
      have hpre : (match (generalizing := false) a with | [.inr (.inr (12, th)), .inl i, .inl j, .inl n] => pz_im M ∧ 0 ≤ i ∧ i < 12 ∧ 0 ≤ j ∧ j < 12 | _ => False) := hpre
      split at hpre
      · exact ⟨_, _, _, _, rfl, hpre⟩
      · exact hpre.elim
    obtain ⟨k_th, hc_th⟩ := pz_tlm hcan
    have k_th : pz_kd th = 12 ∧ th < 231 := k_th
    have R_th := pz_kd12 k_th.1
    subst R_th
    obtain ⟨k_i, hc_i⟩ := pz_tlm hc_th
    have l_i : -2147483648 ≤ i := k_i.1
    have u_i : i ≤ 2147483647 := k_i.2
    obtain ⟨k_j, hc_j⟩ := pz_tlm hc_i
    have l_j : -2147483648 ≤ j := k_j.1
    have u_j : j ≤ 2147483647 := k_j.2
    obtain ⟨k_n, hc_n⟩ := pz_tlm hc_j
    have l_n : -2147483648 ≤ n := k_n.1
    have u_n : n ≤ 2147483647 := k_n.2
    have hI : pz_im M := hpre.1
    have hI0 := hI
    have hS : pz_sm M M := pz_sm.rf
    refine hgo (fun _ => false) 28 0 _ [] M ?_
    intro r1 e1 k1
    have e1 : r1 = 60 := e1
    subst e1
    intro v7 e7 a7 b7
    try rw [pz_wi (by omega) (by omega)] at e7
    refine And.intro (by omega) (And.intro (show _ < (1725 : Int) from by omega) ?_)
    intro v9 e9 a9 b9
    intro v11 e11 a11 b11
    try rw [pz_wi (by omega) (by omega)] at e11
    refine And.intro (by omega) (And.intro (show _ < (1725 : Int) from by omega) ?_)
    intro M12 e12
    have hS : pz_sm M M12 := by
      rw [e12]
      exact pz_sm_u hS (by unfold pz_mid; omega) (by omega) (by omega) (by unfold pz_iom; omega)
    have hI : pz_im M12 := hS.1.1.1 hI0
    intro r14 e14 k14
    have e14 : r14 = 60 := e14
    subst e14
    intro v20 e20 a20 b20
    try rw [pz_wi (by omega) (by omega)] at e20
    refine And.intro (by omega) (And.intro (show _ < (1725 : Int) from by omega) ?_)
    intro v22 e22 a22 b22
    intro v24 e24 a24 b24
    try rw [pz_wi (by omega) (by omega)] at e24
    refine And.intro (by omega) (And.intro (show _ < (1725 : Int) from by omega) ?_)
    intro M25 e25
    have hS : pz_sm M M25 := by
      rw [e25]
      exact pz_sm_u hS (by unfold pz_mid; omega) (by omega) (by omega) (by unfold pz_iom; omega)
    have hI : pz_im M25 := hS.1.1.1 hI0
    refine And.intro (hI) ?_
    intro M30 q30
    obtain ⟨q30, z30⟩ := q30
    have hS : pz_sm M M30 := hS.tr z30
    have hI : pz_im M30 := hS.1.1.1 hI0
    refine And.intro rfl ?_
    exact ⟨trivial, hS⟩
theorem v_X12_pays {fr lo i : Nat} {own : String} (h1 : 1 + 1 ≤ fr) (h2 : 8 + (4 + 11) + 24 ≤ lo) (h3 : .methodLink own i yX12_pays ∈ lw_tbl) : pz_cV fr lo own i k_X12_pays :=
  pz_cVk (maxL := 4) (fr' := 1) (lo' := 24) 3 12 h_X12_pays rfl ⟨by decide +kernel, by decide +kernel, by decide +kernel⟩ ⟨by decide +kernel, by decide +kernel, by decide +kernel, by decide +kernel⟩ (Or.inl ⟨TX12, 28, rfl⟩) (fun a M _ h => by
    have h : (match (generalizing := false) a with | [.inr (.inr (12, th)), .inl i, .inl j, .inl n] => pz_im M ∧ 0 ≤ i ∧ i < 12 ∧ 0 ≤ j ∧ j < 12 | _ => False) := h
    split at h
    · exact ⟨_, _, rfl⟩
    · exact h.elim) h1 h2 h3
def k_X12_canPaper : pz_C := (2, 1, fun a M => (match a with | [.inr (.inr (12, th)), .inl i] => pz_im M | _ => False), fun a M r M' => (match a, r with | [.inr (.inr (12, th)), .inl i], some (.inl v) => ((v = 1 ∧ 0 ≤ i ∧ i < M 60 88 ∧ M 60 88 ≤ 12) ∨ v = 0) ∧ M = M' | _, _ => False))
abbrev ct_X12_canPaper : List (Bool × Nat × pz_C) := [(true, 317, k_X12_isThere), (true, 297, k_X12_isReady)]
set_option maxRecDepth 100000 in
set_option maxHeartbeats 4000000 in
theorem h_X12_canPaper : pz_H yX12_canPaper cX12_canPaper 2 (some .boolean) k_X12_canPaper 3 64 := by
  refine pz_mk (own := RX12) (tb := t_X12_canPaper) (fl := pz_flf fl_RX12) (ci := pz_cif ci_RX12) (ct := pz_ctf ct_X12_canPaper) (rz := true) (by decide +kernel) rfl t_X12_canPaper_ok (pz_flk fl_RX12_ok) (pz_cik ci_RX12_ok) ?_ ?_ (Or.inr ⟨rfl, rfl⟩) ?_ ?_
  · exact fun i k' h => pz_ctk (l := ct_X12_canPaper) (P := fun b i k => b = true → pz_cV 3 64 RX12 i k) (List.forall_mem_cons.mpr ⟨(fun _ => v_X12_isThere (by decide) (by decide) (by decide +kernel)), List.forall_mem_cons.mpr ⟨(fun _ => v_X12_isReady (by decide) (by decide) (by decide +kernel)), fun _ h => absurd h List.not_mem_nil⟩⟩) true i k' h rfl
  · exact fun i k' h => pz_ctk (l := ct_X12_canPaper) (P := fun b i k => b = false → (pz_cS 3 64 RX12 i k ∨ (k = pz_kac ∧ 1 ≤ 3 ∧ 60 ≤ 64 ∧ Cond.methodLink RX12 i arraycopyName ∈ pz_tbl))) (List.forall_mem_cons.mpr ⟨((fun z => by cases z)), List.forall_mem_cons.mpr ⟨((fun z => by cases z)), fun _ h => absurd h List.not_mem_nil⟩⟩) false i k' h rfl
  · intro a M hlen hpre
    obtain ⟨th, i, rfl, hpre⟩ : ∃ th i, a = [.inr (.inr (12, th)), .inl i] ∧ (pz_im M) := by
      have hpre : (match (generalizing := false) a with | [.inr (.inr (12, th)), .inl i] => pz_im M | _ => False) := hpre
      split at hpre
      · exact ⟨_, _, rfl, hpre⟩
      · exact hpre.elim
    exact Nat.le_of_ble_eq_true rfl
  · intro a M hlen hcan hM hpre Ok hgo
    obtain ⟨th, i, rfl, hpre⟩ : ∃ th i, a = [.inr (.inr (12, th)), .inl i] ∧ (pz_im M) := by
      have hpre : (match (generalizing := false) a with | [.inr (.inr (12, th)), .inl i] => pz_im M | _ => False) := hpre
      split at hpre
      · exact ⟨_, _, rfl, hpre⟩
      · exact hpre.elim
    obtain ⟨k_th, hc_th⟩ := pz_tlm hcan
    have k_th : pz_kd th = 12 ∧ th < 231 := k_th
    have R_th := pz_kd12 k_th.1
    subst R_th
    obtain ⟨k_i, hc_i⟩ := pz_tlm hc_th
    have l_i : -2147483648 ≤ i := k_i.1
    have u_i : i ≤ 2147483647 := k_i.2
    have hI : pz_im M := hpre
    refine hgo (fun _ => false) 14 0 _ [] M ?_
    refine And.intro (hI) ?_
    intro v2 M2 a2 b2 q2
    obtain ⟨q2, z2⟩ := q2
    subst z2
    refine And.intro (fun h5 => ?_) (fun h5 => ?_)
    · skip
      refine And.intro (by omega) ?_
      refine And.intro rfl ?_
      exact ⟨by omega, rfl⟩
    · skip
      refine And.intro (And.intro hI (And.intro (by omega) (by omega))) ?_
      intro v10 M10 a10 b10 q10
      obtain ⟨q10, z10⟩ := q10
      subst z10
      refine And.intro (fun h13 => ?_) (fun h13 => ?_)
      · skip
        refine And.intro (by omega) ?_
        refine And.intro rfl ?_
        exact ⟨by omega, rfl⟩
      · skip
        refine And.intro (by omega) ?_
        refine And.intro rfl ?_
        exact ⟨by omega, rfl⟩
theorem v_X12_canPaper {fr lo i : Nat} {own : String} (h1 : 3 + 1 ≤ fr) (h2 : 8 + (2 + 11) + 64 ≤ lo) (h3 : .methodLink own i yX12_canPaper ∈ lw_tbl) : pz_cV fr lo own i k_X12_canPaper :=
  pz_cVk (maxL := 2) (fr' := 3) (lo' := 64) 1 12 h_X12_canPaper rfl ⟨by decide +kernel, by decide +kernel, by decide +kernel⟩ ⟨by decide +kernel, by decide +kernel, by decide +kernel, by decide +kernel⟩ (Or.inl ⟨TX12, 28, rfl⟩) (fun a M _ h => by
    have h : (match (generalizing := false) a with | [.inr (.inr (12, th)), .inl i] => pz_im M | _ => False) := h
    split at h
    · exact ⟨_, _, rfl⟩
    · exact h.elim) h1 h2 h3
def k_X12_getsReady : pz_C := (2, 0, fun a M => (match a with | [.inr (.inr (12, th)), .inl i] => pz_im M ∧ 0 ≤ i ∧ i < 12 | _ => False), fun a M r M' => (match a, r with | [.inr (.inr (12, th)), .inl i], none => (True) ∧ pz_sm M M' | _, _ => False))
abbrev ct_X12_getsReady : List (Bool × Nat × pz_C) := [(true, 323, k_X12_notes)]
set_option maxRecDepth 100000 in
set_option maxHeartbeats 4000000 in
theorem h_X12_getsReady : pz_H yX12_getsReady cX12_getsReady 2 none k_X12_getsReady 1 24 := by
  refine pz_mk (own := RX12) (tb := t_X12_getsReady) (fl := pz_flf fl_RX12) (ci := pz_cif ci_RX12) (ct := pz_ctf ct_X12_getsReady) (rz := false) (by decide +kernel) rfl t_X12_getsReady_ok (pz_flk fl_RX12_ok) (pz_cik ci_RX12_ok) ?_ ?_ (rfl) ?_ ?_
  · exact fun i k' h => pz_ctk (l := ct_X12_getsReady) (P := fun b i k => b = true → pz_cV 1 24 RX12 i k) (List.forall_mem_cons.mpr ⟨(fun _ => v_X12_notes (by decide) (by decide) (by decide +kernel)), fun _ h => absurd h List.not_mem_nil⟩) true i k' h rfl
  · exact fun i k' h => pz_ctk (l := ct_X12_getsReady) (P := fun b i k => b = false → (pz_cS 1 24 RX12 i k ∨ (k = pz_kac ∧ 1 ≤ 1 ∧ 60 ≤ 24 ∧ Cond.methodLink RX12 i arraycopyName ∈ pz_tbl))) (List.forall_mem_cons.mpr ⟨((fun z => by cases z)), fun _ h => absurd h List.not_mem_nil⟩) false i k' h rfl
  · intro a M hlen hpre
    obtain ⟨th, i, rfl, hpre⟩ : ∃ th i, a = [.inr (.inr (12, th)), .inl i] ∧ (pz_im M ∧ 0 ≤ i ∧ i < 12) := by
      have hpre : (match (generalizing := false) a with | [.inr (.inr (12, th)), .inl i] => pz_im M ∧ 0 ≤ i ∧ i < 12 | _ => False) := hpre
      split at hpre
      · exact ⟨_, _, rfl, hpre⟩
      · exact hpre.elim
    exact Nat.le_of_ble_eq_true rfl
  · intro a M hlen hcan hM hpre Ok hgo
    obtain ⟨th, i, rfl, hpre⟩ : ∃ th i, a = [.inr (.inr (12, th)), .inl i] ∧ (pz_im M ∧ 0 ≤ i ∧ i < 12) := by
      have hpre : (match (generalizing := false) a with | [.inr (.inr (12, th)), .inl i] => pz_im M ∧ 0 ≤ i ∧ i < 12 | _ => False) := hpre
      split at hpre
      · exact ⟨_, _, rfl, hpre⟩
      · exact hpre.elim
    obtain ⟨k_th, hc_th⟩ := pz_tlm hcan
    have k_th : pz_kd th = 12 ∧ th < 231 := k_th
    have R_th := pz_kd12 k_th.1
    subst R_th
    obtain ⟨k_i, hc_i⟩ := pz_tlm hc_th
    have l_i : -2147483648 ≤ i := k_i.1
    have u_i : i ≤ 2147483647 := k_i.2
    have hI : pz_im M := hpre.1
    have hI0 := hI
    have hS : pz_sm M M := pz_sm.rf
    refine hgo (fun _ => false) 15 0 _ [] M ?_
    intro r1 e1 k1
    have e1 : r1 = 60 := e1
    subst e1
    intro v7 e7 a7 b7
    try rw [pz_wi (by omega) (by omega)] at e7
    refine And.intro (by omega) (And.intro (show _ < (1725 : Int) from by omega) ?_)
    intro M9 e9
    have hS : pz_sm M M9 := by
      rw [e9]
      exact pz_sm_u hS (by unfold pz_mid; omega) (by omega) (by omega) (by unfold pz_iom; omega)
    have hI : pz_im M9 := hS.1.1.1 hI0
    refine And.intro (hI) ?_
    intro M14 q14
    obtain ⟨q14, z14⟩ := q14
    have hS : pz_sm M M14 := hS.tr z14
    have hI : pz_im M14 := hS.1.1.1 hI0
    refine And.intro rfl ?_
    exact ⟨trivial, hS⟩
theorem v_X12_getsReady {fr lo i : Nat} {own : String} (h1 : 1 + 1 ≤ fr) (h2 : 8 + (2 + 11) + 24 ≤ lo) (h3 : .methodLink own i yX12_getsReady ∈ lw_tbl) : pz_cV fr lo own i k_X12_getsReady :=
  pz_cVk (maxL := 2) (fr' := 1) (lo' := 24) 1 12 h_X12_getsReady rfl ⟨by decide +kernel, by decide +kernel, by decide +kernel⟩ ⟨by decide +kernel, by decide +kernel, by decide +kernel, by decide +kernel⟩ (Or.inl ⟨TX12, 28, rfl⟩) (fun a M _ h => by
    have h : (match (generalizing := false) a with | [.inr (.inr (12, th)), .inl i] => pz_im M ∧ 0 ≤ i ∧ i < 12 | _ => False) := h
    split at h
    · exact ⟨_, _, rfl⟩
    · exact h.elim) h1 h2 h3
