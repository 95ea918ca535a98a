theorem pz_une {M : pz_M} {a k b j : Nat} {v : Int} (h : ¬ (b = a ∧ j = k)) : pz_u M a k v b j = M b j := if_neg h
theorem pz_iom_w {k : Nat} {v : Int} (h1 : k ≤ 840) (h2 : k ≠ 88 ∧ k ≠ 89 ∧ k ≠ 90 ∧ k ≠ 92 ∧ k ≠ 3) : pz_iom 60 k v := by unfold pz_iom; omega
theorem pz_iom_a {a k : Nat} {v : Int} (h : 64 ≤ a ∧ a < 71) : pz_iom a k v := by unfold pz_iom; omega
theorem pz_iom_f {k : Nat} {v : Int} (h : k ≠ 4 ∧ k ≠ 13 ∧ k ≠ 14 ∧ k ≠ 15 ∧ k ≠ 16 ∧ k ≠ 17 ∧ k ≠ 19) : pz_iom 1 k v := by unfold pz_iom; omega
theorem pz_iom_4 {v : Int} (h : 0 ≤ v ∧ v ≤ 6) : pz_iom 1 4 v := by unfold pz_iom; omega
theorem pz_iom_13 {v : Int} (h : 0 ≤ v ∧ v ≤ 16) : pz_iom 1 13 v := by unfold pz_iom; omega
theorem pz_iom_14 {v : Int} (h : 0 ≤ v ∧ v ≤ 410) : pz_iom 1 14 v := by unfold pz_iom; omega
theorem pz_iom_15 {v : Int} (h : 0 ≤ v ∧ v ≤ 16) : pz_iom 1 15 v := by unfold pz_iom; omega
theorem pz_iom_16 {v : Int} (h : 0 ≤ v ∧ v ≤ 400) : pz_iom 1 16 v := by unfold pz_iom; omega
theorem pz_iom_17 {v : Int} (h : 0 ≤ v ∧ v ≤ 400) : pz_iom 1 17 v := by unfold pz_iom; omega
theorem pz_iom_19 {v : Int} (h : 0 ≤ v ∧ v ≤ 400) : pz_iom 1 19 v := by unfold pz_iom; omega
def k_X12_isIn : pz_C := (3, 1, fun a M => (match a with | [.inl x, .inl y, .inl z] => True | _ => False), fun a M r M' => (match a, r with | [.inl x, .inl y, .inl z], some (.inl v) => ((v = 1 ∧ y ≤ x ∧ x ≤ z) ∨ (v = 0 ∧ ¬ (y ≤ x ∧ x ≤ z))) ∧ M = M' | _, _ => False))
abbrev ct_X12_isIn : List (Bool × Nat × pz_C) := []
set_option maxRecDepth 100000 in
set_option maxHeartbeats 4000000 in
theorem h_X12_isIn : pz_H yX12_isIn cX12_isIn 3 (some .boolean) k_X12_isIn 0 0 := by
  refine pz_mk (own := RX12) (tb := t_X12_isIn) (fl := pz_flf fl_RX12) (ci := pz_cif ci_RX12) (ct := pz_ctf ct_X12_isIn) (rz := true) (by decide +kernel) rfl t_X12_isIn_ok (pz_flk fl_RX12_ok) (pz_cik ci_RX12_ok) ?_ ?_ (Or.inr ⟨rfl, rfl⟩) ?_ ?_
  · exact fun i k' h => pz_ctk (l := ct_X12_isIn) (P := fun b i k => b = true → pz_cV 0 0 RX12 i k) (fun _ h => absurd h List.not_mem_nil) true i k' h rfl
  · exact fun i k' h => pz_ctk (l := ct_X12_isIn) (P := fun b i k => b = false → (pz_cS 0 0 RX12 i k ∨ (k = pz_kac ∧ 1 ≤ 0 ∧ 60 ≤ 0 ∧ Cond.methodLink RX12 i arraycopyName ∈ pz_tbl))) (fun _ h => absurd h List.not_mem_nil) false i k' h rfl
  · intro a M hlen hpre
    obtain ⟨x, y, z, rfl, hpre⟩ : ∃ x y z, a = [.inl x, .inl y, .inl z] ∧ (True) := by
      have hpre : (match (generalizing := false) a with | [.inl x, .inl y, .inl z] => True | _ => False) := hpre
      split at hpre
      · exact ⟨_, _, _, rfl, hpre⟩
      · exact hpre.elim
    exact Nat.le_of_ble_eq_true rfl
  · intro a M hlen hcan hM hpre Ok hgo
    obtain ⟨x, y, z, rfl, hpre⟩ : ∃ x y z, a = [.inl x, .inl y, .inl z] ∧ (True) := by
      have hpre : (match (generalizing := false) a with | [.inl x, .inl y, .inl z] => True | _ => False) := hpre
      split at hpre
      · exact ⟨_, _, _, rfl, hpre⟩
      · exact hpre.elim
    obtain ⟨k_x, hc_x⟩ := pz_tlm hcan
    have l_x : -2147483648 ≤ x := k_x.1
    have u_x : x ≤ 2147483647 := k_x.2
    obtain ⟨k_y, hc_y⟩ := pz_tlm hc_x
    have l_y : -2147483648 ≤ y := k_y.1
    have u_y : y ≤ 2147483647 := k_y.2
    obtain ⟨k_z, hc_z⟩ := pz_tlm hc_y
    have l_z : -2147483648 ≤ z := k_z.1
    have u_z : z ≤ 2147483647 := k_z.2
    refine hgo (fun _ => false) 12 0 _ [] M ?_
    refine And.intro (fun h2 => ?_) (fun h2 => ?_)
    · skip
      refine And.intro (by omega) ?_
      refine And.intro rfl ?_
      exact ⟨by omega, rfl⟩
    · skip
      refine And.intro (fun h7 => ?_) (fun h7 => ?_)
      · skip
        refine And.intro (by omega) ?_
        refine And.intro rfl ?_
        exact ⟨by omega, rfl⟩
      · skip
        refine And.intro (by omega) ?_
        refine And.intro rfl ?_
        exact ⟨by omega, rfl⟩
theorem s_X12_isIn {fr lo i : Nat} {own : String} (h1 : 0 + 1 ≤ fr) (h2 : 8 + (3 + 11) + 0 ≤ lo) (h3 : .methodLink own i yX12_isIn ∈ lw_tbl ∨ (own = RX1 ∧ i = 35 ∧ yX12_isIn = yX11_within)) : pz_cS fr lo own i k_X12_isIn := pz_cSk (maxL := 3) (fr' := 0) (lo' := 0) 3 h_X12_isIn rfl ⟨by decide +kernel, by decide +kernel, by decide +kernel⟩ ⟨by decide +kernel, by decide +kernel, by decide +kernel⟩ h1 h2 h3
def k_X12_lesser : pz_C := (2, 1, fun a M => (match a with | [.inl x, .inl y] => True | _ => False), fun a M r M' => (match a, r with | [.inl x, .inl y], some (.inl v) => (v ≤ x ∧ v ≤ y ∧ (v = x ∨ v = y)) ∧ M = M' | _, _ => False))
abbrev ct_X12_lesser : List (Bool × Nat × pz_C) := []
set_option maxRecDepth 100000 in
set_option maxHeartbeats 4000000 in
theorem h_X12_lesser : pz_H yX12_lesser cX12_lesser 2 (some .int) k_X12_lesser 0 0 := by
  refine pz_mk (own := RX12) (tb := t_X12_lesser) (fl := pz_flf fl_RX12) (ci := pz_cif ci_RX12) (ct := pz_ctf ct_X12_lesser) (rz := false) (by decide +kernel) rfl t_X12_lesser_ok (pz_flk fl_RX12_ok) (pz_cik ci_RX12_ok) ?_ ?_ (Or.inl ⟨rfl, rfl⟩) ?_ ?_
  · exact fun i k' h => pz_ctk (l := ct_X12_lesser) (P := fun b i k => b = true → pz_cV 0 0 RX12 i k) (fun _ h => absurd h List.not_mem_nil) true i k' h rfl
  · exact fun i k' h => pz_ctk (l := ct_X12_lesser) (P := fun b i k => b = false → (pz_cS 0 0 RX12 i k ∨ (k = pz_kac ∧ 1 ≤ 0 ∧ 60 ≤ 0 ∧ Cond.methodLink RX12 i arraycopyName ∈ pz_tbl))) (fun _ h => absurd h List.not_mem_nil) false i k' h rfl
  · intro a M hlen hpre
    obtain ⟨x, y, rfl, hpre⟩ : ∃ x y, a = [.inl x, .inl y] ∧ (True) := by
      have hpre : (match (generalizing := false) a with | [.inl x, .inl y] => True | _ => False) := hpre
      split at hpre
      · exact ⟨_, _, rfl, hpre⟩
      · exact hpre.elim
    exact Nat.le_of_ble_eq_true rfl
  · intro a M hlen hcan hM hpre Ok hgo
    obtain ⟨x, y, rfl, hpre⟩ : ∃ x y, a = [.inl x, .inl y] ∧ (True) := by
      have hpre : (match (generalizing := false) a with | [.inl x, .inl y] => True | _ => False) := hpre
      split at hpre
      · exact ⟨_, _, rfl, hpre⟩
      · exact hpre.elim
    obtain ⟨k_x, hc_x⟩ := pz_tlm hcan
    have l_x : -2147483648 ≤ x := k_x.1
    have u_x : x ≤ 2147483647 := k_x.2
    obtain ⟨k_y, hc_y⟩ := pz_tlm hc_x
    have l_y : -2147483648 ≤ y := k_y.1
    have u_y : y ≤ 2147483647 := k_y.2
    refine hgo (fun _ => false) 9 0 _ [] M ?_
    refine And.intro (fun h2 => ?_) (fun h2 => ?_)
    · skip
      refine And.intro rfl ?_
      exact ⟨by omega, rfl⟩
    · skip
      refine And.intro rfl ?_
      exact ⟨by omega, rfl⟩
theorem s_X12_lesser {fr lo i : Nat} {own : String} (h1 : 0 + 1 ≤ fr) (h2 : 8 + (2 + 11) + 0 ≤ lo) (h3 : .methodLink own i yX12_lesser ∈ lw_tbl ∨ (own = RX1 ∧ i = 35 ∧ yX12_lesser = yX11_within)) : pz_cS fr lo own i k_X12_lesser := pz_cSk (maxL := 2) (fr' := 0) (lo' := 0) 2 h_X12_lesser rfl ⟨by decide +kernel, by decide +kernel, by decide +kernel⟩ ⟨by decide +kernel, by decide +kernel, by decide +kernel⟩ h1 h2 h3
def k_X12_greater : pz_C := (2, 1, fun a M => (match a with | [.inl x, .inl y] => True | _ => False), fun a M r M' => (match a, r with | [.inl x, .inl y], some (.inl v) => (x ≤ v ∧ y ≤ v ∧ (v = x ∨ v = y)) ∧ M = M' | _, _ => False))
abbrev ct_X12_greater : List (Bool × Nat × pz_C) := []
set_option maxRecDepth 100000 in
set_option maxHeartbeats 4000000 in
theorem h_X12_greater : pz_H yX12_greater cX12_greater 2 (some .int) k_X12_greater 0 0 := by
  refine pz_mk (own := RX12) (tb := t_X12_greater) (fl := pz_flf fl_RX12) (ci := pz_cif ci_RX12) (ct := pz_ctf ct_X12_greater) (rz := false) (by decide +kernel) rfl t_X12_greater_ok (pz_flk fl_RX12_ok) (pz_cik ci_RX12_ok) ?_ ?_ (Or.inl ⟨rfl, rfl⟩) ?_ ?_
  · exact fun i k' h => pz_ctk (l := ct_X12_greater) (P := fun b i k => b = true → pz_cV 0 0 RX12 i k) (fun _ h => absurd h List.not_mem_nil) true i k' h rfl
  · exact fun i k' h => pz_ctk (l := ct_X12_greater) (P := fun b i k => b = false → (pz_cS 0 0 RX12 i k ∨ (k = pz_kac ∧ 1 ≤ 0 ∧ 60 ≤ 0 ∧ Cond.methodLink RX12 i arraycopyName ∈ pz_tbl))) (fun _ h => absurd h List.not_mem_nil) false i k' h rfl
  · intro a M hlen hpre
    obtain ⟨x, y, rfl, hpre⟩ : ∃ x y, a = [.inl x, .inl y] ∧ (True) := by
      have hpre : (match (generalizing := false) a with | [.inl x, .inl y] => True | _ => False) := hpre
      split at hpre
      · exact ⟨_, _, rfl, hpre⟩
      · exact hpre.elim
    exact Nat.le_of_ble_eq_true rfl
  · intro a M hlen hcan hM hpre Ok hgo
    obtain ⟨x, y, rfl, hpre⟩ : ∃ x y, a = [.inl x, .inl y] ∧ (True) := by
      have hpre : (match (generalizing := false) a with | [.inl x, .inl y] => True | _ => False) := hpre
      split at hpre
      · exact ⟨_, _, rfl, hpre⟩
      · exact hpre.elim
    obtain ⟨k_x, hc_x⟩ := pz_tlm hcan
    have l_x : -2147483648 ≤ x := k_x.1
    have u_x : x ≤ 2147483647 := k_x.2
    obtain ⟨k_y, hc_y⟩ := pz_tlm hc_x
    have l_y : -2147483648 ≤ y := k_y.1
    have u_y : y ≤ 2147483647 := k_y.2
    refine hgo (fun _ => false) 9 0 _ [] M ?_
    refine And.intro (fun h2 => ?_) (fun h2 => ?_)
    · skip
      refine And.intro rfl ?_
      exact ⟨by omega, rfl⟩
    · skip
      refine And.intro rfl ?_
      exact ⟨by omega, rfl⟩
theorem s_X12_greater {fr lo i : Nat} {own : String} (h1 : 0 + 1 ≤ fr) (h2 : 8 + (2 + 11) + 0 ≤ lo) (h3 : .methodLink own i yX12_greater ∈ lw_tbl ∨ (own = RX1 ∧ i = 35 ∧ yX12_greater = yX11_within)) : pz_cS fr lo own i k_X12_greater := pz_cSk (maxL := 2) (fr' := 0) (lo' := 0) 2 h_X12_greater rfl ⟨by decide +kernel, by decide +kernel, by decide +kernel⟩ ⟨by decide +kernel, by decide +kernel, by decide +kernel⟩ h1 h2 h3
def k_X12_held : pz_C := (3, 1, fun a M => (match a with | [.inl x, .inl y, .inl z] => True | _ => False), fun a M r M' => (match a, r with | [.inl x, .inl y, .inl z], some (.inl v) => (True) ∧ M = M' | _, _ => False))
abbrev ct_X12_held : List (Bool × Nat × pz_C) := [(false, 47, k_X12_lesser), (false, 51, k_X12_greater)]
set_option maxRecDepth 100000 in
set_option maxHeartbeats 4000000 in
theorem h_X12_held : pz_H yX12_held cX12_held 3 (some .int) k_X12_held 1 21 := by
  refine pz_mk (own := RX12) (tb := t_X12_held) (fl := pz_flf fl_RX12) (ci := pz_cif ci_RX12) (ct := pz_ctf ct_X12_held) (rz := false) (by decide +kernel) rfl t_X12_held_ok (pz_flk fl_RX12_ok) (pz_cik ci_RX12_ok) ?_ ?_ (Or.inl ⟨rfl, rfl⟩) ?_ ?_
  · exact fun i k' h => pz_ctk (l := ct_X12_held) (P := fun b i k => b = true → pz_cV 1 21 RX12 i k) (List.forall_mem_cons.mpr ⟨((fun z => by cases z)), List.forall_mem_cons.mpr ⟨((fun z => by cases z)), fun _ h => absurd h List.not_mem_nil⟩⟩) true i k' h rfl
  · exact fun i k' h => pz_ctk (l := ct_X12_held) (P := fun b i k => b = false → (pz_cS 1 21 RX12 i k ∨ (k = pz_kac ∧ 1 ≤ 1 ∧ 60 ≤ 21 ∧ Cond.methodLink RX12 i arraycopyName ∈ pz_tbl))) (List.forall_mem_cons.mpr ⟨(fun _ => Or.inl (s_X12_lesser (by decide) (by decide) (Or.inl (by decide +kernel)))), List.forall_mem_cons.mpr ⟨(fun _ => Or.inl (s_X12_greater (by decide) (by decide) (Or.inl (by decide +kernel)))), fun _ h => absurd h List.not_mem_nil⟩⟩) false i k' h rfl
  · intro a M hlen hpre
    obtain ⟨x, y, z, rfl, hpre⟩ : ∃ x y z, a = [.inl x, .inl y, .inl z] ∧ (True) := by
      have hpre : (match (generalizing := false) a with | [.inl x, .inl y, .inl z] => True | _ => False) := hpre
      split at hpre
      · exact ⟨_, _, _, rfl, hpre⟩
      · exact hpre.elim
    exact Nat.le_of_ble_eq_true rfl
  · intro a M hlen hcan hM hpre Ok hgo
    obtain ⟨x, y, z, rfl, hpre⟩ : ∃ x y z, a = [.inl x, .inl y, .inl z] ∧ (True) := by
      have hpre : (match (generalizing := false) a with | [.inl x, .inl y, .inl z] => True | _ => False) := hpre
      split at hpre
      · exact ⟨_, _, _, rfl, hpre⟩
      · exact hpre.elim
    obtain ⟨k_x, hc_x⟩ := pz_tlm hcan
    have l_x : -2147483648 ≤ x := k_x.1
    have u_x : x ≤ 2147483647 := k_x.2
    obtain ⟨k_y, hc_y⟩ := pz_tlm hc_x
    have l_y : -2147483648 ≤ y := k_y.1
    have u_y : y ≤ 2147483647 := k_y.2
    obtain ⟨k_z, hc_z⟩ := pz_tlm hc_y
    have l_z : -2147483648 ≤ z := k_z.1
    have u_z : z ≤ 2147483647 := k_z.2
    refine hgo (fun _ => false) 8 0 _ [] M ?_
    refine And.intro (True.intro) ?_
    intro v3 M3 a3 b3 q3
    obtain ⟨q3, z3⟩ := q3
    subst z3
    refine And.intro (True.intro) ?_
    intro v6 M6 a6 b6 q6
    obtain ⟨q6, z6⟩ := q6
    subst z6
    refine And.intro rfl ?_
    exact ⟨trivial, rfl⟩
theorem s_X12_held {fr lo i : Nat} {own : String} (h1 : 1 + 1 ≤ fr) (h2 : 8 + (3 + 11) + 21 ≤ lo) (h3 : .methodLink own i yX12_held ∈ lw_tbl ∨ (own = RX1 ∧ i = 35 ∧ yX12_held = yX11_within)) : pz_cS fr lo own i k_X12_held := pz_cSk (maxL := 3) (fr' := 1) (lo' := 21) 3 h_X12_held rfl ⟨by decide +kernel, by decide +kernel, by decide +kernel⟩ ⟨by decide +kernel, by decide +kernel, by decide +kernel⟩ h1 h2 h3
def k_X12_isLink : pz_C := (2, 1, fun a M => (match a with | [.inr (.inr (12, th)), .inl i] => pz_im M | _ => False), fun a M r M' => (match a, r with | [.inr (.inr (12, th)), .inl i], some (.inl v) => ((v = 1 ∧ 0 ≤ i ∧ i < M 60 88 ∧ M 60 88 ≤ 12) ∨ v = 0) ∧ M = M' | _, _ => False))
abbrev ct_X12_isLink : List (Bool × Nat × pz_C) := [(false, 54, k_X12_isIn)]
set_option maxRecDepth 100000 in
set_option maxHeartbeats 4000000 in
theorem h_X12_isLink : pz_H yX12_isLink cX12_isLink 2 (some .boolean) k_X12_isLink 1 22 := by
  refine pz_mk (own := RX12) (tb := t_X12_isLink) (fl := pz_flf fl_RX12) (ci := pz_cif ci_RX12) (ct := pz_ctf ct_X12_isLink) (rz := true) (by decide +kernel) rfl t_X12_isLink_ok (pz_flk fl_RX12_ok) (pz_cik ci_RX12_ok) ?_ ?_ (Or.inr ⟨rfl, rfl⟩) ?_ ?_
  · exact fun i k' h => pz_ctk (l := ct_X12_isLink) (P := fun b i k => b = true → pz_cV 1 22 RX12 i k) (List.forall_mem_cons.mpr ⟨((fun z => by cases z)), fun _ h => absurd h List.not_mem_nil⟩) true i k' h rfl
  · exact fun i k' h => pz_ctk (l := ct_X12_isLink) (P := fun b i k => b = false → (pz_cS 1 22 RX12 i k ∨ (k = pz_kac ∧ 1 ≤ 1 ∧ 60 ≤ 22 ∧ Cond.methodLink RX12 i arraycopyName ∈ pz_tbl))) (List.forall_mem_cons.mpr ⟨(fun _ => Or.inl (s_X12_isIn (by decide) (by decide) (Or.inl (by decide +kernel)))), fun _ h => absurd h List.not_mem_nil⟩) false i k' h rfl
  · intro a M hlen hpre
    obtain ⟨th, i, rfl, hpre⟩ : ∃ th i, a = [.inr (.inr (12, th)), .inl i] ∧ (pz_im M) := by
      have hpre : (match (generalizing := false) a with | [.inr (.inr (12, th)), .inl i] => pz_im M | _ => False) := hpre
      split at hpre
      · exact ⟨_, _, rfl, hpre⟩
      · exact hpre.elim
    exact Nat.le_of_ble_eq_true rfl
  · intro a M hlen hcan hM hpre Ok hgo
    obtain ⟨th, i, rfl, hpre⟩ : ∃ th i, a = [.inr (.inr (12, th)), .inl i] ∧ (pz_im M) := by
      have hpre : (match (generalizing := false) a with | [.inr (.inr (12, th)), .inl i] => pz_im M | _ => False) := hpre
      split at hpre
      · exact ⟨_, _, rfl, hpre⟩
      · exact hpre.elim
    obtain ⟨k_th, hc_th⟩ := pz_tlm hcan
    have k_th : pz_kd th = 12 ∧ th < 231 := k_th
    have R_th := pz_kd12 k_th.1
    subst R_th
    obtain ⟨k_i, hc_i⟩ := pz_tlm hc_th
    have l_i : -2147483648 ≤ i := k_i.1
    have u_i : i ≤ 2147483647 := k_i.2
    have hI : pz_im M := hpre
    refine hgo (fun _ => false) 12 0 _ [] M ?_
    intro r3 e3 k3
    have e3 : r3 = 60 := e3
    subst e3
    refine And.intro (by omega) (And.intro (show _ < (1725 : Int) from by omega) ?_)
    intro v8 e8 a8 b8
    have e8 : v8 = M 60 88 := e8
    have I8 := hI.1.1
    clear a8 b8
    intro v10 e10 a10 b10
    rw [pz_wi (by omega) (by omega)] at e10
    clear a10 b10
    refine And.intro (True.intro) ?_
    intro v11 M11 a11 b11 q11
    obtain ⟨q11, z11⟩ := q11
    subst z11
    clear a11 b11
    refine And.intro (by omega) ?_
    refine And.intro rfl ?_
    exact ⟨by omega, rfl⟩
theorem v_X12_isLink {fr lo i : Nat} {own : String} (h1 : 1 + 1 ≤ fr) (h2 : 8 + (2 + 11) + 22 ≤ lo) (h3 : .methodLink own i yX12_isLink ∈ lw_tbl) : pz_cV fr lo own i k_X12_isLink :=
  pz_cVk (maxL := 2) (fr' := 1) (lo' := 22) 1 12 h_X12_isLink rfl ⟨by decide +kernel, by decide +kernel, by decide +kernel⟩ ⟨by decide +kernel, by decide +kernel, by decide +kernel, by decide +kernel⟩ (Or.inl ⟨TX12, 28, rfl⟩) (fun a M _ h => by
    have h : (match (generalizing := false) a with | [.inr (.inr (12, th)), .inl i] => pz_im M | _ => False) := h
    split at h
    · exact ⟨_, _, rfl⟩
    · exact h.elim) h1 h2 h3
def k_X12_isReady : pz_C := (2, 1, fun a M => (match a with | [.inr (.inr (12, th)), .inl i] => pz_im M ∧ -40 ≤ i ∧ i ≤ 1000 | _ => False), fun a M r M' => (match a, r with | [.inr (.inr (12, th)), .inl i], some (.inl v) => (v = 0 ∨ v = 1) ∧ M = M' | _, _ => False))
abbrev ct_X12_isReady : List (Bool × Nat × pz_C) := []
set_option maxRecDepth 100000 in
set_option maxHeartbeats 4000000 in
theorem h_X12_isReady : pz_H yX12_isReady cX12_isReady 2 (some .boolean) k_X12_isReady 0 0 := by
  refine pz_mk (own := RX12) (tb := t_X12_isReady) (fl := pz_flf fl_RX12) (ci := pz_cif ci_RX12) (ct := pz_ctf ct_X12_isReady) (rz := true) (by decide +kernel) rfl t_X12_isReady_ok (pz_flk fl_RX12_ok) (pz_cik ci_RX12_ok) ?_ ?_ (Or.inr ⟨rfl, rfl⟩) ?_ ?_
  · exact fun i k' h => pz_ctk (l := ct_X12_isReady) (P := fun b i k => b = true → pz_cV 0 0 RX12 i k) (fun _ h => absurd h List.not_mem_nil) true i k' h rfl
  · exact fun i k' h => pz_ctk (l := ct_X12_isReady) (P := fun b i k => b = false → (pz_cS 0 0 RX12 i k ∨ (k = pz_kac ∧ 1 ≤ 0 ∧ 60 ≤ 0 ∧ Cond.methodLink RX12 i arraycopyName ∈ pz_tbl))) (fun _ h => absurd h List.not_mem_nil) false i k' h rfl
  · intro a M hlen hpre
    obtain ⟨th, i, rfl, hpre⟩ : ∃ th i, a = [.inr (.inr (12, th)), .inl i] ∧ (pz_im M ∧ -40 ≤ i ∧ i ≤ 1000) := by
      have hpre : (match (generalizing := false) a with | [.inr (.inr (12, th)), .inl i] => pz_im M ∧ -40 ≤ i ∧ i ≤ 1000 | _ => False) := hpre
      split at hpre
      · exact ⟨_, _, rfl, hpre⟩
      · exact hpre.elim
    exact Nat.le_of_ble_eq_true rfl
  · intro a M hlen hcan hM hpre Ok hgo
    obtain ⟨th, i, rfl, hpre⟩ : ∃ th i, a = [.inr (.inr (12, th)), .inl i] ∧ (pz_im M ∧ -40 ≤ i ∧ i ≤ 1000) := by
      have hpre : (match (generalizing := false) a with | [.inr (.inr (12, th)), .inl i] => pz_im M ∧ -40 ≤ i ∧ i ≤ 1000 | _ => False) := hpre
      split at hpre
      · exact ⟨_, _, rfl, hpre⟩
      · exact hpre.elim
    obtain ⟨k_th, hc_th⟩ := pz_tlm hcan
    have k_th : pz_kd th = 12 ∧ th < 231 := k_th
    have R_th := pz_kd12 k_th.1
    subst R_th
    obtain ⟨k_i, hc_i⟩ := pz_tlm hc_th
    have l_i : -2147483648 ≤ i := k_i.1
    have u_i : i ≤ 2147483647 := k_i.2
    have hI : pz_im M := hpre.1
    refine hgo (fun _ => false) 14 0 _ [] M ?_
    intro r1 e1 k1
    have e1 : r1 = 60 := e1
    subst e1
    intro v7 e7 a7 b7
    rw [pz_wi (by omega) (by omega)] at e7
    clear a7 b7
    refine And.intro (by omega) (And.intro (show _ < (1725 : Int) from by omega) ?_)
    intro v8 e8 a8 b8
    refine And.intro (fun h10 => ?_) (fun h10 => ?_)
    · skip
      refine And.intro (by omega) ?_
      refine And.intro rfl ?_
      exact ⟨by omega, rfl⟩
    · skip
      refine And.intro (by omega) ?_
      refine And.intro rfl ?_
      exact ⟨by omega, rfl⟩
theorem v_X12_isReady {fr lo i : Nat} {own : String} (h1 : 0 + 1 ≤ fr) (h2 : 8 + (2 + 11) + 0 ≤ lo) (h3 : .methodLink own i yX12_isReady ∈ lw_tbl) : pz_cV fr lo own i k_X12_isReady :=
  pz_cVk (maxL := 2) (fr' := 0) (lo' := 0) 1 12 h_X12_isReady rfl ⟨by decide +kernel, by decide +kernel, by decide +kernel⟩ ⟨by decide +kernel, by decide +kernel, by decide +kernel, by decide +kernel⟩ (Or.inl ⟨TX12, 28, rfl⟩) (fun a M _ h => by
    have h : (match (generalizing := false) a with | [.inr (.inr (12, th)), .inl i] => pz_im M ∧ -40 ≤ i ∧ i ≤ 1000 | _ => False) := h
    split at h
    · exact ⟨_, _, rfl⟩
    · exact h.elim) h1 h2 h3
def k_X12_isOut : pz_C := (2, 1, fun a M => (match a with | [.inr (.inr (12, th)), .inl i] => pz_im M ∧ -52 ≤ i ∧ i ≤ 1000 | _ => False), fun a M r M' => (match a, r with | [.inr (.inr (12, th)), .inl i], some (.inl v) => (v = 0 ∨ v = 1) ∧ M = M' | _, _ => False))
abbrev ct_X12_isOut : List (Bool × Nat × pz_C) := []
set_option maxRecDepth 100000 in
set_option maxHeartbeats 4000000 in
theorem h_X12_isOut : pz_H yX12_isOut cX12_isOut 2 (some .boolean) k_X12_isOut 0 0 := by
  refine pz_mk (own := RX12) (tb := t_X12_isOut) (fl := pz_flf fl_RX12) (ci := pz_cif ci_RX12) (ct := pz_ctf ct_X12_isOut) (rz := true) (by decide +kernel) rfl t_X12_isOut_ok (pz_flk fl_RX12_ok) (pz_cik ci_RX12_ok) ?_ ?_ (Or.inr ⟨rfl, rfl⟩) ?_ ?_
  · exact fun i k' h => pz_ctk (l := ct_X12_isOut) (P := fun b i k => b = true → pz_cV 0 0 RX12 i k) (fun _ h => absurd h List.not_mem_nil) true i k' h rfl
  · exact fun i k' h => pz_ctk (l := ct_X12_isOut) (P := fun b i k => b = false → (pz_cS 0 0 RX12 i k ∨ (k = pz_kac ∧ 1 ≤ 0 ∧ 60 ≤ 0 ∧ Cond.methodLink RX12 i arraycopyName ∈ pz_tbl))) (fun _ h => absurd h List.not_mem_nil) false i k' h rfl
  · intro a M hlen hpre
    obtain ⟨th, i, rfl, hpre⟩ : ∃ th i, a = [.inr (.inr (12, th)), .inl i] ∧ (pz_im M ∧ -52 ≤ i ∧ i ≤ 1000) := by
      have hpre : (match (generalizing := false) a with | [.inr (.inr (12, th)), .inl i] => pz_im M ∧ -52 ≤ i ∧ i ≤ 1000 | _ => False) := hpre
      split at hpre
      · exact ⟨_, _, rfl, hpre⟩
      · exact hpre.elim
    exact Nat.le_of_ble_eq_true rfl
  · intro a M hlen hcan hM hpre Ok hgo
    obtain ⟨th, i, rfl, hpre⟩ : ∃ th i, a = [.inr (.inr (12, th)), .inl i] ∧ (pz_im M ∧ -52 ≤ i ∧ i ≤ 1000) := by
      have hpre : (match (generalizing := false) a with | [.inr (.inr (12, th)), .inl i] => pz_im M ∧ -52 ≤ i ∧ i ≤ 1000 | _ => False) := hpre
      split at hpre
      · exact ⟨_, _, rfl, hpre⟩
      · exact hpre.elim
    obtain ⟨k_th, hc_th⟩ := pz_tlm hcan
    have k_th : pz_kd th = 12 ∧ th < 231 := k_th
    have R_th := pz_kd12 k_th.1
    subst R_th
    obtain ⟨k_i, hc_i⟩ := pz_tlm hc_th
    have l_i : -2147483648 ≤ i := k_i.1
    have u_i : i ≤ 2147483647 := k_i.2
    have hI : pz_im M := hpre.1
    refine hgo (fun _ => false) 14 0 _ [] M ?_
    intro r1 e1 k1
    have e1 : r1 = 60 := e1
    subst e1
    intro v7 e7 a7 b7
    rw [pz_wi (by omega) (by omega)] at e7
    clear a7 b7
    refine And.intro (by omega) (And.intro (show _ < (1725 : Int) from by omega) ?_)
    intro v8 e8 a8 b8
    refine And.intro (fun h10 => ?_) (fun h10 => ?_)
    · skip
      refine And.intro (by omega) ?_
      refine And.intro rfl ?_
      exact ⟨by omega, rfl⟩
    · skip
      refine And.intro (by omega) ?_
      refine And.intro rfl ?_
      exact ⟨by omega, rfl⟩
theorem v_X12_isOut {fr lo i : Nat} {own : String} (h1 : 0 + 1 ≤ fr) (h2 : 8 + (2 + 11) + 0 ≤ lo) (h3 : .methodLink own i yX12_isOut ∈ lw_tbl) : pz_cV fr lo own i k_X12_isOut :=
  pz_cVk (maxL := 2) (fr' := 0) (lo' := 0) 1 12 h_X12_isOut rfl ⟨by decide +kernel, by decide +kernel, by decide +kernel⟩ ⟨by decide +kernel, by decide +kernel, by decide +kernel, by decide +kernel⟩ (Or.inl ⟨TX12, 28, rfl⟩) (fun a M _ h => by
    have h : (match (generalizing := false) a with | [.inr (.inr (12, th)), .inl i] => pz_im M ∧ -52 ≤ i ∧ i ≤ 1000 | _ => False) := h
    split at h
    · exact ⟨_, _, rfl⟩
    · exact h.elim) h1 h2 h3
def k_X12_isBridged : pz_C := (2, 1, fun a M => (match a with | [.inr (.inr (12, th)), .inl i] => pz_im M ∧ -64 ≤ i ∧ i ≤ 1000 | _ => False), fun a M r M' => (match a, r with | [.inr (.inr (12, th)), .inl i], some (.inl v) => (v = 0 ∨ v = 1) ∧ M = M' | _, _ => False))
abbrev ct_X12_isBridged : List (Bool × Nat × pz_C) := []
set_option maxRecDepth 100000 in
set_option maxHeartbeats 4000000 in
theorem h_X12_isBridged : pz_H yX12_isBridged cX12_isBridged 2 (some .boolean) k_X12_isBridged 0 0 := by
  refine pz_mk (own := RX12) (tb := t_X12_isBridged) (fl := pz_flf fl_RX12) (ci := pz_cif ci_RX12) (ct := pz_ctf ct_X12_isBridged) (rz := true) (by decide +kernel) rfl t_X12_isBridged_ok (pz_flk fl_RX12_ok) (pz_cik ci_RX12_ok) ?_ ?_ (Or.inr ⟨rfl, rfl⟩) ?_ ?_
  · exact fun i k' h => pz_ctk (l := ct_X12_isBridged) (P := fun b i k => b = true → pz_cV 0 0 RX12 i k) (fun _ h => absurd h List.not_mem_nil) true i k' h rfl
  · exact fun i k' h => pz_ctk (l := ct_X12_isBridged) (P := fun b i k => b = false → (pz_cS 0 0 RX12 i k ∨ (k = pz_kac ∧ 1 ≤ 0 ∧ 60 ≤ 0 ∧ Cond.methodLink RX12 i arraycopyName ∈ pz_tbl))) (fun _ h => absurd h List.not_mem_nil) false i k' h rfl
  · intro a M hlen hpre
    obtain ⟨th, i, rfl, hpre⟩ : ∃ th i, a = [.inr (.inr (12, th)), .inl i] ∧ (pz_im M ∧ -64 ≤ i ∧ i ≤ 1000) := by
      have hpre : (match (generalizing := false) a with | [.inr (.inr (12, th)), .inl i] => pz_im M ∧ -64 ≤ i ∧ i ≤ 1000 | _ => False) := hpre
      split at hpre
      · exact ⟨_, _, rfl, hpre⟩
      · exact hpre.elim
    exact Nat.le_of_ble_eq_true rfl
  · intro a M hlen hcan hM hpre Ok hgo
    obtain ⟨th, i, rfl, hpre⟩ : ∃ th i, a = [.inr (.inr (12, th)), .inl i] ∧ (pz_im M ∧ -64 ≤ i ∧ i ≤ 1000) := by
      have hpre : (match (generalizing := false) a with | [.inr (.inr (12, th)), .inl i] => pz_im M ∧ -64 ≤ i ∧ i ≤ 1000 | _ => False) := hpre
      split at hpre
      · exact ⟨_, _, rfl, hpre⟩
      · exact hpre.elim
    obtain ⟨k_th, hc_th⟩ := pz_tlm hcan
    have k_th : pz_kd th = 12 ∧ th < 231 := k_th
    have R_th := pz_kd12 k_th.1
    subst R_th
    obtain ⟨k_i, hc_i⟩ := pz_tlm hc_th
    have l_i : -2147483648 ≤ i := k_i.1
    have u_i : i ≤ 2147483647 := k_i.2
    have hI : pz_im M := hpre.1
    refine hgo (fun _ => false) 14 0 _ [] M ?_
    intro r1 e1 k1
    have e1 : r1 = 60 := e1
    subst e1
    intro v7 e7 a7 b7
    rw [pz_wi (by omega) (by omega)] at e7
    clear a7 b7
    refine And.intro (by omega) (And.intro (show _ < (1725 : Int) from by omega) ?_)
    intro v8 e8 a8 b8
    refine And.intro (fun h10 => ?_) (fun h10 => ?_)
    · skip
      refine And.intro (by omega) ?_
      refine And.intro rfl ?_
      exact ⟨by omega, rfl⟩
    · skip
      refine And.intro (by omega) ?_
      refine And.intro rfl ?_
      exact ⟨by omega, rfl⟩
theorem v_X12_isBridged {fr lo i : Nat} {own : String} (h1 : 0 + 1 ≤ fr) (h2 : 8 + (2 + 11) + 0 ≤ lo) (h3 : .methodLink own i yX12_isBridged ∈ lw_tbl) : pz_cV fr lo own i k_X12_isBridged :=
  pz_cVk (maxL := 2) (fr' := 0) (lo' := 0) 1 12 h_X12_isBridged rfl ⟨by decide +kernel, by decide +kernel, by decide +kernel⟩ ⟨by decide +kernel, by decide +kernel, by decide +kernel, by decide +kernel⟩ (Or.inl ⟨TX12, 28, rfl⟩) (fun a M _ h => by
    have h : (match (generalizing := false) a with | [.inr (.inr (12, th)), .inl i] => pz_im M ∧ -64 ≤ i ∧ i ≤ 1000 | _ => False) := h
    split at h
    · exact ⟨_, _, rfl⟩
    · exact h.elim) h1 h2 h3
def k_X12_hasMoved : pz_C := (2, 1, fun a M => (match a with | [.inr (.inr (12, th)), .inl i] => pz_im M ∧ -76 ≤ i ∧ i ≤ 1000 | _ => False), fun a M r M' => (match a, r with | [.inr (.inr (12, th)), .inl i], some (.inl v) => (v = 0 ∨ v = 1) ∧ M = M' | _, _ => False))
abbrev ct_X12_hasMoved : List (Bool × Nat × pz_C) := []
set_option maxRecDepth 100000 in
set_option maxHeartbeats 4000000 in
theorem h_X12_hasMoved : pz_H yX12_hasMoved cX12_hasMoved 2 (some .boolean) k_X12_hasMoved 0 0 := by
  refine pz_mk (own := RX12) (tb := t_X12_hasMoved) (fl := pz_flf fl_RX12) (ci := pz_cif ci_RX12) (ct := pz_ctf ct_X12_hasMoved) (rz := true) (by decide +kernel) rfl t_X12_hasMoved_ok (pz_flk fl_RX12_ok) (pz_cik ci_RX12_ok) ?_ ?_ (Or.inr ⟨rfl, rfl⟩) ?_ ?_
  · exact fun i k' h => pz_ctk (l := ct_X12_hasMoved) (P := fun b i k => b = true → pz_cV 0 0 RX12 i k) (fun _ h => absurd h List.not_mem_nil) true i k' h rfl
  · exact fun i k' h => pz_ctk (l := ct_X12_hasMoved) (P := fun b i k => b = false → (pz_cS 0 0 RX12 i k ∨ (k = pz_kac ∧ 1 ≤ 0 ∧ 60 ≤ 0 ∧ Cond.methodLink RX12 i arraycopyName ∈ pz_tbl))) (fun _ h => absurd h List.not_mem_nil) false i k' h rfl
  · intro a M hlen hpre
    obtain ⟨th, i, rfl, hpre⟩ : ∃ th i, a = [.inr (.inr (12, th)), .inl i] ∧ (pz_im M ∧ -76 ≤ i ∧ i ≤ 1000) := by
      have hpre : (match (generalizing := false) a with | [.inr (.inr (12, th)), .inl i] => pz_im M ∧ -76 ≤ i ∧ i ≤ 1000 | _ => False) := hpre
      split at hpre
      · exact ⟨_, _, rfl, hpre⟩
      · exact hpre.elim
    exact Nat.le_of_ble_eq_true rfl
  · intro a M hlen hcan hM hpre Ok hgo
    obtain ⟨th, i, rfl, hpre⟩ : ∃ th i, a = [.inr (.inr (12, th)), .inl i] ∧ (pz_im M ∧ -76 ≤ i ∧ i ≤ 1000) := by
      have hpre : (match (generalizing := false) a with | [.inr (.inr (12, th)), .inl i] => pz_im M ∧ -76 ≤ i ∧ i ≤ 1000 | _ => False) := hpre
      split at hpre
      · exact ⟨_, _, rfl, hpre⟩
      · exact hpre.elim
    obtain ⟨k_th, hc_th⟩ := pz_tlm hcan
    have k_th : pz_kd th = 12 ∧ th < 231 := k_th
    have R_th := pz_kd12 k_th.1
    subst R_th
    obtain ⟨k_i, hc_i⟩ := pz_tlm hc_th
    have l_i : -2147483648 ≤ i := k_i.1
    have u_i : i ≤ 2147483647 := k_i.2
    have hI : pz_im M := hpre.1
    refine hgo (fun _ => false) 14 0 _ [] M ?_
    intro r1 e1 k1
    have e1 : r1 = 60 := e1
    subst e1
    intro v7 e7 a7 b7
    rw [pz_wi (by omega) (by omega)] at e7
    clear a7 b7
    refine And.intro (by omega) (And.intro (show _ < (1725 : Int) from by omega) ?_)
    intro v8 e8 a8 b8
    refine And.intro (fun h10 => ?_) (fun h10 => ?_)
    · skip
      refine And.intro (by omega) ?_
      refine And.intro rfl ?_
      exact ⟨by omega, rfl⟩
    · skip
      refine And.intro (by omega) ?_
      refine And.intro rfl ?_
      exact ⟨by omega, rfl⟩
theorem v_X12_hasMoved {fr lo i : Nat} {own : String} (h1 : 0 + 1 ≤ fr) (h2 : 8 + (2 + 11) + 0 ≤ lo) (h3 : .methodLink own i yX12_hasMoved ∈ lw_tbl) : pz_cV fr lo own i k_X12_hasMoved :=
  pz_cVk (maxL := 2) (fr' := 0) (lo' := 0) 1 12 h_X12_hasMoved rfl ⟨by decide +kernel, by decide +kernel, by decide +kernel⟩ ⟨by decide +kernel, by decide +kernel, by decide +kernel, by decide +kernel⟩ (Or.inl ⟨TX12, 28, rfl⟩) (fun a M _ h => by
    have h : (match (generalizing := false) a with | [.inr (.inr (12, th)), .inl i] => pz_im M ∧ -76 ≤ i ∧ i ≤ 1000 | _ => False) := h
    split at h
    · exact ⟨_, _, rfl⟩
    · exact h.elim) h1 h2 h3
def k_X12_isThere : pz_C := (2, 1, fun a M => (match a with | [.inr (.inr (12, th)), .inl i] => pz_im M | _ => False), fun a M r M' => (match a, r with | [.inr (.inr (12, th)), .inl i], some (.inl v) => ((v = 1 ∧ 0 ≤ i ∧ i < M 60 88 ∧ M 60 88 ≤ 12) ∨ v = 0) ∧ M = M' | _, _ => False))
abbrev ct_X12_isThere : List (Bool × Nat × pz_C) := [(true, 58, k_X12_isLink), (true, 62, k_X12_isOut), (true, 65, k_X12_hasMoved)]
set_option maxRecDepth 100000 in
set_option maxHeartbeats 4000000 in
theorem h_X12_isThere : pz_H yX12_isThere cX12_isThere 2 (some .boolean) k_X12_isThere 2 43 := by
  refine pz_mk (own := RX12) (tb := t_X12_isThere) (fl := pz_flf fl_RX12) (ci := pz_cif ci_RX12) (ct := pz_ctf ct_X12_isThere) (rz := true) (by decide +kernel) rfl t_X12_isThere_ok (pz_flk fl_RX12_ok) (pz_cik ci_RX12_ok) ?_ ?_ (Or.inr ⟨rfl, rfl⟩) ?_ ?_
  · exact fun i k' h => pz_ctk (l := ct_X12_isThere) (P := fun b i k => b = true → pz_cV 2 43 RX12 i k) (List.forall_mem_cons.mpr ⟨(fun _ => v_X12_isLink (by decide) (by decide) (by decide +kernel)), List.forall_mem_cons.mpr ⟨(fun _ => v_X12_isOut (by decide) (by decide) (by decide +kernel)), List.forall_mem_cons.mpr ⟨(fun _ => v_X12_hasMoved (by decide) (by decide) (by decide +kernel)), fun _ h => absurd h List.not_mem_nil⟩⟩⟩) true i k' h rfl
  · exact fun i k' h => pz_ctk (l := ct_X12_isThere) (P := fun b i k => b = false → (pz_cS 2 43 RX12 i k ∨ (k = pz_kac ∧ 1 ≤ 2 ∧ 60 ≤ 43 ∧ Cond.methodLink RX12 i arraycopyName ∈ pz_tbl))) (List.forall_mem_cons.mpr ⟨((fun z => by cases z)), List.forall_mem_cons.mpr ⟨((fun z => by cases z)), List.forall_mem_cons.mpr ⟨((fun z => by cases z)), fun _ h => absurd h List.not_mem_nil⟩⟩⟩) false i k' h rfl
  · intro a M hlen hpre
    obtain ⟨th, i, rfl, hpre⟩ : ∃ th i, a = [.inr (.inr (12, th)), .inl i] ∧ (pz_im M) := by
      have hpre : (match (generalizing := false) a with | [.inr (.inr (12, th)), .inl i] => pz_im M | _ => False) := hpre
      split at hpre
      · exact ⟨_, _, rfl, hpre⟩
      · exact hpre.elim
    exact Nat.le_of_ble_eq_true rfl
  · intro a M hlen hcan hM hpre Ok hgo
    obtain ⟨th, i, rfl, hpre⟩ : ∃ th i, a = [.inr (.inr (12, th)), .inl i] ∧ (pz_im M) := by
      have hpre : (match (generalizing := false) a with | [.inr (.inr (12, th)), .inl i] => pz_im M | _ => False) := hpre
      split at hpre
      · exact ⟨_, _, rfl, hpre⟩
      · exact hpre.elim
    obtain ⟨k_th, hc_th⟩ := pz_tlm hcan
    have k_th : pz_kd th = 12 ∧ th < 231 := k_th
    have R_th := pz_kd12 k_th.1
    subst R_th
    obtain ⟨k_i, hc_i⟩ := pz_tlm hc_th
    have l_i : -2147483648 ≤ i := k_i.1
    have u_i : i ≤ 2147483647 := k_i.2
    have hI : pz_im M := hpre
    refine hgo (fun _ => false) 18 0 _ [] M ?_
    refine And.intro (hI) ?_
    intro v2 M2 a2 b2 q2
    obtain ⟨q2, z2⟩ := q2
    subst z2
    clear a2 b2
    refine And.intro (fun h5 => ?_) (fun h5 => ?_)
    · skip
      have q2 := q2.resolve_left (fun z => absurd (z.1.symm.trans h5) (by decide))
      refine And.intro (by omega) ?_
      refine And.intro rfl ?_
      exact ⟨by omega, rfl⟩
    · skip
      have q2 := q2.resolve_right h5
      refine And.intro (And.intro hI (And.intro (by omega) (by omega))) ?_
      intro v10 M10 a10 b10 q10
      obtain ⟨q10, z10⟩ := q10
      subst z10
      clear a10 b10
      refine And.intro (fun h13 => ?_) (fun h13 => ?_)
      · skip
        refine And.intro (by omega) ?_
        refine And.intro rfl ?_
        exact ⟨by omega, rfl⟩
      · skip
        refine And.intro (And.intro hI (And.intro (by omega) (by omega))) ?_
        intro v18 M18 a18 b18 q18
        obtain ⟨q18, z18⟩ := q18
        subst z18
        clear a18 b18
        refine And.intro (fun h21 => ?_) (fun h21 => ?_)
        · skip
          refine And.intro (by omega) ?_
          refine And.intro rfl ?_
          exact ⟨by omega, rfl⟩
        · skip
          refine And.intro (by omega) ?_
          refine And.intro rfl ?_
          exact ⟨by omega, rfl⟩
theorem v_X12_isThere {fr lo i : Nat} {own : String} (h1 : 2 + 1 ≤ fr) (h2 : 8 + (2 + 11) + 43 ≤ lo) (h3 : .methodLink own i yX12_isThere ∈ lw_tbl) : pz_cV fr lo own i k_X12_isThere :=
  pz_cVk (maxL := 2) (fr' := 2) (lo' := 43) 1 12 h_X12_isThere rfl ⟨by decide +kernel, by decide +kernel, by decide +kernel⟩ ⟨by decide +kernel, by decide +kernel, by decide +kernel, by decide +kernel⟩ (Or.inl ⟨TX12, 28, rfl⟩) (fun a M _ h => by
    have h : (match (generalizing := false) a with | [.inr (.inr (12, th)), .inl i] => pz_im M | _ => False) := h
    split at h
    · exact ⟨_, _, rfl⟩
    · exact h.elim) h1 h2 h3
def k_X12_count : pz_C := (1, 1, fun a M => (match a with | [.inl x] => True | _ => False), fun a M r M' => (match a, r with | [.inl x], some (.inl v) => (True) ∧ M = M' | _, _ => False))
abbrev ct_X12_count : List (Bool × Nat × pz_C) := []
set_option maxRecDepth 100000 in
set_option maxHeartbeats 4000000 in
theorem h_X12_count : pz_H yX12_count cX12_count 3 (some .int) k_X12_count 0 0 := by
  refine pz_mk (own := RX12) (tb := t_X12_count) (fl := pz_flf fl_RX12) (ci := pz_cif ci_RX12) (ct := pz_ctf ct_X12_count) (rz := false) (by decide +kernel) rfl t_X12_count_ok (pz_flk fl_RX12_ok) (pz_cik ci_RX12_ok) ?_ ?_ (Or.inl ⟨rfl, rfl⟩) ?_ ?_
  · exact fun i k' h => pz_ctk (l := ct_X12_count) (P := fun b i k => b = true → pz_cV 0 0 RX12 i k) (fun _ h => absurd h List.not_mem_nil) true i k' h rfl
  · exact fun i k' h => pz_ctk (l := ct_X12_count) (P := fun b i k => b = false → (pz_cS 0 0 RX12 i k ∨ (k = pz_kac ∧ 1 ≤ 0 ∧ 60 ≤ 0 ∧ Cond.methodLink RX12 i arraycopyName ∈ pz_tbl))) (fun _ h => absurd h List.not_mem_nil) false i k' h rfl
  · intro a M hlen hpre
    obtain ⟨x, rfl, hpre⟩ : ∃ x, a = [.inl x] ∧ (True) := by
      have hpre : (match (generalizing := false) a with | [.inl x] => True | _ => False) := hpre
      split at hpre
      · exact ⟨_, rfl, hpre⟩
      · exact hpre.elim
    exact Nat.le_of_ble_eq_true rfl
  · intro a M hlen hcan hM hpre Ok hgo
    obtain ⟨x, rfl, hpre⟩ : ∃ x, a = [.inl x] ∧ (True) := by
      have hpre : (match (generalizing := false) a with | [.inl x] => True | _ => False) := hpre
      split at hpre
      · exact ⟨_, rfl, hpre⟩
      · exact hpre.elim
    obtain ⟨k_x, hc_x⟩ := pz_tlm hcan
    have l_x : -2147483648 ≤ x := k_x.1
    have u_x : x ≤ 2147483647 := k_x.2
    have L4 : ∀ (fu : Nat) (x1 : Int) (x2 : Int), (12 - x2).toNat < fu → (0 ≤ x2) → Ok 4 [some (.inl x), some (.inl x1), some (.inl x2)] [] M := by
      intro fu
      induction fu with
      | zero => exact fun _ _ hn => absurd hn (Nat.not_lt_zero _)
      | succ fu ih4 =>
        intro x1 x2 hn4 g4_0
        refine hgo (fun p => Nat.beq p 4) 21 4 _ _ _ ?_
        refine And.intro (fun h7 => ?_) (fun h7 => ?_)
        · skip
          refine And.intro rfl ?_
          exact ⟨trivial, rfl⟩
        · skip
          intro v13 e13 a13 b13
          intro v15 e15 a15 b15
          intro v16 e16 a16 b16
          intro v18 e18 a18 b18
          rw [pz_wi (by omega) (by omega)] at e18
          clear a18 b18
          exact ih4 _ _ (by omega) (by omega)
    refine hgo (fun p => Nat.beq p 4) 21 0 _ [] M ?_
    exact L4 _ _ _ (Nat.lt_succ_self _) (by omega)
theorem s_X12_count {fr lo i : Nat} {own : String} (h1 : 0 + 1 ≤ fr) (h2 : 8 + (3 + 11) + 0 ≤ lo) (h3 : .methodLink own i yX12_count ∈ lw_tbl ∨ (own = RX1 ∧ i = 35 ∧ yX12_count = yX11_within)) : pz_cS fr lo own i k_X12_count := pz_cSk (maxL := 3) (fr' := 0) (lo' := 0) 1 h_X12_count rfl ⟨by decide +kernel, by decide +kernel, by decide +kernel⟩ ⟨by decide +kernel, by decide +kernel, by decide +kernel⟩ h1 h2 h3
def k_X12_forgets : pz_C := (1, 0, fun a M => (match a with | [.inr (.inr (12, th))] => pz_im M | _ => False), fun a M r M' => (match a, r with | [.inr (.inr (12, th))], none => (True) ∧ pz_sm M M' | _, _ => False))
abbrev ct_X12_forgets : List (Bool × Nat × pz_C) := []
set_option maxRecDepth 100000 in
set_option maxHeartbeats 4000000 in
theorem h_X12_forgets : pz_H yX12_forgets cX12_forgets 1 none k_X12_forgets 0 0 := by
  refine pz_mk (own := RX12) (tb := t_X12_forgets) (fl := pz_flf fl_RX12) (ci := pz_cif ci_RX12) (ct := pz_ctf ct_X12_forgets) (rz := false) (by decide +kernel) rfl t_X12_forgets_ok (pz_flk fl_RX12_ok) (pz_cik ci_RX12_ok) ?_ ?_ (rfl) ?_ ?_
  · exact fun i k' h => pz_ctk (l := ct_X12_forgets) (P := fun b i k => b = true → pz_cV 0 0 RX12 i k) (fun _ h => absurd h List.not_mem_nil) true i k' h rfl
  · exact fun i k' h => pz_ctk (l := ct_X12_forgets) (P := fun b i k => b = false → (pz_cS 0 0 RX12 i k ∨ (k = pz_kac ∧ 1 ≤ 0 ∧ 60 ≤ 0 ∧ Cond.methodLink RX12 i arraycopyName ∈ pz_tbl))) (fun _ h => absurd h List.not_mem_nil) false i k' h rfl
  · intro a M hlen hpre
    obtain ⟨th, rfl, hpre⟩ : ∃ th, a = [.inr (.inr (12, th))] ∧ (pz_im M) := by
      have hpre : (match (generalizing := false) a with | [.inr (.inr (12, th))] => pz_im M | _ => False) := hpre
      split at hpre
      · exact ⟨_, rfl, hpre⟩
      · exact hpre.elim
    exact Nat.le_of_ble_eq_true rfl
  · intro a M hlen hcan hM hpre Ok hgo
    obtain ⟨th, rfl, hpre⟩ : ∃ th, a = [.inr (.inr (12, th))] ∧ (pz_im M) := by
      have hpre : (match (generalizing := false) a with | [.inr (.inr (12, th))] => pz_im M | _ => False) := hpre
      split at hpre
      · exact ⟨_, rfl, hpre⟩
      · exact hpre.elim
    obtain ⟨k_th, hc_th⟩ := pz_tlm hcan
    have k_th : pz_kd th = 12 ∧ th < 231 := k_th
    have R_th := pz_kd12 k_th.1
    subst R_th
    have hI : pz_im M := hpre
    have hI0 := hI
    have hS : pz_sm M M := pz_sm.rf
    refine hgo (fun _ => false) 6 0 _ [] M ?_
    intro M2 e2
    have hS : pz_sm M M2 := by
      rw [e2]
      exact pz_sm_u hS (by unfold pz_mid; omega) (by omega) (by omega) (by unfold pz_iom; omega)
    have hI : pz_im M2 := hS.1.1.1 hI0
    refine And.intro rfl ?_
    exact ⟨trivial, hS⟩
theorem v_X12_forgets {fr lo i : Nat} {own : String} (h1 : 0 + 1 ≤ fr) (h2 : 8 + (1 + 11) + 0 ≤ lo) (h3 : .methodLink own i yX12_forgets ∈ lw_tbl) : pz_cV fr lo own i k_X12_forgets :=
  pz_cVk (maxL := 1) (fr' := 0) (lo' := 0) 0 12 h_X12_forgets rfl ⟨by decide +kernel, by decide +kernel, by decide +kernel⟩ ⟨by decide +kernel, by decide +kernel, by decide +kernel, by decide +kernel⟩ (Or.inl ⟨TX12, 28, rfl⟩) (fun a M _ h => by
    have h : (match (generalizing := false) a with | [.inr (.inr (12, th))] => pz_im M | _ => False) := h
    split at h
    · exact ⟨_, _, rfl⟩
    · exact h.elim) h1 h2 h3
def k_X12_state : pz_C := (2, 1, fun a M => (match a with | [.inr (.inr (12, th)), .inl x] => pz_im M | _ => False), fun a M r M' => (match a, r with | [.inr (.inr (12, th)), .inl x], some (.inl v) => (True) ∧ pz_sm M M' | _, _ => False))
abbrev ct_X12_state : List (Bool × Nat × pz_C) := [(true, 71, k_X12_forgets)]
set_option maxRecDepth 100000 in
set_option maxHeartbeats 4000000 in
theorem h_X12_state : pz_H yX12_state cX12_state 3 (some .int) k_X12_state 1 20 := by
  refine pz_mk (own := RX12) (tb := t_X12_state) (fl := pz_flf fl_RX12) (ci := pz_cif ci_RX12) (ct := pz_ctf ct_X12_state) (rz := false) (by decide +kernel) rfl t_X12_state_ok (pz_flk fl_RX12_ok) (pz_cik ci_RX12_ok) ?_ ?_ (Or.inl ⟨rfl, rfl⟩) ?_ ?_
  · exact fun i k' h => pz_ctk (l := ct_X12_state) (P := fun b i k => b = true → pz_cV 1 20 RX12 i k) (List.forall_mem_cons.mpr ⟨(fun _ => v_X12_forgets (by decide) (by decide) (by decide +kernel)), fun _ h => absurd h List.not_mem_nil⟩) true i k' h rfl
  · exact fun i k' h => pz_ctk (l := ct_X12_state) (P := fun b i k => b = false → (pz_cS 1 20 RX12 i k ∨ (k = pz_kac ∧ 1 ≤ 1 ∧ 60 ≤ 20 ∧ Cond.methodLink RX12 i arraycopyName ∈ pz_tbl))) (List.forall_mem_cons.mpr ⟨((fun z => by cases z)), fun _ h => absurd h List.not_mem_nil⟩) false i k' h rfl
  · intro a M hlen hpre
    obtain ⟨th, x, rfl, hpre⟩ : ∃ th x, a = [.inr (.inr (12, th)), .inl x] ∧ (pz_im M) := by
      have hpre : (match (generalizing := false) a with | [.inr (.inr (12, th)), .inl x] => pz_im M | _ => False) := hpre
      split at hpre
      · exact ⟨_, _, rfl, hpre⟩
      · exact hpre.elim
    exact Nat.le_of_ble_eq_true rfl
  · intro a M hlen hcan hM hpre Ok hgo
    obtain ⟨th, x, rfl, hpre⟩ : ∃ th x, a = [.inr (.inr (12, th)), .inl x] ∧ (pz_im M) := by
      have hpre : (match (generalizing := false) a with | [.inr (.inr (12, th)), .inl x] => pz_im M | _ => False) := hpre
      split at hpre
      · exact ⟨_, _, rfl, hpre⟩
      · exact hpre.elim
    obtain ⟨k_th, hc_th⟩ := pz_tlm hcan
    have k_th : pz_kd th = 12 ∧ th < 231 := k_th
    have R_th := pz_kd12 k_th.1
    subst R_th
    obtain ⟨k_x, hc_x⟩ := pz_tlm hc_th
    have l_x : -2147483648 ≤ x := k_x.1
    have u_x : x ≤ 2147483647 := k_x.2
    have hI : pz_im M := hpre
    have hI0 := hI
    have hS : pz_sm M M := pz_sm.rf
    refine hgo (fun _ => false) 16 0 _ [] M ?_
    intro r1 e1 k1
    have e1 : r1 = 60 := e1
    subst e1
    refine And.intro (by omega) (And.intro (show _ < (1725 : Int) from by omega) ?_)
    intro v5 e5 a5 b5
    have e5 : v5 = M 60 2 := e5
    intro r8 e8 k8
    have e8 : r8 = 60 := e8
    subst e8
    refine And.intro (by omega) (And.intro (show _ < (1725 : Int) from by omega) ?_)
    intro M13 e13
    have hS : pz_sm M M13 := by
      rw [e13]
      exact pz_sm_u hS (by unfold pz_mid; decide) (fun h => absurd h.1 (by decide)) (by omega) (by first | exact pz_iom_w (by omega) (by omega) | (unfold pz_iom; omega))
    have hI : pz_im M13 := hS.1.1.1 hI0
    refine And.intro (hI) ?_
    intro M15 q15
    obtain ⟨q15, z15⟩ := q15
    have hS : pz_sm M M15 := hS.tr z15
    have hI : pz_im M15 := hS.1.1.1 hI0
    refine And.intro rfl ?_
    exact ⟨trivial, hS⟩
theorem v_X12_state {fr lo i : Nat} {own : String} (h1 : 1 + 1 ≤ fr) (h2 : 8 + (3 + 11) + 20 ≤ lo) (h3 : .methodLink own i yX12_state ∈ lw_tbl) : pz_cV fr lo own i k_X12_state :=
  pz_cVk (maxL := 3) (fr' := 1) (lo' := 20) 1 12 h_X12_state rfl ⟨by decide +kernel, by decide +kernel, by decide +kernel⟩ ⟨by decide +kernel, by decide +kernel, by decide +kernel, by decide +kernel⟩ (Or.inl ⟨TX12, 28, rfl⟩) (fun a M _ h => by
    have h : (match (generalizing := false) a with | [.inr (.inr (12, th)), .inl x] => pz_im M | _ => False) := h
    split at h
    · exact ⟨_, _, rfl⟩
    · exact h.elim) h1 h2 h3
def k_X12_draw : pz_C := (2, 1, fun a M => (match a with | [.inr (.inr (12, th)), .inl n] => pz_im M ∧ n ≠ 0 | _ => False), fun a M r M' => (match a, r with | [.inr (.inr (12, th)), .inl n], some (.inl v) => (True) ∧ pz_sm M M' | _, _ => False))
abbrev ct_X12_draw : List (Bool × Nat × pz_C) := []
set_option maxRecDepth 100000 in
set_option maxHeartbeats 4000000 in
theorem h_X12_draw : pz_H yX12_draw cX12_draw 2 (some .int) k_X12_draw 0 0 := by
  refine pz_mk (own := RX12) (tb := t_X12_draw) (fl := pz_flf fl_RX12) (ci := pz_cif ci_RX12) (ct := pz_ctf ct_X12_draw) (rz := false) (by decide +kernel) rfl t_X12_draw_ok (pz_flk fl_RX12_ok) (pz_cik ci_RX12_ok) ?_ ?_ (Or.inl ⟨rfl, rfl⟩) ?_ ?_
  · exact fun i k' h => pz_ctk (l := ct_X12_draw) (P := fun b i k => b = true → pz_cV 0 0 RX12 i k) (fun _ h => absurd h List.not_mem_nil) true i k' h rfl
  · exact fun i k' h => pz_ctk (l := ct_X12_draw) (P := fun b i k => b = false → (pz_cS 0 0 RX12 i k ∨ (k = pz_kac ∧ 1 ≤ 0 ∧ 60 ≤ 0 ∧ Cond.methodLink RX12 i arraycopyName ∈ pz_tbl))) (fun _ h => absurd h List.not_mem_nil) false i k' h rfl
  · intro a M hlen hpre
    obtain ⟨th, n, rfl, hpre⟩ : ∃ th n, a = [.inr (.inr (12, th)), .inl n] ∧ (pz_im M ∧ n ≠ 0) := by
      have hpre : (match (generalizing := false) a with | [.inr (.inr (12, th)), .inl n] => pz_im M ∧ n ≠ 0 | _ => False) := hpre
      split at hpre
      · exact ⟨_, _, rfl, hpre⟩
      · exact hpre.elim
    exact Nat.le_of_ble_eq_true rfl
  · intro a M hlen hcan hM hpre Ok hgo
    obtain ⟨th, n, rfl, hpre⟩ : ∃ th n, a = [.inr (.inr (12, th)), .inl n] ∧ (pz_im M ∧ n ≠ 0) := by
      have hpre : (match (generalizing := false) a with | [.inr (.inr (12, th)), .inl n] => pz_im M ∧ n ≠ 0 | _ => False) := hpre
      split at hpre
      · exact ⟨_, _, rfl, hpre⟩
      · exact hpre.elim
    obtain ⟨k_th, hc_th⟩ := pz_tlm hcan
    have k_th : pz_kd th = 12 ∧ th < 231 := k_th
    have R_th := pz_kd12 k_th.1
    subst R_th
    obtain ⟨k_n, hc_n⟩ := pz_tlm hc_th
    have l_n : -2147483648 ≤ n := k_n.1
    have u_n : n ≤ 2147483647 := k_n.2
    have hI : pz_im M := hpre.1
    have hI0 := hI
    have hS : pz_sm M M := pz_sm.rf
    refine hgo (fun _ => false) 23 0 _ [] M ?_
    intro r1 e1 k1
    have e1 : r1 = 60 := e1
    subst e1
    intro r8 e8 k8
    have e8 : r8 = 60 := e8
    subst e8
    refine And.intro (by omega) (And.intro (show _ < (1725 : Int) from by omega) ?_)
    intro v12 e12 a12 b12
    have e12 : v12 = M 60 2 := e12
    intro v13 e13 a13 b13
    intro v16 e16 a16 b16
    refine And.intro (by omega) (And.intro (show _ < (1725 : Int) from by omega) ?_)
    intro M17 e17
    have hS : pz_sm M M17 := by
      rw [e17]
      exact pz_sm_u hS (by unfold pz_mid; decide) (fun h => absurd h.1 (by decide)) (by omega) (by first | exact pz_iom_w (by omega) (by omega) | (unfold pz_iom; omega))
    have hI : pz_im M17 := hS.1.1.1 hI0
    intro r19 e19 k19
    have e19 : r19 = 60 := e19
    subst e19
    refine And.intro (by omega) (And.intro (show _ < (1725 : Int) from by omega) ?_)
    intro v23 e23 a23 b23
    have e23 : v23 = M17 60 2 := e23
    intro v26 e26 a26 b26
    refine And.intro (by omega) ?_
    intro v28 e28 a28 b28
    refine And.intro rfl ?_
    exact ⟨trivial, hS⟩
theorem v_X12_draw {fr lo i : Nat} {own : String} (h1 : 0 + 1 ≤ fr) (h2 : 8 + (2 + 11) + 0 ≤ lo) (h3 : .methodLink own i yX12_draw ∈ lw_tbl) : pz_cV fr lo own i k_X12_draw :=
  pz_cVk (maxL := 2) (fr' := 0) (lo' := 0) 1 12 h_X12_draw rfl ⟨by decide +kernel, by decide +kernel, by decide +kernel⟩ ⟨by decide +kernel, by decide +kernel, by decide +kernel, by decide +kernel⟩ (Or.inl ⟨TX12, 28, rfl⟩) (fun a M _ h => by
    have h : (match (generalizing := false) a with | [.inr (.inr (12, th)), .inl n] => pz_im M ∧ n ≠ 0 | _ => False) := h
    split at h
    · exact ⟨_, _, rfl⟩
    · exact h.elim) h1 h2 h3
def k_X12_link : pz_C := (5, 1, fun a M => (match a with | [.inr (.inr (12, th)), .inl p, .inl q, .inl w, .inl s] => pz_im M | _ => False), fun a M r M' => (match a, r with | [.inr (.inr (12, th)), .inl p, .inl q, .inl w, .inl s], some (.inl v) => (True) ∧ pz_sk M M' | _, _ => False))
abbrev ct_X12_link : List (Bool × Nat × pz_C) := [(false, 54, k_X12_isIn), (true, 71, k_X12_forgets)]
set_option maxRecDepth 100000 in
set_option maxHeartbeats 4000000 in
theorem h_X12_link : pz_H yX12_link cX12_link 6 (some .int) k_X12_link 1 22 := by
  refine pz_mk (own := RX12) (tb := t_X12_link) (fl := pz_flf fl_RX12) (ci := pz_cif ci_RX12) (ct := pz_ctf ct_X12_link) (rz := false) (by decide +kernel) rfl t_X12_link_ok (pz_flk fl_RX12_ok) (pz_cik ci_RX12_ok) ?_ ?_ (Or.inl ⟨rfl, rfl⟩) ?_ ?_
  · exact fun i k' h => pz_ctk (l := ct_X12_link) (P := fun b i k => b = true → pz_cV 1 22 RX12 i k) (List.forall_mem_cons.mpr ⟨((fun z => by cases z)), List.forall_mem_cons.mpr ⟨(fun _ => v_X12_forgets (by decide) (by decide) (by decide +kernel)), fun _ h => absurd h List.not_mem_nil⟩⟩) true i k' h rfl
  · exact fun i k' h => pz_ctk (l := ct_X12_link) (P := fun b i k => b = false → (pz_cS 1 22 RX12 i k ∨ (k = pz_kac ∧ 1 ≤ 1 ∧ 60 ≤ 22 ∧ Cond.methodLink RX12 i arraycopyName ∈ pz_tbl))) (List.forall_mem_cons.mpr ⟨(fun _ => Or.inl (s_X12_isIn (by decide) (by decide) (Or.inl (by decide +kernel)))), List.forall_mem_cons.mpr ⟨((fun z => by cases z)), fun _ h => absurd h List.not_mem_nil⟩⟩) false i k' h rfl
  · intro a M hlen hpre
    obtain ⟨th, p, q, w, s, rfl, hpre⟩ : ∃ th p q w s, a = [.inr (.inr (12, th)), .inl p, .inl q, .inl w, .inl s] ∧ (pz_im M) := by
      have hpre : (match (generalizing := false) a with | [.inr (.inr (12, th)), .inl p, .inl q, .inl w, .inl s] => pz_im M | _ => False) := hpre
      split at hpre
      · exact ⟨_, _, _, _, _, rfl, hpre⟩
      · exact hpre.elim
    exact Nat.le_of_ble_eq_true rfl
  · intro a M hlen hcan hM hpre Ok hgo
    obtain ⟨th, p, q, w, s, rfl, hpre⟩ : ∃ th p q w s, a = [.inr (.inr (12, th)), .inl p, .inl q, .inl w, .inl s] ∧ (pz_im M) := by
      have hpre : (match (generalizing := false) a with | [.inr (.inr (12, th)), .inl p, .inl q, .inl w, .inl s] => pz_im M | _ => False) := hpre
      split at hpre
      · exact ⟨_, _, _, _, _, rfl, hpre⟩
      · exact hpre.elim
    obtain ⟨k_th, hc_th⟩ := pz_tlm hcan
    have k_th : pz_kd th = 12 ∧ th < 231 := k_th
    have R_th := pz_kd12 k_th.1
    subst R_th
    obtain ⟨k_p, hc_p⟩ := pz_tlm hc_th
    have l_p : -2147483648 ≤ p := k_p.1
    have u_p : p ≤ 2147483647 := k_p.2
    obtain ⟨k_q, hc_q⟩ := pz_tlm hc_p
    have l_q : -2147483648 ≤ q := k_q.1
    have u_q : q ≤ 2147483647 := k_q.2
    obtain ⟨k_w, hc_w⟩ := pz_tlm hc_q
    have l_w : -2147483648 ≤ w := k_w.1
    have u_w : w ≤ 2147483647 := k_w.2
    obtain ⟨k_s, hc_s⟩ := pz_tlm hc_w
    have l_s : -2147483648 ≤ s := k_s.1
    have u_s : s ≤ 2147483647 := k_s.2
    have hI : pz_im M := hpre
    have hI0 := hI
    have hS : pz_sk M M := pz_sk.rf
    refine hgo (fun _ => false) 123 0 _ [] M ?_
    refine And.intro (True.intro) ?_
    intro v5 M5 a5 b5 q5
    obtain ⟨q5, z5⟩ := q5
    subst z5
    clear a5 b5
    refine And.intro (fun h8 => ?_) (fun h8 => ?_)
    · skip
      have q5 := q5.resolve_left (fun z => absurd (z.1.symm.trans h8) (by decide))
      refine And.intro rfl ?_
      exact ⟨trivial, hS⟩
    · skip
      have q5 := q5.resolve_right (fun z => h8 z.1)
      refine And.intro (True.intro) ?_
      intro v18 M18 a18 b18 q18
      obtain ⟨q18, z18⟩ := q18
      subst z18
      clear a18 b18
      refine And.intro (fun h21 => ?_) (fun h21 => ?_)
      · skip
        have q18 := q18.resolve_left (fun z => absurd (z.1.symm.trans h21) (by decide))
        refine And.intro rfl ?_
        exact ⟨trivial, hS⟩
      · skip
        have q18 := q18.resolve_right (fun z => h21 z.1)
        refine And.intro (True.intro) ?_
        intro v31 M31 a31 b31 q31
        obtain ⟨q31, z31⟩ := q31
        subst z31
        clear a31 b31
        refine And.intro (fun h34 => ?_) (fun h34 => ?_)
        · skip
          have q31 := q31.resolve_left (fun z => absurd (z.1.symm.trans h34) (by decide))
          refine And.intro rfl ?_
          exact ⟨trivial, hS⟩
        · skip
          have q31 := q31.resolve_right (fun z => h34 z.1)
          refine And.intro (True.intro) ?_
          intro v42 M42 a42 b42 q42
          obtain ⟨q42, z42⟩ := q42
          subst z42
          clear a42 b42
          refine And.intro (fun h45 => ?_) (fun h45 => ?_)
          · skip
            have q42 := q42.resolve_left (fun z => absurd (z.1.symm.trans h45) (by decide))
            refine And.intro rfl ?_
            exact ⟨trivial, hS⟩
          · skip
            have q42 := q42.resolve_right (fun z => h45 z.1)
            intro r49 e49 k49
            have e49 : r49 = 60 := e49
            subst e49
            refine And.intro (by omega) (And.intro (show _ < (1725 : Int) from by omega) ?_)
            intro v54 e54 a54 b54
            have e54 : v54 = M 60 88 := e54
            have I54 := hI.1.1
            clear a54 b54
            refine And.intro (fun h57 => ?_) (fun h57 => ?_)
            · skip
              intro r63 e63 k63
              have e63 : r63 = 60 := e63
              subst e63
              refine And.intro (by omega) (And.intro (show _ < (1725 : Int) from by omega) ?_)
              intro v68 e68 a68 b68
              have e68 : v68 = M 60 88 := e68
              have I68 := hI.1.1
              clear a68 b68
              intro r72 e72 k72
              have e72 : r72 = 60 := e72
              subst e72
              intro v78 e78 a78 b78
              rw [pz_wi (by omega) (by omega)] at e78
              clear a78 b78
              refine And.intro (by omega) (And.intro (show _ < (1725 : Int) from by omega) ?_)
              intro M80 e80
              have hS : pz_sk M M80 := by
                rw [e80]
                exact pz_sk_u hS (by unfold pz_mid; decide) (fun h => absurd h.1 (by decide)) (by first | exact pz_iom_w (by omega) (by omega) | (unfold pz_iom; omega))
              have hI : pz_im M80 := hS.1.1 hI0
              have W80 : M80 60 88 = M 60 88 := by have T9 := pz_uve e80 60 88; omega
              intro r82 e82 k82
              have e82 : r82 = 60 := e82
              subst e82
              intro v89 e89 a89 b89
              rw [pz_wi (by omega) (by omega)] at e89
              clear a89 b89
              refine And.intro (by omega) (And.intro (show _ < (1725 : Int) from by omega) ?_)
              intro M91 e91
              have hS : pz_sk M M91 := by
                rw [e91]
                exact pz_sk_u hS (by unfold pz_mid; decide) (fun h => absurd h.1 (by decide)) (by first | exact pz_iom_w (by omega) (by omega) | (unfold pz_iom; omega))
              have hI : pz_im M91 := hS.1.1 hI0
              have W91 : M91 60 88 = M80 60 88 := by have T9 := pz_uve e91 60 88; omega
              intro r93 e93 k93
              have e93 : r93 = 60 := e93
              subst e93
              intro v100 e100 a100 b100
              rw [pz_wi (by omega) (by omega)] at e100
              clear a100 b100
              refine And.intro (by omega) (And.intro (show _ < (1725 : Int) from by omega) ?_)
              intro M102 e102
              have hS : pz_sk M M102 := by
                rw [e102]
                exact pz_sk_u hS (by unfold pz_mid; decide) (fun h => absurd h.1 (by decide)) (by first | exact pz_iom_w (by omega) (by omega) | (unfold pz_iom; omega))
              have hI : pz_im M102 := hS.1.1 hI0
              have W102 : M102 60 88 = M91 60 88 := by have T9 := pz_uve e102 60 88; omega
              intro r104 e104 k104
              have e104 : r104 = 60 := e104
              subst e104
              intro v111 e111 a111 b111
              rw [pz_wi (by omega) (by omega)] at e111
              clear a111 b111
              refine And.intro (by omega) (And.intro (show _ < (1725 : Int) from by omega) ?_)
              intro M114 e114
              have hS : pz_sk M M114 := by
                rw [e114]
                exact pz_sk_u hS (by unfold pz_mid; decide) (fun h => absurd h.1 (by decide)) (by first | exact pz_iom_w (by omega) (by omega) | (unfold pz_iom; omega))
              have hI : pz_im M114 := hS.1.1 hI0
              have W114 : M114 60 88 = M102 60 88 := by have T9 := pz_uve e114 60 88; omega
              intro r116 e116 k116
              have e116 : r116 = 60 := e116
              subst e116
              intro v123 e123 a123 b123
              rw [pz_wi (by omega) (by omega)] at e123
              clear a123 b123
              refine And.intro (by omega) (And.intro (show _ < (1725 : Int) from by omega) ?_)
              intro M125 e125
              have hS : pz_sk M M125 := by
                rw [e125]
                exact pz_sk_u hS (by unfold pz_mid; decide) (fun h => absurd h.1 (by decide)) (by first | exact pz_iom_w (by omega) (by omega) | (unfold pz_iom; omega))
              have hI : pz_im M125 := hS.1.1 hI0
              have W125 : M125 60 88 = M114 60 88 := by have T9 := pz_uve e125 60 88; omega
              intro r127 e127 k127
              have e127 : r127 = 60 := e127
              subst e127
              intro v134 e134 a134 b134
              rw [pz_wi (by omega) (by omega)] at e134
              clear a134 b134
              refine And.intro (by omega) (And.intro (show _ < (1725 : Int) from by omega) ?_)
              intro M136 e136
              have hS : pz_sk M M136 := by
                rw [e136]
                exact pz_sk_u hS (by unfold pz_mid; decide) (fun h => absurd h.1 (by decide)) (by first | exact pz_iom_w (by omega) (by omega) | (unfold pz_iom; omega))
              have hI : pz_im M136 := hS.1.1 hI0
              have W136 : M136 60 88 = M125 60 88 := by have T9 := pz_uve e136 60 88; omega
              intro r138 e138 k138
              have e138 : r138 = 60 := e138
              subst e138
              intro v145 e145 a145 b145
              rw [pz_wi (by omega) (by omega)] at e145
              clear a145 b145
              refine And.intro (by omega) (And.intro (show _ < (1725 : Int) from by omega) ?_)
              intro M147 e147
              have hS : pz_sk M M147 := by
                rw [e147]
                exact pz_sk_u hS (by unfold pz_mid; decide) (fun h => absurd h.1 (by decide)) (by first | exact pz_iom_w (by omega) (by omega) | (unfold pz_iom; omega))
              have hI : pz_im M147 := hS.1.1 hI0
              have W147 : M147 60 88 = M136 60 88 := by have T9 := pz_uve e147 60 88; omega
              intro r149 e149 k149
              have e149 : r149 = 60 := e149
              subst e149
              intro v156 e156 a156 b156
              rw [pz_wi (by omega) (by omega)] at e156
              clear a156 b156
              refine And.intro (by omega) (And.intro (show _ < (1725 : Int) from by omega) ?_)
              intro M158 e158
              have hS : pz_sk M M158 := by
                rw [e158]
                exact pz_sk_u hS (by unfold pz_mid; decide) (fun h => absurd h.1 (by decide)) (by first | exact pz_iom_w (by omega) (by omega) | (unfold pz_iom; omega))
              have hI : pz_im M158 := hS.1.1 hI0
              have W158 : M158 60 88 = M147 60 88 := by have T9 := pz_uve e158 60 88; omega
              intro r160 e160 k160
              have e160 : r160 = 60 := e160
              subst e160
              intro v168 e168 a168 b168
              rw [pz_wi (by omega) (by omega)] at e168
              clear a168 b168
              intro v169 e169 a169 b169
              rw [pz_wi (by omega) (by omega)] at e169
              clear a169 b169
              refine And.intro (by omega) (And.intro (show _ < (1725 : Int) from by omega) ?_)
              intro M171 e171
              have hS : pz_sk M M171 := by
                rw [e171]
                exact pz_sk_u hS (by unfold pz_mid; decide) (fun h => absurd h.1 (by decide)) (by first | exact pz_iom_w (by omega) (by omega) | (unfold pz_iom; omega))
              have hI : pz_im M171 := hS.1.1 hI0
              have W171 : M171 60 88 = M158 60 88 := by have T9 := pz_uve e171 60 88; omega
              intro r173 e173 k173
              have e173 : r173 = 60 := e173
              subst e173
              intro v181 e181 a181 b181
              rw [pz_wi (by omega) (by omega)] at e181
              clear a181 b181
              intro v182 e182 a182 b182
              rw [pz_wi (by omega) (by omega)] at e182
              clear a182 b182
              intro v184 e184 a184 b184
              rw [pz_wi (by omega) (by omega)] at e184
              clear a184 b184
              refine And.intro (by omega) (And.intro (show _ < (1725 : Int) from by omega) ?_)
              intro M188 e188
              have hS : pz_sk M M188 := by
                rw [e188]
                exact pz_sk_u hS (by unfold pz_mid; decide) (fun h => absurd h.1 (by decide)) (by first | exact pz_iom_w (by omega) (by omega) | (unfold pz_iom; omega))
              have hI : pz_im M188 := hS.1.1 hI0
              have W188 : M188 60 88 = M171 60 88 := by have T9 := pz_uve e188 60 88; omega
              intro r190 e190 k190
              have e190 : r190 = 60 := e190
              subst e190
              refine And.intro (by omega) (And.intro (show _ < (1725 : Int) from by omega) ?_)
              intro v196 e196 a196 b196
              have e196 : v196 = M188 60 88 := e196
              have I196 := hI.1.1
              clear a196 b196
              intro v198 e198 a198 b198
              rw [pz_wi (by omega) (by omega)] at e198
              clear a198 b198
              refine And.intro (by omega) (And.intro (show _ < (1725 : Int) from by omega) ?_)
              intro M199 e199
              have hS : pz_sk M M199 := by
                rw [e199]
                exact pz_sk_u hS (by unfold pz_mid; decide) (fun h => absurd h.1 (by decide)) (by first | exact pz_iom_w (by omega) (by omega) | (unfold pz_iom; omega))
              have hI : pz_im M199 := hS.1.1 hI0
              refine And.intro (hI) ?_
              intro M201 q201
              obtain ⟨q201, z201⟩ := q201
              have hS : pz_sk M M201 := hS.tr z201.1
              have T201a := z201.2
              have T201b := z201.1.2
              have hI : pz_im M201 := hS.1.1 hI0
              refine And.intro rfl ?_
              exact ⟨trivial, hS⟩
            · skip
              refine And.intro rfl ?_
              exact ⟨trivial, hS⟩
theorem v_X12_link {fr lo i : Nat} {own : String} (h1 : 1 + 1 ≤ fr) (h2 : 8 + (6 + 11) + 22 ≤ lo) (h3 : .methodLink own i yX12_link ∈ lw_tbl) : pz_cV fr lo own i k_X12_link :=
  pz_cVk (maxL := 6) (fr' := 1) (lo' := 22) 4 12 h_X12_link rfl ⟨by decide +kernel, by decide +kernel, by decide +kernel⟩ ⟨by decide +kernel, by decide +kernel, by decide +kernel, by decide +kernel⟩ (Or.inl ⟨TX12, 28, rfl⟩) (fun a M _ h => by
    have h : (match (generalizing := false) a with | [.inr (.inr (12, th)), .inl p, .inl q, .inl w, .inl s] => pz_im M | _ => False) := h
    split at h
    · exact ⟨_, _, rfl⟩
    · exact h.elim) h1 h2 h3
def k_X12_canBe : pz_C := (2, 1, fun a M => (match a with | [.inl x, .inl y] => True | _ => False), fun a M r M' => (match a, r with | [.inl x, .inl y], some (.inl v) => (v = 0 ∨ v = 1) ∧ M = M' | _, _ => False))
abbrev ct_X12_canBe : List (Bool × Nat × pz_C) := [(false, 54, k_X12_isIn)]
set_option maxRecDepth 100000 in
set_option maxHeartbeats 4000000 in
theorem h_X12_canBe : pz_H yX12_canBe cX12_canBe 2 (some .boolean) k_X12_canBe 1 22 := by
  refine pz_mk (own := RX12) (tb := t_X12_canBe) (fl := pz_flf fl_RX12) (ci := pz_cif ci_RX12) (ct := pz_ctf ct_X12_canBe) (rz := true) (by decide +kernel) rfl t_X12_canBe_ok (pz_flk fl_RX12_ok) (pz_cik ci_RX12_ok) ?_ ?_ (Or.inr ⟨rfl, rfl⟩) ?_ ?_
  · exact fun i k' h => pz_ctk (l := ct_X12_canBe) (P := fun b i k => b = true → pz_cV 1 22 RX12 i k) (List.forall_mem_cons.mpr ⟨((fun z => by cases z)), fun _ h => absurd h List.not_mem_nil⟩) true i k' h rfl
  · exact fun i k' h => pz_ctk (l := ct_X12_canBe) (P := fun b i k => b = false → (pz_cS 1 22 RX12 i k ∨ (k = pz_kac ∧ 1 ≤ 1 ∧ 60 ≤ 22 ∧ Cond.methodLink RX12 i arraycopyName ∈ pz_tbl))) (List.forall_mem_cons.mpr ⟨(fun _ => Or.inl (s_X12_isIn (by decide) (by decide) (Or.inl (by decide +kernel)))), fun _ h => absurd h List.not_mem_nil⟩) false i k' h rfl
  · intro a M hlen hpre
    obtain ⟨x, y, rfl, hpre⟩ : ∃ x y, a = [.inl x, .inl y] ∧ (True) := by
      have hpre : (match (generalizing := false) a with | [.inl x, .inl y] => True | _ => False) := hpre
      split at hpre
      · exact ⟨_, _, rfl, hpre⟩
      · exact hpre.elim
    exact Nat.le_of_ble_eq_true rfl
  · intro a M hlen hcan hM hpre Ok hgo
    obtain ⟨x, y, rfl, hpre⟩ : ∃ x y, a = [.inl x, .inl y] ∧ (True) := by
      have hpre : (match (generalizing := false) a with | [.inl x, .inl y] => True | _ => False) := hpre
      split at hpre
      · exact ⟨_, _, rfl, hpre⟩
      · exact hpre.elim
    obtain ⟨k_x, hc_x⟩ := pz_tlm hcan
    have l_x : -2147483648 ≤ x := k_x.1
    have u_x : x ≤ 2147483647 := k_x.2
    obtain ⟨k_y, hc_y⟩ := pz_tlm hc_x
    have l_y : -2147483648 ≤ y := k_y.1
    have u_y : y ≤ 2147483647 := k_y.2
    refine hgo (fun _ => false) 31 0 _ [] M ?_
    refine And.intro ?_ ?_
    · skip
      refine And.intro (fun h1 => ?_) ?_
      · skip
        refine And.intro (True.intro) ?_
        intro v41 M41 a41 b41 q41
        obtain ⟨q41, z41⟩ := q41
        subst z41
        clear a41 b41
        refine And.intro (by omega) ?_
        refine And.intro rfl ?_
        exact ⟨by omega, rfl⟩
      refine And.intro (fun h1 => ?_) ?_
      · skip
        refine And.intro (True.intro) ?_
        intro v52 M52 a52 b52 q52
        obtain ⟨q52, z52⟩ := q52
        subst z52
        clear a52 b52
        refine And.intro (by omega) ?_
        refine And.intro rfl ?_
        exact ⟨by omega, rfl⟩
      refine And.intro (fun h1 => ?_) ?_
      · skip
        refine And.intro (True.intro) ?_
        intro v63 M63 a63 b63 q63
        obtain ⟨q63, z63⟩ := q63
        subst z63
        clear a63 b63
        refine And.intro (by omega) ?_
        refine And.intro rfl ?_
        exact ⟨by omega, rfl⟩
      refine And.intro (fun h1 => ?_) ?_
      · skip
        refine And.intro (True.intro) ?_
        intro v71 M71 a71 b71 q71
        obtain ⟨q71, z71⟩ := q71
        subst z71
        clear a71 b71
        refine And.intro (by omega) ?_
        refine And.intro rfl ?_
        exact ⟨by omega, rfl⟩
      refine And.intro (fun h1 => ?_) ?_
      · skip
        refine And.intro (True.intro) ?_
        intro v78 M78 a78 b78 q78
        obtain ⟨q78, z78⟩ := q78
        subst z78
        clear a78 b78
        refine And.intro (by omega) ?_
        refine And.intro rfl ?_
        exact ⟨by omega, rfl⟩
      exact True.intro
    · intro h1
      refine And.intro (by omega) ?_
      refine And.intro rfl ?_
      exact ⟨by omega, rfl⟩
theorem s_X12_canBe {fr lo i : Nat} {own : String} (h1 : 1 + 1 ≤ fr) (h2 : 8 + (2 + 11) + 22 ≤ lo) (h3 : .methodLink own i yX12_canBe ∈ lw_tbl ∨ (own = RX1 ∧ i = 35 ∧ yX12_canBe = yX11_within)) : pz_cS fr lo own i k_X12_canBe := pz_cSk (maxL := 2) (fr' := 1) (lo' := 22) 2 h_X12_canBe rfl ⟨by decide +kernel, by decide +kernel, by decide +kernel⟩ ⟨by decide +kernel, by decide +kernel, by decide +kernel⟩ h1 h2 h3
def k_X12_set : pz_C := (4, 1, fun a M => (match a with | [.inr (.inr (12, th)), .inl p, .inl i, .inl n] => pz_im M | _ => False), fun a M r M' => (match a, r with | [.inr (.inr (12, th)), .inl p, .inl i, .inl n], some (.inl v) => (v = 0 ∨ v = 1) ∧ pz_sm M M' | _, _ => False))
abbrev ct_X12_set : List (Bool × Nat × pz_C) := [(true, 58, k_X12_isLink), (false, 76, k_X12_canBe), (true, 71, k_X12_forgets)]
set_option maxRecDepth 100000 in
set_option maxHeartbeats 4000000 in
theorem h_X12_set : pz_H yX12_set cX12_set 4 (some .boolean) k_X12_set 2 43 := by
  refine pz_mk (own := RX12) (tb := t_X12_set) (fl := pz_flf fl_RX12) (ci := pz_cif ci_RX12) (ct := pz_ctf ct_X12_set) (rz := true) (by decide +kernel) rfl t_X12_set_ok (pz_flk fl_RX12_ok) (pz_cik ci_RX12_ok) ?_ ?_ (Or.inr ⟨rfl, rfl⟩) ?_ ?_
  · exact fun i k' h => pz_ctk (l := ct_X12_set) (P := fun b i k => b = true → pz_cV 2 43 RX12 i k) (List.forall_mem_cons.mpr ⟨(fun _ => v_X12_isLink (by decide) (by decide) (by decide +kernel)), List.forall_mem_cons.mpr ⟨((fun z => by cases z)), List.forall_mem_cons.mpr ⟨(fun _ => v_X12_forgets (by decide) (by decide) (by decide +kernel)), fun _ h => absurd h List.not_mem_nil⟩⟩⟩) true i k' h rfl
  · exact fun i k' h => pz_ctk (l := ct_X12_set) (P := fun b i k => b = false → (pz_cS 2 43 RX12 i k ∨ (k = pz_kac ∧ 1 ≤ 2 ∧ 60 ≤ 43 ∧ Cond.methodLink RX12 i arraycopyName ∈ pz_tbl))) (List.forall_mem_cons.mpr ⟨((fun z => by cases z)), List.forall_mem_cons.mpr ⟨(fun _ => Or.inl (s_X12_canBe (by decide) (by decide) (Or.inl (by decide +kernel)))), List.forall_mem_cons.mpr ⟨((fun z => by cases z)), fun _ h => absurd h List.not_mem_nil⟩⟩⟩) false i k' h rfl
  · intro a M hlen hpre
    obtain ⟨th, p, i, n, rfl, hpre⟩ : ∃ th p i n, a = [.inr (.inr (12, th)), .inl p, .inl i, .inl n] ∧ (pz_im M) := by
      have hpre : (match (generalizing := false) a with | [.inr (.inr (12, th)), .inl p, .inl i, .inl n] => pz_im M | _ => False) := hpre
      split at hpre
      · exact ⟨_, _, _, _, rfl, hpre⟩
      · exact hpre.elim
    exact Nat.le_of_ble_eq_true rfl
  · intro a M hlen hcan hM hpre Ok hgo
    obtain ⟨th, p, i, n, rfl, hpre⟩ : ∃ th p i n, a = [.inr (.inr (12, th)), .inl p, .inl i, .inl n] ∧ (pz_im M) := by
      have hpre : (match (generalizing := false) a with | [.inr (.inr (12, th)), .inl p, .inl i, .inl n] => pz_im M | _ => False) := hpre
      split at hpre
      · exact ⟨_, _, _, _, rfl, hpre⟩
      · exact hpre.elim
    obtain ⟨k_th, hc_th⟩ := pz_tlm hcan
    have k_th : pz_kd th = 12 ∧ th < 231 := k_th
    have R_th := pz_kd12 k_th.1
    subst R_th
    obtain ⟨k_p, hc_p⟩ := pz_tlm hc_th
    have l_p : -2147483648 ≤ p := k_p.1
    have u_p : p ≤ 2147483647 := k_p.2
    obtain ⟨k_i, hc_i⟩ := pz_tlm hc_p
    have l_i : -2147483648 ≤ i := k_i.1
    have u_i : i ≤ 2147483647 := k_i.2
    obtain ⟨k_n, hc_n⟩ := pz_tlm hc_i
    have l_n : -2147483648 ≤ n := k_n.1
    have u_n : n ≤ 2147483647 := k_n.2
    have hI : pz_im M := hpre
    have hI0 := hI
    have hS : pz_sm M M := pz_sm.rf
    refine hgo (fun _ => false) 42 0 _ [] M ?_
    refine And.intro (hI) ?_
    intro v2 M2 a2 b2 q2
    obtain ⟨q2, z2⟩ := q2
    subst z2
    clear a2 b2
    refine And.intro (fun h5 => ?_) (fun h5 => ?_)
    · skip
      have q2 := q2.resolve_left (fun z => absurd (z.1.symm.trans h5) (by decide))
      refine And.intro (by omega) ?_
      refine And.intro rfl ?_
      exact ⟨by omega, hS⟩
    · skip
      have q2 := q2.resolve_right h5
      refine And.intro (True.intro) ?_
      intro v10 M10 a10 b10 q10
      obtain ⟨q10, z10⟩ := q10
      subst z10
      clear a10 b10
      refine And.intro (fun h13 => ?_) (fun h13 => ?_)
      · skip
        intro r19 e19 k19
        have e19 : r19 = 60 := e19
        subst e19
        refine And.intro (fun h23 => ?_) (fun h23 => ?_)
        · skip
          refine And.intro (fun h32 => ?_) (fun h32 => ?_)
          · skip
            refine And.intro (fun h42 => ?_) (fun h42 => ?_)
            · skip
              refine And.intro (fun h52 => ?_) (fun h52 => ?_)
              · skip
                intro v63 e63 a63 b63
                rw [pz_wi (by omega) (by omega)] at e63
                clear a63 b63
                refine And.intro (by omega) (And.intro (show _ < (1725 : Int) from by omega) ?_)
                intro M65 e65
                have hS : pz_sm M M65 := by
                  rw [e65]
                  exact pz_sm_u hS (by unfold pz_mid; decide) (fun h => absurd h.1 (by decide)) (by omega) (by first | exact pz_iom_w (by omega) (by omega) | (unfold pz_iom; omega))
                have hI : pz_im M65 := hS.1.1.1 hI0
                refine And.intro (hI) ?_
                intro M67 q67
                obtain ⟨q67, z67⟩ := q67
                have hS : pz_sm M M67 := hS.tr z67
                have hI : pz_im M67 := hS.1.1.1 hI0
                refine And.intro (by omega) ?_
                refine And.intro rfl ?_
                exact ⟨by omega, hS⟩
              · skip
                intro v63 e63 a63 b63
                rw [pz_wi (by omega) (by omega)] at e63
                clear a63 b63
                refine And.intro (by omega) (And.intro (show _ < (1725 : Int) from by omega) ?_)
                intro M65 e65
                have hS : pz_sm M M65 := by
                  rw [e65]
                  exact pz_sm_u hS (by unfold pz_mid; decide) (fun h => absurd h.1 (by decide)) (by omega) (by first | exact pz_iom_w (by omega) (by omega) | (unfold pz_iom; omega))
                have hI : pz_im M65 := hS.1.1.1 hI0
                refine And.intro (hI) ?_
                intro M67 q67
                obtain ⟨q67, z67⟩ := q67
                have hS : pz_sm M M67 := hS.tr z67
                have hI : pz_im M67 := hS.1.1.1 hI0
                refine And.intro (by omega) ?_
                refine And.intro rfl ?_
                exact ⟨by omega, hS⟩
            · skip
              intro v63 e63 a63 b63
              rw [pz_wi (by omega) (by omega)] at e63
              clear a63 b63
              refine And.intro (by omega) (And.intro (show _ < (1725 : Int) from by omega) ?_)
              intro M65 e65
              have hS : pz_sm M M65 := by
                rw [e65]
                exact pz_sm_u hS (by unfold pz_mid; decide) (fun h => absurd h.1 (by decide)) (by omega) (by first | exact pz_iom_w (by omega) (by omega) | (unfold pz_iom; omega))
              have hI : pz_im M65 := hS.1.1.1 hI0
              refine And.intro (hI) ?_
              intro M67 q67
              obtain ⟨q67, z67⟩ := q67
              have hS : pz_sm M M67 := hS.tr z67
              have hI : pz_im M67 := hS.1.1.1 hI0
              refine And.intro (by omega) ?_
              refine And.intro rfl ?_
              exact ⟨by omega, hS⟩
          · skip
            intro v63 e63 a63 b63
            rw [pz_wi (by omega) (by omega)] at e63
            clear a63 b63
            refine And.intro (by omega) (And.intro (show _ < (1725 : Int) from by omega) ?_)
            intro M65 e65
            have hS : pz_sm M M65 := by
              rw [e65]
              exact pz_sm_u hS (by unfold pz_mid; decide) (fun h => absurd h.1 (by decide)) (by omega) (by first | exact pz_iom_w (by omega) (by omega) | (unfold pz_iom; omega))
            have hI : pz_im M65 := hS.1.1.1 hI0
            refine And.intro (hI) ?_
            intro M67 q67
            obtain ⟨q67, z67⟩ := q67
            have hS : pz_sm M M67 := hS.tr z67
            have hI : pz_im M67 := hS.1.1.1 hI0
            refine And.intro (by omega) ?_
            refine And.intro rfl ?_
            exact ⟨by omega, hS⟩
        · skip
          intro v63 e63 a63 b63
          rw [pz_wi (by omega) (by omega)] at e63
          clear a63 b63
          refine And.intro (by omega) (And.intro (show _ < (1725 : Int) from by omega) ?_)
          intro M65 e65
          have hS : pz_sm M M65 := by
            rw [e65]
            exact pz_sm_u hS (by unfold pz_mid; decide) (fun h => absurd h.1 (by decide)) (by omega) (by first | exact pz_iom_w (by omega) (by omega) | (unfold pz_iom; omega))
          have hI : pz_im M65 := hS.1.1.1 hI0
          refine And.intro (hI) ?_
          intro M67 q67
          obtain ⟨q67, z67⟩ := q67
          have hS : pz_sm M M67 := hS.tr z67
          have hI : pz_im M67 := hS.1.1.1 hI0
          refine And.intro (by omega) ?_
          refine And.intro rfl ?_
          exact ⟨by omega, hS⟩
      · skip
        refine And.intro (by omega) ?_
        refine And.intro rfl ?_
        exact ⟨by omega, hS⟩
theorem v_X12_set {fr lo i : Nat} {own : String} (h1 : 2 + 1 ≤ fr) (h2 : 8 + (4 + 11) + 43 ≤ lo) (h3 : .methodLink own i yX12_set ∈ lw_tbl) : pz_cV fr lo own i k_X12_set :=
  pz_cVk (maxL := 4) (fr' := 2) (lo' := 43) 3 12 h_X12_set rfl ⟨by decide +kernel, by decide +kernel, by decide +kernel⟩ ⟨by decide +kernel, by decide +kernel, by decide +kernel, by decide +kernel⟩ (Or.inl ⟨TX12, 28, rfl⟩) (fun a M _ h => by
    have h : (match (generalizing := false) a with | [.inr (.inr (12, th)), .inl p, .inl i, .inl n] => pz_im M | _ => False) := h
    split at h
    · exact ⟨_, _, rfl⟩
    · exact h.elim) h1 h2 h3
def k_X12_feed : pz_C := (6, 1, fun a M => (match a with | [.inr (.inr (12, th)), .inl p, .inl q, .inl w, .inl s, .inl u] => pz_im M | _ => False), fun a M r M' => (match a, r with | [.inr (.inr (12, th)), .inl p, .inl q, .inl w, .inl s, .inl u], some (.inl v) => ((if M 1 16 + 20 ≤ 400 then v = M 1 16 + 20 ∧ M' 1 16 = M 1 16 + 20 else v = -1 ∧ M' 1 16 = M 1 16)) ∧ pz_sn M M' | _, _ => False))
abbrev ct_X12_feed : List (Bool × Nat × pz_C) := []
set_option maxRecDepth 100000 in
set_option maxHeartbeats 4000000 in
theorem h_X12_feed : pz_H yX12_feed cX12_feed 8 (some .int) k_X12_feed 0 0 := by
  refine pz_mk (own := RX12) (tb := t_X12_feed) (fl := pz_flf fl_RX12) (ci := pz_cif ci_RX12) (ct := pz_ctf ct_X12_feed) (rz := false) (by decide +kernel) rfl t_X12_feed_ok (pz_flk fl_RX12_ok) (pz_cik ci_RX12_ok) ?_ ?_ (Or.inl ⟨rfl, rfl⟩) ?_ ?_
  · exact fun i k' h => pz_ctk (l := ct_X12_feed) (P := fun b i k => b = true → pz_cV 0 0 RX12 i k) (fun _ h => absurd h List.not_mem_nil) true i k' h rfl
  · exact fun i k' h => pz_ctk (l := ct_X12_feed) (P := fun b i k => b = false → (pz_cS 0 0 RX12 i k ∨ (k = pz_kac ∧ 1 ≤ 0 ∧ 60 ≤ 0 ∧ Cond.methodLink RX12 i arraycopyName ∈ pz_tbl))) (fun _ h => absurd h List.not_mem_nil) false i k' h rfl
  · intro a M hlen hpre
    obtain ⟨th, p, q, w, s, u, rfl, hpre⟩ : ∃ th p q w s u, a = [.inr (.inr (12, th)), .inl p, .inl q, .inl w, .inl s, .inl u] ∧ (pz_im M) := by
      have hpre : (match (generalizing := false) a with | [.inr (.inr (12, th)), .inl p, .inl q, .inl w, .inl s, .inl u] => pz_im M | _ => False) := hpre
      split at hpre
      · exact ⟨_, _, _, _, _, _, rfl, hpre⟩
      · exact hpre.elim
    exact Nat.le_of_ble_eq_true rfl
  · intro a M hlen hcan hM hpre Ok hgo
    obtain ⟨th, p, q, w, s, u, rfl, hpre⟩ : ∃ th p q w s u, a = [.inr (.inr (12, th)), .inl p, .inl q, .inl w, .inl s, .inl u] ∧ (pz_im M) := by
      have hpre : (match (generalizing := false) a with | [.inr (.inr (12, th)), .inl p, .inl q, .inl w, .inl s, .inl u] => pz_im M | _ => False) := hpre
      split at hpre
      · exact ⟨_, _, _, _, _, _, rfl, hpre⟩
      · exact hpre.elim
    obtain ⟨k_th, hc_th⟩ := pz_tlm hcan
    have k_th : pz_kd th = 12 ∧ th < 231 := k_th
    have R_th := pz_kd12 k_th.1
    subst R_th
    obtain ⟨k_p, hc_p⟩ := pz_tlm hc_th
    have l_p : -2147483648 ≤ p := k_p.1
    have u_p : p ≤ 2147483647 := k_p.2
    obtain ⟨k_q, hc_q⟩ := pz_tlm hc_p
    have l_q : -2147483648 ≤ q := k_q.1
    have u_q : q ≤ 2147483647 := k_q.2
    obtain ⟨k_w, hc_w⟩ := pz_tlm hc_q
    have l_w : -2147483648 ≤ w := k_w.1
    have u_w : w ≤ 2147483647 := k_w.2
    obtain ⟨k_s, hc_s⟩ := pz_tlm hc_w
    have l_s : -2147483648 ≤ s := k_s.1
    have u_s : s ≤ 2147483647 := k_s.2
    obtain ⟨k_u, hc_u⟩ := pz_tlm hc_s
    have l_u : -2147483648 ≤ u := k_u.1
    have u_u : u ≤ 2147483647 := k_u.2
    have hI : pz_im M := hpre
    have hI0 := hI
    have hS : pz_sn M M := pz_sn.rf
    have L18 : ∀ (fu : Nat) (x6 : Int) (d7 : Option pz_V) (N18 : pz_M), (20 - x6).toNat < fu → (pz_sn M N18) → (0 ≤ x6) → (x6 ≤ 20) → (M 1 16 + 20 ≤ 400) → (N18 1 16 = M 1 16 + x6) → Ok 18 [some (.inr (.inr (12, 1))), some (.inl p), some (.inl q), some (.inl w), some (.inl s), some (.inl u), some (.inl x6), d7] [] N18 := by
      intro fu
      induction fu with
      | zero => exact fun _ _ _ hn => absurd hn (Nat.not_lt_zero _)
      | succ fu ih18 =>
        intro x6 d7 N18 hn18 hS g18_1 g18_2 g18_3 g18_4
        have hI : pz_im N18 := hS.1 hI0
        have L71 : ∀ (x6 : Int) (d7 : Option pz_V) (s0 : Int) (N71 : pz_M), (pz_sn M N71) → (0 ≤ x6) → (x6 < 20) → ((20 - x6).toNat < fu + 1) → (N71 1 16 = M 1 16 + x6) → Ok 71 [some (.inr (.inr (12, 1))), some (.inl p), some (.inl q), some (.inl w), some (.inl s), some (.inl u), some (.inl x6), d7] [.inl s0] N71 := by
          intro x6 d7 s0 N71 hS g71_1 g71_2 g71_3 g71_4
          have hI : pz_im N71 := hS.1 hI0
          refine hgo (fun p => Nat.beq p 18 || Nat.beq p 71) 64 71 _ _ _ ?_
          intro r74 e74 k74
          have e74 : r74 = 67 := e74
          subst e74
          intro v78 e78 a78 b78
          have I78 := hI.2.1.2.1
          clear a78 b78
          refine And.intro (by omega) ?_
          intro v90 e90 a90 b90
          intro v91 e91 a91 b91
          intro v92 e92 a92 b92
          intro v93 e93 a93 b93
          intro v97 e97 a97 b97
          refine And.intro (by omega) (And.intro (show _ < (400 : Int) from by omega) ?_)
          intro M98 e98
          have hS : pz_sn M M98 := by
            rw [e98]
            exact pz_sn_u hS (by unfold pz_mid; decide) (pz_iom_a (by decide))
          have hI : pz_im M98 := hS.1 hI0
          have T98_0 : M98 1 16 = N71 1 16 := by rw [e98]; exact pz_une (by decide)
          intro v101 e101 a101 b101
          have I101 := hI.2.1.2.1
          clear a101 b101
          intro v105 e105 a105 b105
          rw [pz_wi (by omega) (by omega)] at e105
          clear a105 b105
          intro M106 e106
          have hS : pz_sn M M106 := by
            rw [e106]
            exact pz_sn_u hS (by unfold pz_mid; omega) (by unfold pz_iom; omega)
          have hI : pz_im M106 := hS.1 hI0
          have T106_0 := pz_uve e106 1 16
          intro v109 e109 a109 b109
          rw [pz_wi (by omega) (by omega)] at e109
          clear a109 b109
          exact ih18 _ _ _ (by omega) hS (by omega) (by omega) (by omega) (by omega)
        refine hgo (fun p => Nat.beq p 18 || Nat.beq p 71) 64 18 _ _ _ ?_
        refine And.intro (fun h22 => ?_) (fun h22 => ?_)
        · skip
          intro v116 e116 a116 b116
          have I116 := hI.2.1.2.1
          clear a116 b116
          refine And.intro rfl ?_
          refine And.intro ?_ hS
          split <;> omega
        · skip
          refine And.intro (fun h28 => ?_) (fun h28 => ?_)
          · skip
            refine And.intro (fun h39 => ?_) (fun h39 => ?_)
            · skip
              refine And.intro (fun h50 => ?_) (fun h50 => ?_)
              · skip
                refine And.intro (fun h61 => ?_) (fun h61 => ?_)
                · skip
                  exact L71 _ _ _ _ hS (by omega) (by omega) (by omega) (by omega)
                · skip
                  exact L71 _ _ _ _ hS (by omega) (by omega) (by omega) (by omega)
              · skip
                exact L71 _ _ _ _ hS (by omega) (by omega) (by omega) (by omega)
            · skip
              exact L71 _ _ _ _ hS (by omega) (by omega) (by omega) (by omega)
          · skip
            exact L71 _ _ _ _ hS (by omega) (by omega) (by omega) (by omega)
    refine hgo (fun p => Nat.beq p 18 || Nat.beq p 71) 64 0 _ [] M ?_
    intro v1 e1 a1 b1
    have I1 := hI.2.1.2.1
    clear a1 b1
    intro v6 e6 a6 b6
    rw [pz_wi (by omega) (by omega)] at e6
    clear a6 b6
    refine And.intro (fun h10 => ?_) (fun h10 => ?_)
    · skip
      exact L18 _ _ _ _ (Nat.lt_succ_self _) hS (by omega) (by omega) (by omega) (by omega)
    · skip
      refine And.intro rfl ?_
      refine And.intro ?_ hS
      split <;> omega
theorem v_X12_feed {fr lo i : Nat} {own : String} (h1 : 0 + 1 ≤ fr) (h2 : 8 + (8 + 11) + 0 ≤ lo) (h3 : .methodLink own i yX12_feed ∈ lw_tbl) : pz_cV fr lo own i k_X12_feed :=
  pz_cVk (maxL := 8) (fr' := 0) (lo' := 0) 5 12 h_X12_feed rfl ⟨by decide +kernel, by decide +kernel, by decide +kernel⟩ ⟨by decide +kernel, by decide +kernel, by decide +kernel, by decide +kernel⟩ (Or.inl ⟨TX12, 28, rfl⟩) (fun a M _ h => by
    have h : (match (generalizing := false) a with | [.inr (.inr (12, th)), .inl p, .inl q, .inl w, .inl s, .inl u] => pz_im M | _ => False) := h
    split at h
    · exact ⟨_, _, rfl⟩
    · exact h.elim) h1 h2 h3
def k_X12_end : pz_C := (2, 1, fun a M => (match a with | [.inr (.inr (12, th)), .inl n] => pz_im M | _ => False), fun a M r M' => (match a, r with | [.inr (.inr (12, th)), .inl n], some (.inl v) => ((if 0 ≤ n ∧ n ≤ M 1 16 then v = 1 ∧ M' 1 16 = n else v = 0 ∧ M' 1 16 = M 1 16)) ∧ pz_sn M M' | _, _ => False))
abbrev ct_X12_end : List (Bool × Nat × pz_C) := [(false, 54, k_X12_isIn)]
set_option maxRecDepth 100000 in
set_option maxHeartbeats 4000000 in
theorem h_X12_end : pz_H yX12_end cX12_end 2 (some .boolean) k_X12_end 1 22 := by
  refine pz_mk (own := RX12) (tb := t_X12_end) (fl := pz_flf fl_RX12) (ci := pz_cif ci_RX12) (ct := pz_ctf ct_X12_end) (rz := true) (by decide +kernel) rfl t_X12_end_ok (pz_flk fl_RX12_ok) (pz_cik ci_RX12_ok) ?_ ?_ (Or.inr ⟨rfl, rfl⟩) ?_ ?_
  · exact fun i k' h => pz_ctk (l := ct_X12_end) (P := fun b i k => b = true → pz_cV 1 22 RX12 i k) (List.forall_mem_cons.mpr ⟨((fun z => by cases z)), fun _ h => absurd h List.not_mem_nil⟩) true i k' h rfl
  · exact fun i k' h => pz_ctk (l := ct_X12_end) (P := fun b i k => b = false → (pz_cS 1 22 RX12 i k ∨ (k = pz_kac ∧ 1 ≤ 1 ∧ 60 ≤ 22 ∧ Cond.methodLink RX12 i arraycopyName ∈ pz_tbl))) (List.forall_mem_cons.mpr ⟨(fun _ => Or.inl (s_X12_isIn (by decide) (by decide) (Or.inl (by decide +kernel)))), fun _ h => absurd h List.not_mem_nil⟩) false i k' h rfl
  · intro a M hlen hpre
    obtain ⟨th, n, rfl, hpre⟩ : ∃ th n, a = [.inr (.inr (12, th)), .inl n] ∧ (pz_im M) := by
      have hpre : (match (generalizing := false) a with | [.inr (.inr (12, th)), .inl n] => pz_im M | _ => False) := hpre
      split at hpre
      · exact ⟨_, _, rfl, hpre⟩
      · exact hpre.elim
    exact Nat.le_of_ble_eq_true rfl
  · intro a M hlen hcan hM hpre Ok hgo
    obtain ⟨th, n, rfl, hpre⟩ : ∃ th n, a = [.inr (.inr (12, th)), .inl n] ∧ (pz_im M) := by
      have hpre : (match (generalizing := false) a with | [.inr (.inr (12, th)), .inl n] => pz_im M | _ => False) := hpre
      split at hpre
      · exact ⟨_, _, rfl, hpre⟩
      · exact hpre.elim
    obtain ⟨k_th, hc_th⟩ := pz_tlm hcan
    have k_th : pz_kd th = 12 ∧ th < 231 := k_th
    have R_th := pz_kd12 k_th.1
    subst R_th
    obtain ⟨k_n, hc_n⟩ := pz_tlm hc_th
    have l_n : -2147483648 ≤ n := k_n.1
    have u_n : n ≤ 2147483647 := k_n.2
    have hI : pz_im M := hpre
    have hI0 := hI
    have hS : pz_sn M M := pz_sn.rf
    refine hgo (fun _ => false) 15 0 _ [] M ?_
    intro v3 e3 a3 b3
    have I3 := hI.2.1.2.1
    clear a3 b3
    refine And.intro (True.intro) ?_
    intro v6 M6 a6 b6 q6
    obtain ⟨q6, z6⟩ := q6
    subst z6
    clear a6 b6
    refine And.intro (fun h9 => ?_) (fun h9 => ?_)
    · skip
      have q6 := q6.resolve_right (fun z => h9 z.1)
      intro M16 e16
      have hS : pz_sn M M16 := by
        rw [e16]
        exact pz_sn_u hS (by unfold pz_mid; omega) (by unfold pz_iom; omega)
      have hI : pz_im M16 := hS.1 hI0
      have T16_0 := pz_uve e16 1 16
      refine And.intro (by omega) ?_
      refine And.intro rfl ?_
      refine And.intro ?_ hS
      split <;> omega
    · skip
      have q6 := q6.resolve_left (fun z => absurd (z.1.symm.trans h9) (by decide))
      refine And.intro (by omega) ?_
      refine And.intro rfl ?_
      refine And.intro ?_ hS
      split <;> omega
theorem v_X12_end {fr lo i : Nat} {own : String} (h1 : 1 + 1 ≤ fr) (h2 : 8 + (2 + 11) + 22 ≤ lo) (h3 : .methodLink own i yX12_end ∈ lw_tbl) : pz_cV fr lo own i k_X12_end :=
  pz_cVk (maxL := 2) (fr' := 1) (lo' := 22) 1 12 h_X12_end rfl ⟨by decide +kernel, by decide +kernel, by decide +kernel⟩ ⟨by decide +kernel, by decide +kernel, by decide +kernel, by decide +kernel⟩ (Or.inl ⟨TX12, 28, rfl⟩) (fun a M _ h => by
    have h : (match (generalizing := false) a with | [.inr (.inr (12, th)), .inl n] => pz_im M | _ => False) := h
    split at h
    · exact ⟨_, _, rfl⟩
    · exact h.elim) h1 h2 h3
