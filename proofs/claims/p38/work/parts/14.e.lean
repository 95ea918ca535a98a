/-! the model's reading of a law: what has been written of the program -/
def pz_Q5 (b j : Nat) : Prop := b = 1 ∧ ((17 ≤ j ∧ j ≤ 22) ∨ j = 24)
def pz_ly (M M' : pz_M) (x y : Int) : Prop := M' 65 (2 * M 1 14).toNat = x ∧ M' 65 (2 * M 1 14 + 1).toNat = y ∧ M' 1 14 = M 1 14 + 1 ∧ M' 1 17 = M 1 17 ∧ M' 1 18 = M 1 18 ∧ M' 1 19 = M 1 19 ∧ M' 1 24 = M 1 24 ∧ ∀ j : Nat, (j : Int) < 2 * M 1 14 → M' 65 j = M 65 j
def pz_pg (c e : Int) (M M' : pz_M) : Prop := (M' 1 19 ≤ M' 1 17 ∧ (M' 1 18 ≠ 0 → M' 1 19 + 1 ≤ M' 1 17)) ∧ M 1 19 + M' 1 14 + c ≤ M' 1 19 + M 1 14 ∧ M' 1 24 = M 1 24 + e ∧ M 1 14 ≤ M' 1 14 ∧ (∀ j : Nat, (j : Int) < 2 * M 1 14 → M' 65 j = M 65 j) ∧ pz_sg (M' 65) (M 1 14) (M' 1 14)
theorem pz_q0f {M M' : pz_M} (h : pz_rl pz_Q0 M M') : M' 1 14 = M 1 14 ∧ M' 1 24 = M 1 24 ∧ M' 65 = M 65 := ⟨h.2 1 14 (by unfold pz_Q0; omega), h.2 1 24 (by unfold pz_Q0; omega), funext fun j => h.2 65 j (by unfold pz_Q0; omega)⟩
theorem pz_pg_one {M M1 M2 : pz_M} {x y : Int} (hl : pz_ly M M1 x y) (hx : 0 ≤ x ∧ x < 10) (hp : M 1 19 + 1 ≤ M 1 17) (hz : pz_rl pz_Q0 M1 M2) (hn : M1 1 17 ≤ M2 1 19 ∧ M2 1 19 ≤ M2 1 17 ∧ (M2 1 18 ≠ 0 → M2 1 19 + 1 ≤ M2 1 17)) : pz_pg 0 0 M M2 := by
  obtain ⟨l1, l2, l3, l4, l5, l6, l7, l8⟩ := hl
  obtain ⟨z1, z2, z3⟩ := pz_q0f hz
  refine ⟨hn.2, by omega, by omega, by omega, fun j hj => by rw [z3]; exact l8 j hj, ?_⟩
  rw [show M2 1 14 = M 1 14 + 1 by omega, z3]
  exact pz_sg_1 (by rw [l1]; exact hx)
theorem pz_pg_nx {c c' e : Int} {M N N1 : pz_M} (hg : pz_pg c e M N) (ht : N 1 18 ≠ 0) (hz : pz_rl pz_Q0 N N1) (hn : N 1 17 ≤ N1 1 19 ∧ N1 1 19 ≤ N1 1 17 ∧ (N1 1 18 ≠ 0 → N1 1 19 + 1 ≤ N1 1 17)) (hc : c' ≤ c + 1) : pz_pg c' e M N1 := by
  obtain ⟨⟨a1, a2⟩, a3, a4, a5, a6, a7⟩ := hg
  obtain ⟨z1, z2, z3⟩ := pz_q0f hz
  have a2 := a2 ht
  refine ⟨hn.2, by omega, by omega, by omega, fun j hj => by rw [z3]; exact a6 j hj, ?_⟩
  rw [z1, z3]
  exact a7
theorem pz_pg_un {c c' e : Int} {M N N' : pz_M} {o y : Int} (h0 : 0 ≤ M 1 14) (hg : pz_pg c e M N) (hl : pz_ly N N' o y) (ho : (o = 26 ∧ y ≠ 0) ∨ o = 30) (hc : c' + 1 ≤ c) : pz_pg c' e M N' := by
  obtain ⟨⟨a1, a2⟩, a3, a4, a5, a6, a7⟩ := hg
  obtain ⟨l1, l2, l3, l4, l5, l6, l7, l8⟩ := hl
  refine ⟨⟨by omega, by rw [l4, l5, l6]; exact a2⟩, by omega, by omega, by omega, fun j hj => (l8 j (by omega)).trans (a6 j hj), ?_⟩
  rw [l3]
  exact pz_sg_u (pz_sg_cg a7 h0 (fun j _ q2 => l8 j q2)) (by rw [l1, l2]; exact ho)
theorem pz_pg_bi {c c' e : Int} {M N N2 N3 : pz_M} {o y : Int} (h0 : 0 ≤ M 1 14) (hg : pz_pg c e M N) (hg2 : pz_pg 0 0 N N2) (hl : pz_ly N2 N3 o y) (ho : 23 ≤ o ∧ o ≠ 26 ∧ o ≠ 30) (hc : c' + 1 ≤ c) : pz_pg c' e M N3 := by
  obtain ⟨⟨a1, a2⟩, a3, a4, a5, a6, a7⟩ := hg
  obtain ⟨⟨b1, b2⟩, b3, b4, b5, b6, b7⟩ := hg2
  obtain ⟨l1, l2, l3, l4, l5, l6, l7, l8⟩ := hl
  refine ⟨⟨by omega, by rw [l4, l5, l6]; exact b2⟩, by omega, by omega, by omega, fun j hj => ((l8 j (by omega)).trans (b6 j (by omega))).trans (a6 j hj), ?_⟩
  rw [l3]
  exact pz_sg_b (pz_sg_cg a7 h0 (fun j _ q2 => (l8 j (by omega)).trans (b6 j (by omega)))) (pz_sg_cg b7 (by omega) (fun j _ q2 => l8 j q2)) (by rw [l1]; exact ho)
theorem pz_pg_op {c : Int} {M N1 N2 : pz_M} (e14 : N1 1 14 = M 1 14) (e65 : ∀ j, N1 65 j = M 65 j) (e19 : M 1 19 + c ≤ N1 1 19) (e24 : N1 1 24 = M 1 24 + 1) (hg : pz_pg 0 0 N1 N2) : pz_pg c 1 M N2 := by
  obtain ⟨a1, a3, a4, a5, a6, a7⟩ := hg
  rw [e14] at a3 a5 a6 a7
  exact ⟨a1, by omega, by omega, a5, fun j hj => (a6 j hj).trans (e65 j), a7⟩
theorem pz_pg_dn {c e e' v : Int} {M N N' : pz_M} (hg : pz_pg c e M N) (hu : N' = pz_u N 1 24 v) (hv : v = N 1 24 - 1) (he : e' = e - 1) : pz_pg c e' M N' := by
  obtain ⟨a1, a3, a4, a5, a6, a7⟩ := hg
  have u1 := pz_uve hu 1 14
  have u2 := pz_uve hu 1 17
  have u3 := pz_uve hu 1 18
  have u4 := pz_uve hu 1 19
  have u5 := pz_uve hu 1 24
  have e65 : N' 65 = N 65 := funext fun j => by rw [hu]; exact pz_una (by decide)
  have e14 : N' 1 14 = N 1 14 := by omega
  have e17 : N' 1 17 = N 1 17 := by omega
  have e18 : N' 1 18 = N 1 18 := by omega
  have e19 : N' 1 19 = N 1 19 := by omega
  unfold pz_pg
  rw [e14, e17, e18, e19, e65]
  exact ⟨a1, a3, by omega, a5, a6, a7⟩
theorem pz_pg_le {c c' e : Int} {M N : pz_M} (hg : pz_pg c e M N) (hc : c' ≤ c) : pz_pg c' e M N := ⟨hg.1, by have := hg.2.1; omega, hg.2.2⟩

noncomputable def k_X12_see : pz_C := (2, 1, fun a M => (match a with | [.inr (.inr (12, th)), .inl i] => pz_im M ∧ 0 ≤ i | _ => False), fun a M r M' => (match a, r with | [.inr (.inr (12, th)), .inl i], some (.inl v) => ((i < M 1 16 ∧ v = M 67 i.toNat) ∨ (M 1 16 ≤ i ∧ v = -1)) ∧ M = M' | _, _ => False))
noncomputable abbrev ct_X12_see : List (Bool × Nat × pz_C) := []
set_option maxRecDepth 100000 in
set_option maxHeartbeats 4000000 in
theorem h_X12_see : pz_H yX12_see cX12_see 2 (some .int) k_X12_see 0 0 := by
  refine pz_mk (own := RX12) (tb := t_X12_see) (fl := pz_flf fl_RX12) (ci := pz_cif ci_RX12) (ct := pz_ctf ct_X12_see) (rz := false) (pz_pfc_RX12 yX12_see rfl) rfl t_X12_see_ok (pz_flk fl_RX12_ok) (pz_cik ci_RX12_ok) ?_ ?_ (Or.inl ⟨rfl, rfl⟩) ?_ ?_
  · exact fun i k' h => pz_ctk (l := ct_X12_see) (P := fun b i k => b = true → pz_cV 0 0 RX12 i k) (fun _ h => absurd h List.not_mem_nil) true i k' h rfl
  · exact fun i k' h => pz_ctk (l := ct_X12_see) (P := fun b i k => b = false → (pz_cS 0 0 RX12 i k ∨ (k = pz_kac ∧ 1 ≤ 0 ∧ 60 ≤ 0 ∧ Cond.methodLink RX12 i arraycopyName ∈ pz_tbl))) (fun _ h => absurd h List.not_mem_nil) false i k' h rfl
  · intro a M hlen hpre
    obtain ⟨th, i, rfl, hpre⟩ : ∃ th i, a = [.inr (.inr (12, th)), .inl i] ∧ (pz_im M ∧ 0 ≤ i) := by
      have hpre : (match (generalizing := false) a with | [.inr (.inr (12, th)), .inl i] => pz_im M ∧ 0 ≤ i | _ => False) := hpre
      split at hpre
      · exact ⟨_, _, rfl, hpre⟩
      · exact hpre.elim
    exact Nat.le_of_ble_eq_true rfl
  · intro a M hlen hcan hM hpre Ok hgo
    obtain ⟨th, i, rfl, hpre⟩ : ∃ th i, a = [.inr (.inr (12, th)), .inl i] ∧ (pz_im M ∧ 0 ≤ i) := by
      have hpre : (match (generalizing := false) a with | [.inr (.inr (12, th)), .inl i] => pz_im M ∧ 0 ≤ i | _ => False) := hpre
      split at hpre
      · exact ⟨_, _, rfl, hpre⟩
      · exact hpre.elim
    obtain ⟨k_th, hc_th⟩ := pz_tlm hcan
    have k_th : pz_kd th = 12 ∧ th < 231 := k_th
    have R_th := pz_kd12 k_th.1
    subst R_th
    clear k_th
    obtain ⟨k_i, hc_i⟩ := pz_tlm hc_th
    have l_i : -2147483648 ≤ i := k_i.1
    have u_i : i ≤ 2147483647 := k_i.2
    have hI : pz_im M := hpre.1
    refine hgo (fun _ => false) 13 0 _ [] M ?_
    intro v2 e2 a2 b2
    have I2 : 0 ≤ v2 ∧ v2 ≤ 400 := by
      rw [e2]
      exact hI.2.1.2.1
    clear a2 b2
    have N2 := hI.2.1.2.1
    refine And.intro (fun h5 => ?_) (fun h5 => ?_)
    · skip
      refine And.intro rfl ?_
      exact ⟨by omega, rfl⟩
    · skip
      refine pz_nrc (c := 67) rfl ?_
      have lo13 : (0 : Int) ≤ i := by omega
      have tn13 : (((i).toNat : Nat) : Int) = i := Int.toNat_of_nonneg lo13
      refine And.intro (lo13) (And.intro (show _ < (400 : Int) from by omega) ?_)
      intro v13 e13 a13 b13
      refine And.intro rfl ?_
      exact ⟨by omega, rfl⟩
theorem v_X12_see {fr lo i : Nat} {own : String} (h1 : 0 + 1 ≤ fr) (h2 : 8 + (2 + 11) + 0 ≤ lo) (h3 : .methodLink own i yX12_see ∈ lw_tbl) : pz_cV fr lo own i k_X12_see :=
  pz_cVk (maxL := 2) (fr' := 0) (lo' := 0) 1 12 h_X12_see rfl ⟨(pz_nhc_RX12 yX12_see rfl).1, (pz_nhc_RX12 yX12_see rfl).2, pz_ds5⟩ ⟨pz_wq1250, pz_wq1249, pz_ws7, pz_wq13⟩ (Or.inl ⟨TX12, 28, rfl⟩) (fun a M _ h => by
    have h : (match (generalizing := false) a with | [.inr (.inr (12, th)), .inl i] => pz_im M ∧ 0 ≤ i | _ => False) := h
    split at h
    · exact ⟨_, _, rfl⟩
    · exact h.elim) h1 h2 h3
noncomputable def k_X12_isLetter : pz_C := (1, 1, fun a M => (match a with | [.inl x] => True | _ => False), fun a M r M' => (match a, r with | [.inl x], some (.inl v) => ((v = 1 ∧ ((97 ≤ x ∧ x ≤ 122) ∨ (65 ≤ x ∧ x ≤ 90))) ∨ (v = 0 ∧ ¬ ((97 ≤ x ∧ x ≤ 122) ∨ (65 ≤ x ∧ x ≤ 90)))) ∧ M = M' | _, _ => False))
noncomputable abbrev ct_X12_isLetter : List (Bool × Nat × pz_C) := [(false, 54, k_X12_isIn)]
set_option maxRecDepth 100000 in
set_option maxHeartbeats 4000000 in
theorem h_X12_isLetter : pz_H yX12_isLetter cX12_isLetter 1 (some .boolean) k_X12_isLetter 1 22 := by
  refine pz_mk (own := RX12) (tb := t_X12_isLetter) (fl := pz_flf fl_RX12) (ci := pz_cif ci_RX12) (ct := pz_ctf ct_X12_isLetter) (rz := true) (pz_pfc_RX12 yX12_isLetter rfl) rfl t_X12_isLetter_ok (pz_flk fl_RX12_ok) (pz_cik ci_RX12_ok) ?_ ?_ (Or.inr ⟨rfl, rfl⟩) ?_ ?_
  · exact fun i k' h => pz_ctk (l := ct_X12_isLetter) (P := fun b i k => b = true → pz_cV 1 22 RX12 i k) (List.forall_mem_cons.mpr ⟨((fun z => by cases z)), fun _ h => absurd h List.not_mem_nil⟩) true i k' h rfl
  · exact fun i k' h => pz_ctk (l := ct_X12_isLetter) (P := fun b i k => b = false → (pz_cS 1 22 RX12 i k ∨ (k = pz_kac ∧ 1 ≤ 1 ∧ 60 ≤ 22 ∧ Cond.methodLink RX12 i arraycopyName ∈ pz_tbl))) (List.forall_mem_cons.mpr ⟨(fun _ => Or.inl (s_X12_isIn (by decide) (by decide) (Or.inl pz_wq1217))), fun _ h => absurd h List.not_mem_nil⟩) false i k' h rfl
  · intro a M hlen hpre
    obtain ⟨x, rfl, hpre⟩ : ∃ x, a = [.inl x] ∧ (True) := by
      have hpre : (match (generalizing := false) a with | [.inl x] => True | _ => False) := hpre
      split at hpre
      · exact ⟨_, rfl, hpre⟩
      · exact hpre.elim
    exact Nat.le_of_ble_eq_true rfl
  · intro a M hlen hcan hM hpre Ok hgo
    obtain ⟨x, rfl, hpre⟩ : ∃ x, a = [.inl x] ∧ (True) := by
      have hpre : (match (generalizing := false) a with | [.inl x] => True | _ => False) := hpre
      split at hpre
      · exact ⟨_, rfl, hpre⟩
      · exact hpre.elim
    obtain ⟨k_x, hc_x⟩ := pz_tlm hcan
    have l_x : -2147483648 ≤ x := k_x.1
    have u_x : x ≤ 2147483647 := k_x.2
    refine hgo (fun _ => false) 16 0 _ [] M ?_
    refine And.intro (True.intro) ?_
    intro v5 M5 a5 b5 q5
    obtain ⟨q5, z5⟩ := q5
    subst z5
    clear a5 b5
    refine And.intro (fun h8 => ?_) (fun h8 => ?_)
    · skip
      replace q5 := q5.resolve_right (fun z => h8 z.1)
      clear h8
      refine And.intro (by omega) ?_
      refine And.intro rfl ?_
      exact ⟨by omega, rfl⟩
    · skip
      replace q5 := q5.resolve_left (fun z => absurd (z.1.symm.trans h8) (by decide))
      clear h8
      refine And.intro (True.intro) ?_
      intro v16 M16 a16 b16 q16
      obtain ⟨q16, z16⟩ := q16
      subst z16
      clear a16 b16
      refine And.intro (fun h19 => ?_) (fun h19 => ?_)
      · skip
        replace q16 := q16.resolve_left (fun z => absurd (z.1.symm.trans h19) (by decide))
        clear h19
        refine And.intro (by omega) ?_
        refine And.intro rfl ?_
        exact ⟨by omega, rfl⟩
      · skip
        replace q16 := q16.resolve_right (fun z => h19 z.1)
        clear h19
        refine And.intro (by omega) ?_
        refine And.intro rfl ?_
        exact ⟨by omega, rfl⟩
theorem s_X12_isLetter {fr lo i : Nat} {own : String} (h1 : 1 + 1 ≤ fr) (h2 : 8 + (1 + 11) + 22 ≤ lo) (h3 : .methodLink own i yX12_isLetter ∈ lw_tbl ∨ (own = RX1 ∧ i = 35 ∧ yX12_isLetter = yX11_within)) : pz_cS fr lo own i k_X12_isLetter := pz_cSk (maxL := 1) (fr' := 1) (lo' := 22) 1 h_X12_isLetter rfl ⟨(pz_nhc_RX12 yX12_isLetter rfl).1, (pz_nhc_RX12 yX12_isLetter rfl).2, pz_ds9⟩ ⟨pz_wq1253, pz_wq1252, pz_wq13⟩ h1 h2 h3
noncomputable def k_X12_isDigit : pz_C := (1, 1, fun a M => (match a with | [.inl x] => True | _ => False), fun a M r M' => (match a, r with | [.inl x], some (.inl v) => ((v = 1 ∧ 48 ≤ x ∧ x ≤ 57) ∨ (v = 0 ∧ ¬ (48 ≤ x ∧ x ≤ 57))) ∧ M = M' | _, _ => False))
noncomputable abbrev ct_X12_isDigit : List (Bool × Nat × pz_C) := [(false, 54, k_X12_isIn)]
set_option maxRecDepth 100000 in
set_option maxHeartbeats 4000000 in
theorem h_X12_isDigit : pz_H yX12_isDigit cX12_isDigit 1 (some .boolean) k_X12_isDigit 1 22 := by
  refine pz_mk (own := RX12) (tb := t_X12_isDigit) (fl := pz_flf fl_RX12) (ci := pz_cif ci_RX12) (ct := pz_ctf ct_X12_isDigit) (rz := true) (pz_pfc_RX12 yX12_isDigit rfl) rfl t_X12_isDigit_ok (pz_flk fl_RX12_ok) (pz_cik ci_RX12_ok) ?_ ?_ (Or.inr ⟨rfl, rfl⟩) ?_ ?_
  · exact fun i k' h => pz_ctk (l := ct_X12_isDigit) (P := fun b i k => b = true → pz_cV 1 22 RX12 i k) (List.forall_mem_cons.mpr ⟨((fun z => by cases z)), fun _ h => absurd h List.not_mem_nil⟩) true i k' h rfl
  · exact fun i k' h => pz_ctk (l := ct_X12_isDigit) (P := fun b i k => b = false → (pz_cS 1 22 RX12 i k ∨ (k = pz_kac ∧ 1 ≤ 1 ∧ 60 ≤ 22 ∧ Cond.methodLink RX12 i arraycopyName ∈ pz_tbl))) (List.forall_mem_cons.mpr ⟨(fun _ => Or.inl (s_X12_isIn (by decide) (by decide) (Or.inl pz_wq1217))), fun _ h => absurd h List.not_mem_nil⟩) false i k' h rfl
  · intro a M hlen hpre
    obtain ⟨x, rfl, hpre⟩ : ∃ x, a = [.inl x] ∧ (True) := by
      have hpre : (match (generalizing := false) a with | [.inl x] => True | _ => False) := hpre
      split at hpre
      · exact ⟨_, rfl, hpre⟩
      · exact hpre.elim
    exact Nat.le_of_ble_eq_true rfl
  · intro a M hlen hcan hM hpre Ok hgo
    obtain ⟨x, rfl, hpre⟩ : ∃ x, a = [.inl x] ∧ (True) := by
      have hpre : (match (generalizing := false) a with | [.inl x] => True | _ => False) := hpre
      split at hpre
      · exact ⟨_, rfl, hpre⟩
      · exact hpre.elim
    obtain ⟨k_x, hc_x⟩ := pz_tlm hcan
    have l_x : -2147483648 ≤ x := k_x.1
    have u_x : x ≤ 2147483647 := k_x.2
    refine hgo (fun _ => false) 7 0 _ [] M ?_
    refine And.intro (True.intro) ?_
    intro v5 M5 a5 b5 q5
    obtain ⟨q5, z5⟩ := q5
    subst z5
    clear a5 b5
    refine And.intro (by omega) ?_
    refine And.intro rfl ?_
    exact ⟨by omega, rfl⟩
theorem s_X12_isDigit {fr lo i : Nat} {own : String} (h1 : 1 + 1 ≤ fr) (h2 : 8 + (1 + 11) + 22 ≤ lo) (h3 : .methodLink own i yX12_isDigit ∈ lw_tbl ∨ (own = RX1 ∧ i = 35 ∧ yX12_isDigit = yX11_within)) : pz_cS fr lo own i k_X12_isDigit := pz_cSk (maxL := 1) (fr' := 1) (lo' := 22) 1 h_X12_isDigit rfl ⟨(pz_nhc_RX12 yX12_isDigit rfl).1, (pz_nhc_RX12 yX12_isDigit rfl).2, pz_ds9⟩ ⟨pz_wq1302, pz_wq1301, pz_wq13⟩ h1 h2 h3
noncomputable def k_X12_is : pz_C := (2, 1, fun a M => (match a with | [.inr (.inr (12, th)), .inr (.inr (99, s))] => pz_im M ∧ 207 ≤ s ∧ s < 231 ∧ M 1 19 ≤ M 1 17 | _ => False), fun a M r M' => (match a, r with | [.inr (.inr (12, th)), .inr (.inr (99, s))], some (.inl v) => ((v = 1 ∧ pz_W M = pz_cst s) ∨ (v = 0 ∧ pz_W M ≠ pz_cst s)) ∧ M = M' | _, _ => False))
noncomputable abbrev ct_X12_is : List (Bool × Nat × pz_C) := [(true, 89, k_J0_length_8abf5), (true, 95, k_J0_charAt_5068e)]
set_option maxRecDepth 100000 in
set_option maxHeartbeats 4000000 in
theorem h_X12_is : pz_H yX12_is cX12_is 4 (some .boolean) k_X12_is 4 85 := by
  refine pz_mk (own := RX12) (tb := t_X12_is) (fl := pz_flf fl_RX12) (ci := pz_cif ci_RX12) (ct := pz_ctf ct_X12_is) (rz := true) (pz_pfc_RX12 yX12_is rfl) rfl t_X12_is_ok (pz_flk fl_RX12_ok) (pz_cik ci_RX12_ok) ?_ ?_ (Or.inr ⟨rfl, rfl⟩) ?_ ?_
  · exact fun i k' h => pz_ctk (l := ct_X12_is) (P := fun b i k => b = true → pz_cV 4 85 RX12 i k) (List.forall_mem_cons.mpr ⟨(fun _ => v_J0_length_8abf5 (by decide) (by decide) pz_wq1267), List.forall_mem_cons.mpr ⟨(fun _ => v_J0_charAt_5068e (by decide) (by decide) pz_wq1268), fun _ h => absurd h List.not_mem_nil⟩⟩) true i k' h rfl
  · exact fun i k' h => pz_ctk (l := ct_X12_is) (P := fun b i k => b = false → (pz_cS 4 85 RX12 i k ∨ (k = pz_kac ∧ 1 ≤ 4 ∧ 60 ≤ 85 ∧ Cond.methodLink RX12 i arraycopyName ∈ pz_tbl))) (List.forall_mem_cons.mpr ⟨((fun z => by cases z)), List.forall_mem_cons.mpr ⟨((fun z => by cases z)), fun _ h => absurd h List.not_mem_nil⟩⟩) false i k' h rfl
  · intro a M hlen hpre
    obtain ⟨th, s, rfl, hpre⟩ : ∃ th s, a = [.inr (.inr (12, th)), .inr (.inr (99, s))] ∧ (pz_im M ∧ 207 ≤ s ∧ s < 231 ∧ M 1 19 ≤ M 1 17) := by
      have hpre : (match (generalizing := false) a with | [.inr (.inr (12, th)), .inr (.inr (99, s))] => pz_im M ∧ 207 ≤ s ∧ s < 231 ∧ M 1 19 ≤ M 1 17 | _ => False) := hpre
      split at hpre
      · exact ⟨_, _, rfl, hpre⟩
      · exact hpre.elim
    exact Nat.le_of_ble_eq_true rfl
  · intro a M hlen hcan hM hpre Ok hgo
    obtain ⟨th, s, rfl, hpre⟩ : ∃ th s, a = [.inr (.inr (12, th)), .inr (.inr (99, s))] ∧ (pz_im M ∧ 207 ≤ s ∧ s < 231 ∧ M 1 19 ≤ M 1 17) := by
      have hpre : (match (generalizing := false) a with | [.inr (.inr (12, th)), .inr (.inr (99, s))] => pz_im M ∧ 207 ≤ s ∧ s < 231 ∧ M 1 19 ≤ M 1 17 | _ => False) := hpre
      split at hpre
      · exact ⟨_, _, rfl, hpre⟩
      · exact hpre.elim
    obtain ⟨k_th, hc_th⟩ := pz_tlm hcan
    have k_th : pz_kd th = 12 ∧ th < 231 := k_th
    have R_th := pz_kd12 k_th.1
    subst R_th
    clear k_th
    obtain ⟨k_s, hc_s⟩ := pz_tlm hc_th
    have k_s : pz_kd s = 99 ∧ s < 231 := k_s
    have R_s := pz_kd99 k_s.1
    have hI : pz_im M := hpre.1
    have J17 := hI.2.1.2.2.2.1
    have J19 := hI.2.1.2.2.2.2.1
    obtain ⟨-, p1, p2, p3⟩ := hpre
    have L24 : ∀ (fu : Nat) (x2 : Int) (x3 : Int), (((pz_stl.getD (s - 206) 0 : Nat) : Int) - x3).toNat < fu → (0 ≤ x3) → (x2 = 0 ∨ (x2 = 1 ∧ M 1 17 - M 1 19 = ((pz_stl.getD (s - 206) 0 : Nat) : Int))) → (((pz_stl.getD (s - 206) 0 : Nat) : Int) ≤ 2147483647) → (pz_isx M s x2 x3) → Ok 24 [some (.inr (.inr (12, 1))), some (.inr (.inr (99, s))), some (.inl x2), some (.inl x3)] [] M := by
      intro fu
      induction fu with
      | zero => exact fun _ _ hn => absurd hn (Nat.not_lt_zero _)
      | succ fu ih24 =>
        intro x2 x3 hn24 g24_0 g24_1 g24_2 g24_3
        have L60 : ∀ (x2 : Int) (x3 : Int) (s0 : Int), (s0 = 0 ∨ (s0 = 1 ∧ M 1 17 - M 1 19 = ((pz_stl.getD (s - 206) 0 : Nat) : Int))) → (0 ≤ x3) → (x3 < ((pz_stl.getD (s - 206) 0 : Nat) : Int)) → (((pz_stl.getD (s - 206) 0 : Nat) : Int) ≤ 2147483647) → ((((pz_stl.getD (s - 206) 0 : Nat) : Int) - x3).toNat < fu + 1) → (pz_isx M s s0 (x3 + 1)) → Ok 60 [some (.inr (.inr (12, 1))), some (.inr (.inr (99, s))), some (.inl x2), some (.inl x3)] [.inl s0] M := by
          intro x2 x3 s0 g60_0 g60_1 g60_2 g60_3 g60_4 g60_5
          refine hgo (fun p => Nat.beq p 24 || Nat.beq p 60) 41 60 _ _ _ ?_
          intro v61 e61 a61 b61
          rw [pz_wi (by omega) (by omega)] at e61
          clear a61 b61
          exact ih24 _ _ (by omega) (by first | omega | exact pz_isx_0 (by omega) | exact pz_isx_n (by omega) | (rw [e61]; exact g60_5)) (by first | omega | exact pz_isx_0 (by omega) | exact pz_isx_n (by omega) | (rw [e61]; exact g60_5)) (by first | omega | exact pz_isx_0 (by omega) | exact pz_isx_n (by omega) | (rw [e61]; exact g60_5)) (by first | omega | exact pz_isx_0 (by omega) | exact pz_isx_n (by omega) | (rw [e61]; exact g60_5))
        refine hgo (fun p => Nat.beq p 24 || Nat.beq p 60) 41 24 _ _ _ ?_
        refine And.intro (True.intro) ?_
        intro v26 M26 a26 b26 q26
        obtain ⟨q26, z26⟩ := q26
        subst z26
        refine And.intro (fun h29 => ?_) (fun h29 => ?_)
        · skip
          refine And.intro (by omega) ?_
          refine And.intro rfl ?_
          exact ⟨pz_isx_e p1 p2 (by omega) p3 g24_3 (by omega), rfl⟩
        · skip
          refine And.intro (fun h33 => ?_) (fun h33 => ?_)
          · skip
            refine And.intro (by omega) ?_
            refine And.intro rfl ?_
            exact ⟨pz_isx_e p1 p2 (by omega) p3 g24_3 (by omega), rfl⟩
          · skip
            refine pz_nrc (c := 67) rfl ?_
            intro v41 e41 a41 b41
            have I41 : 0 ≤ v41 ∧ v41 ≤ 400 := by
              rw [e41]
              exact hI.2.1.2.2.2.2.1
            clear a41 b41
            have N41 := hI.2.1.2.2.2.2.1
            intro v45 e45 a45 b45
            rw [pz_wi (by omega) (by omega)] at e45
            rw [show v41 = M 1 19 from e41] at e45
            have lo46 : (0 : Int) ≤ v45 := by omega
            have tn46 : (((v45).toNat : Nat) : Int) = v45 := Int.toNat_of_nonneg lo46
            refine And.intro (lo46) (And.intro (show _ < (400 : Int) from by omega) ?_)
            intro v46 e46 a46 b46
            refine And.intro (And.intro (by omega) (by omega)) ?_
            intro v49 M49 a49 b49 q49
            obtain ⟨q49, z49⟩ := q49
            subst z49
            clear a49 b49
            refine And.intro (fun h52 => ?_) (fun h52 => ?_)
            · skip
              exact L60 _ _ _ (by first | omega | exact pz_isx_y g24_3 h33 g24_0 (by rw [e46, e45]) q49.1 h52 | exact pz_isx_z (by omega) g24_0 (by rw [e46, e45]) q49.1 h52) (by first | omega | exact pz_isx_y g24_3 h33 g24_0 (by rw [e46, e45]) q49.1 h52 | exact pz_isx_z (by omega) g24_0 (by rw [e46, e45]) q49.1 h52) (by first | omega | exact pz_isx_y g24_3 h33 g24_0 (by rw [e46, e45]) q49.1 h52 | exact pz_isx_z (by omega) g24_0 (by rw [e46, e45]) q49.1 h52) (by first | omega | exact pz_isx_y g24_3 h33 g24_0 (by rw [e46, e45]) q49.1 h52 | exact pz_isx_z (by omega) g24_0 (by rw [e46, e45]) q49.1 h52) (by first | omega | exact pz_isx_y g24_3 h33 g24_0 (by rw [e46, e45]) q49.1 h52 | exact pz_isx_z (by omega) g24_0 (by rw [e46, e45]) q49.1 h52) (by first | omega | exact pz_isx_y g24_3 h33 g24_0 (by rw [e46, e45]) q49.1 h52 | exact pz_isx_z (by omega) g24_0 (by rw [e46, e45]) q49.1 h52)
            · skip
              exact L60 _ _ _ (by first | omega | exact pz_isx_y g24_3 h33 g24_0 (by rw [e46, e45]) q49.1 h52 | exact pz_isx_z (by omega) g24_0 (by rw [e46, e45]) q49.1 h52) (by first | omega | exact pz_isx_y g24_3 h33 g24_0 (by rw [e46, e45]) q49.1 h52 | exact pz_isx_z (by omega) g24_0 (by rw [e46, e45]) q49.1 h52) (by first | omega | exact pz_isx_y g24_3 h33 g24_0 (by rw [e46, e45]) q49.1 h52 | exact pz_isx_z (by omega) g24_0 (by rw [e46, e45]) q49.1 h52) (by first | omega | exact pz_isx_y g24_3 h33 g24_0 (by rw [e46, e45]) q49.1 h52 | exact pz_isx_z (by omega) g24_0 (by rw [e46, e45]) q49.1 h52) (by first | omega | exact pz_isx_y g24_3 h33 g24_0 (by rw [e46, e45]) q49.1 h52 | exact pz_isx_z (by omega) g24_0 (by rw [e46, e45]) q49.1 h52) (by first | omega | exact pz_isx_y g24_3 h33 g24_0 (by rw [e46, e45]) q49.1 h52 | exact pz_isx_z (by omega) g24_0 (by rw [e46, e45]) q49.1 h52)
    refine hgo (fun p => Nat.beq p 24 || Nat.beq p 60) 41 0 _ [] M ?_
    intro v1 e1 a1 b1
    have I1 : 0 ≤ v1 ∧ v1 ≤ 400 := by
      rw [e1]
      exact hI.2.1.2.2.2.1
    clear a1 b1
    have N1 := hI.2.1.2.2.2.1
    intro v5 e5 a5 b5
    have I5 : 0 ≤ v5 ∧ v5 ≤ 400 := by
      rw [e5]
      exact hI.2.1.2.2.2.2.1
    clear a5 b5
    have N5 := hI.2.1.2.2.2.2.1
    intro v8 e8 a8 b8
    rw [pz_wi (by omega) (by omega)] at e8
    clear a8 b8
    refine And.intro (True.intro) ?_
    intro v10 M10 a10 b10 q10
    obtain ⟨q10, z10⟩ := q10
    subst z10
    refine And.intro (fun h13 => ?_) (fun h13 => ?_)
    · skip
      exact L24 _ _ _ (Nat.lt_succ_self _) (by first | omega | exact pz_isx_0 (by omega) | exact pz_isx_n (by omega) | (rw [e61]; exact g60_5)) (by first | omega | exact pz_isx_0 (by omega) | exact pz_isx_n (by omega) | (rw [e61]; exact g60_5)) (by first | omega | exact pz_isx_0 (by omega) | exact pz_isx_n (by omega) | (rw [e61]; exact g60_5)) (by first | omega | exact pz_isx_0 (by omega) | exact pz_isx_n (by omega) | (rw [e61]; exact g60_5))
    · skip
      exact L24 _ _ _ (Nat.lt_succ_self _) (by first | omega | exact pz_isx_0 (by omega) | exact pz_isx_n (by omega) | (rw [e61]; exact g60_5)) (by first | omega | exact pz_isx_0 (by omega) | exact pz_isx_n (by omega) | (rw [e61]; exact g60_5)) (by first | omega | exact pz_isx_0 (by omega) | exact pz_isx_n (by omega) | (rw [e61]; exact g60_5)) (by first | omega | exact pz_isx_0 (by omega) | exact pz_isx_n (by omega) | (rw [e61]; exact g60_5))
theorem v_X12_is {fr lo i : Nat} {own : String} (h1 : 4 + 1 ≤ fr) (h2 : 8 + (4 + 11) + 85 ≤ lo) (h3 : .methodLink own i yX12_is ∈ lw_tbl) : pz_cV fr lo own i k_X12_is :=
  pz_cVk (maxL := 4) (fr' := 4) (lo' := 85) 1 12 h_X12_is rfl ⟨(pz_nhc_RX12 yX12_is rfl).1, (pz_nhc_RX12 yX12_is rfl).2, pz_ds46⟩ ⟨pz_wq1266, pz_wq1265, pz_ws10, pz_wq13⟩ (Or.inl ⟨TX12, 28, rfl⟩) (fun a M _ h => by
    have h : (match (generalizing := false) a with | [.inr (.inr (12, th)), .inr (.inr (99, s))] => pz_im M ∧ 207 ≤ s ∧ s < 231 ∧ M 1 19 ≤ M 1 17 | _ => False) := h
    split at h
    · exact ⟨_, _, rfl⟩
    · exact h.elim) h1 h2 h3
