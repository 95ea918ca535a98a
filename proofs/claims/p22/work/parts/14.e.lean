/-! the model's reading of a law: what has been written of the program -/
def pz_Q5 (b j : Nat) : Prop := b = 1 ∧ ((17 ≤ j ∧ j ≤ 22) ∨ j = 24)
def pz_ly (M M' : pz_M) (x y : Int) : Prop := M' 65 (2 * M 1 14).toNat = x ∧ M' 65 (2 * M 1 14 + 1).toNat = y ∧ M' 1 14 = M 1 14 + 1 ∧ M' 1 17 = M 1 17 ∧ M' 1 18 = M 1 18 ∧ M' 1 19 = M 1 19 ∧ M' 1 24 = M 1 24 ∧ ∀ j : Nat, (j : Int) < 2 * M 1 14 → M' 65 j = M 65 j
def pz_pg (c e : Int) (M M' : pz_M) : Prop := (M' 1 19 ≤ M' 1 17 ∧ (M' 1 18 ≠ 0 → M' 1 19 + 1 ≤ M' 1 17)) ∧ M 1 19 + M' 1 14 + c ≤ M' 1 19 + M 1 14 ∧ M' 1 24 = M 1 24 + e ∧ M 1 14 ≤ M' 1 14 ∧ (∀ j : Nat, (j : Int) < 2 * M 1 14 → M' 65 j = M 65 j) ∧ pz_sg (M' 65) (M 1 14) (M' 1 14)
theorem pz_q0f {M M' : pz_M} (h : pz_rl pz_Q0 M M') : M' 1 14 = M 1 14 ∧ M' 1 24 = M 1 24 ∧ M' 65 = M 65 := ⟨h.2 1 14 (by unfold pz_Q0; first | decide | omega), h.2 1 24 (by unfold pz_Q0; first | decide | omega), funext fun j => h.2 65 j (by unfold pz_Q0; first | decide | omega)⟩
theorem pz_pg_one {M M1 M2 : pz_M} {x y : Int} (hl : pz_ly M M1 x y) (hx : 0 ≤ x ∧ x < 10) (hp : M 1 19 + 1 ≤ M 1 17) (hz : pz_rl pz_Q0 M1 M2) (hn : M1 1 17 ≤ M2 1 19 ∧ M2 1 19 ≤ M2 1 17 ∧ (M2 1 18 ≠ 0 → M2 1 19 + 1 ≤ M2 1 17)) : pz_pg 0 0 M M2 := by
  obtain ⟨l1, l2, l3, l4, l5, l6, l7, l8⟩ := hl
  obtain ⟨z1, z2, z3⟩ := pz_q0f hz
  refine ⟨hn.2, by omega, by omega, by omega, fun j hj => by rw [z3]; exact l8 j hj, ?_⟩
  rw [show M2 1 14 = M 1 14 + 1 by omega, z3]
  exact pz_sg_1 (by rw [l1]; exact hx)
theorem pz_pg_nx {c c' e : Int} {M N N1 : pz_M} (hg : pz_pg c e M N) (ht : N 1 18 ≠ 0) (hz : pz_rl pz_Q0 N N1) (hn : N 1 17 ≤ N1 1 19 ∧ N1 1 19 ≤ N1 1 17 ∧ (N1 1 18 ≠ 0 → N1 1 19 + 1 ≤ N1 1 17)) (hc : c' ≤ c + 1) : pz_pg c' e M N1 := by
  obtain ⟨⟨a1, a2⟩, a3, a4, a5, a6, a7⟩ := hg
  obtain ⟨z1, z2, z3⟩ := pz_q0f hz
  have a2 := a2 ht
  refine ⟨hn.2, by omega, by omega, by omega, fun j hj => by rw [z3]; exact a6 j hj, ?_⟩
  rw [z1, z3]
  exact a7
theorem pz_pg_un {c c' e : Int} {M N N' : pz_M} {o y : Int} (h0 : 0 ≤ M 1 14) (hg : pz_pg c e M N) (hl : pz_ly N N' o y) (ho : (o = 26 ∧ y ≠ 0) ∨ o = 30) (hc : c' + 1 ≤ c) : pz_pg c' e M N' := by
  obtain ⟨⟨a1, a2⟩, a3, a4, a5, a6, a7⟩ := hg
  obtain ⟨l1, l2, l3, l4, l5, l6, l7, l8⟩ := hl
  refine ⟨⟨by omega, by rw [l4, l5, l6]; exact a2⟩, by omega, by omega, by omega, fun j hj => (l8 j (by first | decide | omega)).trans (a6 j hj), ?_⟩
  rw [l3]
  exact pz_sg_u (pz_sg_cg a7 h0 (fun j _ q2 => l8 j q2)) (by rw [l1, l2]; exact ho)
theorem pz_pg_bi {c c' e : Int} {M N N2 N3 : pz_M} {o y : Int} (h0 : 0 ≤ M 1 14) (hg : pz_pg c e M N) (hg2 : pz_pg 0 0 N N2) (hl : pz_ly N2 N3 o y) (ho : 23 ≤ o ∧ o ≠ 26 ∧ o ≠ 30) (hc : c' + 1 ≤ c) : pz_pg c' e M N3 := by
  obtain ⟨⟨a1, a2⟩, a3, a4, a5, a6, a7⟩ := hg
  obtain ⟨⟨b1, b2⟩, b3, b4, b5, b6, b7⟩ := hg2
  obtain ⟨l1, l2, l3, l4, l5, l6, l7, l8⟩ := hl
  refine ⟨⟨by omega, by rw [l4, l5, l6]; exact b2⟩, by omega, by omega, by omega, fun j hj => ((l8 j (by first | decide | omega)).trans (b6 j (by first | decide | omega))).trans (a6 j hj), ?_⟩
  rw [l3]
  exact pz_sg_b (pz_sg_cg a7 h0 (fun j _ q2 => (l8 j (by first | decide | omega)).trans (b6 j (by first | decide | omega)))) (pz_sg_cg b7 (by first | decide | omega) (fun j _ q2 => l8 j q2)) (by rw [l1]; exact ho)
theorem pz_pg_op {c : Int} {M N1 N2 : pz_M} (e14 : N1 1 14 = M 1 14) (e65 : ∀ j, N1 65 j = M 65 j) (e19 : M 1 19 + c ≤ N1 1 19) (e24 : N1 1 24 = M 1 24 + 1) (hg : pz_pg 0 0 N1 N2) : pz_pg c 1 M N2 := by
  obtain ⟨a1, a3, a4, a5, a6, a7⟩ := hg
  rw [e14] at a3 a5 a6 a7
  exact ⟨a1, by omega, by omega, a5, fun j hj => (a6 j hj).trans (e65 j), a7⟩
theorem pz_pg_dn {c e e' v : Int} {M N N' : pz_M} (hg : pz_pg c e M N) (hu : N' = pz_u N 1 24 v) (hv : v = N 1 24 - 1) (he : e' = e - 1) : pz_pg c e' M N' := by
  obtain ⟨a1, a3, a4, a5, a6, a7⟩ := hg
  have u1 := pz_uve hu 1 14
  have u2 := pz_uve hu 1 17
  have u3 := pz_uve hu 1 18
  have u4 := pz_uve hu 1 19
  have u5 := pz_uve hu 1 24
  have e65 : N' 65 = N 65 := funext fun j => by rw [hu]; exact pz_una (by decide)
  have e14 : N' 1 14 = N 1 14 := by omega
  have e17 : N' 1 17 = N 1 17 := by omega
  have e18 : N' 1 18 = N 1 18 := by omega
  have e19 : N' 1 19 = N 1 19 := by omega
  unfold pz_pg
  rw [e14, e17, e18, e19, e65]
  exact ⟨a1, a3, by omega, a5, a6, a7⟩
theorem pz_pg_le {c c' e : Int} {M N : pz_M} (hg : pz_pg c e M N) (hc : c' ≤ c) : pz_pg c' e M N := ⟨hg.1, by have := hg.2.1; omega, hg.2.2⟩

noncomputable def k_X12_see : pz_C := (2, 1, fun a M => (match a with | [.inr (.inr (12, th)), .inl i] => pz_im M ∧ 0 ≤ i | _ => False), fun a M r M' => (match a, r with | [.inr (.inr (12, th)), .inl i], some (.inl v) => ((i < M 1 16 ∧ v = M 67 i.toNat) ∨ (M 1 16 ≤ i ∧ v = -1)) ∧ M = M' | _, _ => False))
noncomputable abbrev ct_X12_see : List (Bool × Nat × pz_C) := []
set_option maxRecDepth 100000 in
set_option maxHeartbeats 4000000 in
theorem h_X12_see : pz_H yX12_see cX12_see 2 (some .int) k_X12_see 0 0 := by
  refine pz_mk (own := RX12) (tb := t_X12_see) (fl := pz_flf fl_RX12) (ci := pz_cif ci_RX12) (ct := pz_ctf ct_X12_see) (rz := false) (pz_pfc_RX12 yX12_see rfl) rfl t_X12_see_ok (pz_flk fl_RX12_ok) (pz_cik ci_RX12_ok) ?_ ?_ (Or.inl ⟨rfl, rfl⟩) ?_ ?_
  · exact fun i k' h => pz_ctk (l := ct_X12_see) (P := fun b i k => b = true → pz_cV 0 0 RX12 i k) (fun _ h => absurd h List.not_mem_nil) true i k' h rfl
  · exact fun i k' h => pz_ctk (l := ct_X12_see) (P := fun b i k => b = false → (pz_cS 0 0 RX12 i k ∨ (k = pz_kac ∧ 1 ≤ 0 ∧ 60 ≤ 0 ∧ Cond.methodLink RX12 i arraycopyName ∈ pz_tbl))) (fun _ h => absurd h List.not_mem_nil) false i k' h rfl
  · intro a M hlen hpre
    obtain ⟨th, i, rfl, hpre⟩ : ∃ th i, a = [.inr (.inr (12, th)), .inl i] ∧ (pz_im M ∧ 0 ≤ i) := by
      have hpre : (match (generalizing := false) a with | [.inr (.inr (12, th)), .inl i] => pz_im M ∧ 0 ≤ i | _ => False) := hpre
      split at hpre
      · exact ⟨_, _, rfl, hpre⟩
      · exact hpre.elim
    exact Nat.le_of_ble_eq_true rfl
  · intro a M hlen hcan hM hpre Ok hgo
    obtain ⟨th, i, rfl, hpre⟩ : ∃ th i, a = [.inr (.inr (12, th)), .inl i] ∧ (pz_im M ∧ 0 ≤ i) := by
      have hpre : (match (generalizing := false) a with | [.inr (.inr (12, th)), .inl i] => pz_im M ∧ 0 ≤ i | _ => False) := hpre
      split at hpre
      · exact ⟨_, _, rfl, hpre⟩
      · exact hpre.elim
    obtain ⟨k_th, hc_th⟩ := pz_tlm hcan
    have k_th : pz_kd th = 12 ∧ th < 231 := k_th
    have R_th := pz_kd12 k_th.1
    subst R_th
    clear k_th
    obtain ⟨k_i, hc_i⟩ := pz_tlm hc_th
    have l_i : -2147483648 ≤ i := k_i.1
    have u_i : i ≤ 2147483647 := k_i.2
    have hI : pz_im M := hpre.1
    refine hgo (fun _ => false) 13 0 _ [] M ?_
    intro v2 e2 a2 b2
    have I2 : 0 ≤ v2 ∧ v2 ≤ 400 := by
      rw [e2]
      exact hI.2.1.2.1
    clear a2 b2
    have N2 := hI.2.1.2.1
    refine And.intro (fun h5 => ?_) (fun h5 => ?_)
    · skip
      refine And.intro rfl ?_
      exact ⟨by omega, rfl⟩
    · skip
      refine pz_nrc (c := 67) rfl ?_
      have lo13 : (0 : Int) ≤ i := by omega
      have tn13 : (((i).toNat : Nat) : Int) = i := Int.toNat_of_nonneg lo13
      refine And.intro (lo13) (And.intro (show _ < (400 : Int) from by omega) ?_)
      intro v13 e13 a13 b13
      refine And.intro rfl ?_
      exact ⟨by omega, rfl⟩
theorem v_X12_see {fr lo i : Nat} {own : String} (h1 : 0 + 1 ≤ fr) (h2 : 8 + (2 + 11) + 0 ≤ lo) (h3 : .methodLink own i yX12_see ∈ lw_tbl) : pz_cV fr lo own i k_X12_see :=
  pz_cVk (maxL := 2) (fr' := 0) (lo' := 0) 1 12 h_X12_see rfl ⟨(pz_nhc_RX12 yX12_see rfl).1, (pz_nhc_RX12 yX12_see rfl).2, pz_ds5⟩ ⟨pz_wq1250, pz_wq1249, pz_ws7, pz_wq13⟩ (Or.inl ⟨TX12, 28, rfl⟩) (fun a M _ h => by
    have h : (match (generalizing := false) a with | [.inr (.inr (12, th)), .inl i] => pz_im M ∧ 0 ≤ i | _ => False) := h
    split at h
    · exact ⟨_, _, rfl⟩
    · exact h.elim) h1 h2 h3
noncomputable def k_X12_isLetter : pz_C := (1, 1, fun a M => (match a with | [.inl x] => True | _ => False), fun a M r M' => (match a, r with | [.inl x], some (.inl v) => ((v = 1 ∧ ((97 ≤ x ∧ x ≤ 122) ∨ (65 ≤ x ∧ x ≤ 90))) ∨ (v = 0 ∧ ¬ ((97 ≤ x ∧ x ≤ 122) ∨ (65 ≤ x ∧ x ≤ 90)))) ∧ M = M' | _, _ => False))
noncomputable abbrev ct_X12_isLetter : List (Bool × Nat × pz_C) := [(false, 54, k_X12_isIn)]
set_option maxRecDepth 100000 in
set_option maxHeartbeats 4000000 in
theorem h_X12_isLetter : pz_H yX12_isLetter cX12_isLetter 1 (some .boolean) k_X12_isLetter 1 22 := by
  refine pz_mk (own := RX12) (tb := t_X12_isLetter) (fl := pz_flf fl_RX12) (ci := pz_cif ci_RX12) (ct := pz_ctf ct_X12_isLetter) (rz := true) (pz_pfc_RX12 yX12_isLetter rfl) rfl t_X12_isLetter_ok (pz_flk fl_RX12_ok) (pz_cik ci_RX12_ok) ?_ ?_ (Or.inr ⟨rfl, rfl⟩) ?_ ?_
  · exact fun i k' h => pz_ctk (l := ct_X12_isLetter) (P := fun b i k => b = true → pz_cV 1 22 RX12 i k) (List.forall_mem_cons.mpr ⟨((fun z => by cases z)), fun _ h => absurd h List.not_mem_nil⟩) true i k' h rfl
  · exact fun i k' h => pz_ctk (l := ct_X12_isLetter) (P := fun b i k => b = false → (pz_cS 1 22 RX12 i k ∨ (k = pz_kac ∧ 1 ≤ 1 ∧ 60 ≤ 22 ∧ Cond.methodLink RX12 i arraycopyName ∈ pz_tbl))) (List.forall_mem_cons.mpr ⟨(fun _ => Or.inl (s_X12_isIn (by decide) (by decide) (Or.inl pz_wq1217))), fun _ h => absurd h List.not_mem_nil⟩) false i k' h rfl
  · intro a M hlen hpre
    obtain ⟨x, rfl, hpre⟩ : ∃ x, a = [.inl x] ∧ (True) := by
      have hpre : (match (generalizing := false) a with | [.inl x] => True | _ => False) := hpre
      split at hpre
      · exact ⟨_, rfl, hpre⟩
      · exact hpre.elim
    exact Nat.le_of_ble_eq_true rfl
  · intro a M hlen hcan hM hpre Ok hgo
    obtain ⟨x, rfl, hpre⟩ : ∃ x, a = [.inl x] ∧ (True) := by
      have hpre : (match (generalizing := false) a with | [.inl x] => True | _ => False) := hpre
      split at hpre
      · exact ⟨_, rfl, hpre⟩
      · exact hpre.elim
    obtain ⟨k_x, hc_x⟩ := pz_tlm hcan
    have l_x : -2147483648 ≤ x := k_x.1
    have u_x : x ≤ 2147483647 := k_x.2
    refine hgo (fun _ => false) 16 0 _ [] M ?_
    refine And.intro (True.intro) ?_
    intro v5 M5 a5 b5 q5
    obtain ⟨q5, z5⟩ := q5
    subst z5
    clear a5 b5
    refine And.intro (fun h8 => ?_) (fun h8 => ?_)
    · skip
      replace q5 := q5.resolve_right (fun z => h8 z.1)
      clear h8
      refine And.intro (by first | decide | omega) ?_
      refine And.intro rfl ?_
      exact ⟨by omega, rfl⟩
    · skip
      replace q5 := q5.resolve_left (fun z => absurd (z.1.symm.trans h8) (by decide))
      clear h8
      refine And.intro (True.intro) ?_
      intro v16 M16 a16 b16 q16
      obtain ⟨q16, z16⟩ := q16
      subst z16
      clear a16 b16
      refine And.intro (fun h19 => ?_) (fun h19 => ?_)
      · skip
        replace q16 := q16.resolve_left (fun z => absurd (z.1.symm.trans h19) (by decide))
        clear h19
        refine And.intro (by first | decide | omega) ?_
        refine And.intro rfl ?_
        exact ⟨by omega, rfl⟩
      · skip
        replace q16 := q16.resolve_right (fun z => h19 z.1)
        clear h19
        refine And.intro (by first | decide | omega) ?_
        refine And.intro rfl ?_
        exact ⟨by omega, rfl⟩
theorem s_X12_isLetter {fr lo i : Nat} {own : String} (h1 : 1 + 1 ≤ fr) (h2 : 8 + (1 + 11) + 22 ≤ lo) (h3 : .methodLink own i yX12_isLetter ∈ lw_tbl ∨ (own = RX1 ∧ i = 35 ∧ yX12_isLetter = yX11_within)) : pz_cS fr lo own i k_X12_isLetter := pz_cSk (maxL := 1) (fr' := 1) (lo' := 22) 1 h_X12_isLetter rfl ⟨(pz_nhc_RX12 yX12_isLetter rfl).1, (pz_nhc_RX12 yX12_isLetter rfl).2, pz_ds9⟩ ⟨pz_wq1253, pz_wq1252, pz_wq13⟩ h1 h2 h3
noncomputable def k_X12_isDigit : pz_C := (1, 1, fun a M => (match a with | [.inl x] => True | _ => False), fun a M r M' => (match a, r with | [.inl x], some (.inl v) => ((v = 1 ∧ 48 ≤ x ∧ x ≤ 57) ∨ (v = 0 ∧ ¬ (48 ≤ x ∧ x ≤ 57))) ∧ M = M' | _, _ => False))
noncomputable abbrev ct_X12_isDigit : List (Bool × Nat × pz_C) := [(false, 54, k_X12_isIn)]
set_option maxRecDepth 100000 in
set_option maxHeartbeats 4000000 in
theorem h_X12_isDigit : pz_H yX12_isDigit cX12_isDigit 1 (some .boolean) k_X12_isDigit 1 22 := by
  refine pz_mk (own := RX12) (tb := t_X12_isDigit) (fl := pz_flf fl_RX12) (ci := pz_cif ci_RX12) (ct := pz_ctf ct_X12_isDigit) (rz := true) (pz_pfc_RX12 yX12_isDigit rfl) rfl t_X12_isDigit_ok (pz_flk fl_RX12_ok) (pz_cik ci_RX12_ok) ?_ ?_ (Or.inr ⟨rfl, rfl⟩) ?_ ?_
  · exact fun i k' h => pz_ctk (l := ct_X12_isDigit) (P := fun b i k => b = true → pz_cV 1 22 RX12 i k) (List.forall_mem_cons.mpr ⟨((fun z => by cases z)), fun _ h => absurd h List.not_mem_nil⟩) true i k' h rfl
  · exact fun i k' h => pz_ctk (l := ct_X12_isDigit) (P := fun b i k => b = false → (pz_cS 1 22 RX12 i k ∨ (k = pz_kac ∧ 1 ≤ 1 ∧ 60 ≤ 22 ∧ Cond.methodLink RX12 i arraycopyName ∈ pz_tbl))) (List.forall_mem_cons.mpr ⟨(fun _ => Or.inl (s_X12_isIn (by decide) (by decide) (Or.inl pz_wq1217))), fun _ h => absurd h List.not_mem_nil⟩) false i k' h rfl
  · intro a M hlen hpre
    obtain ⟨x, rfl, hpre⟩ : ∃ x, a = [.inl x] ∧ (True) := by
      have hpre : (match (generalizing := false) a with | [.inl x] => True | _ => False) := hpre
      split at hpre
      · exact ⟨_, rfl, hpre⟩
      · exact hpre.elim
    exact Nat.le_of_ble_eq_true rfl
  · intro a M hlen hcan hM hpre Ok hgo
    obtain ⟨x, rfl, hpre⟩ : ∃ x, a = [.inl x] ∧ (True) := by
      have hpre : (match (generalizing := false) a with | [.inl x] => True | _ => False) := hpre
      split at hpre
      · exact ⟨_, rfl, hpre⟩
      · exact hpre.elim
    obtain ⟨k_x, hc_x⟩ := pz_tlm hcan
    have l_x : -2147483648 ≤ x := k_x.1
    have u_x : x ≤ 2147483647 := k_x.2
    refine hgo (fun _ => false) 7 0 _ [] M ?_
    refine And.intro (True.intro) ?_
    intro v5 M5 a5 b5 q5
    obtain ⟨q5, z5⟩ := q5
    subst z5
    clear a5 b5
    refine And.intro (by first | decide | omega) ?_
    refine And.intro rfl ?_
    exact ⟨by omega, rfl⟩
theorem s_X12_isDigit {fr lo i : Nat} {own : String} (h1 : 1 + 1 ≤ fr) (h2 : 8 + (1 + 11) + 22 ≤ lo) (h3 : .methodLink own i yX12_isDigit ∈ lw_tbl ∨ (own = RX1 ∧ i = 35 ∧ yX12_isDigit = yX11_within)) : pz_cS fr lo own i k_X12_isDigit := pz_cSk (maxL := 1) (fr' := 1) (lo' := 22) 1 h_X12_isDigit rfl ⟨(pz_nhc_RX12 yX12_isDigit rfl).1, (pz_nhc_RX12 yX12_isDigit rfl).2, pz_ds9⟩ ⟨pz_wq1302, pz_wq1301, pz_wq13⟩ h1 h2 h3
noncomputable def k_X12_is : pz_C := (2, 1, fun a M => (match a with | [.inr (.inr (12, th)), .inr (.inr (99, s))] => pz_im M ∧ 207 ≤ s ∧ s < 231 ∧ M 1 19 ≤ M 1 17 | _ => False), fun a M r M' => (match a, r with | [.inr (.inr (12, th)), .inr (.inr (99, s))], some (.inl v) => ((v = 1 ∧ pz_W M = pz_cst s) ∨ (v = 0 ∧ pz_W M ≠ pz_cst s)) ∧ M = M' | _, _ => False))
noncomputable abbrev ct_X12_is : List (Bool × Nat × pz_C) := [(true, 89, k_J0_length_8abf5), (true, 95, k_J0_charAt_5068e)]
set_option maxRecDepth 100000 in
set_option maxHeartbeats 4000000 in
theorem h_X12_is : pz_H yX12_is cX12_is 4 (some .boolean) k_X12_is 4 85 := by
  refine pz_mk (own := RX12) (tb := t_X12_is) (fl := pz_flf fl_RX12) (ci := pz_cif ci_RX12) (ct := pz_ctf ct_X12_is) (rz := true) (pz_pfc_RX12 yX12_is rfl) rfl t_X12_is_ok (pz_flk fl_RX12_ok) (pz_cik ci_RX12_ok) ?_ ?_ (Or.inr ⟨rfl, rfl⟩) ?_ ?_
  · exact fun i k' h => pz_ctk (l := ct_X12_is) (P := fun b i k => b = true → pz_cV 4 85 RX12 i k) (List.forall_mem_cons.mpr ⟨(fun _ => v_J0_length_8abf5 (by decide) (by decide) pz_wq1267), List.forall_mem_cons.mpr ⟨(fun _ => v_J0_charAt_5068e (by decide) (by decide) pz_wq1268), fun _ h => absurd h List.not_mem_nil⟩⟩) true i k' h rfl
  · exact fun i k' h => pz_ctk (l := ct_X12_is) (P := fun b i k => b = false → (pz_cS 4 85 RX12 i k ∨ (k = pz_kac ∧ 1 ≤ 4 ∧ 60 ≤ 85 ∧ Cond.methodLink RX12 i arraycopyName ∈ pz_tbl))) (List.forall_mem_cons.mpr ⟨((fun z => by cases z)), List.forall_mem_cons.mpr ⟨((fun z => by cases z)), fun _ h => absurd h List.not_mem_nil⟩⟩) false i k' h rfl
  · intro a M hlen hpre
    obtain ⟨th, s, rfl, hpre⟩ : ∃ th s, a = [.inr (.inr (12, th)), .inr (.inr (99, s))] ∧ (pz_im M ∧ 207 ≤ s ∧ s < 231 ∧ M 1 19 ≤ M 1 17) := by
      have hpre : (match (generalizing := false) a with | [.inr (.inr (12, th)), .inr (.inr (99, s))] => pz_im M ∧ 207 ≤ s ∧ s < 231 ∧ M 1 19 ≤ M 1 17 | _ => False) := hpre
      split at hpre
      · exact ⟨_, _, rfl, hpre⟩
      · exact hpre.elim
    exact Nat.le_of_ble_eq_true rfl
  · intro a M hlen hcan hM hpre Ok hgo
    obtain ⟨th, s, rfl, hpre⟩ : ∃ th s, a = [.inr (.inr (12, th)), .inr (.inr (99, s))] ∧ (pz_im M ∧ 207 ≤ s ∧ s < 231 ∧ M 1 19 ≤ M 1 17) := by
      have hpre : (match (generalizing := false) a with | [.inr (.inr (12, th)), .inr (.inr (99, s))] => pz_im M ∧ 207 ≤ s ∧ s < 231 ∧ M 1 19 ≤ M 1 17 | _ => False) := hpre
      split at hpre
      · exact ⟨_, _, rfl, hpre⟩
      · exact hpre.elim
    obtain ⟨k_th, hc_th⟩ := pz_tlm hcan
    have k_th : pz_kd th = 12 ∧ th < 231 := k_th
    have R_th := pz_kd12 k_th.1
    subst R_th
    clear k_th
    obtain ⟨k_s, hc_s⟩ := pz_tlm hc_th
    have k_s : pz_kd s = 99 ∧ s < 231 := k_s
    have R_s := pz_kd99 k_s.1
    have hI : pz_im M := hpre.1
    have J17 := hI.2.1.2.2.2.1
    have J19 := hI.2.1.2.2.2.2.1
    obtain ⟨-, p1, p2, p3⟩ := hpre
    have L24 : ∀ (fu : Nat) (x2 : Int) (x3 : Int), (((pz_stl.getD (s - 206) 0 : Nat) : Int) - x3).toNat < fu → (0 ≤ x3) → (x2 = 0 ∨ (x2 = 1 ∧ M 1 17 - M 1 19 = ((pz_stl.getD (s - 206) 0 : Nat) : Int))) → (((pz_stl.getD (s - 206) 0 : Nat) : Int) ≤ 2147483647) → (pz_isx M s x2 x3) → Ok 24 [some (.inr (.inr (12, 1))), some (.inr (.inr (99, s))), some (.inl x2), some (.inl x3)] [] M := by
      intro fu
      induction fu with
      | zero => exact fun _ _ hn => absurd hn (Nat.not_lt_zero _)
      | succ fu ih24 =>
        intro x2 x3 hn24 g24_0 g24_1 g24_2 g24_3
        have L60 : ∀ (x2 : Int) (x3 : Int) (s0 : Int), (s0 = 0 ∨ (s0 = 1 ∧ M 1 17 - M 1 19 = ((pz_stl.getD (s - 206) 0 : Nat) : Int))) → (0 ≤ x3) → (x3 < ((pz_stl.getD (s - 206) 0 : Nat) : Int)) → (((pz_stl.getD (s - 206) 0 : Nat) : Int) ≤ 2147483647) → ((((pz_stl.getD (s - 206) 0 : Nat) : Int) - x3).toNat < fu + 1) → (pz_isx M s s0 (x3 + 1)) → Ok 60 [some (.inr (.inr (12, 1))), some (.inr (.inr (99, s))), some (.inl x2), some (.inl x3)] [.inl s0] M := by
          intro x2 x3 s0 g60_0 g60_1 g60_2 g60_3 g60_4 g60_5
          refine hgo (fun p => Nat.beq p 24 || Nat.beq p 60) 41 60 _ _ _ ?_
          intro v61 e61 a61 b61
          rw [pz_wi (by first | decide | omega) (by first | decide | omega)] at e61
          clear a61 b61
          exact ih24 _ _ (by first | decide | omega) (by first | omega | exact pz_isx_0 (by first | decide | omega) | exact pz_isx_n (by first | decide | omega) | (rw [e61]; exact g60_5)) (by first | omega | exact pz_isx_0 (by first | decide | omega) | exact pz_isx_n (by first | decide | omega) | (rw [e61]; exact g60_5)) (by first | omega | exact pz_isx_0 (by first | decide | omega) | exact pz_isx_n (by first | decide | omega) | (rw [e61]; exact g60_5)) (by first | omega | exact pz_isx_0 (by first | decide | omega) | exact pz_isx_n (by first | decide | omega) | (rw [e61]; exact g60_5))
        refine hgo (fun p => Nat.beq p 24 || Nat.beq p 60) 41 24 _ _ _ ?_
        refine And.intro (True.intro) ?_
        intro v26 M26 a26 b26 q26
        obtain ⟨q26, z26⟩ := q26
        subst z26
        refine And.intro (fun h29 => ?_) (fun h29 => ?_)
        · skip
          refine And.intro (by first | decide | omega) ?_
          refine And.intro rfl ?_
          exact ⟨pz_isx_e p1 p2 (by first | decide | omega) p3 g24_3 (by first | decide | omega), rfl⟩
        · skip
          refine And.intro (fun h33 => ?_) (fun h33 => ?_)
          · skip
            refine And.intro (by first | decide | omega) ?_
            refine And.intro rfl ?_
            exact ⟨pz_isx_e p1 p2 (by first | decide | omega) p3 g24_3 (by first | decide | omega), rfl⟩
          · skip
            refine pz_nrc (c := 67) rfl ?_
            intro v41 e41 a41 b41
            have I41 : 0 ≤ v41 ∧ v41 ≤ 400 := by
              rw [e41]
              exact hI.2.1.2.2.2.2.1
            clear a41 b41
            have N41 := hI.2.1.2.2.2.2.1
            intro v45 e45 a45 b45
            rw [pz_wi (by first | decide | omega) (by first | decide | omega)] at e45
            rw [show v41 = M 1 19 from e41] at e45
            have lo46 : (0 : Int) ≤ v45 := by omega
            have tn46 : (((v45).toNat : Nat) : Int) = v45 := Int.toNat_of_nonneg lo46
            refine And.intro (lo46) (And.intro (show _ < (400 : Int) from by omega) ?_)
            intro v46 e46 a46 b46
            refine And.intro (And.intro (by first | decide | omega) (by first | decide | omega)) ?_
            intro v49 M49 a49 b49 q49
            obtain ⟨q49, z49⟩ := q49
            subst z49
            clear a49 b49
            refine And.intro (fun h52 => ?_) (fun h52 => ?_)
            · skip
              exact L60 _ _ _ (by first | omega | exact pz_isx_y g24_3 h33 g24_0 (by rw [e46, e45]) q49.1 h52 | exact pz_isx_z (by first | decide | omega) g24_0 (by rw [e46, e45]) q49.1 h52) (by first | omega | exact pz_isx_y g24_3 h33 g24_0 (by rw [e46, e45]) q49.1 h52 | exact pz_isx_z (by first | decide | omega) g24_0 (by rw [e46, e45]) q49.1 h52) (by first | omega | exact pz_isx_y g24_3 h33 g24_0 (by rw [e46, e45]) q49.1 h52 | exact pz_isx_z (by first | decide | omega) g24_0 (by rw [e46, e45]) q49.1 h52) (by first | omega | exact pz_isx_y g24_3 h33 g24_0 (by rw [e46, e45]) q49.1 h52 | exact pz_isx_z (by first | decide | omega) g24_0 (by rw [e46, e45]) q49.1 h52) (by first | omega | exact pz_isx_y g24_3 h33 g24_0 (by rw [e46, e45]) q49.1 h52 | exact pz_isx_z (by first | decide | omega) g24_0 (by rw [e46, e45]) q49.1 h52) (by first | omega | exact pz_isx_y g24_3 h33 g24_0 (by rw [e46, e45]) q49.1 h52 | exact pz_isx_z (by first | decide | omega) g24_0 (by rw [e46, e45]) q49.1 h52)
            · skip
              exact L60 _ _ _ (by first | omega | exact pz_isx_y g24_3 h33 g24_0 (by rw [e46, e45]) q49.1 h52 | exact pz_isx_z (by first | decide | omega) g24_0 (by rw [e46, e45]) q49.1 h52) (by first | omega | exact pz_isx_y g24_3 h33 g24_0 (by rw [e46, e45]) q49.1 h52 | exact pz_isx_z (by first | decide | omega) g24_0 (by rw [e46, e45]) q49.1 h52) (by first | omega | exact pz_isx_y g24_3 h33 g24_0 (by rw [e46, e45]) q49.1 h52 | exact pz_isx_z (by first | decide | omega) g24_0 (by rw [e46, e45]) q49.1 h52) (by first | omega | exact pz_isx_y g24_3 h33 g24_0 (by rw [e46, e45]) q49.1 h52 | exact pz_isx_z (by first | decide | omega) g24_0 (by rw [e46, e45]) q49.1 h52) (by first | omega | exact pz_isx_y g24_3 h33 g24_0 (by rw [e46, e45]) q49.1 h52 | exact pz_isx_z (by first | decide | omega) g24_0 (by rw [e46, e45]) q49.1 h52) (by first | omega | exact pz_isx_y g24_3 h33 g24_0 (by rw [e46, e45]) q49.1 h52 | exact pz_isx_z (by first | decide | omega) g24_0 (by rw [e46, e45]) q49.1 h52)
    refine hgo (fun p => Nat.beq p 24 || Nat.beq p 60) 41 0 _ [] M ?_
    intro v1 e1 a1 b1
    have I1 : 0 ≤ v1 ∧ v1 ≤ 400 := by
      rw [e1]
      exact hI.2.1.2.2.2.1
    clear a1 b1
    have N1 := hI.2.1.2.2.2.1
    intro v5 e5 a5 b5
    have I5 : 0 ≤ v5 ∧ v5 ≤ 400 := by
      rw [e5]
      exact hI.2.1.2.2.2.2.1
    clear a5 b5
    have N5 := hI.2.1.2.2.2.2.1
    intro v8 e8 a8 b8
    rw [pz_wi (by first | decide | omega) (by first | decide | omega)] at e8
    clear a8 b8
    refine And.intro (True.intro) ?_
    intro v10 M10 a10 b10 q10
    obtain ⟨q10, z10⟩ := q10
    subst z10
    refine And.intro (fun h13 => ?_) (fun h13 => ?_)
    · skip
      exact L24 _ _ _ (Nat.lt_succ_self _) (by first | omega | exact pz_isx_0 (by first | decide | omega) | exact pz_isx_n (by first | decide | omega) | (rw [e61]; exact g60_5)) (by first | omega | exact pz_isx_0 (by first | decide | omega) | exact pz_isx_n (by first | decide | omega) | (rw [e61]; exact g60_5)) (by first | omega | exact pz_isx_0 (by first | decide | omega) | exact pz_isx_n (by first | decide | omega) | (rw [e61]; exact g60_5)) (by first | omega | exact pz_isx_0 (by first | decide | omega) | exact pz_isx_n (by first | decide | omega) | (rw [e61]; exact g60_5))
    · skip
      exact L24 _ _ _ (Nat.lt_succ_self _) (by first | omega | exact pz_isx_0 (by first | decide | omega) | exact pz_isx_n (by first | decide | omega) | (rw [e61]; exact g60_5)) (by first | omega | exact pz_isx_0 (by first | decide | omega) | exact pz_isx_n (by first | decide | omega) | (rw [e61]; exact g60_5)) (by first | omega | exact pz_isx_0 (by first | decide | omega) | exact pz_isx_n (by first | decide | omega) | (rw [e61]; exact g60_5)) (by first | omega | exact pz_isx_0 (by first | decide | omega) | exact pz_isx_n (by first | decide | omega) | (rw [e61]; exact g60_5))
theorem v_X12_is {fr lo i : Nat} {own : String} (h1 : 4 + 1 ≤ fr) (h2 : 8 + (4 + 11) + 85 ≤ lo) (h3 : .methodLink own i yX12_is ∈ lw_tbl) : pz_cV fr lo own i k_X12_is :=
  pz_cVk (maxL := 4) (fr' := 4) (lo' := 85) 1 12 h_X12_is rfl ⟨(pz_nhc_RX12 yX12_is rfl).1, (pz_nhc_RX12 yX12_is rfl).2, pz_ds46⟩ ⟨pz_wq1266, pz_wq1265, pz_ws10, pz_wq13⟩ (Or.inl ⟨TX12, 28, rfl⟩) (fun a M _ h => by
    have h : (match (generalizing := false) a with | [.inr (.inr (12, th)), .inr (.inr (99, s))] => pz_im M ∧ 207 ≤ s ∧ s < 231 ∧ M 1 19 ≤ M 1 17 | _ => False) := h
    split at h
    · exact ⟨_, _, rfl⟩
    · exact h.elim) h1 h2 h3
noncomputable def k_X12_asked : pz_C := (1, 1, fun a M => (match a with | [.inr (.inr (12, th))] => pz_im M ∧ M 1 19 ≤ M 1 17 | _ => False), fun a M r M' => (match a, r with | [.inr (.inr (12, th))], some (.inl v) => (v = pz_ma (pz_W M)) ∧ M = M' | _, _ => False))
noncomputable abbrev ct_X12_asked : List (Bool × Nat × pz_C) := [(true, 101, k_X12_is)]
set_option maxRecDepth 100000 in
set_option maxHeartbeats 4000000 in
theorem h_X12_asked : pz_H yX12_asked cX12_asked 1 (some .int) k_X12_asked 5 108 := by
  refine pz_mk (own := RX12) (tb := t_X12_asked) (fl := pz_flf fl_RX12) (ci := pz_cif ci_RX12) (ct := pz_ctf ct_X12_asked) (rz := false) (pz_pfc_RX12 yX12_asked rfl) rfl t_X12_asked_ok (pz_flk fl_RX12_ok) (pz_cik ci_RX12_ok) ?_ ?_ (Or.inl ⟨rfl, rfl⟩) ?_ ?_
  · exact fun i k' h => pz_ctk (l := ct_X12_asked) (P := fun b i k => b = true → pz_cV 5 108 RX12 i k) (List.forall_mem_cons.mpr ⟨(fun _ => v_X12_is (by decide) (by decide) pz_wq1263), fun _ h => absurd h List.not_mem_nil⟩) true i k' h rfl
  · exact fun i k' h => pz_ctk (l := ct_X12_asked) (P := fun b i k => b = false → (pz_cS 5 108 RX12 i k ∨ (k = pz_kac ∧ 1 ≤ 5 ∧ 60 ≤ 108 ∧ Cond.methodLink RX12 i arraycopyName ∈ pz_tbl))) (List.forall_mem_cons.mpr ⟨((fun z => by cases z)), fun _ h => absurd h List.not_mem_nil⟩) false i k' h rfl
  · intro a M hlen hpre
    obtain ⟨th, rfl, hpre⟩ : ∃ th, a = [.inr (.inr (12, th))] ∧ (pz_im M ∧ M 1 19 ≤ M 1 17) := by
      have hpre : (match (generalizing := false) a with | [.inr (.inr (12, th))] => pz_im M ∧ M 1 19 ≤ M 1 17 | _ => False) := hpre
      split at hpre
      · exact ⟨_, rfl, hpre⟩
      · exact hpre.elim
    exact Nat.le_of_ble_eq_true rfl
  · intro a M hlen hcan hM hpre Ok hgo
    obtain ⟨th, rfl, hpre⟩ : ∃ th, a = [.inr (.inr (12, th))] ∧ (pz_im M ∧ M 1 19 ≤ M 1 17) := by
      have hpre : (match (generalizing := false) a with | [.inr (.inr (12, th))] => pz_im M ∧ M 1 19 ≤ M 1 17 | _ => False) := hpre
      split at hpre
      · exact ⟨_, rfl, hpre⟩
      · exact hpre.elim
    obtain ⟨k_th, hc_th⟩ := pz_tlm hcan
    have k_th : pz_kd th = 12 ∧ th < 231 := k_th
    have R_th := pz_kd12 k_th.1
    subst R_th
    clear k_th
    have hI : pz_im M := hpre.1
    have p3 := hpre.2
    refine hgo (fun _ => false) 58 0 _ [] M ?_
    refine And.intro (And.intro hI (And.intro (by decide) (And.intro (by decide) (by first | decide | omega)))) ?_
    intro v3 M3 a3 b3 q3
    obtain ⟨q3, z3⟩ := q3
    subst z3
    clear a3 b3
    replace q3 : (v3 = 1 ∧ pz_W M = 8) ∨ (v3 = 0 ∧ pz_W M ≠ 8) := q3
    refine And.intro (fun h6 => ?_) (fun h6 => ?_)
    · skip
      replace q3 := q3.resolve_left (fun z => absurd (z.1.symm.trans h6) (by decide))
      clear h6
      refine And.intro (And.intro hI (And.intro (by decide) (And.intro (by decide) (by first | decide | omega)))) ?_
      intro v15 M15 a15 b15 q15
      obtain ⟨q15, z15⟩ := q15
      subst z15
      clear a15 b15
      replace q15 : (v15 = 1 ∧ pz_W M = 9) ∨ (v15 = 0 ∧ pz_W M ≠ 9) := q15
      refine And.intro (fun h18 => ?_) (fun h18 => ?_)
      · skip
        replace q15 := q15.resolve_left (fun z => absurd (z.1.symm.trans h18) (by decide))
        clear h18
        refine And.intro (And.intro hI (And.intro (by decide) (And.intro (by decide) (by first | decide | omega)))) ?_
        intro v27 M27 a27 b27 q27
        obtain ⟨q27, z27⟩ := q27
        subst z27
        clear a27 b27
        replace q27 : (v27 = 1 ∧ pz_W M = 10) ∨ (v27 = 0 ∧ pz_W M ≠ 10) := q27
        refine And.intro (fun h30 => ?_) (fun h30 => ?_)
        · skip
          replace q27 := q27.resolve_left (fun z => absurd (z.1.symm.trans h30) (by decide))
          clear h30
          refine And.intro (And.intro hI (And.intro (by decide) (And.intro (by decide) (by first | decide | omega)))) ?_
          intro v39 M39 a39 b39 q39
          obtain ⟨q39, z39⟩ := q39
          subst z39
          clear a39 b39
          replace q39 : (v39 = 1 ∧ pz_W M = 11) ∨ (v39 = 0 ∧ pz_W M ≠ 11) := q39
          refine And.intro (fun h42 => ?_) (fun h42 => ?_)
          · skip
            replace q39 := q39.resolve_left (fun z => absurd (z.1.symm.trans h42) (by decide))
            clear h42
            refine And.intro (And.intro hI (And.intro (by decide) (And.intro (by decide) (by first | decide | omega)))) ?_
            intro v51 M51 a51 b51 q51
            obtain ⟨q51, z51⟩ := q51
            subst z51
            clear a51 b51
            replace q51 : (v51 = 1 ∧ pz_W M = 12) ∨ (v51 = 0 ∧ pz_W M ≠ 12) := q51
            refine And.intro (fun h54 => ?_) (fun h54 => ?_)
            · skip
              replace q51 := q51.resolve_left (fun z => absurd (z.1.symm.trans h54) (by decide))
              clear h54
              refine And.intro (And.intro hI (And.intro (by decide) (And.intro (by decide) (by first | decide | omega)))) ?_
              intro v63 M63 a63 b63 q63
              obtain ⟨q63, z63⟩ := q63
              subst z63
              clear a63 b63
              replace q63 : (v63 = 1 ∧ pz_W M = 13) ∨ (v63 = 0 ∧ pz_W M ≠ 13) := q63
              refine And.intro (fun h66 => ?_) (fun h66 => ?_)
              · skip
                replace q63 := q63.resolve_left (fun z => absurd (z.1.symm.trans h66) (by decide))
                clear h66
                refine And.intro (And.intro hI (And.intro (by decide) (And.intro (by decide) (by first | decide | omega)))) ?_
                intro v75 M75 a75 b75 q75
                obtain ⟨q75, z75⟩ := q75
                subst z75
                clear a75 b75
                replace q75 : (v75 = 1 ∧ pz_W M = 14) ∨ (v75 = 0 ∧ pz_W M ≠ 14) := q75
                refine And.intro (fun h78 => ?_) (fun h78 => ?_)
                · skip
                  replace q75 := q75.resolve_left (fun z => absurd (z.1.symm.trans h78) (by decide))
                  clear h78
                  refine And.intro (And.intro hI (And.intro (by decide) (And.intro (by decide) (by first | decide | omega)))) ?_
                  intro v87 M87 a87 b87 q87
                  obtain ⟨q87, z87⟩ := q87
                  subst z87
                  clear a87 b87
                  replace q87 : (v87 = 1 ∧ pz_W M = 15) ∨ (v87 = 0 ∧ pz_W M ≠ 15) := q87
                  refine And.intro (fun h90 => ?_) (fun h90 => ?_)
                  · skip
                    replace q87 := q87.resolve_left (fun z => absurd (z.1.symm.trans h90) (by decide))
                    clear h90
                    refine And.intro (And.intro hI (And.intro (by decide) (And.intro (by decide) (by first | decide | omega)))) ?_
                    intro v99 M99 a99 b99 q99
                    obtain ⟨q99, z99⟩ := q99
                    subst z99
                    clear a99 b99
                    replace q99 : (v99 = 1 ∧ pz_W M = 16) ∨ (v99 = 0 ∧ pz_W M ≠ 16) := q99
                    refine And.intro (fun h102 => ?_) (fun h102 => ?_)
                    · skip
                      replace q99 := q99.resolve_left (fun z => absurd (z.1.symm.trans h102) (by decide))
                      clear h102
                      refine And.intro rfl ?_
                      exact ⟨by
                        unfold pz_ma
                        repeat' split
                        all_goals omega, rfl⟩
                    · skip
                      replace q99 := q99.resolve_right (fun z => h102 z.1)
                      clear h102
                      refine And.intro rfl ?_
                      exact ⟨by
                        unfold pz_ma
                        repeat' split
                        all_goals omega, rfl⟩
                  · skip
                    replace q87 := q87.resolve_right (fun z => h90 z.1)
                    clear h90
                    refine And.intro rfl ?_
                    exact ⟨by
                      unfold pz_ma
                      repeat' split
                      all_goals omega, rfl⟩
                · skip
                  replace q75 := q75.resolve_right (fun z => h78 z.1)
                  clear h78
                  refine And.intro rfl ?_
                  exact ⟨by
                    unfold pz_ma
                    repeat' split
                    all_goals omega, rfl⟩
              · skip
                replace q63 := q63.resolve_right (fun z => h66 z.1)
                clear h66
                refine And.intro rfl ?_
                exact ⟨by
                  unfold pz_ma
                  repeat' split
                  all_goals omega, rfl⟩
            · skip
              replace q51 := q51.resolve_right (fun z => h54 z.1)
              clear h54
              refine And.intro rfl ?_
              exact ⟨by
                unfold pz_ma
                repeat' split
                all_goals omega, rfl⟩
          · skip
            replace q39 := q39.resolve_right (fun z => h42 z.1)
            clear h42
            refine And.intro rfl ?_
            exact ⟨by
              unfold pz_ma
              repeat' split
              all_goals omega, rfl⟩
        · skip
          replace q27 := q27.resolve_right (fun z => h30 z.1)
          clear h30
          refine And.intro rfl ?_
          exact ⟨by
            unfold pz_ma
            repeat' split
            all_goals omega, rfl⟩
      · skip
        replace q15 := q15.resolve_right (fun z => h18 z.1)
        clear h18
        refine And.intro rfl ?_
        exact ⟨by
          unfold pz_ma
          repeat' split
          all_goals omega, rfl⟩
    · skip
      replace q3 := q3.resolve_right (fun z => h6 z.1)
      clear h6
      refine And.intro rfl ?_
      exact ⟨by
        unfold pz_ma
        repeat' split
        all_goals omega, rfl⟩
theorem v_X12_asked {fr lo i : Nat} {own : String} (h1 : 5 + 1 ≤ fr) (h2 : 8 + (1 + 11) + 108 ≤ lo) (h3 : .methodLink own i yX12_asked ∈ lw_tbl) : pz_cV fr lo own i k_X12_asked :=
  pz_cVk (maxL := 1) (fr' := 5) (lo' := 108) 0 12 h_X12_asked rfl ⟨(pz_nhc_RX12 yX12_asked rfl).1, (pz_nhc_RX12 yX12_asked rfl).2, pz_ds1⟩ ⟨pz_wq1279, pz_wq1278, pz_ws11, pz_wq13⟩ (Or.inl ⟨TX12, 28, rfl⟩) (fun a M _ h => by
    have h : (match (generalizing := false) a with | [.inr (.inr (12, th))] => pz_im M ∧ M 1 19 ≤ M 1 17 | _ => False) := h
    split at h
    · exact ⟨_, _, rfl⟩
    · exact h.elim) h1 h2 h3
noncomputable def k_X12_lawWord : pz_C := (1, 1, fun a M => (match a with | [.inr (.inr (12, th))] => pz_im M ∧ M 1 19 ≤ M 1 17 | _ => False), fun a M r M' => (match a, r with | [.inr (.inr (12, th))], some (.inl v) => (v = pz_ml (pz_W M)) ∧ M = M' | _, _ => False))
noncomputable abbrev ct_X12_lawWord : List (Bool × Nat × pz_C) := [(true, 101, k_X12_is), (true, 137, k_X12_asked)]
set_option maxRecDepth 100000 in
set_option maxHeartbeats 4000000 in
theorem h_X12_lawWord : pz_H yX12_lawWord cX12_lawWord 1 (some .int) k_X12_lawWord 6 128 := by
  refine pz_mk (own := RX12) (tb := t_X12_lawWord) (fl := pz_flf fl_RX12) (ci := pz_cif ci_RX12) (ct := pz_ctf ct_X12_lawWord) (rz := false) (pz_pfc_RX12 yX12_lawWord rfl) rfl t_X12_lawWord_ok (pz_flk fl_RX12_ok) (pz_cik ci_RX12_ok) ?_ ?_ (Or.inl ⟨rfl, rfl⟩) ?_ ?_
  · exact fun i k' h => pz_ctk (l := ct_X12_lawWord) (P := fun b i k => b = true → pz_cV 6 128 RX12 i k) (List.forall_mem_cons.mpr ⟨(fun _ => v_X12_is (by decide) (by decide) pz_wq1263), List.forall_mem_cons.mpr ⟨(fun _ => v_X12_asked (by decide) (by decide) pz_wq1276), fun _ h => absurd h List.not_mem_nil⟩⟩) true i k' h rfl
  · exact fun i k' h => pz_ctk (l := ct_X12_lawWord) (P := fun b i k => b = false → (pz_cS 6 128 RX12 i k ∨ (k = pz_kac ∧ 1 ≤ 6 ∧ 60 ≤ 128 ∧ Cond.methodLink RX12 i arraycopyName ∈ pz_tbl))) (List.forall_mem_cons.mpr ⟨((fun z => by cases z)), List.forall_mem_cons.mpr ⟨((fun z => by cases z)), fun _ h => absurd h List.not_mem_nil⟩⟩) false i k' h rfl
  · intro a M hlen hpre
    obtain ⟨th, rfl, hpre⟩ : ∃ th, a = [.inr (.inr (12, th))] ∧ (pz_im M ∧ M 1 19 ≤ M 1 17) := by
      have hpre : (match (generalizing := false) a with | [.inr (.inr (12, th))] => pz_im M ∧ M 1 19 ≤ M 1 17 | _ => False) := hpre
      split at hpre
      · exact ⟨_, rfl, hpre⟩
      · exact hpre.elim
    exact Nat.le_of_ble_eq_true rfl
  · intro a M hlen hcan hM hpre Ok hgo
    obtain ⟨th, rfl, hpre⟩ : ∃ th, a = [.inr (.inr (12, th))] ∧ (pz_im M ∧ M 1 19 ≤ M 1 17) := by
      have hpre : (match (generalizing := false) a with | [.inr (.inr (12, th))] => pz_im M ∧ M 1 19 ≤ M 1 17 | _ => False) := hpre
      split at hpre
      · exact ⟨_, rfl, hpre⟩
      · exact hpre.elim
    obtain ⟨k_th, hc_th⟩ := pz_tlm hcan
    have k_th : pz_kd th = 12 ∧ th < 231 := k_th
    have R_th := pz_kd12 k_th.1
    subst R_th
    clear k_th
    have hI : pz_im M := hpre.1
    have p3 := hpre.2
    refine hgo (fun _ => false) 53 0 _ [] M ?_
    refine And.intro (And.intro hI (And.intro (by decide) (And.intro (by decide) (by first | decide | omega)))) ?_
    intro v3 M3 a3 b3 q3
    obtain ⟨q3, z3⟩ := q3
    subst z3
    clear a3 b3
    replace q3 : (v3 = 1 ∧ pz_W M = 4) ∨ (v3 = 0 ∧ pz_W M ≠ 4) := q3
    refine And.intro (fun h6 => ?_) (fun h6 => ?_)
    · skip
      replace q3 := q3.resolve_left (fun z => absurd (z.1.symm.trans h6) (by decide))
      clear h6
      refine And.intro (And.intro hI (And.intro (by decide) (And.intro (by decide) (by first | decide | omega)))) ?_
      intro v14 M14 a14 b14 q14
      obtain ⟨q14, z14⟩ := q14
      subst z14
      clear a14 b14
      replace q14 : (v14 = 1 ∧ pz_W M = 5) ∨ (v14 = 0 ∧ pz_W M ≠ 5) := q14
      refine And.intro (fun h17 => ?_) (fun h17 => ?_)
      · skip
        replace q14 := q14.resolve_left (fun z => absurd (z.1.symm.trans h17) (by decide))
        clear h17
        refine And.intro (And.intro hI (And.intro (by decide) (And.intro (by decide) (by first | decide | omega)))) ?_
        intro v25 M25 a25 b25 q25
        obtain ⟨q25, z25⟩ := q25
        subst z25
        clear a25 b25
        replace q25 : (v25 = 1 ∧ pz_W M = 6) ∨ (v25 = 0 ∧ pz_W M ≠ 6) := q25
        refine And.intro (fun h28 => ?_) (fun h28 => ?_)
        · skip
          replace q25 := q25.resolve_left (fun z => absurd (z.1.symm.trans h28) (by decide))
          clear h28
          refine And.intro (And.intro hI (And.intro (by decide) (And.intro (by decide) (by first | decide | omega)))) ?_
          intro v36 M36 a36 b36 q36
          obtain ⟨q36, z36⟩ := q36
          subst z36
          clear a36 b36
          replace q36 : (v36 = 1 ∧ pz_W M = 7) ∨ (v36 = 0 ∧ pz_W M ≠ 7) := q36
          refine And.intro (fun h39 => ?_) (fun h39 => ?_)
          · skip
            replace q36 := q36.resolve_left (fun z => absurd (z.1.symm.trans h39) (by decide))
            clear h39
            refine And.intro (And.intro hI (And.intro (by decide) (And.intro (by decide) (by first | decide | omega)))) ?_
            intro v48 M48 a48 b48 q48
            obtain ⟨q48, z48⟩ := q48
            subst z48
            clear a48 b48
            replace q48 : (v48 = 1 ∧ pz_W M = 0) ∨ (v48 = 0 ∧ pz_W M ≠ 0) := q48
            refine And.intro (fun h51 => ?_) (fun h51 => ?_)
            · skip
              replace q48 := q48.resolve_left (fun z => absurd (z.1.symm.trans h51) (by decide))
              clear h51
              refine And.intro (And.intro hI (And.intro (by decide) (And.intro (by decide) (by first | decide | omega)))) ?_
              intro v60 M60 a60 b60 q60
              obtain ⟨q60, z60⟩ := q60
              subst z60
              clear a60 b60
              replace q60 : (v60 = 1 ∧ pz_W M = 1) ∨ (v60 = 0 ∧ pz_W M ≠ 1) := q60
              refine And.intro (fun h63 => ?_) (fun h63 => ?_)
              · skip
                replace q60 := q60.resolve_left (fun z => absurd (z.1.symm.trans h63) (by decide))
                clear h63
                refine And.intro (And.intro hI (And.intro (by decide) (And.intro (by decide) (by first | decide | omega)))) ?_
                intro v72 M72 a72 b72 q72
                obtain ⟨q72, z72⟩ := q72
                subst z72
                clear a72 b72
                replace q72 : (v72 = 1 ∧ pz_W M = 2) ∨ (v72 = 0 ∧ pz_W M ≠ 2) := q72
                refine And.intro (fun h75 => ?_) (fun h75 => ?_)
                · skip
                  replace q72 := q72.resolve_left (fun z => absurd (z.1.symm.trans h75) (by decide))
                  clear h75
                  refine And.intro (And.intro hI (And.intro (by decide) (And.intro (by decide) (by first | decide | omega)))) ?_
                  intro v84 M84 a84 b84 q84
                  obtain ⟨q84, z84⟩ := q84
                  subst z84
                  clear a84 b84
                  replace q84 : (v84 = 1 ∧ pz_W M = 3) ∨ (v84 = 0 ∧ pz_W M ≠ 3) := q84
                  refine And.intro (fun h87 => ?_) (fun h87 => ?_)
                  · skip
                    replace q84 := q84.resolve_left (fun z => absurd (z.1.symm.trans h87) (by decide))
                    clear h87
                    refine And.intro (And.intro hI (by first | decide | omega)) ?_
                    intro v96 M96 a96 b96 q96
                    obtain ⟨q96, z96⟩ := q96
                    subst z96
                    refine And.intro rfl ?_
                    exact ⟨by
                      unfold pz_ml
                      repeat' split
                      all_goals omega, rfl⟩
                  · skip
                    replace q84 := q84.resolve_right (fun z => h87 z.1)
                    clear h87
                    refine And.intro rfl ?_
                    exact ⟨by
                      unfold pz_ml
                      repeat' split
                      all_goals omega, rfl⟩
                · skip
                  replace q72 := q72.resolve_right (fun z => h75 z.1)
                  clear h75
                  refine And.intro rfl ?_
                  exact ⟨by
                    unfold pz_ml
                    repeat' split
                    all_goals omega, rfl⟩
              · skip
                replace q60 := q60.resolve_right (fun z => h63 z.1)
                clear h63
                refine And.intro rfl ?_
                exact ⟨by
                  unfold pz_ml
                  repeat' split
                  all_goals omega, rfl⟩
            · skip
              replace q48 := q48.resolve_right (fun z => h51 z.1)
              clear h51
              refine And.intro rfl ?_
              exact ⟨by
                unfold pz_ml
                repeat' split
                all_goals omega, rfl⟩
          · skip
            replace q36 := q36.resolve_right (fun z => h39 z.1)
            clear h39
            refine And.intro rfl ?_
            exact ⟨by
              unfold pz_ml
              repeat' split
              all_goals omega, rfl⟩
        · skip
          replace q25 := q25.resolve_right (fun z => h28 z.1)
          clear h28
          refine And.intro rfl ?_
          exact ⟨by
            unfold pz_ml
            repeat' split
            all_goals omega, rfl⟩
      · skip
        replace q14 := q14.resolve_right (fun z => h17 z.1)
        clear h17
        refine And.intro rfl ?_
        exact ⟨by
          unfold pz_ml
          repeat' split
          all_goals omega, rfl⟩
    · skip
      replace q3 := q3.resolve_right (fun z => h6 z.1)
      clear h6
      refine And.intro rfl ?_
      exact ⟨by
        unfold pz_ml
        repeat' split
        all_goals omega, rfl⟩
theorem v_X12_lawWord {fr lo i : Nat} {own : String} (h1 : 6 + 1 ≤ fr) (h2 : 8 + (1 + 11) + 128 ≤ lo) (h3 : .methodLink own i yX12_lawWord ∈ lw_tbl) : pz_cV fr lo own i k_X12_lawWord :=
  pz_cVk (maxL := 1) (fr' := 6) (lo' := 128) 0 12 h_X12_lawWord rfl ⟨(pz_nhc_RX12 yX12_lawWord rfl).1, (pz_nhc_RX12 yX12_lawWord rfl).2, pz_ds1⟩ ⟨pz_wq1261, pz_wq1260, pz_ws9, pz_wq13⟩ (Or.inl ⟨TX12, 28, rfl⟩) (fun a M _ h => by
    have h : (match (generalizing := false) a with | [.inr (.inr (12, th))] => pz_im M ∧ M 1 19 ≤ M 1 17 | _ => False) := h
    split at h
    · exact ⟨_, _, rfl⟩
    · exact h.elim) h1 h2 h3
noncomputable def k_X12_planWord : pz_C := (1, 1, fun a M => (match a with | [.inr (.inr (12, th))] => pz_im M ∧ M 1 19 ≤ M 1 17 | _ => False), fun a M r M' => (match a, r with | [.inr (.inr (12, th))], some (.inl v) => (v = pz_mp (pz_W M)) ∧ M = M' | _, _ => False))
noncomputable abbrev ct_X12_planWord : List (Bool × Nat × pz_C) := [(true, 101, k_X12_is)]
set_option maxRecDepth 100000 in
set_option maxHeartbeats 4000000 in
theorem h_X12_planWord : pz_H yX12_planWord cX12_planWord 1 (some .int) k_X12_planWord 5 108 := by
  refine pz_mk (own := RX12) (tb := t_X12_planWord) (fl := pz_flf fl_RX12) (ci := pz_cif ci_RX12) (ct := pz_ctf ct_X12_planWord) (rz := false) (pz_pfc_RX12 yX12_planWord rfl) rfl t_X12_planWord_ok (pz_flk fl_RX12_ok) (pz_cik ci_RX12_ok) ?_ ?_ (Or.inl ⟨rfl, rfl⟩) ?_ ?_
  · exact fun i k' h => pz_ctk (l := ct_X12_planWord) (P := fun b i k => b = true → pz_cV 5 108 RX12 i k) (List.forall_mem_cons.mpr ⟨(fun _ => v_X12_is (by decide) (by decide) pz_wq1263), fun _ h => absurd h List.not_mem_nil⟩) true i k' h rfl
  · exact fun i k' h => pz_ctk (l := ct_X12_planWord) (P := fun b i k => b = false → (pz_cS 5 108 RX12 i k ∨ (k = pz_kac ∧ 1 ≤ 5 ∧ 60 ≤ 108 ∧ Cond.methodLink RX12 i arraycopyName ∈ pz_tbl))) (List.forall_mem_cons.mpr ⟨((fun z => by cases z)), fun _ h => absurd h List.not_mem_nil⟩) false i k' h rfl
  · intro a M hlen hpre
    obtain ⟨th, rfl, hpre⟩ : ∃ th, a = [.inr (.inr (12, th))] ∧ (pz_im M ∧ M 1 19 ≤ M 1 17) := by
      have hpre : (match (generalizing := false) a with | [.inr (.inr (12, th))] => pz_im M ∧ M 1 19 ≤ M 1 17 | _ => False) := hpre
      split at hpre
      · exact ⟨_, rfl, hpre⟩
      · exact hpre.elim
    exact Nat.le_of_ble_eq_true rfl
  · intro a M hlen hcan hM hpre Ok hgo
    obtain ⟨th, rfl, hpre⟩ : ∃ th, a = [.inr (.inr (12, th))] ∧ (pz_im M ∧ M 1 19 ≤ M 1 17) := by
      have hpre : (match (generalizing := false) a with | [.inr (.inr (12, th))] => pz_im M ∧ M 1 19 ≤ M 1 17 | _ => False) := hpre
      split at hpre
      · exact ⟨_, rfl, hpre⟩
      · exact hpre.elim
    obtain ⟨k_th, hc_th⟩ := pz_tlm hcan
    have k_th : pz_kd th = 12 ∧ th < 231 := k_th
    have R_th := pz_kd12 k_th.1
    subst R_th
    clear k_th
    have hI : pz_im M := hpre.1
    have p3 := hpre.2
    refine hgo (fun _ => false) 34 0 _ [] M ?_
    refine And.intro (And.intro hI (And.intro (by decide) (And.intro (by decide) (by first | decide | omega)))) ?_
    intro v3 M3 a3 b3 q3
    obtain ⟨q3, z3⟩ := q3
    subst z3
    clear a3 b3
    replace q3 : (v3 = 1 ∧ pz_W M = 17) ∨ (v3 = 0 ∧ pz_W M ≠ 17) := q3
    refine And.intro (fun h6 => ?_) (fun h6 => ?_)
    · skip
      replace q3 := q3.resolve_left (fun z => absurd (z.1.symm.trans h6) (by decide))
      clear h6
      refine And.intro (And.intro hI (And.intro (by decide) (And.intro (by decide) (by first | decide | omega)))) ?_
      intro v15 M15 a15 b15 q15
      obtain ⟨q15, z15⟩ := q15
      subst z15
      clear a15 b15
      replace q15 : (v15 = 1 ∧ pz_W M = 18) ∨ (v15 = 0 ∧ pz_W M ≠ 18) := q15
      refine And.intro (fun h18 => ?_) (fun h18 => ?_)
      · skip
        replace q15 := q15.resolve_left (fun z => absurd (z.1.symm.trans h18) (by decide))
        clear h18
        refine And.intro (And.intro hI (And.intro (by decide) (And.intro (by decide) (by first | decide | omega)))) ?_
        intro v27 M27 a27 b27 q27
        obtain ⟨q27, z27⟩ := q27
        subst z27
        clear a27 b27
        replace q27 : (v27 = 1 ∧ pz_W M = 19) ∨ (v27 = 0 ∧ pz_W M ≠ 19) := q27
        refine And.intro (fun h30 => ?_) (fun h30 => ?_)
        · skip
          replace q27 := q27.resolve_left (fun z => absurd (z.1.symm.trans h30) (by decide))
          clear h30
          refine And.intro (And.intro hI (And.intro (by decide) (And.intro (by decide) (by first | decide | omega)))) ?_
          intro v39 M39 a39 b39 q39
          obtain ⟨q39, z39⟩ := q39
          subst z39
          clear a39 b39
          replace q39 : (v39 = 1 ∧ pz_W M = 20) ∨ (v39 = 0 ∧ pz_W M ≠ 20) := q39
          refine And.intro (fun h42 => ?_) (fun h42 => ?_)
          · skip
            replace q39 := q39.resolve_left (fun z => absurd (z.1.symm.trans h42) (by decide))
            clear h42
            refine And.intro (And.intro hI (And.intro (by decide) (And.intro (by decide) (by first | decide | omega)))) ?_
            intro v51 M51 a51 b51 q51
            obtain ⟨q51, z51⟩ := q51
            subst z51
            clear a51 b51
            replace q51 : (v51 = 1 ∧ pz_W M = 21) ∨ (v51 = 0 ∧ pz_W M ≠ 21) := q51
            refine And.intro (fun h54 => ?_) (fun h54 => ?_)
            · skip
              replace q51 := q51.resolve_left (fun z => absurd (z.1.symm.trans h54) (by decide))
              clear h54
              refine And.intro rfl ?_
              exact ⟨by
                unfold pz_mp
                repeat' split
                all_goals omega, rfl⟩
            · skip
              replace q51 := q51.resolve_right (fun z => h54 z.1)
              clear h54
              refine And.intro rfl ?_
              exact ⟨by
                unfold pz_mp
                repeat' split
                all_goals omega, rfl⟩
          · skip
            replace q39 := q39.resolve_right (fun z => h42 z.1)
            clear h42
            refine And.intro rfl ?_
            exact ⟨by
              unfold pz_mp
              repeat' split
              all_goals omega, rfl⟩
        · skip
          replace q27 := q27.resolve_right (fun z => h30 z.1)
          clear h30
          refine And.intro rfl ?_
          exact ⟨by
            unfold pz_mp
            repeat' split
            all_goals omega, rfl⟩
      · skip
        replace q15 := q15.resolve_right (fun z => h18 z.1)
        clear h18
        refine And.intro rfl ?_
        exact ⟨by
          unfold pz_mp
          repeat' split
          all_goals omega, rfl⟩
    · skip
      replace q3 := q3.resolve_right (fun z => h6 z.1)
      clear h6
      refine And.intro rfl ?_
      exact ⟨by
        unfold pz_mp
        repeat' split
        all_goals omega, rfl⟩
theorem v_X12_planWord {fr lo i : Nat} {own : String} (h1 : 5 + 1 ≤ fr) (h2 : 8 + (1 + 11) + 108 ≤ lo) (h3 : .methodLink own i yX12_planWord ∈ lw_tbl) : pz_cV fr lo own i k_X12_planWord :=
  pz_cVk (maxL := 1) (fr' := 5) (lo' := 108) 0 12 h_X12_planWord rfl ⟨(pz_nhc_RX12 yX12_planWord rfl).1, (pz_nhc_RX12 yX12_planWord rfl).2, pz_ds1⟩ ⟨pz_wq1292, pz_wq1291, pz_ws12, pz_wq13⟩ (Or.inl ⟨TX12, 28, rfl⟩) (fun a M _ h => by
    have h : (match (generalizing := false) a with | [.inr (.inr (12, th))] => pz_im M ∧ M 1 19 ≤ M 1 17 | _ => False) := h
    split at h
    · exact ⟨_, _, rfl⟩
    · exact h.elim) h1 h2 h3
noncomputable def k_X12_word : pz_C := (1, 1, fun a M => (match a with | [.inr (.inr (12, th))] => pz_im M ∧ M 1 19 ≤ M 1 17 | _ => False), fun a M r M' => (match a, r with | [.inr (.inr (12, th))], some (.inl v) => (v = pz_mw (M 1 12) (pz_W M)) ∧ M = M' | _, _ => False))
noncomputable abbrev ct_X12_word : List (Bool × Nat × pz_C) := [(true, 153, k_X12_lawWord), (true, 156, k_X12_planWord), (true, 101, k_X12_is)]
set_option maxRecDepth 100000 in
set_option maxHeartbeats 4000000 in
theorem h_X12_word : pz_H yX12_word cX12_word 1 (some .int) k_X12_word 7 148 := by
  refine pz_mk (own := RX12) (tb := t_X12_word) (fl := pz_flf fl_RX12) (ci := pz_cif ci_RX12) (ct := pz_ctf ct_X12_word) (rz := false) (pz_pfc_RX12 yX12_word rfl) rfl t_X12_word_ok (pz_flk fl_RX12_ok) (pz_cik ci_RX12_ok) ?_ ?_ (Or.inl ⟨rfl, rfl⟩) ?_ ?_
  · exact fun i k' h => pz_ctk (l := ct_X12_word) (P := fun b i k => b = true → pz_cV 7 148 RX12 i k) (List.forall_mem_cons.mpr ⟨(fun _ => v_X12_lawWord (by decide) (by decide) pz_wq1258), List.forall_mem_cons.mpr ⟨(fun _ => v_X12_planWord (by decide) (by decide) pz_wq1289), List.forall_mem_cons.mpr ⟨(fun _ => v_X12_is (by decide) (by decide) pz_wq1263), fun _ h => absurd h List.not_mem_nil⟩⟩⟩) true i k' h rfl
  · exact fun i k' h => pz_ctk (l := ct_X12_word) (P := fun b i k => b = false → (pz_cS 7 148 RX12 i k ∨ (k = pz_kac ∧ 1 ≤ 7 ∧ 60 ≤ 148 ∧ Cond.methodLink RX12 i arraycopyName ∈ pz_tbl))) (List.forall_mem_cons.mpr ⟨((fun z => by cases z)), List.forall_mem_cons.mpr ⟨((fun z => by cases z)), List.forall_mem_cons.mpr ⟨((fun z => by cases z)), fun _ h => absurd h List.not_mem_nil⟩⟩⟩) false i k' h rfl
  · intro a M hlen hpre
    obtain ⟨th, rfl, hpre⟩ : ∃ th, a = [.inr (.inr (12, th))] ∧ (pz_im M ∧ M 1 19 ≤ M 1 17) := by
      have hpre : (match (generalizing := false) a with | [.inr (.inr (12, th))] => pz_im M ∧ M 1 19 ≤ M 1 17 | _ => False) := hpre
      split at hpre
      · exact ⟨_, rfl, hpre⟩
      · exact hpre.elim
    exact Nat.le_of_ble_eq_true rfl
  · intro a M hlen hcan hM hpre Ok hgo
    obtain ⟨th, rfl, hpre⟩ : ∃ th, a = [.inr (.inr (12, th))] ∧ (pz_im M ∧ M 1 19 ≤ M 1 17) := by
      have hpre : (match (generalizing := false) a with | [.inr (.inr (12, th))] => pz_im M ∧ M 1 19 ≤ M 1 17 | _ => False) := hpre
      split at hpre
      · exact ⟨_, rfl, hpre⟩
      · exact hpre.elim
    obtain ⟨k_th, hc_th⟩ := pz_tlm hcan
    have k_th : pz_kd th = 12 ∧ th < 231 := k_th
    have R_th := pz_kd12 k_th.1
    subst R_th
    clear k_th
    have hI : pz_im M := hpre.1
    have p3 := hpre.2
    refine hgo (fun _ => false) 45 0 _ [] M ?_
    intro v1 e1 a1 b1
    refine And.intro ?_ ?_
    · skip
      refine And.intro (fun h4 => ?_) ?_
      · skip
        refine And.intro (And.intro hI (by first | decide | omega)) ?_
        intro v33 M33 a33 b33 q33
        obtain ⟨q33, z33⟩ := q33
        subst z33
        refine And.intro rfl ?_
        exact ⟨by
          unfold pz_mw
          repeat' split
          all_goals omega, rfl⟩
      refine And.intro (fun h4 => ?_) ?_
      · skip
        refine And.intro (And.intro hI (by first | decide | omega)) ?_
        intro v38 M38 a38 b38 q38
        obtain ⟨q38, z38⟩ := q38
        subst z38
        refine And.intro rfl ?_
        exact ⟨by
          unfold pz_mw
          repeat' split
          all_goals omega, rfl⟩
      refine And.intro (fun h4 => ?_) ?_
      · skip
        refine And.intro (And.intro hI (And.intro (by decide) (And.intro (by decide) (by first | decide | omega)))) ?_
        intro v45 M45 a45 b45 q45
        obtain ⟨q45, z45⟩ := q45
        subst z45
        clear a45 b45
        replace q45 : (v45 = 1 ∧ pz_W M = 8) ∨ (v45 = 0 ∧ pz_W M ≠ 8) := q45
        refine And.intro (fun h48 => ?_) (fun h48 => ?_)
        · skip
          replace q45 := q45.resolve_left (fun z => absurd (z.1.symm.trans h48) (by decide))
          clear h48
          refine And.intro (And.intro hI (And.intro (by decide) (And.intro (by decide) (by first | decide | omega)))) ?_
          intro v59 M59 a59 b59 q59
          obtain ⟨q59, z59⟩ := q59
          subst z59
          clear a59 b59
          replace q59 : (v59 = 1 ∧ pz_W M = 22) ∨ (v59 = 0 ∧ pz_W M ≠ 22) := q59
          refine And.intro (fun h62 => ?_) (fun h62 => ?_)
          · skip
            replace q59 := q59.resolve_left (fun z => absurd (z.1.symm.trans h62) (by decide))
            clear h62
            refine And.intro (And.intro hI (And.intro (by decide) (And.intro (by decide) (by first | decide | omega)))) ?_
            intro v73 M73 a73 b73 q73
            obtain ⟨q73, z73⟩ := q73
            subst z73
            clear a73 b73
            replace q73 : (v73 = 1 ∧ pz_W M = 23) ∨ (v73 = 0 ∧ pz_W M ≠ 23) := q73
            refine And.intro (fun h76 => ?_) (fun h76 => ?_)
            · skip
              replace q73 := q73.resolve_left (fun z => absurd (z.1.symm.trans h76) (by decide))
              clear h76
              refine And.intro rfl ?_
              exact ⟨by
                unfold pz_mw
                repeat' split
                all_goals omega, rfl⟩
            · skip
              replace q73 := q73.resolve_right (fun z => h76 z.1)
              clear h76
              refine And.intro rfl ?_
              exact ⟨by
                unfold pz_mw
                repeat' split
                all_goals omega, rfl⟩
          · skip
            replace q59 := q59.resolve_right (fun z => h62 z.1)
            clear h62
            refine And.intro rfl ?_
            exact ⟨by
              unfold pz_mw
              repeat' split
              all_goals omega, rfl⟩
        · skip
          replace q45 := q45.resolve_right (fun z => h48 z.1)
          clear h48
          refine And.intro rfl ?_
          exact ⟨by
            unfold pz_mw
            repeat' split
            all_goals omega, rfl⟩
      exact True.intro
    · intro h4
      refine And.intro (And.intro hI (And.intro (by decide) (And.intro (by decide) (by first | decide | omega)))) ?_
      intro v89 M89 a89 b89 q89
      obtain ⟨q89, z89⟩ := q89
      subst z89
      clear a89 b89
      replace q89 : (v89 = 1 ∧ pz_W M = 13) ∨ (v89 = 0 ∧ pz_W M ≠ 13) := q89
      refine And.intro (fun h92 => ?_) (fun h92 => ?_)
      · skip
        replace q89 := q89.resolve_left (fun z => absurd (z.1.symm.trans h92) (by decide))
        clear h92
        refine And.intro (And.intro hI (And.intro (by decide) (And.intro (by decide) (by first | decide | omega)))) ?_
        intro v103 M103 a103 b103 q103
        obtain ⟨q103, z103⟩ := q103
        subst z103
        clear a103 b103
        replace q103 : (v103 = 1 ∧ pz_W M = 8) ∨ (v103 = 0 ∧ pz_W M ≠ 8) := q103
        refine And.intro (fun h106 => ?_) (fun h106 => ?_)
        · skip
          replace q103 := q103.resolve_left (fun z => absurd (z.1.symm.trans h106) (by decide))
          clear h106
          refine And.intro rfl ?_
          exact ⟨by
            unfold pz_mw
            repeat' split
            all_goals omega, rfl⟩
        · skip
          replace q103 := q103.resolve_right (fun z => h106 z.1)
          clear h106
          refine And.intro rfl ?_
          exact ⟨by
            unfold pz_mw
            repeat' split
            all_goals omega, rfl⟩
      · skip
        replace q89 := q89.resolve_right (fun z => h92 z.1)
        clear h92
        refine And.intro rfl ?_
        exact ⟨by
          unfold pz_mw
          repeat' split
          all_goals omega, rfl⟩
theorem v_X12_word {fr lo i : Nat} {own : String} (h1 : 7 + 1 ≤ fr) (h2 : 8 + (1 + 11) + 148 ≤ lo) (h3 : .methodLink own i yX12_word ∈ lw_tbl) : pz_cV fr lo own i k_X12_word :=
  pz_cVk (maxL := 1) (fr' := 7) (lo' := 148) 0 12 h_X12_word rfl ⟨(pz_nhc_RX12 yX12_word rfl).1, (pz_nhc_RX12 yX12_word rfl).2, pz_ds1⟩ ⟨pz_wq1257, pz_wq1256, pz_ws8, pz_wq13⟩ (Or.inl ⟨TX12, 28, rfl⟩) (fun a M _ h => by
    have h : (match (generalizing := false) a with | [.inr (.inr (12, th))] => pz_im M ∧ M 1 19 ≤ M 1 17 | _ => False) := h
    split at h
    · exact ⟨_, _, rfl⟩
    · exact h.elim) h1 h2 h3
noncomputable def k_X12_next0 : pz_C := (1, 0, fun a M => (match a with | [.inr (.inr (12, th))] => pz_im M | _ => False), fun a M r M' => (match a, r with | [.inr (.inr (12, th))], none => ((M 1 17 ≤ M' 1 19 ∧ M' 1 19 ≤ M' 1 17 ∧ (M' 1 18 ≠ 0 → M' 1 19 + 1 ≤ M' 1 17)) ∧ (pz_tb M → pz_nxt M M')) ∧ pz_rl pz_Q0 M M' | _, _ => False))
noncomputable abbrev ct_X12_next0 : List (Bool × Nat × pz_C) := [(true, 163, k_X12_see), (false, 170, k_X12_isLetter), (true, 173, k_X12_word), (false, 176, k_X12_isDigit)]
set_option maxRecDepth 100000 in
set_option maxHeartbeats 4000000 in
theorem h_X12_next0 : pz_H yX12_next0 cX12_next0 3 none k_X12_next0 8 168 := by
  refine pz_mk (own := RX12) (tb := t_X12_next0) (fl := pz_flf fl_RX12) (ci := pz_cif ci_RX12) (ct := pz_ctf ct_X12_next0) (rz := false) (pz_pfc_RX12 yX12_next0 rfl) rfl t_X12_next0_ok (pz_flk fl_RX12_ok) (pz_cik ci_RX12_ok) ?_ ?_ (rfl) ?_ ?_
  · exact fun i k' h => pz_ctk (l := ct_X12_next0) (P := fun b i k => b = true → pz_cV 8 168 RX12 i k) (List.forall_mem_cons.mpr ⟨(fun _ => v_X12_see (by decide) (by decide) pz_wq1247), List.forall_mem_cons.mpr ⟨((fun z => by cases z)), List.forall_mem_cons.mpr ⟨(fun _ => v_X12_word (by decide) (by decide) pz_wq1254), List.forall_mem_cons.mpr ⟨((fun z => by cases z)), fun _ h => absurd h List.not_mem_nil⟩⟩⟩⟩) true i k' h rfl
  · exact fun i k' h => pz_ctk (l := ct_X12_next0) (P := fun b i k => b = false → (pz_cS 8 168 RX12 i k ∨ (k = pz_kac ∧ 1 ≤ 8 ∧ 60 ≤ 168 ∧ Cond.methodLink RX12 i arraycopyName ∈ pz_tbl))) (List.forall_mem_cons.mpr ⟨((fun z => by cases z)), List.forall_mem_cons.mpr ⟨(fun _ => Or.inl (s_X12_isLetter (by decide) (by decide) (Or.inl pz_wq1251))), List.forall_mem_cons.mpr ⟨((fun z => by cases z)), List.forall_mem_cons.mpr ⟨(fun _ => Or.inl (s_X12_isDigit (by decide) (by decide) (Or.inl pz_wq1300))), fun _ h => absurd h List.not_mem_nil⟩⟩⟩⟩) false i k' h rfl
  · intro a M hlen hpre
    obtain ⟨th, rfl, hpre⟩ : ∃ th, a = [.inr (.inr (12, th))] ∧ (pz_im M) := by
      have hpre : (match (generalizing := false) a with | [.inr (.inr (12, th))] => pz_im M | _ => False) := hpre
      split at hpre
      · exact ⟨_, rfl, hpre⟩
      · exact hpre.elim
    exact Nat.le_of_ble_eq_true rfl
  · intro a M hlen hcan hM hpre Ok hgo
    obtain ⟨th, rfl, hpre⟩ : ∃ th, a = [.inr (.inr (12, th))] ∧ (pz_im M) := by
      have hpre : (match (generalizing := false) a with | [.inr (.inr (12, th))] => pz_im M | _ => False) := hpre
      split at hpre
      · exact ⟨_, rfl, hpre⟩
      · exact hpre.elim
    obtain ⟨k_th, hc_th⟩ := pz_tlm hcan
    have k_th : pz_kd th = 12 ∧ th < 231 := k_th
    have R_th := pz_kd12 k_th.1
    subst R_th
    clear k_th
    have hI : pz_im M := hpre
    have hI0 := hI
    have hS : pz_rl pz_Q0 M M := pz_rl.rf
    have L76 : ∀ (fu : Nat) (x1 : Int) (d2 : Option pz_V) (N76 : pz_M), (401 - N76 1 17).toNat < fu → (pz_rl pz_Q0 M N76) → (((97 ≤ x1 ∧ x1 ≤ 122) ∨ (65 ≤ x1 ∧ x1 ≤ 90))) → (M 1 17 ≤ N76 1 19) → (N76 1 19 ≤ N76 1 17) → (N76 1 19 = N76 1 17 → N76 1 17 < N76 1 16 ∧ N76 67 (N76 1 17).toNat = x1) → (pz_nxp M = (N76 1 19).toNat) → (pz_whl pz_let (M 67) (M 1 16).toNat (N76 1 17).toNat = pz_whl pz_let (M 67) (M 1 16).toNat (N76 1 19).toNat) → (N76 1 19 < M 1 16) → (pz_let (M 67 (N76 1 19).toNat) = true) → Ok 76 [some (.inr (.inr (12, 1))), some (.inl x1), d2] [] N76 := by
      intro fu
      induction fu with
      | zero => exact fun _ _ _ hn => absurd hn (Nat.not_lt_zero _)
      | succ fu ih76 =>
        intro x1 d2 N76 hn76 hS g76_1 g76_2 g76_3 g76_4 g76_5 g76_6 g76_7 g76_8
        have hI : pz_im N76 := hS.1 hI0
        have J17 := hI.2.1.2.2.2.1
        have J19 := hI.2.1.2.2.2.2.1
        have J16 := hI.2.1.2.1
        have U17 := Int.toNat_of_nonneg J17.1
        have U19 := Int.toNat_of_nonneg J19.1
        obtain ⟨Z67, Z16, Z12⟩ := pz_Q0z hS
        have U16 : (((M 1 16).toNat : Nat) : Int) = M 1 16 := Int.toNat_of_nonneg (by first | decide | omega)
        refine hgo (fun p => Nat.beq p 0 || Nat.beq p 26 || Nat.beq p 76 || Nat.beq p 126 || Nat.beq p 176) 160 76 _ _ _ ?_
        intro v78 e78 a78 b78
        have I78 : 0 ≤ v78 ∧ v78 ≤ 400 := by
          rw [e78]
          exact hI.2.1.2.2.2.1
        clear a78 b78
        have N78 := hI.2.1.2.2.2.1
        refine And.intro (And.intro hI (by first | decide | omega)) ?_
        intro v81 M81 a81 b81 q81
        obtain ⟨q81, z81⟩ := q81
        subst z81
        rw [e78] at q81
        refine And.intro (True.intro) ?_
        intro v84 M84 a84 b84 q84
        obtain ⟨q84, z84⟩ := q84
        subst z84
        clear a84 b84
        refine And.intro (fun h87 => ?_) (fun h87 => ?_)
        · skip
          have G87 : pz_whl pz_let (M 67) (M 1 16).toNat (N76 1 19).toNat = (N76 1 17).toNat := by
            rw [← g76_6]
            exact pz_whl_n (fun z => by
              have z2 := pz_let_i.mp z.2
              rw [← Z67] at z2
              omega)
          replace q84 := q84.resolve_left (fun z => absurd (z.1.symm.trans h87) (by decide))
          clear h87
          refine And.intro (And.intro hI (by first | decide | omega)) ?_
          intro v105 M105 a105 b105 q105
          obtain ⟨q105, z105⟩ := q105
          subst z105
          intro M108 e108
          have hS : pz_rl pz_Q0 M M108 := by
            rw [e108]
            exact pz_rl_u hS (by unfold pz_Q0; decide) (pz_iom_f (by decide))
          have hI : pz_im M108 := hS.1 hI0
          have T108_0 : M108 1 17 = N76 1 17 := by
            rw [e108]
            exact (pz_une (by decide))
          have T108_1 : M108 1 18 = v105 := by rw [e108]; exact pz_uu
          have T108_2 : M108 1 19 = N76 1 19 := by
            rw [e108]
            exact (pz_une (by decide))
          have T108_3 : M108 1 16 = N76 1 16 := by
            rw [e108]
            exact (pz_une (by decide))
          have T108_4 : M108 1 20 = N76 1 20 := by
            rw [e108]
            exact (pz_une (by decide))
          have S108 : pz_tb M → pz_nxt M M108 := fun _ => pz_nxt_let g76_5 (by first | decide | omega) (by first | decide | omega) g76_7 g76_8 G87 (by first | decide | omega) (by first | decide | omega) (by rw [← q105]; omega) ⟨Z67, Z16, Z12⟩
          refine And.intro rfl ?_
          first
            | exact ⟨⟨by omega, S63⟩, hS⟩
            | exact ⟨⟨by omega, S108⟩, hS⟩
            | exact ⟨⟨by omega, S208⟩, hS⟩
            | exact ⟨⟨by omega, S303⟩, hS⟩
        · skip
          have H87 : pz_let (M 67 (N76 1 17).toNat) = true := by
            rw [pz_let_i, ← Z67]
            omega
          replace q84 := q84.resolve_right (fun z => h87 z.1)
          clear h87
          intro v92 e92 a92 b92
          have I92 : 0 ≤ v92 ∧ v92 ≤ 400 := by
            rw [e92]
            exact hI.2.1.2.2.2.1
          clear a92 b92
          have N92 := hI.2.1.2.2.2.1
          intro v96 e96 a96 b96
          rw [pz_wi (by first | decide | omega) (by first | decide | omega)] at e96
          clear a96 b96
          intro M97 e97
          have hS : pz_rl pz_Q0 M M97 := by
            rw [e97]
            exact pz_rl_u hS (by unfold pz_Q0; decide) (pz_iom_17 (by first | decide | omega))
          have hI : pz_im M97 := hS.1 hI0
          have T97_0 : M97 1 17 = v96 := by rw [e97]; exact pz_uu
          have T97_1 : M97 1 18 = N76 1 18 := by
            rw [e97]
            exact (pz_une (by decide))
          have T97_2 : M97 1 19 = N76 1 19 := by
            rw [e97]
            exact (pz_une (by decide))
          have T97_3 : M97 1 16 = N76 1 16 := by
            rw [e97]
            exact (pz_une (by decide))
          have T97_4 : M97 1 20 = N76 1 20 := by
            rw [e97]
            exact (pz_une (by decide))
          have A97 : pz_nxp M = (M97 1 19).toNat := by
            rw [(show (M97 1 19).toNat = (N76 1 19).toNat by first | exact congrArg Int.toNat T97_2 | omega)]
            assumption
          have D97 : pz_let (M 67 (M97 1 19).toNat) = true := by
            rw [(show (M97 1 19).toNat = (N76 1 19).toNat by first | exact congrArg Int.toNat T97_2 | omega)]
            assumption
          have U97 : (((M97 1 17).toNat : Nat) : Int) = M97 1 17 := Int.toNat_of_nonneg (by first | decide | omega)
          have B97 : pz_whl pz_let (M 67) (M 1 16).toNat (M97 1 17).toNat = pz_whl pz_let (M 67) (M 1 16).toNat (M97 1 19).toNat := by
            rw [show (M97 1 17).toNat = (N76 1 17).toNat + 1 by omega, show (M97 1 19).toNat = (N76 1 19).toNat by omega, ← pz_whl_y (by first | decide | omega) H87]
            assumption
          exact ih76 _ _ _ (by first | decide | omega) hS (by first | omega | assumption | exact A73 | exact B73 | exact D73 | exact A97 | exact B97 | exact D97) (by first | omega | assumption | exact A73 | exact B73 | exact D73 | exact A97 | exact B97 | exact D97) (by first | omega | assumption | exact A73 | exact B73 | exact D73 | exact A97 | exact B97 | exact D97) (by first | omega | assumption | exact A73 | exact B73 | exact D73 | exact A97 | exact B97 | exact D97) (by first | omega | assumption | exact A73 | exact B73 | exact D73 | exact A97 | exact B97 | exact D97) (by first | omega | assumption | exact A73 | exact B73 | exact D73 | exact A97 | exact B97 | exact D97) (by first | omega | assumption | exact A73 | exact B73 | exact D73 | exact A97 | exact B97 | exact D97) (by first | omega | assumption | exact A73 | exact B73 | exact D73 | exact A97 | exact B97 | exact D97)
    have L126 : ∀ (fu : Nat) (x1 : Int) (d2 : Option pz_V) (N126 : pz_M), (401 - N126 1 17).toNat < fu → (pz_rl pz_Q0 M N126) → (48 ≤ x1 ∧ x1 ≤ 57) → (M 1 17 ≤ N126 1 19) → (N126 1 19 ≤ N126 1 17) → (N126 1 19 = N126 1 17 → N126 1 17 < N126 1 16 ∧ N126 67 (N126 1 17).toNat = x1) → (pz_nxp M = (N126 1 19).toNat) → (pz_whl pz_dig (M 67) (M 1 16).toNat (N126 1 17).toNat = pz_whl pz_dig (M 67) (M 1 16).toNat (N126 1 19).toNat) → (N126 1 19 < M 1 16) → (¬ pz_let (M 67 (N126 1 19).toNat) = true ∧ pz_dig (M 67 (N126 1 19).toNat) = true) → (pz_mdv M N126) → Ok 126 [some (.inr (.inr (12, 1))), some (.inl x1), d2] [] N126 := by
      intro fu
      induction fu with
      | zero => exact fun _ _ _ hn => absurd hn (Nat.not_lt_zero _)
      | succ fu ih126 =>
        intro x1 d2 N126 hn126 hS g126_1 g126_2 g126_3 g126_4 g126_5 g126_6 g126_7 g126_8 g126_9
        have hI : pz_im N126 := hS.1 hI0
        have J17 := hI.2.1.2.2.2.1
        have J16 := hI.2.1.2.1
        have U17 := Int.toNat_of_nonneg J17.1
        obtain ⟨Z67, Z16, Z12⟩ := pz_Q0z hS
        have U16 : (((M 1 16).toNat : Nat) : Int) = M 1 16 := Int.toNat_of_nonneg (by first | decide | omega)
        have L176 : ∀ (x1 : Int) (d2 : Option pz_V) (N176 : pz_M), (pz_rl pz_Q0 M N176) → (48 ≤ x1 ∧ x1 ≤ 57) → (M 1 17 ≤ N176 1 19) → (N176 1 19 ≤ N176 1 17) → (N176 1 17 < N176 1 16) → ((401 - N176 1 17).toNat < fu + 1) → (pz_nxp M = (N176 1 19).toNat) → (pz_whl pz_dig (M 67) (M 1 16).toNat (N176 1 17).toNat = pz_whl pz_dig (M 67) (M 1 16).toNat (N176 1 19).toNat) → (N176 1 19 < M 1 16) → (¬ pz_let (M 67 (N176 1 19).toNat) = true ∧ pz_dig (M 67 (N176 1 19).toNat) = true) → (pz_dig (M 67 (N176 1 17).toNat) = true) → (pz_mdw M N176) → Ok 176 [some (.inr (.inr (12, 1))), some (.inl x1), d2] [] N176 := by
          intro x1 d2 N176 hS g176_1 g176_2 g176_3 g176_4 g176_5 g176_6 g176_7 g176_8 g176_9 g176_10 g176_11
          have hI : pz_im N176 := hS.1 hI0
          have J16 := hI.2.1.2.1
          obtain ⟨Z67, Z16, Z12⟩ := pz_Q0z hS
          have U16 : (((M 1 16).toNat : Nat) : Int) = M 1 16 := Int.toNat_of_nonneg (by first | decide | omega)
          refine hgo (fun p => Nat.beq p 0 || Nat.beq p 26 || Nat.beq p 76 || Nat.beq p 126 || Nat.beq p 176) 160 176 _ _ _ ?_
          intro v178 e178 a178 b178
          have I178 : 0 ≤ v178 ∧ v178 ≤ 400 := by
            rw [e178]
            exact hI.2.1.2.2.2.1
          clear a178 b178
          have N178 := hI.2.1.2.2.2.1
          intro v182 e182 a182 b182
          rw [pz_wi (by first | decide | omega) (by first | decide | omega)] at e182
          clear a182 b182
          intro M183 e183
          have hS : pz_rl pz_Q0 M M183 := by
            rw [e183]
            exact pz_rl_u hS (by unfold pz_Q0; decide) (pz_iom_17 (by first | decide | omega))
          have hI : pz_im M183 := hS.1 hI0
          have T183_0 : M183 1 17 = v182 := by rw [e183]; exact pz_uu
          have T183_1 : M183 1 18 = N176 1 18 := by
            rw [e183]
            exact (pz_une (by decide))
          have T183_2 : M183 1 19 = N176 1 19 := by
            rw [e183]
            exact (pz_une (by decide))
          have T183_3 : M183 1 16 = N176 1 16 := by
            rw [e183]
            exact (pz_une (by decide))
          have T183_4 : M183 1 20 = N176 1 20 := by
            rw [e183]
            exact (pz_une (by decide))
          have A183 : pz_nxp M = (M183 1 19).toNat := by
            rw [(show (M183 1 19).toNat = (N176 1 19).toNat by first | exact congrArg Int.toNat T183_2 | omega)]
            assumption
          have D183 : ¬ pz_let (M 67 (M183 1 19).toNat) = true ∧ pz_dig (M 67 (M183 1 19).toNat) = true := by
            rw [(show (M183 1 19).toNat = (N176 1 19).toNat by first | exact congrArg Int.toNat T183_2 | omega)]
            assumption
          have U183 : (((M183 1 17).toNat : Nat) : Int) = M183 1 17 := Int.toNat_of_nonneg (by first | decide | omega)
          have B183 : pz_whl pz_dig (M 67) (M 1 16).toNat (M183 1 17).toNat = pz_whl pz_dig (M 67) (M 1 16).toNat (M183 1 19).toNat := by
            rw [show (M183 1 17).toNat = (N176 1 17).toNat + 1 by omega, show (M183 1 19).toNat = (N176 1 19).toNat by omega, ← pz_whl_y (by first | decide | omega) g176_10]
            assumption
          have V183 : pz_mdv M M183 := pz_mdw_v g176_11 (by first | decide | omega) (by first | decide | omega) (by first | decide | omega) (by first | decide | omega)
          exact ih126 _ _ _ (by first | decide | omega) hS (by first | omega | assumption | exact A123 | exact B123 | exact D123 | exact V123 | exact A183 | exact B183 | exact D183 | exact V183) (by first | omega | assumption | exact A123 | exact B123 | exact D123 | exact V123 | exact A183 | exact B183 | exact D183 | exact V183) (by first | omega | assumption | exact A123 | exact B123 | exact D123 | exact V123 | exact A183 | exact B183 | exact D183 | exact V183) (by first | omega | assumption | exact A123 | exact B123 | exact D123 | exact V123 | exact A183 | exact B183 | exact D183 | exact V183) (by first | omega | assumption | exact A123 | exact B123 | exact D123 | exact V123 | exact A183 | exact B183 | exact D183 | exact V183) (by first | omega | assumption | exact A123 | exact B123 | exact D123 | exact V123 | exact A183 | exact B183 | exact D183 | exact V183) (by first | omega | assumption | exact A123 | exact B123 | exact D123 | exact V123 | exact A183 | exact B183 | exact D183 | exact V183) (by first | omega | assumption | exact A123 | exact B123 | exact D123 | exact V123 | exact A183 | exact B183 | exact D183 | exact V183) (by first | omega | assumption | exact A123 | exact B123 | exact D123 | exact V123 | exact A183 | exact B183 | exact D183 | exact V183)
        refine hgo (fun p => Nat.beq p 0 || Nat.beq p 26 || Nat.beq p 76 || Nat.beq p 126 || Nat.beq p 176) 160 126 _ _ _ ?_
        intro v128 e128 a128 b128
        have I128 : 0 ≤ v128 ∧ v128 ≤ 400 := by
          rw [e128]
          exact hI.2.1.2.2.2.1
        clear a128 b128
        have N128 := hI.2.1.2.2.2.1
        refine And.intro (And.intro hI (by first | decide | omega)) ?_
        intro v131 M131 a131 b131 q131
        obtain ⟨q131, z131⟩ := q131
        subst z131
        rw [e128] at q131
        refine And.intro (True.intro) ?_
        intro v134 M134 a134 b134 q134
        obtain ⟨q134, z134⟩ := q134
        subst z134
        clear a134 b134
        refine And.intro (fun h137 => ?_) (fun h137 => ?_)
        · skip
          have G137 : pz_whl pz_dig (M 67) (M 1 16).toNat (N126 1 19).toNat = (N126 1 17).toNat := by
            rw [← g126_6]
            exact pz_whl_n (fun z => by
              have z2 := pz_dig_i.mp z.2
              rw [← Z67] at z2
              omega)
          replace q134 := q134.resolve_left (fun z => absurd (z.1.symm.trans h137) (by decide))
          clear h137
          intro v191 e191 a191 b191
          have I191 : 0 ≤ v191 ∧ v191 ≤ 400 := by
            rw [e191]
            exact hI.2.1.2.2.2.1
          clear a191 b191
          have N191 := hI.2.1.2.2.2.1
          intro v195 e195 a195 b195
          have I195 : 0 ≤ v195 ∧ v195 ≤ 400 := by
            rw [e195]
            exact hI.2.1.2.2.2.2.1
          clear a195 b195
          have N195 := hI.2.1.2.2.2.2.1
          intro v198 e198 a198 b198
          rw [pz_wi (by first | decide | omega) (by first | decide | omega)] at e198
          clear a198 b198
          refine And.intro (fun h200 => ?_) (fun h200 => ?_)
          · skip
            intro M208 e208
            have hS : pz_rl pz_Q0 M M208 := by
              rw [e208]
              exact pz_rl_u hS (by unfold pz_Q0; decide) (pz_iom_f (by decide))
            have hI : pz_im M208 := hS.1 hI0
            have T208_0 : M208 1 17 = N126 1 17 := by
              rw [e208]
              exact (pz_une (by decide))
            have T208_1 : M208 1 18 = (1) := by rw [e208]; exact pz_uu
            have T208_2 : M208 1 19 = N126 1 19 := by
              rw [e208]
              exact (pz_une (by decide))
            have T208_3 : M208 1 16 = N126 1 16 := by
              rw [e208]
              exact (pz_une (by decide))
            have T208_4 : M208 1 20 = N126 1 20 := by
              rw [e208]
              exact (pz_une (by decide))
            have S208 : pz_tb M → pz_nxt M M208 := fun _ => pz_nxt_dig g126_5 (by first | decide | omega) (by first | decide | omega) (by first | decide | omega) g126_7 g126_8 G137 g126_9 (by first | decide | omega) (by first | decide | omega) (by first | decide | omega) (by first | decide | omega)
            refine And.intro rfl ?_
            first
              | exact ⟨⟨by omega, S63⟩, hS⟩
              | exact ⟨⟨by omega, S108⟩, hS⟩
              | exact ⟨⟨by omega, S208⟩, hS⟩
              | exact ⟨⟨by omega, S303⟩, hS⟩
          · skip
            intro M208 e208
            have hS : pz_rl pz_Q0 M M208 := by
              rw [e208]
              exact pz_rl_u hS (by unfold pz_Q0; decide) (pz_iom_f (by decide))
            have hI : pz_im M208 := hS.1 hI0
            have T208_0 : M208 1 17 = N126 1 17 := by
              rw [e208]
              exact (pz_une (by decide))
            have T208_1 : M208 1 18 = (2) := by rw [e208]; exact pz_uu
            have T208_2 : M208 1 19 = N126 1 19 := by
              rw [e208]
              exact (pz_une (by decide))
            have T208_3 : M208 1 16 = N126 1 16 := by
              rw [e208]
              exact (pz_une (by decide))
            have T208_4 : M208 1 20 = N126 1 20 := by
              rw [e208]
              exact (pz_une (by decide))
            have S208 : pz_tb M → pz_nxt M M208 := fun _ => pz_nxt_dig g126_5 (by first | decide | omega) (by first | decide | omega) (by first | decide | omega) g126_7 g126_8 G137 g126_9 (by first | decide | omega) (by first | decide | omega) (by first | decide | omega) (by first | decide | omega)
            refine And.intro rfl ?_
            first
              | exact ⟨⟨by omega, S63⟩, hS⟩
              | exact ⟨⟨by omega, S108⟩, hS⟩
              | exact ⟨⟨by omega, S208⟩, hS⟩
              | exact ⟨⟨by omega, S303⟩, hS⟩
        · skip
          have H137 : pz_dig (M 67 (N126 1 17).toNat) = true := by
            rw [pz_dig_i, ← Z67]
            omega
          replace q134 := q134.resolve_right (fun z => h137 z.1)
          clear h137
          intro v141 e141 a141 b141
          have I141 : 0 ≤ v141 ∧ v141 ≤ 400 := by
            rw [e141]
            exact hI.2.1.2.2.2.1
          clear a141 b141
          have N141 := hI.2.1.2.2.2.1
          intro v145 e145 a145 b145
          have I145 : 0 ≤ v145 ∧ v145 ≤ 400 := by
            rw [e145]
            exact hI.2.1.2.2.2.2.1
          clear a145 b145
          have N145 := hI.2.1.2.2.2.2.1
          intro v149 e149 a149 b149
          rw [pz_wi (by first | decide | omega) (by first | decide | omega)] at e149
          clear a149 b149
          refine And.intro (fun h150 => ?_) (fun h150 => ?_)
          · skip
            have V150 : pz_mdw M N126 := pz_mdw_n (by first | decide | omega)
            exact L176 _ _ _ hS (by first | omega | assumption | exact V150 | exact A173 | exact B173 | exact D173 | exact H173 | exact V173) (by first | omega | assumption | exact V150 | exact A173 | exact B173 | exact D173 | exact H173 | exact V173) (by first | omega | assumption | exact V150 | exact A173 | exact B173 | exact D173 | exact H173 | exact V173) (by first | omega | assumption | exact V150 | exact A173 | exact B173 | exact D173 | exact H173 | exact V173) (by first | omega | assumption | exact V150 | exact A173 | exact B173 | exact D173 | exact H173 | exact V173) (by first | omega | assumption | exact V150 | exact A173 | exact B173 | exact D173 | exact H173 | exact V173) (by first | omega | assumption | exact V150 | exact A173 | exact B173 | exact D173 | exact H173 | exact V173) (by first | omega | assumption | exact V150 | exact A173 | exact B173 | exact D173 | exact H173 | exact V173) (by first | omega | assumption | exact V150 | exact A173 | exact B173 | exact D173 | exact H173 | exact V173) (by first | omega | assumption | exact V150 | exact A173 | exact B173 | exact D173 | exact H173 | exact V173) (by first | omega | assumption | exact V150 | exact A173 | exact B173 | exact D173 | exact H173 | exact V173)
          · skip
            skip
            intro v157 e157 a157 b157
            intro v160 e160 a160 b160
            intro v163 e163 a163 b163
            have I163 : 0 ≤ v163 ∧ v163 ≤ 400 := by
              rw [e163]
              exact hI.2.1.2.2.2.1
            clear a163 b163
            have N163 := hI.2.1.2.2.2.1
            refine And.intro (And.intro hI (by first | decide | omega)) ?_
            intro v166 M166 a166 b166 q166
            obtain ⟨q166, z166⟩ := q166
            subst z166
            rw [e163] at q166
            intro v169 e169 a169 b169
            intro v172 e172 a172 b172
            intro M173 e173
            have hS : pz_rl pz_Q0 M M173 := by
              rw [e173]
              exact pz_rl_u hS (by unfold pz_Q0; decide) (pz_iom_f (by decide))
            have hI : pz_im M173 := hS.1 hI0
            have T173_0 : M173 1 17 = N126 1 17 := by
              rw [e173]
              exact (pz_une (by decide))
            have T173_1 : M173 1 18 = N126 1 18 := by
              rw [e173]
              exact (pz_une (by decide))
            have T173_2 : M173 1 19 = N126 1 19 := by
              rw [e173]
              exact (pz_une (by decide))
            have T173_3 : M173 1 16 = N126 1 16 := by
              rw [e173]
              exact (pz_une (by decide))
            have T173_4 : M173 1 20 = v172 := by rw [e173]; exact pz_uu
            have A173 : pz_nxp M = (M173 1 19).toNat := by
              rw [(show (M173 1 19).toNat = (N126 1 19).toNat by first | exact congrArg Int.toNat T173_2 | omega)]
              assumption
            have D173 : ¬ pz_let (M 67 (M173 1 19).toNat) = true ∧ pz_dig (M 67 (M173 1 19).toNat) = true := by
              rw [(show (M173 1 19).toNat = (N126 1 19).toNat by first | exact congrArg Int.toNat T173_2 | omega)]
              assumption
            have B173 : pz_whl pz_dig (M 67) (M 1 16).toNat (M173 1 17).toNat = pz_whl pz_dig (M 67) (M 1 16).toNat (M173 1 19).toNat := by
              rw [show (M173 1 17).toNat = (N126 1 17).toNat by omega, show (M173 1 19).toNat = (N126 1 19).toNat by omega]
              assumption
            have H173 : pz_dig (M 67 (M173 1 17).toNat) = true := by
              rw [show (M173 1 17).toNat = (N126 1 17).toNat by omega]
              assumption
            have V173 : pz_mdw M M173 := pz_mdw_s (n := (M 1 16).toNat) (by first | decide | omega) g126_9 (by first | decide | omega) g126_6 (by first | decide | omega) (c := v166) (by rw [← Z67]; omega) (by rw [pz_dig_i, ← Z67] at H137; omega) (by rw [← e157]; exact e160) e169 e172 (by first | decide | omega) (by first | decide | omega) (by first | decide | omega)
            exact L176 _ _ _ hS (by first | omega | assumption | exact V150 | exact A173 | exact B173 | exact D173 | exact H173 | exact V173) (by first | omega | assumption | exact V150 | exact A173 | exact B173 | exact D173 | exact H173 | exact V173) (by first | omega | assumption | exact V150 | exact A173 | exact B173 | exact D173 | exact H173 | exact V173) (by first | omega | assumption | exact V150 | exact A173 | exact B173 | exact D173 | exact H173 | exact V173) (by first | omega | assumption | exact V150 | exact A173 | exact B173 | exact D173 | exact H173 | exact V173) (by first | omega | assumption | exact V150 | exact A173 | exact B173 | exact D173 | exact H173 | exact V173) (by first | omega | assumption | exact V150 | exact A173 | exact B173 | exact D173 | exact H173 | exact V173) (by first | omega | assumption | exact V150 | exact A173 | exact B173 | exact D173 | exact H173 | exact V173) (by first | omega | assumption | exact V150 | exact A173 | exact B173 | exact D173 | exact H173 | exact V173) (by first | omega | assumption | exact V150 | exact A173 | exact B173 | exact D173 | exact H173 | exact V173) (by first | omega | assumption | exact V150 | exact A173 | exact B173 | exact D173 | exact H173 | exact V173)
    have L0 : ∀ (fu : Nat) (d1 : Option pz_V) (d2 : Option pz_V) (N0 : pz_M), (401 - N0 1 17).toNat < fu → (pz_rl pz_Q0 M N0) → (M 1 17 ≤ N0 1 17) → (pz_nxp M = pz_whl pz_bla (M 67) (M 1 16).toNat (N0 1 17).toNat) → Ok 0 [some (.inr (.inr (12, 1))), d1, d2] [] N0 := by
      intro fu
      induction fu with
      | zero => exact fun _ _ _ hn => absurd hn (Nat.not_lt_zero _)
      | succ fu ih0 =>
        intro d1 d2 N0 hn0 hS g0_1 g0_2
        have hI : pz_im N0 := hS.1 hI0
        have J17 := hI.2.1.2.2.2.1
        have J16 := hI.2.1.2.1
        have U17 := Int.toNat_of_nonneg J17.1
        obtain ⟨Z67, Z16, Z12⟩ := pz_Q0z hS
        have U16 : (((M 1 16).toNat : Nat) : Int) = M 1 16 := Int.toNat_of_nonneg (by first | decide | omega)
        have L26 : ∀ (d1 : Option pz_V) (d2 : Option pz_V) (N26 : pz_M), (pz_rl pz_Q0 M N26) → (M 1 17 ≤ N26 1 17) → (N26 1 17 < N26 1 16) → ((401 - N26 1 17).toNat < fu + 1) → (pz_nxp M = pz_whl pz_bla (M 67) (M 1 16).toNat (N26 1 17).toNat) → (pz_bla (M 67 (N26 1 17).toNat) = true) → Ok 26 [some (.inr (.inr (12, 1))), d1, d2] [] N26 := by
          intro d1 d2 N26 hS g26_1 g26_2 g26_3 g26_4 g26_5
          have hI : pz_im N26 := hS.1 hI0
          have J16 := hI.2.1.2.1
          obtain ⟨Z67, Z16, Z12⟩ := pz_Q0z hS
          have U16 : (((M 1 16).toNat : Nat) : Int) = M 1 16 := Int.toNat_of_nonneg (by first | decide | omega)
          refine hgo (fun p => Nat.beq p 0 || Nat.beq p 26 || Nat.beq p 76 || Nat.beq p 126 || Nat.beq p 176) 160 26 _ _ _ ?_
          intro v28 e28 a28 b28
          have I28 : 0 ≤ v28 ∧ v28 ≤ 400 := by
            rw [e28]
            exact hI.2.1.2.2.2.1
          clear a28 b28
          have N28 := hI.2.1.2.2.2.1
          intro v32 e32 a32 b32
          rw [pz_wi (by first | decide | omega) (by first | decide | omega)] at e32
          clear a32 b32
          intro M33 e33
          have hS : pz_rl pz_Q0 M M33 := by
            rw [e33]
            exact pz_rl_u hS (by unfold pz_Q0; decide) (pz_iom_17 (by first | decide | omega))
          have hI : pz_im M33 := hS.1 hI0
          have T33_0 : M33 1 17 = v32 := by rw [e33]; exact pz_uu
          have T33_1 : M33 1 18 = N26 1 18 := by
            rw [e33]
            exact (pz_une (by decide))
          have T33_2 : M33 1 19 = N26 1 19 := by
            rw [e33]
            exact (pz_une (by decide))
          have T33_3 : M33 1 16 = N26 1 16 := by
            rw [e33]
            exact (pz_une (by decide))
          have T33_4 : M33 1 20 = N26 1 20 := by
            rw [e33]
            exact (pz_une (by decide))
          have G33 : pz_nxp M = pz_whl pz_bla (M 67) (M 1 16).toNat (M33 1 17).toNat := by
            rw [g26_4, pz_whl_y (by first | decide | omega) g26_5]
            congr 1
            omega
          exact ih0 _ _ _ (by first | decide | omega) hS (by first | omega | exact rfl | exact G33) (by first | omega | exact rfl | exact G33)
        refine hgo (fun p => Nat.beq p 0 || Nat.beq p 26 || Nat.beq p 76 || Nat.beq p 126 || Nat.beq p 176) 160 0 _ _ _ ?_
        intro v2 e2 a2 b2
        have I2 : 0 ≤ v2 ∧ v2 ≤ 400 := by
          rw [e2]
          exact hI.2.1.2.2.2.1
        clear a2 b2
        have N2 := hI.2.1.2.2.2.1
        refine And.intro (And.intro hI (by first | decide | omega)) ?_
        intro v5 M5 a5 b5 q5
        obtain ⟨q5, z5⟩ := q5
        subst z5
        rw [e2] at q5
        refine And.intro (fun h10 => ?_) (fun h10 => ?_)
        · skip
          have B26 : pz_bla (M 67 (N0 1 17).toNat) = true := by
            rw [pz_bla_i, ← Z67]
            omega
          exact L26 _ _ _ hS (by first | omega | assumption | exact B26) (by first | omega | assumption | exact B26) (by first | omega | assumption | exact B26) (by first | omega | assumption | exact B26) (by first | omega | assumption | exact B26)
        · skip
          skip
          intro v15 e15 a15 b15
          have I15 : 0 ≤ v15 ∧ v15 ≤ 400 := by
            rw [e15]
            exact hI.2.1.2.2.2.1
          clear a15 b15
          have N15 := hI.2.1.2.2.2.1
          refine And.intro (And.intro hI (by first | decide | omega)) ?_
          intro v18 M18 a18 b18 q18
          obtain ⟨q18, z18⟩ := q18
          subst z18
          rw [e15] at q18
          refine And.intro (fun h23 => ?_) (fun h23 => ?_)
          · skip
            skip
            intro v41 e41 a41 b41
            have I41 : 0 ≤ v41 ∧ v41 ≤ 400 := by
              rw [e41]
              exact hI.2.1.2.2.2.1
            clear a41 b41
            have N41 := hI.2.1.2.2.2.1
            intro M44 e44
            have hS : pz_rl pz_Q0 M M44 := by
              rw [e44]
              exact pz_rl_u hS (by unfold pz_Q0; decide) (pz_iom_19 (by first | decide | omega))
            have hI : pz_im M44 := hS.1 hI0
            have T44_0 : M44 1 17 = N0 1 17 := by
              rw [e44]
              exact (pz_une (by decide))
            have T44_1 : M44 1 18 = N0 1 18 := by
              rw [e44]
              exact (pz_une (by decide))
            have T44_2 : M44 1 19 = v41 := by rw [e44]; exact pz_uu
            have T44_3 : M44 1 16 = N0 1 16 := by
              rw [e44]
              exact (pz_une (by decide))
            have T44_4 : M44 1 20 = N0 1 20 := by
              rw [e44]
              exact (pz_une (by decide))
            have P44 : pz_nxp M = (N0 1 17).toNat := by
              rw [g0_2]
              exact pz_whl_n (fun z => by
                have z1 := z.1
                have z2 := pz_bla_i.mp z.2
                rw [← Z67] at z2
                omega)
            obtain ⟨Y67, Y16, Y12⟩ := pz_Q0z hS
            intro v49 e49 a49 b49
            have I49 : 0 ≤ v49 ∧ v49 ≤ 400 := by
              rw [e49]
              exact hI.2.1.2.2.2.1
            clear a49 b49
            have N49 := hI.2.1.2.2.2.1
            refine And.intro (And.intro hI (by first | decide | omega)) ?_
            intro v52 M52 a52 b52 q52
            obtain ⟨q52, z52⟩ := q52
            subst z52
            rw [e49] at q52
            refine And.intro (fun h58 => ?_) (fun h58 => ?_)
            · skip
              obtain ⟨X52a, X52b⟩ : v52 = M 67 (N0 1 17).toNat ∧ N0 1 17 < M 1 16 := by
                rw [← Y67, ← T44_0]
                omega
              refine And.intro (True.intro) ?_
              intro v70 M70 a70 b70 q70
              obtain ⟨q70, z70⟩ := q70
              subst z70
              clear a70 b70
              refine And.intro (fun h73 => ?_) (fun h73 => ?_)
              · skip
                skip
                replace q70 := q70.resolve_left (fun z => absurd (z.1.symm.trans h73) (by decide))
                refine And.intro (True.intro) ?_
                intro v115 M115 a115 b115 q115
                obtain ⟨q115, z115⟩ := q115
                subst z115
                clear a115 b115
                refine And.intro (fun h118 => ?_) (fun h118 => ?_)
                · skip
                  have N118 : ¬ pz_let (M 67 (N0 1 17).toNat) = true ∧ ¬ pz_dig (M 67 (N0 1 17).toNat) = true := by
                    rw [pz_let_i, pz_dig_i, ← X52a]
                    omega
                  replace q115 := q115.resolve_left (fun z => absurd (z.1.symm.trans h118) (by decide))
                  intro v216 e216 a216 b216
                  have I216 : 0 ≤ v216 ∧ v216 ≤ 400 := by
                    rw [e216]
                    exact hI.2.1.2.2.2.1
                  clear a216 b216
                  have N216 := hI.2.1.2.2.2.1
                  replace e216 := e216.trans T44_0
                  intro v220 e220 a220 b220
                  rw [pz_wi (by first | decide | omega) (by first | decide | omega)] at e220
                  clear a220 b220
                  intro M221 e221
                  have hS : pz_rl pz_Q0 M M221 := by
                    rw [e221]
                    exact pz_rl_u hS (by unfold pz_Q0; decide) (pz_iom_17 (by first | decide | omega))
                  have hI : pz_im M221 := hS.1 hI0
                  have T221_0 : M221 1 17 = v220 := by rw [e221]; exact pz_uu
                  have T221_1 : M221 1 18 = N0 1 18 := by
                    rw [e221]
                    exact (pz_une (by decide)).trans T44_1
                  have T221_2 : M221 1 19 = v41 := by
                    rw [e221]
                    exact (pz_une (by decide)).trans T44_2
                  have T221_3 : M221 1 16 = N0 1 16 := by
                    rw [e221]
                    exact (pz_une (by decide)).trans T44_3
                  have T221_4 : M221 1 20 = N0 1 20 := by
                    rw [e221]
                    exact (pz_une (by decide)).trans T44_4
                  refine And.intro (fun h227 => ?_) (fun h227 => ?_)
                  · skip
                    clear q70 q115
                    have S118 : pz_sgn (M 67 (N0 1 17).toNat) = true := by
                      rw [← X52a, h227]
                      decide
                    skip
                    refine And.intro (fun h292 => ?_) (fun h292 => ?_)
                    · skip
                      exact absurd h292 (by decide)
                    · skip
                      intro v298 e298 a298 b298
                      rw [pz_wi (by first | decide | omega) (by first | decide | omega)] at e298
                      clear a298 b298
                      intro M303 e303
                      have hS : pz_rl pz_Q0 M M303 := by
                        rw [e303]
                        exact pz_rl_u hS (by unfold pz_Q0; decide) (pz_iom_f (by decide))
                      have hI : pz_im M303 := hS.1 hI0
                      have T303_0 : M303 1 17 = v220 := by
                        rw [e303]
                        exact (pz_une (by decide)).trans T221_0
                      clear T221_0
                      have T303_1 : M303 1 18 = v298 := by rw [e303]; exact pz_uu
                      have T303_2 : M303 1 19 = v41 := by
                        rw [e303]
                        exact (pz_une (by decide)).trans T221_2
                      clear T221_2
                      have T303_3 : M303 1 16 = N0 1 16 := by
                        rw [e303]
                        exact (pz_une (by decide)).trans T221_3
                      clear T221_3
                      have T303_4 : M303 1 20 = N0 1 20 := by
                        rw [e303]
                        exact (pz_une (by decide)).trans T221_4
                      clear T221_4
                      have S303 : pz_tb M → pz_nxt M M303 := fun _ => pz_nxt_sgn P44 (by first | decide | omega) N118 (by first | decide | omega) (by first | decide | omega) (by first | exact Or.inl ⟨S118, by omega⟩ | exact Or.inr ⟨S118, by omega⟩)
                      refine And.intro rfl ?_
                      first
                        | exact ⟨⟨by omega, S63⟩, hS⟩
                        | exact ⟨⟨by omega, S108⟩, hS⟩
                        | exact ⟨⟨by omega, S208⟩, hS⟩
                        | exact ⟨⟨by omega, S303⟩, hS⟩
                  · skip
                    clear q70 q115
                    refine And.intro (fun h233 => ?_) (fun h233 => ?_)
                    · skip
                      have S118 : pz_sgn (M 67 (N0 1 17).toNat) = true := by
                        rw [← X52a, h233]
                        decide
                      clear h227
                      refine And.intro (fun h292 => ?_) (fun h292 => ?_)
                      · skip
                        exact absurd h292 (by decide)
                      · skip
                        intro v298 e298 a298 b298
                        rw [pz_wi (by first | decide | omega) (by first | decide | omega)] at e298
                        clear a298 b298
                        intro M303 e303
                        have hS : pz_rl pz_Q0 M M303 := by
                          rw [e303]
                          exact pz_rl_u hS (by unfold pz_Q0; decide) (pz_iom_f (by decide))
                        have hI : pz_im M303 := hS.1 hI0
                        have T303_0 : M303 1 17 = v220 := by
                          rw [e303]
                          exact (pz_une (by decide)).trans T221_0
                        clear T221_0
                        have T303_1 : M303 1 18 = v298 := by rw [e303]; exact pz_uu
                        have T303_2 : M303 1 19 = v41 := by
                          rw [e303]
                          exact (pz_une (by decide)).trans T221_2
                        clear T221_2
                        have T303_3 : M303 1 16 = N0 1 16 := by
                          rw [e303]
                          exact (pz_une (by decide)).trans T221_3
                        clear T221_3
                        have T303_4 : M303 1 20 = N0 1 20 := by
                          rw [e303]
                          exact (pz_une (by decide)).trans T221_4
                        clear T221_4
                        have S303 : pz_tb M → pz_nxt M M303 := fun _ => pz_nxt_sgn P44 (by first | decide | omega) N118 (by first | decide | omega) (by first | decide | omega) (by first | exact Or.inl ⟨S118, by omega⟩ | exact Or.inr ⟨S118, by omega⟩)
                        refine And.intro rfl ?_
                        first
                          | exact ⟨⟨by omega, S63⟩, hS⟩
                          | exact ⟨⟨by omega, S108⟩, hS⟩
                          | exact ⟨⟨by omega, S208⟩, hS⟩
                          | exact ⟨⟨by omega, S303⟩, hS⟩
                    · skip
                      skip
                      refine And.intro (fun h239 => ?_) (fun h239 => ?_)
                      · skip
                        have S118 : pz_sgn (M 67 (N0 1 17).toNat) = true := by
                          rw [← X52a, h239]
                          decide
                        clear h227 h233
                        refine And.intro (fun h292 => ?_) (fun h292 => ?_)
                        · skip
                          exact absurd h292 (by decide)
                        · skip
                          intro v298 e298 a298 b298
                          rw [pz_wi (by first | decide | omega) (by first | decide | omega)] at e298
                          clear a298 b298
                          intro M303 e303
                          have hS : pz_rl pz_Q0 M M303 := by
                            rw [e303]
                            exact pz_rl_u hS (by unfold pz_Q0; decide) (pz_iom_f (by decide))
                          have hI : pz_im M303 := hS.1 hI0
                          have T303_0 : M303 1 17 = v220 := by
                            rw [e303]
                            exact (pz_une (by decide)).trans T221_0
                          clear T221_0
                          have T303_1 : M303 1 18 = v298 := by rw [e303]; exact pz_uu
                          have T303_2 : M303 1 19 = v41 := by
                            rw [e303]
                            exact (pz_une (by decide)).trans T221_2
                          clear T221_2
                          have T303_3 : M303 1 16 = N0 1 16 := by
                            rw [e303]
                            exact (pz_une (by decide)).trans T221_3
                          clear T221_3
                          have T303_4 : M303 1 20 = N0 1 20 := by
                            rw [e303]
                            exact (pz_une (by decide)).trans T221_4
                          clear T221_4
                          have S303 : pz_tb M → pz_nxt M M303 := fun _ => pz_nxt_sgn P44 (by first | decide | omega) N118 (by first | decide | omega) (by first | decide | omega) (by first | exact Or.inl ⟨S118, by omega⟩ | exact Or.inr ⟨S118, by omega⟩)
                          refine And.intro rfl ?_
                          first
                            | exact ⟨⟨by omega, S63⟩, hS⟩
                            | exact ⟨⟨by omega, S108⟩, hS⟩
                            | exact ⟨⟨by omega, S208⟩, hS⟩
                            | exact ⟨⟨by omega, S303⟩, hS⟩
                      · skip
                        skip
                        refine And.intro (fun h245 => ?_) (fun h245 => ?_)
                        · skip
                          have S118 : pz_sgn (M 67 (N0 1 17).toNat) = true := by
                            rw [← X52a, h245]
                            decide
                          clear h227 h233 h239
                          refine And.intro (fun h292 => ?_) (fun h292 => ?_)
                          · skip
                            exact absurd h292 (by decide)
                          · skip
                            intro v298 e298 a298 b298
                            rw [pz_wi (by first | decide | omega) (by first | decide | omega)] at e298
                            clear a298 b298
                            intro M303 e303
                            have hS : pz_rl pz_Q0 M M303 := by
                              rw [e303]
                              exact pz_rl_u hS (by unfold pz_Q0; decide) (pz_iom_f (by decide))
                            have hI : pz_im M303 := hS.1 hI0
                            have T303_0 : M303 1 17 = v220 := by
                              rw [e303]
                              exact (pz_une (by decide)).trans T221_0
                            clear T221_0
                            have T303_1 : M303 1 18 = v298 := by rw [e303]; exact pz_uu
                            have T303_2 : M303 1 19 = v41 := by
                              rw [e303]
                              exact (pz_une (by decide)).trans T221_2
                            clear T221_2
                            have T303_3 : M303 1 16 = N0 1 16 := by
                              rw [e303]
                              exact (pz_une (by decide)).trans T221_3
                            clear T221_3
                            have T303_4 : M303 1 20 = N0 1 20 := by
                              rw [e303]
                              exact (pz_une (by decide)).trans T221_4
                            clear T221_4
                            have S303 : pz_tb M → pz_nxt M M303 := fun _ => pz_nxt_sgn P44 (by first | decide | omega) N118 (by first | decide | omega) (by first | decide | omega) (by first | exact Or.inl ⟨S118, by omega⟩ | exact Or.inr ⟨S118, by omega⟩)
                            refine And.intro rfl ?_
                            first
                              | exact ⟨⟨by omega, S63⟩, hS⟩
                              | exact ⟨⟨by omega, S108⟩, hS⟩
                              | exact ⟨⟨by omega, S208⟩, hS⟩
                              | exact ⟨⟨by omega, S303⟩, hS⟩
                        · skip
                          skip
                          refine And.intro (fun h251 => ?_) (fun h251 => ?_)
                          · skip
                            have S118 : pz_sgn (M 67 (N0 1 17).toNat) = true := by
                              rw [← X52a, h251]
                              decide
                            clear h227 h233 h239 h245
                            refine And.intro (fun h292 => ?_) (fun h292 => ?_)
                            · skip
                              exact absurd h292 (by decide)
                            · skip
                              intro v298 e298 a298 b298
                              rw [pz_wi (by first | decide | omega) (by first | decide | omega)] at e298
                              clear a298 b298
                              intro M303 e303
                              have hS : pz_rl pz_Q0 M M303 := by
                                rw [e303]
                                exact pz_rl_u hS (by unfold pz_Q0; decide) (pz_iom_f (by decide))
                              have hI : pz_im M303 := hS.1 hI0
                              have T303_0 : M303 1 17 = v220 := by
                                rw [e303]
                                exact (pz_une (by decide)).trans T221_0
                              clear T221_0
                              have T303_1 : M303 1 18 = v298 := by rw [e303]; exact pz_uu
                              have T303_2 : M303 1 19 = v41 := by
                                rw [e303]
                                exact (pz_une (by decide)).trans T221_2
                              clear T221_2
                              have T303_3 : M303 1 16 = N0 1 16 := by
                                rw [e303]
                                exact (pz_une (by decide)).trans T221_3
                              clear T221_3
                              have T303_4 : M303 1 20 = N0 1 20 := by
                                rw [e303]
                                exact (pz_une (by decide)).trans T221_4
                              clear T221_4
                              have S303 : pz_tb M → pz_nxt M M303 := fun _ => pz_nxt_sgn P44 (by first | decide | omega) N118 (by first | decide | omega) (by first | decide | omega) (by first | exact Or.inl ⟨S118, by omega⟩ | exact Or.inr ⟨S118, by omega⟩)
                              refine And.intro rfl ?_
                              first
                                | exact ⟨⟨by omega, S63⟩, hS⟩
                                | exact ⟨⟨by omega, S108⟩, hS⟩
                                | exact ⟨⟨by omega, S208⟩, hS⟩
                                | exact ⟨⟨by omega, S303⟩, hS⟩
                          · skip
                            skip
                            refine And.intro (fun h257 => ?_) (fun h257 => ?_)
                            · skip
                              have S118 : pz_sgn (M 67 (N0 1 17).toNat) = true := by
                                rw [← X52a, h257]
                                decide
                              clear h227 h233 h239 h245 h251
                              refine And.intro (fun h292 => ?_) (fun h292 => ?_)
                              · skip
                                exact absurd h292 (by decide)
                              · skip
                                intro v298 e298 a298 b298
                                rw [pz_wi (by first | decide | omega) (by first | decide | omega)] at e298
                                clear a298 b298
                                intro M303 e303
                                have hS : pz_rl pz_Q0 M M303 := by
                                  rw [e303]
                                  exact pz_rl_u hS (by unfold pz_Q0; decide) (pz_iom_f (by decide))
                                have hI : pz_im M303 := hS.1 hI0
                                have T303_0 : M303 1 17 = v220 := by
                                  rw [e303]
                                  exact (pz_une (by decide)).trans T221_0
                                clear T221_0
                                have T303_1 : M303 1 18 = v298 := by rw [e303]; exact pz_uu
                                have T303_2 : M303 1 19 = v41 := by
                                  rw [e303]
                                  exact (pz_une (by decide)).trans T221_2
                                clear T221_2
                                have T303_3 : M303 1 16 = N0 1 16 := by
                                  rw [e303]
                                  exact (pz_une (by decide)).trans T221_3
                                clear T221_3
                                have T303_4 : M303 1 20 = N0 1 20 := by
                                  rw [e303]
                                  exact (pz_une (by decide)).trans T221_4
                                clear T221_4
                                have S303 : pz_tb M → pz_nxt M M303 := fun _ => pz_nxt_sgn P44 (by first | decide | omega) N118 (by first | decide | omega) (by first | decide | omega) (by first | exact Or.inl ⟨S118, by omega⟩ | exact Or.inr ⟨S118, by omega⟩)
                                refine And.intro rfl ?_
                                first
                                  | exact ⟨⟨by omega, S63⟩, hS⟩
                                  | exact ⟨⟨by omega, S108⟩, hS⟩
                                  | exact ⟨⟨by omega, S208⟩, hS⟩
                                  | exact ⟨⟨by omega, S303⟩, hS⟩
                            · skip
                              skip
                              refine And.intro (fun h263 => ?_) (fun h263 => ?_)
                              · skip
                                have S118 : pz_sgn (M 67 (N0 1 17).toNat) = true := by
                                  rw [← X52a, h263]
                                  decide
                                clear h227 h233 h239 h245 h251 h257
                                refine And.intro (fun h292 => ?_) (fun h292 => ?_)
                                · skip
                                  exact absurd h292 (by decide)
                                · skip
                                  intro v298 e298 a298 b298
                                  rw [pz_wi (by first | decide | omega) (by first | decide | omega)] at e298
                                  clear a298 b298
                                  intro M303 e303
                                  have hS : pz_rl pz_Q0 M M303 := by
                                    rw [e303]
                                    exact pz_rl_u hS (by unfold pz_Q0; decide) (pz_iom_f (by decide))
                                  have hI : pz_im M303 := hS.1 hI0
                                  have T303_0 : M303 1 17 = v220 := by
                                    rw [e303]
                                    exact (pz_une (by decide)).trans T221_0
                                  clear T221_0
                                  have T303_1 : M303 1 18 = v298 := by rw [e303]; exact pz_uu
                                  have T303_2 : M303 1 19 = v41 := by
                                    rw [e303]
                                    exact (pz_une (by decide)).trans T221_2
                                  clear T221_2
                                  have T303_3 : M303 1 16 = N0 1 16 := by
                                    rw [e303]
                                    exact (pz_une (by decide)).trans T221_3
                                  clear T221_3
                                  have T303_4 : M303 1 20 = N0 1 20 := by
                                    rw [e303]
                                    exact (pz_une (by decide)).trans T221_4
                                  clear T221_4
                                  have S303 : pz_tb M → pz_nxt M M303 := fun _ => pz_nxt_sgn P44 (by first | decide | omega) N118 (by first | decide | omega) (by first | decide | omega) (by first | exact Or.inl ⟨S118, by omega⟩ | exact Or.inr ⟨S118, by omega⟩)
                                  refine And.intro rfl ?_
                                  first
                                    | exact ⟨⟨by omega, S63⟩, hS⟩
                                    | exact ⟨⟨by omega, S108⟩, hS⟩
                                    | exact ⟨⟨by omega, S208⟩, hS⟩
                                    | exact ⟨⟨by omega, S303⟩, hS⟩
                              · skip
                                skip
                                refine And.intro (fun h269 => ?_) (fun h269 => ?_)
                                · skip
                                  have S118 : pz_sgn (M 67 (N0 1 17).toNat) = true := by
                                    rw [← X52a, h269]
                                    decide
                                  clear h227 h233 h239 h245 h251 h257 h263
                                  refine And.intro (fun h292 => ?_) (fun h292 => ?_)
                                  · skip
                                    exact absurd h292 (by decide)
                                  · skip
                                    intro v298 e298 a298 b298
                                    rw [pz_wi (by first | decide | omega) (by first | decide | omega)] at e298
                                    clear a298 b298
                                    intro M303 e303
                                    have hS : pz_rl pz_Q0 M M303 := by
                                      rw [e303]
                                      exact pz_rl_u hS (by unfold pz_Q0; decide) (pz_iom_f (by decide))
                                    have hI : pz_im M303 := hS.1 hI0
                                    have T303_0 : M303 1 17 = v220 := by
                                      rw [e303]
                                      exact (pz_une (by decide)).trans T221_0
                                    clear T221_0
                                    have T303_1 : M303 1 18 = v298 := by rw [e303]; exact pz_uu
                                    have T303_2 : M303 1 19 = v41 := by
                                      rw [e303]
                                      exact (pz_une (by decide)).trans T221_2
                                    clear T221_2
                                    have T303_3 : M303 1 16 = N0 1 16 := by
                                      rw [e303]
                                      exact (pz_une (by decide)).trans T221_3
                                    clear T221_3
                                    have T303_4 : M303 1 20 = N0 1 20 := by
                                      rw [e303]
                                      exact (pz_une (by decide)).trans T221_4
                                    clear T221_4
                                    have S303 : pz_tb M → pz_nxt M M303 := fun _ => pz_nxt_sgn P44 (by first | decide | omega) N118 (by first | decide | omega) (by first | decide | omega) (by first | exact Or.inl ⟨S118, by omega⟩ | exact Or.inr ⟨S118, by omega⟩)
                                    refine And.intro rfl ?_
                                    first
                                      | exact ⟨⟨by omega, S63⟩, hS⟩
                                      | exact ⟨⟨by omega, S108⟩, hS⟩
                                      | exact ⟨⟨by omega, S208⟩, hS⟩
                                      | exact ⟨⟨by omega, S303⟩, hS⟩
                                · skip
                                  skip
                                  refine And.intro (fun h275 => ?_) (fun h275 => ?_)
                                  · skip
                                    have S118 : pz_sgn (M 67 (N0 1 17).toNat) = true := by
                                      rw [← X52a, h275]
                                      decide
                                    clear h227 h233 h239 h245 h251 h257 h263 h269
                                    refine And.intro (fun h292 => ?_) (fun h292 => ?_)
                                    · skip
                                      exact absurd h292 (by decide)
                                    · skip
                                      intro v298 e298 a298 b298
                                      rw [pz_wi (by first | decide | omega) (by first | decide | omega)] at e298
                                      clear a298 b298
                                      intro M303 e303
                                      have hS : pz_rl pz_Q0 M M303 := by
                                        rw [e303]
                                        exact pz_rl_u hS (by unfold pz_Q0; decide) (pz_iom_f (by decide))
                                      have hI : pz_im M303 := hS.1 hI0
                                      have T303_0 : M303 1 17 = v220 := by
                                        rw [e303]
                                        exact (pz_une (by decide)).trans T221_0
                                      clear T221_0
                                      have T303_1 : M303 1 18 = v298 := by rw [e303]; exact pz_uu
                                      have T303_2 : M303 1 19 = v41 := by
                                        rw [e303]
                                        exact (pz_une (by decide)).trans T221_2
                                      clear T221_2
                                      have T303_3 : M303 1 16 = N0 1 16 := by
                                        rw [e303]
                                        exact (pz_une (by decide)).trans T221_3
                                      clear T221_3
                                      have T303_4 : M303 1 20 = N0 1 20 := by
                                        rw [e303]
                                        exact (pz_une (by decide)).trans T221_4
                                      clear T221_4
                                      have S303 : pz_tb M → pz_nxt M M303 := fun _ => pz_nxt_sgn P44 (by first | decide | omega) N118 (by first | decide | omega) (by first | decide | omega) (by first | exact Or.inl ⟨S118, by omega⟩ | exact Or.inr ⟨S118, by omega⟩)
                                      refine And.intro rfl ?_
                                      first
                                        | exact ⟨⟨by omega, S63⟩, hS⟩
                                        | exact ⟨⟨by omega, S108⟩, hS⟩
                                        | exact ⟨⟨by omega, S208⟩, hS⟩
                                        | exact ⟨⟨by omega, S303⟩, hS⟩
                                  · skip
                                    skip
                                    refine And.intro (fun h281 => ?_) (fun h281 => ?_)
                                    · skip
                                      have S118 : ¬ pz_sgn (M 67 (N0 1 17).toNat) = true := by
                                        rw [pz_sgn_i, ← X52a]
                                        omega
                                      clear h227 h233 h239 h245 h251 h257 h263 h269 h275 h281
                                      refine And.intro (fun h292 => ?_) (fun h292 => ?_)
                                      · skip
                                        intro M303 e303
                                        have hS : pz_rl pz_Q0 M M303 := by
                                          rw [e303]
                                          exact pz_rl_u hS (by unfold pz_Q0; decide) (pz_iom_f (by decide))
                                        have hI : pz_im M303 := hS.1 hI0
                                        have T303_0 : M303 1 17 = v220 := by
                                          rw [e303]
                                          exact (pz_une (by decide)).trans T221_0
                                        clear T221_0
                                        have T303_1 : M303 1 18 = (1) := by rw [e303]; exact pz_uu
                                        have T303_2 : M303 1 19 = v41 := by
                                          rw [e303]
                                          exact (pz_une (by decide)).trans T221_2
                                        clear T221_2
                                        have T303_3 : M303 1 16 = N0 1 16 := by
                                          rw [e303]
                                          exact (pz_une (by decide)).trans T221_3
                                        clear T221_3
                                        have T303_4 : M303 1 20 = N0 1 20 := by
                                          rw [e303]
                                          exact (pz_une (by decide)).trans T221_4
                                        clear T221_4
                                        have S303 : pz_tb M → pz_nxt M M303 := fun _ => pz_nxt_sgn P44 (by first | decide | omega) N118 (by first | decide | omega) (by first | decide | omega) (by first | exact Or.inl ⟨S118, by omega⟩ | exact Or.inr ⟨S118, by omega⟩)
                                        refine And.intro rfl ?_
                                        first
                                          | exact ⟨⟨by omega, S63⟩, hS⟩
                                          | exact ⟨⟨by omega, S108⟩, hS⟩
                                          | exact ⟨⟨by omega, S208⟩, hS⟩
                                          | exact ⟨⟨by omega, S303⟩, hS⟩
                                      · skip
                                        exact absurd h292 (by decide)
                                    · skip
                                      have S118 : pz_sgn (M 67 (N0 1 17).toNat) = true := by
                                        rw [← X52a, h281]
                                        decide
                                      clear h227 h233 h239 h245 h251 h257 h263 h269 h275
                                      refine And.intro (fun h292 => ?_) (fun h292 => ?_)
                                      · skip
                                        exact absurd h292 (by decide)
                                      · skip
                                        intro v298 e298 a298 b298
                                        rw [pz_wi (by first | decide | omega) (by first | decide | omega)] at e298
                                        clear a298 b298
                                        intro M303 e303
                                        have hS : pz_rl pz_Q0 M M303 := by
                                          rw [e303]
                                          exact pz_rl_u hS (by unfold pz_Q0; decide) (pz_iom_f (by decide))
                                        have hI : pz_im M303 := hS.1 hI0
                                        have T303_0 : M303 1 17 = v220 := by
                                          rw [e303]
                                          exact (pz_une (by decide)).trans T221_0
                                        clear T221_0
                                        have T303_1 : M303 1 18 = v298 := by rw [e303]; exact pz_uu
                                        have T303_2 : M303 1 19 = v41 := by
                                          rw [e303]
                                          exact (pz_une (by decide)).trans T221_2
                                        clear T221_2
                                        have T303_3 : M303 1 16 = N0 1 16 := by
                                          rw [e303]
                                          exact (pz_une (by decide)).trans T221_3
                                        clear T221_3
                                        have T303_4 : M303 1 20 = N0 1 20 := by
                                          rw [e303]
                                          exact (pz_une (by decide)).trans T221_4
                                        clear T221_4
                                        have S303 : pz_tb M → pz_nxt M M303 := fun _ => pz_nxt_sgn P44 (by first | decide | omega) N118 (by first | decide | omega) (by first | decide | omega) (by first | exact Or.inl ⟨S118, by omega⟩ | exact Or.inr ⟨S118, by omega⟩)
                                        refine And.intro rfl ?_
                                        first
                                          | exact ⟨⟨by omega, S63⟩, hS⟩
                                          | exact ⟨⟨by omega, S108⟩, hS⟩
                                          | exact ⟨⟨by omega, S208⟩, hS⟩
                                          | exact ⟨⟨by omega, S303⟩, hS⟩
                · skip
                  have A118 : pz_nxp M = (M44 1 19).toNat := by
                    rw [P44]
                    omega
                  have D118 : ¬ pz_let (M 67 (M44 1 19).toNat) = true ∧ pz_dig (M 67 (M44 1 19).toNat) = true := by
                    rw [pz_let_i, pz_dig_i, show (M44 1 19).toNat = (N0 1 17).toNat by omega, ← X52a]
                    omega
                  replace q115 := q115.resolve_right (fun z => h118 z.1)
                  intro M123 e123
                  have hS : pz_rl pz_Q0 M M123 := by
                    rw [e123]
                    exact pz_rl_u hS (by unfold pz_Q0; decide) (pz_iom_f (by decide))
                  have hI : pz_im M123 := hS.1 hI0
                  have T123_0 : M123 1 17 = N0 1 17 := by
                    rw [e123]
                    exact (pz_une (by decide)).trans T44_0
                  have T123_1 : M123 1 18 = N0 1 18 := by
                    rw [e123]
                    exact (pz_une (by decide)).trans T44_1
                  have T123_2 : M123 1 19 = v41 := by
                    rw [e123]
                    exact (pz_une (by decide)).trans T44_2
                  have T123_3 : M123 1 16 = N0 1 16 := by
                    rw [e123]
                    exact (pz_une (by decide)).trans T44_3
                  have T123_4 : M123 1 20 = (0) := by rw [e123]; exact pz_uu
                  have E123a : ∀ j, M123 67 j = M44 67 j := fun j => by
                    rw [e123]
                    exact pz_una (by decide)
                  have E123b : M123 1 17 = M44 1 17 := by
                    rw [e123]
                    exact pz_une (by decide)
                  have E123c : M123 67 (M123 1 17).toNat = M44 67 (M44 1 17).toNat := by
                    rw [E123b]
                    exact E123a _
                  have A123 : pz_nxp M = (M123 1 19).toNat := by
                    rw [(show (M123 1 19).toNat = (M44 1 19).toNat by first | exact congrArg Int.toNat T123_2 | omega)]
                    assumption
                  have D123 : ¬ pz_let (M 67 (M123 1 19).toNat) = true ∧ pz_dig (M 67 (M123 1 19).toNat) = true := by
                    rw [(show (M123 1 19).toNat = (M44 1 19).toNat by first | exact congrArg Int.toNat T123_2 | omega)]
                    assumption
                  have B123 : pz_whl pz_dig (M 67) (M 1 16).toNat (M123 1 17).toNat = pz_whl pz_dig (M 67) (M 1 16).toNat (M123 1 19).toNat := by
                    congr 1
                    omega
                  have V123 : pz_mdv M M123 := pz_mdv_0 (by first | decide | omega) (by first | decide | omega)
                  exact L126 _ _ _ _ (Nat.lt_succ_self _) hS (by first | omega | assumption | exact A123 | exact B123 | exact D123 | exact V123 | exact A183 | exact B183 | exact D183 | exact V183) (by first | omega | assumption | exact A123 | exact B123 | exact D123 | exact V123 | exact A183 | exact B183 | exact D183 | exact V183) (by first | omega | assumption | exact A123 | exact B123 | exact D123 | exact V123 | exact A183 | exact B183 | exact D183 | exact V183) (by first | omega | assumption | exact A123 | exact B123 | exact D123 | exact V123 | exact A183 | exact B183 | exact D183 | exact V183) (by first | omega | assumption | exact A123 | exact B123 | exact D123 | exact V123 | exact A183 | exact B183 | exact D183 | exact V183) (by first | omega | assumption | exact A123 | exact B123 | exact D123 | exact V123 | exact A183 | exact B183 | exact D183 | exact V183) (by first | omega | assumption | exact A123 | exact B123 | exact D123 | exact V123 | exact A183 | exact B183 | exact D183 | exact V183) (by first | omega | assumption | exact A123 | exact B123 | exact D123 | exact V123 | exact A183 | exact B183 | exact D183 | exact V183) (by first | omega | assumption | exact A123 | exact B123 | exact D123 | exact V123 | exact A183 | exact B183 | exact D183 | exact V183)
              · skip
                have A73 : pz_nxp M = (M44 1 19).toNat := by
                  rw [P44]
                  omega
                have B73 : pz_whl pz_let (M 67) (M 1 16).toNat (M44 1 17).toNat = pz_whl pz_let (M 67) (M 1 16).toNat (M44 1 19).toNat := by
                  congr 1
                  omega
                have D73 : pz_let (M 67 (M44 1 19).toNat) = true := by
                  rw [pz_let_i, show (M44 1 19).toNat = (N0 1 17).toNat by omega, ← X52a]
                  omega
                replace q70 := q70.resolve_right (fun z => h73 z.1)
                exact L76 _ _ _ _ (Nat.lt_succ_self _) hS (by first | omega | assumption | exact A73 | exact B73 | exact D73 | exact A97 | exact B97 | exact D97) (by first | omega | assumption | exact A73 | exact B73 | exact D73 | exact A97 | exact B97 | exact D97) (by first | omega | assumption | exact A73 | exact B73 | exact D73 | exact A97 | exact B97 | exact D97) (by first | omega | assumption | exact A73 | exact B73 | exact D73 | exact A97 | exact B97 | exact D97) (by first | omega | assumption | exact A73 | exact B73 | exact D73 | exact A97 | exact B97 | exact D97) (by first | omega | assumption | exact A73 | exact B73 | exact D73 | exact A97 | exact B97 | exact D97) (by first | omega | assumption | exact A73 | exact B73 | exact D73 | exact A97 | exact B97 | exact D97) (by first | omega | assumption | exact A73 | exact B73 | exact D73 | exact A97 | exact B97 | exact D97)
            · skip
              skip
              intro M63 e63
              have hS : pz_rl pz_Q0 M M63 := by
                rw [e63]
                exact pz_rl_u hS (by unfold pz_Q0; decide) (pz_iom_f (by decide))
              have hI : pz_im M63 := hS.1 hI0
              have T63_0 : M63 1 17 = N0 1 17 := by
                rw [e63]
                exact (pz_une (by decide)).trans T44_0
              have T63_1 : M63 1 18 = (0) := by rw [e63]; exact pz_uu
              have T63_2 : M63 1 19 = v41 := by
                rw [e63]
                exact (pz_une (by decide)).trans T44_2
              have T63_3 : M63 1 16 = N0 1 16 := by
                rw [e63]
                exact (pz_une (by decide)).trans T44_3
              have T63_4 : M63 1 20 = N0 1 20 := by
                rw [e63]
                exact (pz_une (by decide)).trans T44_4
              have S63 : pz_tb M → pz_nxt M M63 := fun tb => by
                have tb9 := tb (N0 1 17).toNat
                rw [← Y67, ← T44_0] at tb9
                have hn : (M 1 16).toNat ≤ pz_nxp M := by omega
                exact pz_nxt_end hn (by first | decide | omega) (by first | decide | omega) (by first | decide | omega)
              refine And.intro rfl ?_
              first
                | exact ⟨⟨by omega, S63⟩, hS⟩
                | exact ⟨⟨by omega, S108⟩, hS⟩
                | exact ⟨⟨by omega, S208⟩, hS⟩
                | exact ⟨⟨by omega, S303⟩, hS⟩
          · skip
            have B26 : pz_bla (M 67 (N0 1 17).toNat) = true := by
              rw [pz_bla_i, ← Z67]
              omega
            exact L26 _ _ _ hS (by first | omega | assumption | exact B26) (by first | omega | assumption | exact B26) (by first | omega | assumption | exact B26) (by first | omega | assumption | exact B26) (by first | omega | assumption | exact B26)
    exact L0 _ _ _ _ (Nat.lt_succ_self _) hS (by first | omega | exact rfl | exact G33) (by first | omega | exact rfl | exact G33)
theorem v_X12_next0 {fr lo i : Nat} {own : String} (h1 : 8 + 1 ≤ fr) (h2 : 8 + (3 + 11) + 168 ≤ lo) (h3 : .methodLink own i yX12_next0 ∈ lw_tbl) : pz_cV fr lo own i k_X12_next0 :=
  pz_cVk (maxL := 3) (fr' := 8) (lo' := 168) 0 12 h_X12_next0 rfl ⟨(pz_nhc_RX12 yX12_next0 rfl).1, (pz_nhc_RX12 yX12_next0 rfl).2, pz_ds2⟩ ⟨pz_wq1246, pz_wq1245, pz_ws6, pz_wq13⟩ (Or.inl ⟨TX12, 28, rfl⟩) (fun a M _ h => by
    have h : (match (generalizing := false) a with | [.inr (.inr (12, th))] => pz_im M | _ => False) := h
    split at h
    · exact ⟨_, _, rfl⟩
    · exact h.elim) h1 h2 h3
/-! the model's reader: where it is, what it has laid -/
def pq_TM (M : pz_M) : Nat → Int := pz_T (M 67) (M 1 16).toNat
def pq_XM (M : pz_M) : Nat → Int := pz_XV (M 67) (M 1 16).toNat
def pq_PM (M : pz_M) (i : Nat) : Int := (pz_tp (M 67) (M 1 16).toNat i : Int)
/-- it is at token i -/
def pq_mi (M : pz_M) (i : Nat) : Prop := pz_tb M ∧ M 1 19 = pq_PM M i ∧ M 1 17 = (pz_te (M 67) (M 1 16).toNat (pz_tp (M 67) (M 1 16).toNat i) : Int) ∧ M 1 18 = pz_mtk (M 1 12) (pq_TM M i) ∧ (pq_TM M i = 100 → M 1 20 = pq_XM M i)
def pq_mz (M : pz_M) (i : Nat) : Prop := pq_mi M i ∧ M 1 12 = 0
def pq_same (M N : pz_M) : Prop := N 67 = M 67 ∧ N 1 16 = M 1 16 ∧ N 1 12 = M 1 12
theorem pq_same.rf {M : pz_M} : pq_same M M := ⟨rfl, rfl, rfl⟩
theorem pq_same.tr {M N K : pz_M} (h : pq_same M N) (h' : pq_same N K) : pq_same M K := ⟨h'.1.trans h.1, h'.2.1.trans h.2.1, h'.2.2.trans h.2.2⟩
theorem pq_same.T {M N : pz_M} (h : pq_same M N) : pq_TM N = pq_TM M ∧ pq_XM N = pq_XM M ∧ pq_PM N = pq_PM M := by
  unfold pq_TM pq_XM
  refine ⟨by rw [h.1, h.2.1], by rw [h.1, h.2.1], funext fun i => ?_⟩
  unfold pq_PM
  rw [h.1, h.2.1]
theorem pq_Q0 {M N : pz_M} (h : pz_rl pz_Q0 M N) : pq_same M N := pz_Q0z h
theorem pq_Q1 {M N : pz_M} (h : pz_rl pz_Q1 M N) : pq_same M N := ⟨funext fun j => h.2 67 j (by unfold pz_Q1; first | decide | omega), h.2 1 16 (by unfold pz_Q1; first | decide | omega), h.2 1 12 (by unfold pz_Q1; first | decide | omega)⟩
theorem pq_mi_nx {M N : pz_M} {i : Nat} (h : pq_mi M i) (z : pz_rl pz_Q0 M N) (s : pz_tb M → pz_nxt M N) : pq_mi N (i + 1) := by
  obtain ⟨a1, a2, a3, a4, a5⟩ := h
  have e := pq_Q0 z
  obtain ⟨s1, s2, s3, s4⟩ := s a1
  have ep : pz_nxp M = pz_tp (M 67) (M 1 16).toNat (i + 1) := by
    unfold pz_nxp
    rw [a3]
    rfl
  rw [ep] at s1 s2 s3 s4
  refine ⟨fun k hk => by rw [e.1]; exact a1 k (by rw [← e.2.1]; exact hk), ?_, ?_, ?_, fun q => ?_⟩
  · rw [s1, e.T.2.2]
    rfl
  · rw [s2, e.1, e.2.1]
  · rw [s3, e.T.1, e.2.2]
    rfl
  · rw [e.T.1] at q
    rw [s4 q, e.T.2.1]
    rfl
theorem pq_mz_nx {M N : pz_M} {i : Nat} (h : pq_mz M i) (z : pz_rl pz_Q0 M N) (s : pz_tb M → pz_nxt M N) : pq_mz N (i + 1) := ⟨pq_mi_nx h.1 z s, by rw [(pq_Q0 z).2.2]; exact h.2⟩
/-- nothing of it changes -/
theorem pq_mi_cg {M N : pz_M} {i : Nat} (h : pq_mi M i) (e : pq_same M N) (e1 : N 1 19 = M 1 19) (e2 : N 1 17 = M 1 17) (e3 : N 1 18 = M 1 18) (e4 : N 1 20 = M 1 20) : pq_mi N i := by
  obtain ⟨a1, a2, a3, a4, a5⟩ := h
  refine ⟨fun k hk => by rw [e.1]; exact a1 k (by rw [← e.2.1]; exact hk), by rw [e1, e.T.2.2]; exact a2, by rw [e2, e.1, e.2.1]; exact a3, by rw [e3, e.T.1, e.2.2]; exact a4, fun q => ?_⟩
  rw [e.T.1] at q
  rw [e4, e.T.2.1]
  exact a5 q
/-- the model's token, told by the class' -/
theorem pq_tk0 {k t : Int} (h : k = pz_mtk 0 t) (hr : (0 ≤ t ∧ t < 24) ∨ (40 ≤ t ∧ t ≤ 62) ∨ t = 100 ∨ t = 101 ∨ t = 102) : (t = 100 ∧ k = 2) ∨ (0 ≤ t ∧ t ≤ 3 ∧ k = t + 20) ∨ (4 ≤ t ∧ t ≤ 7 ∧ k = t - 1) ∨ (8 ≤ t ∧ t ≤ 16 ∧ k = t + 33) ∨ (17 ≤ t ∧ t ≤ 23 ∧ k = 1) ∨ (40 ≤ t ∧ t ≤ 62 ∧ k = t + 100) ∨ (t = 101 ∧ k = 0) ∨ (t = 102 ∧ k = 1) := by
  rcases hr with q | q | q | q | q
  · have e : pz_mtk 0 t = pz_ml t := by
      unfold pz_mtk pz_mw
      rw [if_neg (by first | decide | omega), if_neg (by first | decide | omega), if_neg (by first | decide | omega), if_neg (by first | decide | omega), if_pos rfl]
    rw [e] at h
    unfold pz_ml at h
    split at h
    · rename_i y
      exact Or.inr (Or.inl ⟨y.1, y.2, h⟩)
    · split at h
      · rename_i y
        exact Or.inr (Or.inr (Or.inl ⟨y.1, y.2, h⟩))
      · unfold pz_ma at h
        split at h
        · rename_i y
          exact Or.inr (Or.inr (Or.inr (Or.inl ⟨y.1, y.2, h⟩)))
        · exact Or.inr (Or.inr (Or.inr (Or.inr (Or.inl ⟨by omega, by omega, h⟩))))
  · have e : pz_mtk 0 t = 100 + t := by
      unfold pz_mtk
      rw [if_neg (by first | decide | omega), if_neg (by first | decide | omega), if_neg (by first | decide | omega), if_pos (by first | decide | omega)]
    exact Or.inr (Or.inr (Or.inr (Or.inr (Or.inr (Or.inl ⟨q.1, q.2, by rw [h, e]; exact Int.add_comm _ _⟩)))))
  · subst q
    exact Or.inl ⟨rfl, h.trans (by unfold pz_mtk; rw [if_pos rfl])⟩
  · subst q
    exact Or.inr (Or.inr (Or.inr (Or.inr (Or.inr (Or.inr (Or.inl ⟨rfl, h.trans (by unfold pz_mtk; rw [if_neg (by decide), if_pos rfl])⟩))))))
  · subst q
    exact Or.inr (Or.inr (Or.inr (Or.inr (Or.inr (Or.inr (Or.inr ⟨rfl, h.trans (by unfold pz_mtk; rw [if_neg (by decide), if_neg (by decide), if_pos rfl])⟩))))))
theorem pq_tk {M : pz_M} {i : Nat} (h : pq_mz M i) : (pq_TM M i = 100 ∧ M 1 18 = 2) ∨ (0 ≤ pq_TM M i ∧ pq_TM M i ≤ 3 ∧ M 1 18 = pq_TM M i + 20) ∨ (4 ≤ pq_TM M i ∧ pq_TM M i ≤ 7 ∧ M 1 18 = pq_TM M i - 1) ∨ (8 ≤ pq_TM M i ∧ pq_TM M i ≤ 16 ∧ M 1 18 = pq_TM M i + 33) ∨ (17 ≤ pq_TM M i ∧ pq_TM M i ≤ 23 ∧ M 1 18 = 1) ∨ (40 ≤ pq_TM M i ∧ pq_TM M i ≤ 62 ∧ M 1 18 = pq_TM M i + 100) ∨ (pq_TM M i = 101 ∧ M 1 18 = 0) ∨ (pq_TM M i = 102 ∧ M 1 18 = 1) :=
  pq_tk0 (by have := h.1.2.2.2.1; rw [h.2] at this; exact this) pz_T_r
/-- the steps o were laid -/
def pq_mp (o : List (Int × Int)) (M N : pz_M) : Prop := N 1 14 = M 1 14 + (o.length : Int) ∧ (∀ j : Nat, (j : Int) < 2 * M 1 14 → N 65 j = M 65 j) ∧ ∀ k : Nat, k < o.length → N 65 (2 * ((M 1 14).toNat + k)) = (o.getD k (0, 0)).1 ∧ ((o.getD k (0, 0)).1 = 0 ∨ (o.getD k (0, 0)).1 = 26 → N 65 (2 * ((M 1 14).toNat + k) + 1) = (o.getD k (0, 0)).2)
theorem pq_mp_0 {M N : pz_M} (h : N 1 14 = M 1 14) (h2 : N 65 = M 65) : pq_mp [] M N := ⟨by rw [h]; exact (Int.add_zero _).symm, fun j _ => by rw [h2], fun k hk => absurd hk (Nat.not_lt_zero _)⟩
theorem pq_mp.tr {o o' : List (Int × Int)} {M N K : pz_M} (h0 : 0 ≤ M 1 14) (h : pq_mp o M N) (h' : pq_mp o' N K) : pq_mp (o ++ o') M K := by
  obtain ⟨a1, a2, a3⟩ := h
  obtain ⟨b1, b2, b3⟩ := h'
  refine ⟨by rw [b1, a1, List.length_append]; omega, fun k hk => (b2 k (by first | decide | omega)).trans (a2 k hk), fun k hk => ?_⟩
  rw [List.length_append] at hk
  by_cases q : k < o.length
  · have g : (o ++ o').getD k (0, 0) = o.getD k (0, 0) := by
      rw [List.getD_eq_getElem?_getD, List.getD_eq_getElem?_getD, List.getElem?_append_left q]
    rw [g, b2 _ (by first | decide | omega), b2 _ (by first | decide | omega)]
    exact a3 k q
  · have g : (o ++ o').getD k (0, 0) = o'.getD (k - o.length) (0, 0) := by
      rw [List.getD_eq_getElem?_getD, List.getElem?_append_right (by first | decide | omega), ← List.getD_eq_getElem?_getD]
    rw [g, show (M 1 14).toNat + k = (N 1 14).toNat + (k - o.length) by omega]
    exact b3 (k - o.length) (by first | decide | omega)
theorem pq_mp.la {o : List (Int × Int)} {M N K : pz_M} (h : pq_mp o M N) (e1 : K 1 14 = N 1 14) (e2 : K 65 = N 65) : pq_mp o M K := ⟨by rw [e1]; exact h.1, fun k hk => by rw [e2]; exact h.2.1 k hk, fun k hk => by rw [e2]; exact h.2.2 k hk⟩
theorem pq_mp.al {o : List (Int × Int)} {M N K : pz_M} (h : pq_mp o N K) (e1 : N 1 14 = M 1 14) (e2 : N 65 = M 65) : pq_mp o M K := by
  obtain ⟨a, b, c⟩ := h
  rw [e1] at a b c
  exact ⟨a, fun j hj => by rw [b j hj, e2], c⟩
/-- one step -/
def pq_ml (M N : pz_M) (x y : Int) : Prop := pz_ly M N x y ∧ N 1 20 = M 1 20
theorem pq_ml_s {M N : pz_M} {x y y' : Int} (h : pq_ml M N x y) (h0 : 0 ≤ M 1 14) (hy : x = 0 ∨ x = 26 → y' = y) : pq_mp [(x, y')] M N := by
  obtain ⟨⟨a1, a2, a3, a4, a5, a6, a7, a8⟩, a9⟩ := h
  refine ⟨by rw [a3]; rfl, a8, fun k hk => ?_⟩
  have hk : k = 0 := by
    have : k < 1 := hk
    omega
  subst hk
  refine ⟨?_, fun q => ?_⟩
  · rw [show 2 * ((M 1 14).toNat + 0) = (2 * M 1 14).toNat by omega]
    exact a1
  · rw [show 2 * ((M 1 14).toNat + 0) + 1 = (2 * M 1 14 + 1).toNat by omega, a2]
    exact (hy q).symm
theorem pq_ml_z {M N : pz_M} {x y : Int} {i : Nat} (h : pq_ml M N x y) (e : pq_same M N) (c : pq_mz M i) : pq_mz N i := by
  obtain ⟨⟨a1, a2, a3, a4, a5, a6, a7, a8⟩, a9⟩ := h
  exact ⟨pq_mi_cg c.1 e a6 a4 a5 a9, by rw [e.2.2]; exact c.2⟩
/-- what a method of that kind finds, from token i on -/
def pq_mb (M N : pz_M) (k : Int) (j : Nat) : Prop := N 1 21 = k ∧ N 1 22 = pq_PM M j
def pq_mg (K d : Nat) (M N : pz_M) (v : Int) : Prop := ∀ i, pq_mz M i → (v = 1 ∧ ∃ (j : Nat) (o : List (Int × Int)), pz_gr (pq_TM M) (pq_XM M) K d i (.ok j o) ∧ pq_mz N j ∧ pq_mp o M N) ∨ (v = 0 ∧ ∃ (k : Int) (j : Nat), pz_gr (pq_TM M) (pq_XM M) K d i (.bad k j) ∧ pq_mb M N k j)
def pq_mu (M N : pz_M) (v : Int) : Prop := ∀ i, pq_mz M i → (v = 1 ∧ ∃ o : List (Int × Int), pz_uf (pq_TM M) (pq_XM M) i = .ok (i + 1) o ∧ pq_mz N (i + 1) ∧ pq_mp o M N) ∨ (v = 0 ∧ pz_uf (pq_TM M) (pq_XM M) i = .bad 1 i ∧ pq_mb M N 1 i)
theorem pq_q0f {M N : pz_M} (h : pz_rl pz_Q0 M N) : N 1 14 = M 1 14 ∧ N 65 = M 65 := ⟨h.2 1 14 (by unfold pz_Q0; first | decide | omega), funext fun j => h.2 65 j (by unfold pz_Q0; first | decide | omega)⟩
/-- a unit of the model -/
theorem pq_mu_n {M N1 N2 : pz_M} {y : Int} (hl : pq_ml M N1 0 y) (hy : y = M 1 20) (ht : M 1 18 = 2) (h0 : 0 ≤ M 1 14) (e1 : pq_same M N1) (z : pz_rl pz_Q0 N1 N2) (s : pz_tb N1 → pz_nxt N1 N2) : pq_mu M N2 1 := by
  intro i c
  have t := pq_tk c
  have tt : pq_TM M i = 100 := by omega
  refine Or.inl ⟨rfl, [(0, pq_XM M i)], if_pos tt, pq_mz_nx (pq_ml_z hl e1 c) z s, ?_⟩
  exact (pq_ml_s hl h0 (fun _ => by rw [hy]; exact (c.1.2.2.2.2 tt).symm)).la (pq_q0f z).1 (pq_q0f z).2
theorem pq_mu_w {M N1 N2 : pz_M} {x y : Int} (hl : pq_ml M N1 x y) (hx : x = M 1 18 - 40) (ht : 41 ≤ M 1 18 ∧ M 1 18 ≤ 49) (h0 : 0 ≤ M 1 14) (e1 : pq_same M N1) (z : pz_rl pz_Q0 N1 N2) (s : pz_tb N1 → pz_nxt N1 N2) : pq_mu M N2 1 := by
  intro i c
  have t := pq_tk c
  have tt : 8 ≤ pq_TM M i ∧ pq_TM M i ≤ 16 ∧ x = pq_TM M i - 7 := by omega
  refine Or.inl ⟨rfl, [(pq_TM M i - 7, 0)], ?_, pq_mz_nx (pq_ml_z hl e1 c) z s, ?_⟩
  · unfold pz_uf
    rw [if_neg (by first | decide | omega), if_pos ⟨tt.1, tt.2.1⟩]
  · have := (pq_ml_s (y' := 0) hl h0 (fun q => by omega)).la (pq_q0f z).1 (pq_q0f z).2
    rw [tt.2.2] at this
    exact this
theorem pq_mu_b {M N : pz_M} {v : Int} (hv : v = 0) (h1 : N 1 21 = 1) (h2 : N 1 22 = M 1 19) (ht : M 1 18 ≠ 2 ∧ ¬ (41 ≤ M 1 18 ∧ M 1 18 ≤ 49)) : pq_mu M N v := by
  intro i c
  have t := pq_tk c
  refine Or.inr ⟨hv, ?_, h1, by rw [h2]; exact c.1.2.1⟩
  unfold pz_uf
  rw [if_neg (by first | decide | omega), if_neg (by first | decide | omega)]
/-- a product that is read -/
def pq_sP (M N : pz_M) : Prop := ∀ i, pq_mz M i → ∃ (j : Nat) (o : List (Int × Int)), pq_mz N j ∧ pq_mp o M N ∧ ∀ r, pz_gr (pq_TM M) (pq_XM M) 0 0 j r → pz_gr (pq_TM M) (pq_XM M) 1 0 i (r.app o)
theorem pq_sP_0 {M N : pz_M} {v : Int} (s : pq_mu M N v) (hv : ¬ v = 0) : pq_sP M N := by
  intro i c
  rcases s i c with ⟨-, o, a, b, d⟩ | ⟨a, -⟩
  · exact ⟨i + 1, o, b, d, fun r q => .pdu a q⟩
  · exact absurd a hv
theorem pq_sP_b {M N : pz_M} {v : Int} (s : pq_mu M N v) (hv : v = 0) : pq_mg 1 0 M N 0 := by
  intro i c
  rcases s i c with ⟨a, -⟩ | ⟨-, a, b⟩
  · omega
  · exact Or.inr ⟨rfl, 1, i, .pdb a, b⟩
theorem pq_sP_m {M N N1 N2 N3 : pz_M} {v y : Int} (h : pq_sP M N) (e : pq_same M N) (t : N 1 18 = 142) (z1 : pz_rl pz_Q0 N N1) (s1 : pz_tb N → pz_nxt N N1) (u : pq_mu N1 N2 v) (hv : ¬ v = 0) (e2 : pq_same N1 N2) (l : pq_ml N2 N3 25 y) (e3 : pq_same N2 N3) (h0 : 0 ≤ M 1 14) : pq_sP M N3 := by
  intro i c
  obtain ⟨j, o, a1, a2, a3⟩ := h i c
  have tj := pq_tk a1
  have c1 := pq_mz_nx a1 z1 s1
  have g := (e.tr (pq_Q0 z1)).T
  rcases u _ c1 with ⟨-, o', b1, b2, b3⟩ | ⟨b1, -⟩
  · rw [g.1, g.2.1] at b1
    rw [e.T.1] at tj
    have b4 := b3.al (pq_q0f z1).1 (pq_q0f z1).2
    have k0 : 0 ≤ N 1 14 := by have := a2.1; omega
    have k2 : 0 ≤ N2 1 14 := by have := b4.1; omega
    refine ⟨_, _, pq_ml_z l e3 b2, a2.tr h0 (b4.tr k0 (pq_ml_s (y' := 0) l k2 (fun q => by omega))), fun r q => ?_⟩
    have := a3 _ (.ptm (by first | decide | omega) b1 q)
    rw [pz_app_app] at this
    exact this
  · exact absurd b1 hv
theorem pq_sP_mb {M N N1 N2 : pz_M} {v : Int} (h : pq_sP M N) (e : pq_same M N) (t : N 1 18 = 142) (z1 : pz_rl pz_Q0 N N1) (s1 : pz_tb N → pz_nxt N N1) (u : pq_mu N1 N2 v) (hv : v = 0) : pq_mg 1 0 M N2 0 := by
  intro i c
  obtain ⟨j, o, a1, a2, a3⟩ := h i c
  have tj := pq_tk a1
  have c1 := pq_mz_nx a1 z1 s1
  have g := (e.tr (pq_Q0 z1)).T
  rcases u _ c1 with ⟨b1, -⟩ | ⟨-, b1, b2, b3⟩
  · omega
  · rw [g.1, g.2.1] at b1
    rw [e.T.1] at tj
    rw [g.2.2] at b3
    have := a3 _ (.ptmb (by first | decide | omega) b1)
    exact Or.inr ⟨rfl, 1, _, this, b2, b3⟩
theorem pq_sP_d {M N N1 N2 N3 : pz_M} {y : Int} (h : pq_sP M N) (e : pq_same M N) (t : N 1 18 = 147) (z1 : pz_rl pz_Q0 N N1) (s1 : pz_tb N → pz_nxt N N1) (t1 : N1 1 18 = 2) (x1 : ¬ N1 1 20 = 0) (z2 : pz_rl pz_Q0 N1 N2) (s2 : pz_tb N1 → pz_nxt N1 N2) (l : pq_ml N2 N3 26 y) (hy : y = N1 1 20) (e3 : pq_same N2 N3) (h0 : 0 ≤ M 1 14) : pq_sP M N3 := by
  intro i c
  obtain ⟨j, o, a1, a2, a3⟩ := h i c
  have tj := pq_tk a1
  have c1 := pq_mz_nx a1 z1 s1
  have tj1 := pq_tk c1
  have g := (e.tr (pq_Q0 z1)).T
  have x2 := c1.1.2.2.2.2 (by first | decide | omega)
  rw [e.T.1] at tj
  rw [g.1] at tj1
  rw [g.2.1] at x2
  have f1 := pq_q0f z1
  have f2 := pq_q0f z2
  have k0 : 0 ≤ N 1 14 := by have := a2.1; omega
  have k2 : 0 ≤ N2 1 14 := by omega
  refine ⟨_, _, pq_ml_z l e3 (pq_mz_nx c1 z2 s2), a2.tr h0 ((pq_ml_s l k2 (y' := pq_XM M (j + 1)) (fun q => by omega)).al (f2.1.trans f1.1) (f2.2.trans f1.2)), fun r q => ?_⟩
  have := a3 _ (.ptd (by first | decide | omega) (by first | decide | omega) (by first | decide | omega) q)
  rw [pz_app_app] at this
  exact this
theorem pq_sP_w {M N N1 N2 : pz_M} {k : Int} (h : pq_sP M N) (e : pq_same M N) (t : N 1 18 = 147) (z1 : pz_rl pz_Q0 N N1) (s1 : pz_tb N → pz_nxt N N1) (t1 : (N1 1 18 ≠ 2 ∧ k = 1) ∨ (N1 1 18 = 2 ∧ N1 1 20 = 0 ∧ k = 2)) (b1 : N2 1 21 = k) (b2 : N2 1 22 = N1 1 19) : pq_mg 1 0 M N2 0 := by
  intro i c
  obtain ⟨j, o, a1, a2, a3⟩ := h i c
  have tj := pq_tk a1
  have c1 := pq_mz_nx a1 z1 s1
  have tj1 := pq_tk c1
  have g := (e.tr (pq_Q0 z1)).T
  have x2 := c1.1.2.2.2.2
  have p2 := c1.1.2.1
  rw [e.T.1] at tj
  rw [g.1] at tj1 x2
  rw [g.2.1] at x2
  rw [g.2.2] at p2
  rcases t1 with ⟨y, rfl⟩ | ⟨y, y2, rfl⟩
  · exact Or.inr ⟨rfl, 1, j + 1, a3 _ (.ptn (by first | decide | omega) (by first | decide | omega)), b1, by rw [b2]; exact p2⟩
  · have x3 := x2 (by first | decide | omega)
    exact Or.inr ⟨rfl, 2, j + 1, a3 _ (.ptz (by first | decide | omega) (by first | decide | omega) (by first | decide | omega)), b1, by rw [b2]; exact p2⟩
theorem pq_sP_e {M N : pz_M} (h : pq_sP M N) (e : pq_same M N) (t : N 1 18 ≠ 142 ∧ N 1 18 ≠ 147) : pq_mg 1 0 M N 1 := by
  intro i c
  obtain ⟨j, o, a1, a2, a3⟩ := h i c
  have tj := pq_tk a1
  rw [e.T.1] at tj
  have := a3 _ (.pt0 (by first | decide | omega) (by first | decide | omega))
  have f : (pz_res.ok j []).app o = .ok j o := by
    show pz_res.ok j (o ++ []) = _
    rw [List.append_nil]
  rw [f] at this
  exact Or.inl ⟨rfl, j, o, this, a1, a2⟩
/-- what is joined by signs: a head, a tail, all -/
def pq_sG (Kt Kr d : Nat) (M N : pz_M) : Prop := ∀ i, pq_mz M i → ∃ (j : Nat) (o : List (Int × Int)), pq_mz N j ∧ pq_mp o M N ∧ ∀ r, pz_gr (pq_TM M) (pq_XM M) Kt d j r → pz_gr (pq_TM M) (pq_XM M) Kr d i (r.app o)
theorem pq_sG_0 {Kh Kt Kr d : Nat} {M N : pz_M} {v : Int} (hs : ∀ {T X : Nat → Int} {i j : Nat} {o : List (Int × Int)} {r : pz_res}, pz_gr T X Kh d i (.ok j o) → pz_gr T X Kt d j r → pz_gr T X Kr d i (r.app o)) (s : pq_mg Kh d M N v) (hv : ¬ v = 0) : pq_sG Kt Kr d M N := by
  intro i c
  rcases s i c with ⟨-, j, o, a, b, f⟩ | ⟨a, -⟩
  · exact ⟨j, o, b, f, fun r q => hs a q⟩
  · exact absurd a hv
theorem pq_sG_b {Kh Kr d : Nat} {M N : pz_M} {v : Int} (hb : ∀ {T X : Nat → Int} {i j : Nat} {k : Int}, pz_gr T X Kh d i (.bad k j) → pz_gr T X Kr d i (.bad k j)) (s : pq_mg Kh d M N v) (hv : v = 0) : pq_mg Kr d M N 0 := by
  intro i c
  rcases s i c with ⟨a, -⟩ | ⟨-, k, j, a, b⟩
  · omega
  · exact Or.inr ⟨rfl, k, j, hb a, b⟩
theorem pq_sG_s {Kh Kt Kr d : Nat} {M N N1 N2 N3 : pz_M} {v x y : Int} (hst : ∀ {j l : Nat} {o : List (Int × Int)} {r : pz_res}, N 1 18 = pz_mtk 0 (pq_TM M j) → pz_gr (pq_TM M) (pq_XM M) Kh d (j + 1) (.ok l o) → pz_gr (pq_TM M) (pq_XM M) Kt d l r → pz_gr (pq_TM M) (pq_XM M) Kt d j (r.app (o ++ [(x, 0)])))
    (h : pq_sG Kt Kr d M N) (e : pq_same M N) (z1 : pz_rl pz_Q0 N N1) (s1 : pz_tb N → pz_nxt N N1) (u : pq_mg Kh d N1 N2 v) (hv : ¬ v = 0) (l : pq_ml N2 N3 x y) (hx : ¬ (x = 0 ∨ x = 26)) (e3 : pq_same N2 N3) (h0 : 0 ≤ M 1 14) : pq_sG Kt Kr d M N3 := by
  intro i c
  obtain ⟨j, o, a1, a2, a3⟩ := h i c
  have tj := a1.1.2.2.2.1
  rw [a1.2, e.T.1] at tj
  have c1 := pq_mz_nx a1 z1 s1
  have g := (e.tr (pq_Q0 z1)).T
  rcases u _ c1 with ⟨-, j', o', b1, b2, b3⟩ | ⟨b1, -⟩
  · rw [g.1, g.2.1] at b1
    have b4 := b3.al (pq_q0f z1).1 (pq_q0f z1).2
    have k0 : 0 ≤ N 1 14 := by have := a2.1; omega
    have k2 : 0 ≤ N2 1 14 := by have := b4.1; omega
    refine ⟨_, _, pq_ml_z l e3 b2, a2.tr h0 (b4.tr k0 (pq_ml_s (y' := 0) l k2 (fun q => absurd q hx))), fun r q => ?_⟩
    have := a3 _ (hst tj b1 q)
    rw [pz_app_app] at this
    exact this
  · exact absurd b1 hv
theorem pq_sG_sb {Kh Kt Kr d : Nat} {M N N1 N2 : pz_M} {v : Int} (hst : ∀ {j l : Nat} {k : Int}, N 1 18 = pz_mtk 0 (pq_TM M j) → pz_gr (pq_TM M) (pq_XM M) Kh d (j + 1) (.bad k l) → pz_gr (pq_TM M) (pq_XM M) Kt d j (.bad k l))
    (h : pq_sG Kt Kr d M N) (e : pq_same M N) (z1 : pz_rl pz_Q0 N N1) (s1 : pz_tb N → pz_nxt N N1) (u : pq_mg Kh d N1 N2 v) (hv : v = 0) : pq_mg Kr d M N2 0 := by
  intro i c
  obtain ⟨j, o, a1, a2, a3⟩ := h i c
  have tj := a1.1.2.2.2.1
  rw [a1.2, e.T.1] at tj
  have c1 := pq_mz_nx a1 z1 s1
  have g := (e.tr (pq_Q0 z1)).T
  rcases u _ c1 with ⟨b1, -⟩ | ⟨-, k, j', b1, b2, b3⟩
  · omega
  · rw [g.1, g.2.1] at b1
    rw [g.2.2] at b3
    exact Or.inr ⟨rfl, k, j', a3 _ (hst tj b1), b2, b3⟩
theorem pq_sG_e {Kt Kr d : Nat} {M N : pz_M} (hst : ∀ {j : Nat}, N 1 18 = pz_mtk 0 (pq_TM M j) → pz_gr (pq_TM M) (pq_XM M) Kt d j (.ok j [])) (h : pq_sG Kt Kr d M N) (e : pq_same M N) : pq_mg Kr d M N 1 := by
  intro i c
  obtain ⟨j, o, a1, a2, a3⟩ := h i c
  have tj := a1.1.2.2.2.1
  rw [a1.2, e.T.1] at tj
  have := a3 _ (hst tj)
  have f : (pz_res.ok j []).app o = .ok j o := by
    show pz_res.ok j (o ++ []) = _
    rw [List.append_nil]
  rw [f] at this
  exact Or.inl ⟨rfl, j, o, this, a1, a2⟩
theorem pq_tkT {k : Int} {M : pz_M} {j : Nat} (h : k = pz_mtk 0 (pq_TM M j)) : (pq_TM M j = 100 ∧ k = 2) ∨ (0 ≤ pq_TM M j ∧ pq_TM M j ≤ 3 ∧ k = pq_TM M j + 20) ∨ (4 ≤ pq_TM M j ∧ pq_TM M j ≤ 7 ∧ k = pq_TM M j - 1) ∨ (8 ≤ pq_TM M j ∧ pq_TM M j ≤ 16 ∧ k = pq_TM M j + 33) ∨ (17 ≤ pq_TM M j ∧ pq_TM M j ≤ 23 ∧ k = 1) ∨ (40 ≤ pq_TM M j ∧ pq_TM M j ≤ 62 ∧ k = pq_TM M j + 100) ∨ (pq_TM M j = 101 ∧ k = 0) ∨ (pq_TM M j = 102 ∧ k = 1) := pq_tk0 h (pz_T_r (B := M 67) (n := (M 1 16).toNat) (i := j))
theorem pq_st1 {T X : Nat → Int} {d i j : Nat} {o : List (Int × Int)} {r : pz_res} {x : Int} (h : (T i = 43 ∧ x = 23) ∨ (T i = 45 ∧ x = 24)) (a : pz_gr T X 1 d (i + 1) (.ok j o)) (b : pz_gr T X 2 d j r) : pz_gr T X 2 d i (r.app (o ++ [(x, 0)])) := by
  have := pz_gr.sts (by first | decide | omega) a b
  rw [show pz_op (T i) = x by unfold pz_op; repeat' split; all_goals omega] at this
  exact this
theorem pq_Q5 {M N : pz_M} (h : pz_rl pz_Q5 M N) : pq_same M N := ⟨funext fun j => h.2 67 j (by unfold pz_Q5; first | decide | omega), h.2 1 16 (by unfold pz_Q5; first | decide | omega), h.2 1 12 (by unfold pz_Q5; first | decide | omega)⟩
theorem pq_q5f {M N : pz_M} (h : pz_rl pz_Q5 M N) : N 1 14 = M 1 14 ∧ N 65 = M 65 := ⟨h.2 1 14 (by unfold pz_Q5; first | decide | omega), funext fun j => h.2 65 j (by unfold pz_Q5; first | decide | omega)⟩
theorem pq_dpt {M N : pz_M} {w : Int} (e : N = pz_u M 1 24 w) : pq_same M N ∧ N 1 14 = M 1 14 ∧ N 65 = M 65 ∧ ∀ i, pq_mz M i → pq_mz N i := by
  have u : ∀ b j, ¬ (b = 1 ∧ j = 24) → N b j = M b j := fun b j q => by rw [e]; exact pz_une q
  have s : pq_same M N := ⟨funext fun j => u 67 j (by first | decide | omega), u 1 16 (by first | decide | omega), u 1 12 (by first | decide | omega)⟩
  exact ⟨s, u 1 14 (by first | decide | omega), funext fun j => u 65 j (by first | decide | omega), fun i c => ⟨pq_mi_cg c.1 s (u 1 19 (by first | decide | omega)) (u 1 17 (by first | decide | omega)) (u 1 18 (by first | decide | omega)) (u 1 20 (by first | decide | omega)), by rw [s.2.2]; exact c.2⟩⟩
/-- a parenthesis or a not begins -/
def pq_opn (M N : pz_M) (v : Int) : Prop := ∀ i, pq_mz M i → (v = 1 ∧ M 1 24 ≠ 8 ∧ pq_mz N (i + 1)) ∨ (v = 0 ∧ M 1 24 = 8 ∧ pq_mb M N 3 i)
theorem pq_on_x {M N : pz_M} {v : Int} (s : pq_opn M N v) (hv : v = 0) (t : M 1 18 = 6 ∨ M 1 18 = 140) : pq_mg 4 (M 1 24).toNat M N 0 := by
  intro i c
  have tj := pq_tk c
  rcases s i c with ⟨a, -⟩ | ⟨-, a, b⟩
  · omega
  · exact Or.inr ⟨rfl, 3, i, .onx (by first | decide | omega) (by first | decide | omega), b⟩
theorem pq_on_nb {M N N1 : pz_M} {v v1 : Int} (s : pq_opn M N v) (hv : ¬ v = 0) (t : M 1 18 = 6) (hd : N 1 24 = M 1 24 + 1 ∧ 0 ≤ M 1 24 ∧ M 1 24 ≤ 8) (e : pq_same M N) (u : pq_mg 4 (N 1 24).toNat N N1 v1) (hv1 : v1 = 0) : pq_mg 4 (M 1 24).toNat M N1 0 := by
  intro i c
  have tj := pq_tk c
  rcases s i c with ⟨-, a, b⟩ | ⟨a, -⟩
  · rcases u _ b with ⟨f, -⟩ | ⟨-, k, j, f, g1, g2⟩
    · omega
    · rw [e.T.1, e.T.2.1, show (N 1 24).toNat = (M 1 24).toNat + 1 by omega] at f
      rw [e.T.2.2] at g2
      exact Or.inr ⟨rfl, k, j, .onnb (by first | decide | omega) (by first | decide | omega) f, g1, g2⟩
  · exact absurd a hv
theorem pq_on_n {M N N1 N2 N3 : pz_M} {v v1 w y : Int} (s : pq_opn M N v) (hv : ¬ v = 0) (t : M 1 18 = 6) (hd : N 1 24 = M 1 24 + 1 ∧ 0 ≤ M 1 24 ∧ M 1 24 ≤ 8) (z : pz_rl pz_Q5 M N) (u : pq_mg 4 (N 1 24).toNat N N1 v1) (hv1 : ¬ v1 = 0) (e1 : pq_same N N1) (d : N2 = pz_u N1 1 24 w) (l : pq_ml N2 N3 30 y) (e3 : pq_same N2 N3) (h0 : 0 ≤ M 1 14) : pq_mg 4 (M 1 24).toNat M N3 1 := by
  intro i c
  have tj := pq_tk c
  have e := pq_Q5 z
  have f5 := pq_q5f z
  rcases s i c with ⟨-, a, b⟩ | ⟨a, -⟩
  · rcases u _ b with ⟨-, j, o, f, g1, g2⟩ | ⟨f, -⟩
    · rw [e.T.1, e.T.2.1, show (N 1 24).toNat = (M 1 24).toNat + 1 by omega] at f
      obtain ⟨d1, d2, d3, d4⟩ := pq_dpt d
      have m1 := (g2.la d2 d3).al f5.1 f5.2
      have k2 : 0 ≤ N2 1 14 := by have := m1.1; omega
      exact Or.inl ⟨rfl, j, _, .onn (by first | decide | omega) (by first | decide | omega) f, pq_ml_z l e3 (d4 j g1), m1.tr h0 (pq_ml_s (y' := 0) l k2 (fun q => by omega))⟩
    · exact absurd f hv1
  · exact absurd a hv
theorem pq_on_pb {M N N1 : pz_M} {v v1 : Int} (s : pq_opn M N v) (hv : ¬ v = 0) (t : M 1 18 = 140) (hd : N 1 24 = M 1 24 + 1 ∧ 0 ≤ M 1 24 ∧ M 1 24 ≤ 8) (e : pq_same M N) (u : pq_mg 8 (N 1 24).toNat N N1 v1) (hv1 : v1 = 0) : pq_mg 4 (M 1 24).toNat M N1 0 := by
  intro i c
  have tj := pq_tk c
  rcases s i c with ⟨-, a, b⟩ | ⟨a, -⟩
  · rcases u _ b with ⟨f, -⟩ | ⟨-, k, j, f, g1, g2⟩
    · omega
    · rw [e.T.1, e.T.2.1, show (N 1 24).toNat = (M 1 24).toNat + 1 by omega] at f
      rw [e.T.2.2] at g2
      exact Or.inr ⟨rfl, k, j, .onpb (by first | decide | omega) (by first | decide | omega) f, g1, g2⟩
  · exact absurd a hv
theorem pq_on_pc {M N N1 N2 : pz_M} {v v1 : Int} (s : pq_opn M N v) (hv : ¬ v = 0) (t : M 1 18 = 140) (hd : N 1 24 = M 1 24 + 1 ∧ 0 ≤ M 1 24 ∧ M 1 24 ≤ 8) (e : pq_same M N) (u : pq_mg 8 (N 1 24).toNat N N1 v1) (hv1 : ¬ v1 = 0) (e1 : pq_same N N1) (n : N1 1 18 ≠ 141) (b1 : N2 1 21 = 1) (b2 : N2 1 22 = N1 1 19) : pq_mg 4 (M 1 24).toNat M N2 0 := by
  intro i c
  have tj := pq_tk c
  rcases s i c with ⟨-, a, b⟩ | ⟨a, -⟩
  · rcases u _ b with ⟨-, j, o, f, g1, g2⟩ | ⟨f, -⟩
    · rw [e.T.1, e.T.2.1, show (N 1 24).toNat = (M 1 24).toNat + 1 by omega] at f
      have tj1 := pq_tk g1
      have p1 := g1.1.2.1
      rw [(e.tr e1).T.1] at tj1
      rw [(e.tr e1).T.2.2] at p1
      exact Or.inr ⟨rfl, 1, j, .onpc (by first | decide | omega) (by first | decide | omega) f (by first | decide | omega), b1, by rw [b2]; exact p1⟩
    · exact absurd f hv1
  · exact absurd a hv
theorem pq_on_p {M N N1 N2 N3 : pz_M} {v v1 w : Int} (s : pq_opn M N v) (hv : ¬ v = 0) (t : M 1 18 = 140) (hd : N 1 24 = M 1 24 + 1 ∧ 0 ≤ M 1 24 ∧ M 1 24 ≤ 8) (z : pz_rl pz_Q5 M N) (u : pq_mg 8 (N 1 24).toNat N N1 v1) (hv1 : ¬ v1 = 0) (e1 : pq_same N N1) (n : N1 1 18 = 141) (z2 : pz_rl pz_Q0 N1 N2) (s2 : pz_tb N1 → pz_nxt N1 N2) (d : N3 = pz_u N2 1 24 w) : pq_mg 4 (M 1 24).toNat M N3 1 := by
  intro i c
  have tj := pq_tk c
  have e := pq_Q5 z
  have f5 := pq_q5f z
  rcases s i c with ⟨-, a, b⟩ | ⟨a, -⟩
  · rcases u _ b with ⟨-, j, o, f, g1, g2⟩ | ⟨f, -⟩
    · rw [e.T.1, e.T.2.1, show (N 1 24).toNat = (M 1 24).toNat + 1 by omega] at f
      have tj1 := pq_tk g1
      rw [(e.tr e1).T.1] at tj1
      obtain ⟨d1, d2, d3, d4⟩ := pq_dpt d
      have f0 := pq_q0f z2
      exact Or.inl ⟨rfl, j + 1, o, .onp (by first | decide | omega) (by first | decide | omega) f (by first | decide | omega), d4 _ (pq_mz_nx g1 z2 s2), (g2.la (d2.trans f0.1) (d3.trans f0.2)).al f5.1 f5.2⟩
    · exact absurd f hv1
  · exact absurd a hv
theorem pq_on_s {M N : pz_M} {v : Int} {d : Nat} (t : M 1 18 ≠ 6 ∧ M 1 18 ≠ 140) (s : pq_mg 3 0 M N v) (hv : v = 0) : pq_mg 4 d M N 0 := by
  intro i c
  have tj := pq_tk c
  rcases s i c with ⟨a, -⟩ | ⟨-, k, j, a, b⟩
  · omega
  · exact Or.inr ⟨rfl, k, j, .ons (by first | decide | omega) (by first | decide | omega) a, b⟩
theorem pq_on_r {M N N1 : pz_M} {v : Int} {d : Nat} (t : M 1 18 ≠ 6 ∧ M 1 18 ≠ 140) (s : pq_mg 3 0 M N v) (hv : ¬ v = 0) (e : pq_same M N) (t1 : ¬ (160 ≤ N 1 18 ∧ N 1 18 ≤ 162)) (b1 : N1 1 21 = 1) (b2 : N1 1 22 = N 1 19) : pq_mg 4 d M N1 0 := by
  intro i c
  have tj := pq_tk c
  rcases s i c with ⟨-, j, o, a, b, f⟩ | ⟨a, -⟩
  · have tj1 := pq_tk b
    have p1 := b.1.2.1
    rw [e.T.1] at tj1
    rw [e.T.2.2] at p1
    exact Or.inr ⟨rfl, 1, j, .onr (by first | decide | omega) (by first | decide | omega) a (by first | decide | omega), b1, by rw [b2]; exact p1⟩
  · exact absurd a hv
theorem pq_on_t {M N N1 N2 : pz_M} {v v2 : Int} {d : Nat} (t : M 1 18 ≠ 6 ∧ M 1 18 ≠ 140) (s : pq_mg 3 0 M N v) (hv : ¬ v = 0) (e : pq_same M N) (t1 : 160 ≤ N 1 18 ∧ N 1 18 ≤ 162) (z : pz_rl pz_Q0 N N1) (s1 : pz_tb N → pz_nxt N N1) (u : pq_mg 3 0 N1 N2 v2) (hv2 : v2 = 0) : pq_mg 4 d M N2 0 := by
  intro i c
  have tj := pq_tk c
  rcases s i c with ⟨-, j, o, a, b, f⟩ | ⟨a, -⟩
  · have tj1 := pq_tk b
    rw [e.T.1] at tj1
    have g := (e.tr (pq_Q0 z)).T
    rcases u _ (pq_mz_nx b z s1) with ⟨f, -⟩ | ⟨-, k, j2, f, g1, g2⟩
    · omega
    · rw [g.1, g.2.1] at f
      rw [g.2.2] at g2
      exact Or.inr ⟨rfl, k, j2, .ont (by first | decide | omega) (by first | decide | omega) a (by first | decide | omega) f, g1, g2⟩
  · exact absurd a hv
theorem pq_on_q {M N N1 N2 N3 : pz_M} {v v2 x y : Int} {d : Nat} (t : M 1 18 ≠ 6 ∧ M 1 18 ≠ 140) (s : pq_mg 3 0 M N v) (hv : ¬ v = 0) (e : pq_same M N) (t1 : (N 1 18 = 160 ∧ x = 27) ∨ (N 1 18 = 161 ∧ x = 28) ∨ (N 1 18 = 162 ∧ x = 29)) (z : pz_rl pz_Q0 N N1) (s1 : pz_tb N → pz_nxt N N1) (u : pq_mg 3 0 N1 N2 v2) (hv2 : ¬ v2 = 0) (l : pq_ml N2 N3 x y) (e3 : pq_same N2 N3) (h0 : 0 ≤ M 1 14) : pq_mg 4 d M N3 1 := by
  intro i c
  have tj := pq_tk c
  rcases s i c with ⟨-, j, o, a, b, f⟩ | ⟨a, -⟩
  · have tj1 := pq_tk b
    rw [e.T.1] at tj1
    have g := (e.tr (pq_Q0 z)).T
    have q0 := pq_q0f z
    rcases u _ (pq_mz_nx b z s1) with ⟨-, j2, o2, f2, g1, g2⟩ | ⟨f2, -⟩
    · rw [g.1, g.2.1] at f2
      have k0 : 0 ≤ N 1 14 := by have := f.1; omega
      have g3 := g2.al q0.1 q0.2
      have k2 : 0 ≤ N2 1 14 := by have := g3.1; omega
      have ex : pz_op (pq_TM M j) = x := by
        unfold pz_op
        repeat' split
        all_goals omega
      have w := pz_gr.onq (d := d) (T := pq_TM M) (X := pq_XM M) (i := i) (by first | decide | omega) (by first | decide | omega) a (by first | decide | omega) f2
      rw [ex] at w
      exact Or.inl ⟨rfl, j2, _, w, pq_ml_z l e3 g1, (f.tr h0 g3).tr h0 (pq_ml_s (y' := 0) l k2 (fun q => by omega))⟩
    · exact absurd f2 hv2
  · exact absurd a hv

noncomputable def k_X12_bad : pz_C := (2, 1, fun a M => (match a with | [.inr (.inr (12, th)), .inl x] => pz_im M | _ => False), fun a M r M' => (match a, r with | [.inr (.inr (12, th)), .inl x], some (.inl v) => (v = 0 ∧ M' 1 21 = x ∧ M' 1 22 = M 1 19) ∧ pz_rl pz_Q0 M M' | _, _ => False))
noncomputable abbrev ct_X12_bad : List (Bool × Nat × pz_C) := []
set_option maxRecDepth 100000 in
set_option maxHeartbeats 4000000 in
theorem h_X12_bad : pz_H yX12_bad cX12_bad 2 (some .boolean) k_X12_bad 0 0 := by
  refine pz_mk (own := RX12) (tb := t_X12_bad) (fl := pz_flf fl_RX12) (ci := pz_cif ci_RX12) (ct := pz_ctf ct_X12_bad) (rz := true) (pz_pfc_RX12 yX12_bad rfl) rfl t_X12_bad_ok (pz_flk fl_RX12_ok) (pz_cik ci_RX12_ok) ?_ ?_ (Or.inr ⟨rfl, rfl⟩) ?_ ?_
  · exact fun i k' h => pz_ctk (l := ct_X12_bad) (P := fun b i k => b = true → pz_cV 0 0 RX12 i k) (fun _ h => absurd h List.not_mem_nil) true i k' h rfl
  · exact fun i k' h => pz_ctk (l := ct_X12_bad) (P := fun b i k => b = false → (pz_cS 0 0 RX12 i k ∨ (k = pz_kac ∧ 1 ≤ 0 ∧ 60 ≤ 0 ∧ Cond.methodLink RX12 i arraycopyName ∈ pz_tbl))) (fun _ h => absurd h List.not_mem_nil) false i k' h rfl
  · intro a M hlen hpre
    obtain ⟨th, x, rfl, hpre⟩ : ∃ th x, a = [.inr (.inr (12, th)), .inl x] ∧ (pz_im M) := by
      have hpre : (match (generalizing := false) a with | [.inr (.inr (12, th)), .inl x] => pz_im M | _ => False) := hpre
      split at hpre
      · exact ⟨_, _, rfl, hpre⟩
      · exact hpre.elim
    exact Nat.le_of_ble_eq_true rfl
  · intro a M hlen hcan hM hpre Ok hgo
    obtain ⟨th, x, rfl, hpre⟩ : ∃ th x, a = [.inr (.inr (12, th)), .inl x] ∧ (pz_im M) := by
      have hpre : (match (generalizing := false) a with | [.inr (.inr (12, th)), .inl x] => pz_im M | _ => False) := hpre
      split at hpre
      · exact ⟨_, _, rfl, hpre⟩
      · exact hpre.elim
    obtain ⟨k_th, hc_th⟩ := pz_tlm hcan
    have k_th : pz_kd th = 12 ∧ th < 231 := k_th
    have R_th := pz_kd12 k_th.1
    subst R_th
    clear k_th
    obtain ⟨k_x, hc_x⟩ := pz_tlm hc_th
    have l_x : -2147483648 ≤ x := k_x.1
    have u_x : x ≤ 2147483647 := k_x.2
    have hI : pz_im M := hpre
    have hI0 := hI
    have hS : pz_rl pz_Q0 M M := pz_rl.rf
    refine hgo (fun _ => false) 11 0 _ [] M ?_
    intro M2 e2
    have hS : pz_rl pz_Q0 M M2 := by
      rw [e2]
      exact pz_rl_u hS (by unfold pz_Q0; decide) (pz_iom_f (by decide))
    have hI : pz_im M2 := hS.1 hI0
    have T2_0 : M2 1 21 = x := by rw [e2]; exact pz_uu
    have T2_1 : M2 1 22 = M 1 22 := by
      rw [e2]
      exact (pz_une (by decide))
    have T2_2 : M2 1 19 = M 1 19 := by
      rw [e2]
      exact (pz_une (by decide))
    intro v7 e7 a7 b7
    have I7 : 0 ≤ v7 ∧ v7 ≤ 400 := by
      rw [e7]
      exact hI.2.1.2.2.2.2.1
    clear a7 b7
    have N7 := hI.2.1.2.2.2.2.1
    replace e7 := e7.trans T2_2
    intro M10 e10
    have hS : pz_rl pz_Q0 M M10 := by
      rw [e10]
      exact pz_rl_u hS (by unfold pz_Q0; decide) (pz_iom_f (by decide))
    have hI : pz_im M10 := hS.1 hI0
    have T10_0 : M10 1 21 = x := by
      rw [e10]
      exact (pz_une (by decide)).trans T2_0
    clear T2_0
    have T10_1 : M10 1 22 = v7 := by rw [e10]; exact pz_uu
    have T10_2 : M10 1 19 = M 1 19 := by
      rw [e10]
      exact (pz_une (by decide)).trans T2_2
    clear T2_2
    refine And.intro (by first | decide | omega) ?_
    refine And.intro rfl ?_
    exact ⟨by omega, hS⟩
theorem v_X12_bad {fr lo i : Nat} {own : String} (h1 : 0 + 1 ≤ fr) (h2 : 8 + (2 + 11) + 0 ≤ lo) (h3 : .methodLink own i yX12_bad ∈ lw_tbl) : pz_cV fr lo own i k_X12_bad :=
  pz_cVk (maxL := 2) (fr' := 0) (lo' := 0) 1 12 h_X12_bad rfl ⟨(pz_nhc_RX12 yX12_bad rfl).1, (pz_nhc_RX12 yX12_bad rfl).2, pz_ds9⟩ ⟨pz_wq1314, pz_wq1313, pz_ws15, pz_wq13⟩ (Or.inl ⟨TX12, 28, rfl⟩) (fun a M _ h => by
    have h : (match (generalizing := false) a with | [.inr (.inr (12, th)), .inl x] => pz_im M | _ => False) := h
    split at h
    · exact ⟨_, _, rfl⟩
    · exact h.elim) h1 h2 h3
noncomputable def k_X12_need : pz_C := (2, 1, fun a M => (match a with | [.inr (.inr (12, th)), .inl x] => pz_im M | _ => False), fun a M r M' => (match a, r with | [.inr (.inr (12, th)), .inl x], some (.inl v) => ((v = 0 ∨ (v = 1 ∧ M 1 18 = x ∧ M 1 17 ≤ M' 1 19 ∧ M' 1 19 ≤ M' 1 17 ∧ (M' 1 18 ≠ 0 → M' 1 19 + 1 ≤ M' 1 17))) ∧ ((v = 1 ∧ (pz_tb M → pz_nxt M M')) ∨ (v = 0 ∧ M 1 18 ≠ x ∧ M' 1 21 = 1 ∧ M' 1 22 = M 1 19))) ∧ pz_rl pz_Q0 M M' | _, _ => False))
noncomputable abbrev ct_X12_need : List (Bool × Nat × pz_C) := [(true, 188, k_X12_bad), (true, 191, k_X12_next0)]
set_option maxRecDepth 100000 in
set_option maxHeartbeats 4000000 in
theorem h_X12_need : pz_H yX12_need cX12_need 2 (some .boolean) k_X12_need 9 190 := by
  refine pz_mk (own := RX12) (tb := t_X12_need) (fl := pz_flf fl_RX12) (ci := pz_cif ci_RX12) (ct := pz_ctf ct_X12_need) (rz := true) (pz_pfc_RX12 yX12_need rfl) rfl t_X12_need_ok (pz_flk fl_RX12_ok) (pz_cik ci_RX12_ok) ?_ ?_ (Or.inr ⟨rfl, rfl⟩) ?_ ?_
  · exact fun i k' h => pz_ctk (l := ct_X12_need) (P := fun b i k => b = true → pz_cV 9 190 RX12 i k) (List.forall_mem_cons.mpr ⟨(fun _ => v_X12_bad (by decide) (by decide) pz_wq1311), List.forall_mem_cons.mpr ⟨(fun _ => v_X12_next0 (by decide) (by decide) pz_wq1243), fun _ h => absurd h List.not_mem_nil⟩⟩) true i k' h rfl
  · exact fun i k' h => pz_ctk (l := ct_X12_need) (P := fun b i k => b = false → (pz_cS 9 190 RX12 i k ∨ (k = pz_kac ∧ 1 ≤ 9 ∧ 60 ≤ 190 ∧ Cond.methodLink RX12 i arraycopyName ∈ pz_tbl))) (List.forall_mem_cons.mpr ⟨((fun z => by cases z)), List.forall_mem_cons.mpr ⟨((fun z => by cases z)), fun _ h => absurd h List.not_mem_nil⟩⟩) false i k' h rfl
  · intro a M hlen hpre
    obtain ⟨th, x, rfl, hpre⟩ : ∃ th x, a = [.inr (.inr (12, th)), .inl x] ∧ (pz_im M) := by
      have hpre : (match (generalizing := false) a with | [.inr (.inr (12, th)), .inl x] => pz_im M | _ => False) := hpre
      split at hpre
      · exact ⟨_, _, rfl, hpre⟩
      · exact hpre.elim
    exact Nat.le_of_ble_eq_true rfl
  · intro a M hlen hcan hM hpre Ok hgo
    obtain ⟨th, x, rfl, hpre⟩ : ∃ th x, a = [.inr (.inr (12, th)), .inl x] ∧ (pz_im M) := by
      have hpre : (match (generalizing := false) a with | [.inr (.inr (12, th)), .inl x] => pz_im M | _ => False) := hpre
      split at hpre
      · exact ⟨_, _, rfl, hpre⟩
      · exact hpre.elim
    obtain ⟨k_th, hc_th⟩ := pz_tlm hcan
    have k_th : pz_kd th = 12 ∧ th < 231 := k_th
    have R_th := pz_kd12 k_th.1
    subst R_th
    clear k_th
    obtain ⟨k_x, hc_x⟩ := pz_tlm hc_th
    have l_x : -2147483648 ≤ x := k_x.1
    have u_x : x ≤ 2147483647 := k_x.2
    have hI : pz_im M := hpre
    have hI0 := hI
    have hS : pz_rl pz_Q0 M M := pz_rl.rf
    refine hgo (fun _ => false) 14 0 _ [] M ?_
    intro v1 e1 a1 b1
    refine And.intro (fun h5 => ?_) (fun h5 => ?_)
    · skip
      refine And.intro (hI) ?_
      intro M15 q15
      obtain ⟨q15, z15⟩ := q15
      have hS : pz_rl pz_Q0 M M15 := hS.tr z15
      have hI : pz_im M15 := hS.1 hI0
      obtain ⟨q15, s15⟩ := q15
      have f15 := pz_q0f z15
      obtain ⟨f15a, f15b, f15c⟩ := f15
      refine And.intro (by first | decide | omega) ?_
      refine And.intro rfl ?_
      exact ⟨⟨Or.inr ⟨rfl, by omega, q15⟩, Or.inl ⟨rfl, s15⟩⟩, hS⟩
    · skip
      refine And.intro (hI) ?_
      intro v10 M10 a10 b10 q10
      obtain ⟨q10, z10⟩ := q10
      have hS : pz_rl pz_Q0 M M10 := hS.tr z10
      have hI : pz_im M10 := hS.1 hI0
      clear a10 b10
      refine And.intro (by first | decide | omega) ?_
      refine And.intro rfl ?_
      exact ⟨⟨Or.inl (by first | decide | omega), Or.inr ⟨q10.1, by omega, q10.2⟩⟩, hS⟩
theorem v_X12_need {fr lo i : Nat} {own : String} (h1 : 9 + 1 ≤ fr) (h2 : 8 + (2 + 11) + 190 ≤ lo) (h3 : .methodLink own i yX12_need ∈ lw_tbl) : pz_cV fr lo own i k_X12_need :=
  pz_cVk (maxL := 2) (fr' := 9) (lo' := 190) 1 12 h_X12_need rfl ⟨(pz_nhc_RX12 yX12_need rfl).1, (pz_nhc_RX12 yX12_need rfl).2, pz_ds9⟩ ⟨pz_wq1350, pz_wq1349, pz_ws24, pz_wq13⟩ (Or.inl ⟨TX12, 28, rfl⟩) (fun a M _ h => by
    have h : (match (generalizing := false) a with | [.inr (.inr (12, th)), .inl x] => pz_im M | _ => False) := h
    split at h
    · exact ⟨_, _, rfl⟩
    · exact h.elim) h1 h2 h3
noncomputable def k_X12_lay : pz_C := (3, 0, fun a M => (match a with | [.inr (.inr (12, th)), .inl x, .inl y] => pz_im M ∧ M 1 14 ≤ 409 | _ => False), fun a M r M' => (match a, r with | [.inr (.inr (12, th)), .inl x, .inl y], none => (pz_ly M M' x y ∧ M' 1 20 = M 1 20) ∧ pz_rl pz_Q1 M M' | _, _ => False))
noncomputable abbrev ct_X12_lay : List (Bool × Nat × pz_C) := []
set_option maxRecDepth 100000 in
set_option maxHeartbeats 4000000 in
theorem h_X12_lay : pz_H yX12_lay cX12_lay 3 none k_X12_lay 0 0 := by
  refine pz_mk (own := RX12) (tb := t_X12_lay) (fl := pz_flf fl_RX12) (ci := pz_cif ci_RX12) (ct := pz_ctf ct_X12_lay) (rz := false) (pz_pfc_RX12 yX12_lay rfl) rfl t_X12_lay_ok (pz_flk fl_RX12_ok) (pz_cik ci_RX12_ok) ?_ ?_ (rfl) ?_ ?_
  · exact fun i k' h => pz_ctk (l := ct_X12_lay) (P := fun b i k => b = true → pz_cV 0 0 RX12 i k) (fun _ h => absurd h List.not_mem_nil) true i k' h rfl
  · exact fun i k' h => pz_ctk (l := ct_X12_lay) (P := fun b i k => b = false → (pz_cS 0 0 RX12 i k ∨ (k = pz_kac ∧ 1 ≤ 0 ∧ 60 ≤ 0 ∧ Cond.methodLink RX12 i arraycopyName ∈ pz_tbl))) (fun _ h => absurd h List.not_mem_nil) false i k' h rfl
  · intro a M hlen hpre
    obtain ⟨th, x, y, rfl, hpre⟩ : ∃ th x y, a = [.inr (.inr (12, th)), .inl x, .inl y] ∧ (pz_im M ∧ M 1 14 ≤ 409) := by
      have hpre : (match (generalizing := false) a with | [.inr (.inr (12, th)), .inl x, .inl y] => pz_im M ∧ M 1 14 ≤ 409 | _ => False) := hpre
      split at hpre
      · exact ⟨_, _, _, rfl, hpre⟩
      · exact hpre.elim
    exact Nat.le_of_ble_eq_true rfl
  · intro a M hlen hcan hM hpre Ok hgo
    obtain ⟨th, x, y, rfl, hpre⟩ : ∃ th x y, a = [.inr (.inr (12, th)), .inl x, .inl y] ∧ (pz_im M ∧ M 1 14 ≤ 409) := by
      have hpre : (match (generalizing := false) a with | [.inr (.inr (12, th)), .inl x, .inl y] => pz_im M ∧ M 1 14 ≤ 409 | _ => False) := hpre
      split at hpre
      · exact ⟨_, _, _, rfl, hpre⟩
      · exact hpre.elim
    obtain ⟨k_th, hc_th⟩ := pz_tlm hcan
    have k_th : pz_kd th = 12 ∧ th < 231 := k_th
    have R_th := pz_kd12 k_th.1
    subst R_th
    clear k_th
    obtain ⟨k_x, hc_x⟩ := pz_tlm hc_th
    have l_x : -2147483648 ≤ x := k_x.1
    have u_x : x ≤ 2147483647 := k_x.2
    obtain ⟨k_y, hc_y⟩ := pz_tlm hc_x
    have l_y : -2147483648 ≤ y := k_y.1
    have u_y : y ≤ 2147483647 := k_y.2
    have hI : pz_im M := hpre.1
    have hI0 := hI
    have hS : pz_rl pz_Q1 M M := pz_rl.rf
    have I0 := hI.2.1.2.2.2.2.2.2.1
    refine hgo (fun _ => false) 27 0 _ [] M ?_
    refine pz_nrc (c := 65) rfl ?_
    intro v6 e6 a6 b6
    have I6 : 0 ≤ v6 ∧ v6 ≤ 410 := by
      rw [e6]
      exact hI.2.1.2.2.2.2.2.2.1
    clear a6 b6
    have N6 := hI.2.1.2.2.2.2.2.2.1
    intro v9 e9 a9 b9
    rw [pz_wi (by first | decide | omega) (by first | decide | omega)] at e9
    clear a9 b9
    have lo11 : (0 : Int) ≤ v9 := by omega
    have tn11 : (((v9).toNat : Nat) : Int) = v9 := Int.toNat_of_nonneg lo11
    refine And.intro (lo11) (And.intro (show _ < (820 : Int) from by omega) ?_)
    intro M11 e11
    have hS : pz_rl pz_Q1 M M11 := by
      rw [e11]
      exact pz_rl_u hS (by unfold pz_Q1; first | decide | omega) (pz_iom_a (by decide))
    have hI : pz_im M11 := hS.1 hI0
    have T11_0 : M11 1 14 = M 1 14 := by
      rw [e11]
      exact (pz_une (fun h => absurd h.1 (by decide)))
    have T11_1 : M11 1 17 = M 1 17 := by
      rw [e11]
      exact (pz_une (fun h => absurd h.1 (by decide)))
    have T11_2 : M11 1 18 = M 1 18 := by
      rw [e11]
      exact (pz_une (fun h => absurd h.1 (by decide)))
    have T11_3 : M11 1 19 = M 1 19 := by
      rw [e11]
      exact (pz_une (fun h => absurd h.1 (by decide)))
    have T11_4 : M11 1 24 = M 1 24 := by
      rw [e11]
      exact (pz_une (fun h => absurd h.1 (by decide)))
    have T11_5 : M11 1 20 = M 1 20 := by
      rw [e11]
      exact (pz_une (fun h => absurd h.1 (by decide)))
    refine pz_nrc (c := 65) rfl ?_
    intro v18 e18 a18 b18
    have I18 : 0 ≤ v18 ∧ v18 ≤ 410 := by
      rw [e18]
      exact hI.2.1.2.2.2.2.2.2.1
    clear a18 b18
    have N18 := hI.2.1.2.2.2.2.2.2.1
    replace e18 := e18.trans T11_0
    intro v21 e21 a21 b21
    rw [pz_wi (by first | decide | omega) (by first | decide | omega)] at e21
    clear a21 b21
    intro v23 e23 a23 b23
    rw [pz_wi (by first | decide | omega) (by first | decide | omega)] at e23
    clear a23 b23
    have lo25 : (0 : Int) ≤ v23 := by omega
    have tn25 : (((v23).toNat : Nat) : Int) = v23 := Int.toNat_of_nonneg lo25
    refine And.intro (lo25) (And.intro (show _ < (820 : Int) from by omega) ?_)
    intro M25 e25
    have hS : pz_rl pz_Q1 M M25 := by
      rw [e25]
      exact pz_rl_u hS (by unfold pz_Q1; first | decide | omega) (pz_iom_a (by decide))
    have hI : pz_im M25 := hS.1 hI0
    have T25_0 : M25 1 14 = M 1 14 := by
      rw [e25]
      exact (pz_une (fun h => absurd h.1 (by decide))).trans T11_0
    clear T11_0
    have T25_1 : M25 1 17 = M 1 17 := by
      rw [e25]
      exact (pz_une (fun h => absurd h.1 (by decide))).trans T11_1
    clear T11_1
    have T25_2 : M25 1 18 = M 1 18 := by
      rw [e25]
      exact (pz_une (fun h => absurd h.1 (by decide))).trans T11_2
    clear T11_2
    have T25_3 : M25 1 19 = M 1 19 := by
      rw [e25]
      exact (pz_une (fun h => absurd h.1 (by decide))).trans T11_3
    clear T11_3
    have T25_4 : M25 1 24 = M 1 24 := by
      rw [e25]
      exact (pz_une (fun h => absurd h.1 (by decide))).trans T11_4
    clear T11_4
    have T25_5 : M25 1 20 = M 1 20 := by
      rw [e25]
      exact (pz_une (fun h => absurd h.1 (by decide))).trans T11_5
    clear T11_5
    intro v28 e28 a28 b28
    have I28 : 0 ≤ v28 ∧ v28 ≤ 410 := by
      rw [e28]
      exact hI.2.1.2.2.2.2.2.2.1
    clear a28 b28
    have N28 := hI.2.1.2.2.2.2.2.2.1
    replace e28 := e28.trans T25_0
    intro v32 e32 a32 b32
    rw [pz_wi (by first | decide | omega) (by first | decide | omega)] at e32
    clear a32 b32
    intro M33 e33
    have hS : pz_rl pz_Q1 M M33 := by
      rw [e33]
      exact pz_rl_u hS (by unfold pz_Q1; decide) (pz_iom_14 (by first | decide | omega))
    have hI : pz_im M33 := hS.1 hI0
    have T33_0 : M33 1 14 = v32 := by rw [e33]; exact pz_uu
    have T33_1 : M33 1 17 = M 1 17 := by
      rw [e33]
      exact (pz_une (by decide)).trans T25_1
    clear T25_1
    have T33_2 : M33 1 18 = M 1 18 := by
      rw [e33]
      exact (pz_une (by decide)).trans T25_2
    clear T25_2
    have T33_3 : M33 1 19 = M 1 19 := by
      rw [e33]
      exact (pz_une (by decide)).trans T25_3
    clear T25_3
    have T33_4 : M33 1 24 = M 1 24 := by
      rw [e33]
      exact (pz_une (by decide)).trans T25_4
    clear T25_4
    have T33_5 : M33 1 20 = M 1 20 := by
      rw [e33]
      exact (pz_une (by decide)).trans T25_5
    clear T25_5
    refine And.intro rfl ?_
    have key : ∀ j : Nat, ((j : Int) = 2 * M 1 14 → M33 65 j = x) ∧ ((j : Int) = 2 * M 1 14 + 1 → M33 65 j = y) ∧ ((j : Int) < 2 * M 1 14 → M33 65 j = M 65 j) := by
      intro j
      have U1 := pz_uve e33 65 j
      have U2 := pz_uve e25 65 j
      have U3 := pz_uve e11 65 j
      refine ⟨fun q => ?_, fun q => ?_, fun q => ?_⟩ <;> omega
    exact ⟨⟨⟨(key _).1 (by first | decide | omega), (key _).2.1 (by first | decide | omega), by omega, by omega, by omega, by omega, by omega, fun j hj => (key j).2.2 hj⟩, by omega⟩, hS⟩
theorem v_X12_lay {fr lo i : Nat} {own : String} (h1 : 0 + 1 ≤ fr) (h2 : 8 + (3 + 11) + 0 ≤ lo) (h3 : .methodLink own i yX12_lay ∈ lw_tbl) : pz_cV fr lo own i k_X12_lay :=
  pz_cVk (maxL := 3) (fr' := 0) (lo' := 0) 2 12 h_X12_lay rfl ⟨(pz_nhc_RX12 yX12_lay rfl).1, (pz_nhc_RX12 yX12_lay rfl).2, pz_ds12⟩ ⟨pz_wq1330, pz_wq1329, pz_ws19, pz_wq13⟩ (Or.inl ⟨TX12, 28, rfl⟩) (fun a M _ h => by
    have h : (match (generalizing := false) a with | [.inr (.inr (12, th)), .inl x, .inl y] => pz_im M ∧ M 1 14 ≤ 409 | _ => False) := h
    split at h
    · exact ⟨_, _, rfl⟩
    · exact h.elim) h1 h2 h3
noncomputable def k_X12_opens : pz_C := (1, 1, fun a M => (match a with | [.inr (.inr (12, th))] => pz_im M ∧ 0 ≤ M 1 24 ∧ M 1 24 ≤ 8 | _ => False), fun a M r M' => (match a, r with | [.inr (.inr (12, th))], some (.inl v) => ((v = 0 ∨ (v = 1 ∧ M 1 24 ≠ 8 ∧ M' 1 24 = M 1 24 + 1 ∧ M 1 17 ≤ M' 1 19 ∧ M' 1 19 ≤ M' 1 17 ∧ (M' 1 18 ≠ 0 → M' 1 19 + 1 ≤ M' 1 17))) ∧ (pq_opn M M' v)) ∧ pz_rl pz_Q5 M M' | _, _ => False))
noncomputable abbrev ct_X12_opens : List (Bool × Nat × pz_C) := [(true, 188, k_X12_bad), (true, 191, k_X12_next0)]
theorem pz_wk_Q0_Q5 : ∀ b j, pz_Q0 b j → pz_Q5 b j := by
  intro b j q
  unfold pz_Q0 at q
  unfold pz_Q5
  omega
set_option maxRecDepth 100000 in
set_option maxHeartbeats 4000000 in
theorem h_X12_opens : pz_H yX12_opens cX12_opens 1 (some .boolean) k_X12_opens 9 190 := by
  refine pz_mk (own := RX12) (tb := t_X12_opens) (fl := pz_flf fl_RX12) (ci := pz_cif ci_RX12) (ct := pz_ctf ct_X12_opens) (rz := true) (pz_pfc_RX12 yX12_opens rfl) rfl t_X12_opens_ok (pz_flk fl_RX12_ok) (pz_cik ci_RX12_ok) ?_ ?_ (Or.inr ⟨rfl, rfl⟩) ?_ ?_
  · exact fun i k' h => pz_ctk (l := ct_X12_opens) (P := fun b i k => b = true → pz_cV 9 190 RX12 i k) (List.forall_mem_cons.mpr ⟨(fun _ => v_X12_bad (by decide) (by decide) pz_wq1311), List.forall_mem_cons.mpr ⟨(fun _ => v_X12_next0 (by decide) (by decide) pz_wq1243), fun _ h => absurd h List.not_mem_nil⟩⟩) true i k' h rfl
  · exact fun i k' h => pz_ctk (l := ct_X12_opens) (P := fun b i k => b = false → (pz_cS 9 190 RX12 i k ∨ (k = pz_kac ∧ 1 ≤ 9 ∧ 60 ≤ 190 ∧ Cond.methodLink RX12 i arraycopyName ∈ pz_tbl))) (List.forall_mem_cons.mpr ⟨((fun z => by cases z)), List.forall_mem_cons.mpr ⟨((fun z => by cases z)), fun _ h => absurd h List.not_mem_nil⟩⟩) false i k' h rfl
  · intro a M hlen hpre
    obtain ⟨th, rfl, hpre⟩ : ∃ th, a = [.inr (.inr (12, th))] ∧ (pz_im M ∧ 0 ≤ M 1 24 ∧ M 1 24 ≤ 8) := by
      have hpre : (match (generalizing := false) a with | [.inr (.inr (12, th))] => pz_im M ∧ 0 ≤ M 1 24 ∧ M 1 24 ≤ 8 | _ => False) := hpre
      split at hpre
      · exact ⟨_, rfl, hpre⟩
      · exact hpre.elim
    exact Nat.le_of_ble_eq_true rfl
  · intro a M hlen hcan hM hpre Ok hgo
    obtain ⟨th, rfl, hpre⟩ : ∃ th, a = [.inr (.inr (12, th))] ∧ (pz_im M ∧ 0 ≤ M 1 24 ∧ M 1 24 ≤ 8) := by
      have hpre : (match (generalizing := false) a with | [.inr (.inr (12, th))] => pz_im M ∧ 0 ≤ M 1 24 ∧ M 1 24 ≤ 8 | _ => False) := hpre
      split at hpre
      · exact ⟨_, rfl, hpre⟩
      · exact hpre.elim
    obtain ⟨k_th, hc_th⟩ := pz_tlm hcan
    have k_th : pz_kd th = 12 ∧ th < 231 := k_th
    have R_th := pz_kd12 k_th.1
    subst R_th
    clear k_th
    have hI : pz_im M := hpre.1
    have hI0 := hI
    have hS : pz_rl pz_Q5 M M := pz_rl.rf
    obtain ⟨-, pr4, pr5⟩ := hpre
    refine hgo (fun _ => false) 20 0 _ [] M ?_
    intro v1 e1 a1 b1
    refine And.intro (fun h6 => ?_) (fun h6 => ?_)
    · skip
      intro v17 e17 a17 b17
      intro v21 e21 a21 b21
      rw [pz_wi (by first | decide | omega) (by first | decide | omega)] at e21
      clear a21 b21
      intro M22 e22
      have hS : pz_rl pz_Q5 M M22 := by
        rw [e22]
        exact pz_rl_u hS (by unfold pz_Q5; decide) (pz_iom_f (by decide))
      have hI : pz_im M22 := hS.1 hI0
      have T22_0 : M22 1 17 = M 1 17 := by
        rw [e22]
        exact (pz_une (by decide))
      have T22_1 : M22 1 18 = M 1 18 := by
        rw [e22]
        exact (pz_une (by decide))
      have T22_2 : M22 1 19 = M 1 19 := by
        rw [e22]
        exact (pz_une (by decide))
      have T22_3 : M22 1 24 = v21 := by rw [e22]; exact pz_uu
      have T22_4 : M22 1 20 = M 1 20 := by
        rw [e22]
        exact (pz_une (by decide))
      have E22 := pq_Q5 hS
      refine And.intro (hI) ?_
      intro M26 q26
      obtain ⟨q26, z26⟩ := q26
      have hS : pz_rl pz_Q5 M M26 := hS.tr (pz_rl.wk pz_wk_Q0_Q5 z26)
      have hI : pz_im M26 := hS.1 hI0
      obtain ⟨q26, s26⟩ := q26
      have f26 := pz_q0f z26
      obtain ⟨f26a, f26b, f26c⟩ := f26
      refine And.intro (by first | decide | omega) ?_
      refine And.intro rfl ?_
      exact ⟨⟨Or.inr ⟨rfl, by omega, by omega, by omega⟩, fun i c => Or.inl ⟨rfl, by omega, pq_mz_nx ⟨pq_mi_cg c.1 E22 (by first | decide | omega) (by first | decide | omega) (by first | decide | omega) (by first | decide | omega), by rw [E22.2.2]; exact c.2⟩ z26 s26⟩⟩, hS⟩
    · skip
      refine And.intro (hI) ?_
      intro v11 M11 a11 b11 q11
      obtain ⟨q11, z11⟩ := q11
      have hS : pz_rl pz_Q5 M M11 := hS.tr (pz_rl.wk pz_wk_Q0_Q5 z11)
      have hI : pz_im M11 := hS.1 hI0
      clear a11 b11
      refine And.intro (by first | decide | omega) ?_
      refine And.intro rfl ?_
      exact ⟨⟨Or.inl (by first | decide | omega), fun i c => Or.inr ⟨by omega, by omega, by omega, q11.2.2.trans c.1.2.1⟩⟩, hS⟩
theorem v_X12_opens {fr lo i : Nat} {own : String} (h1 : 9 + 1 ≤ fr) (h2 : 8 + (1 + 11) + 190 ≤ lo) (h3 : .methodLink own i yX12_opens ∈ lw_tbl) : pz_cV fr lo own i k_X12_opens :=
  pz_cVk (maxL := 1) (fr' := 9) (lo' := 190) 0 12 h_X12_opens rfl ⟨(pz_nhc_RX12 yX12_opens rfl).1, (pz_nhc_RX12 yX12_opens rfl).2, pz_ds3⟩ ⟨pz_wq1346, pz_wq1345, pz_ws23, pz_wq13⟩ (Or.inl ⟨TX12, 28, rfl⟩) (fun a M _ h => by
    have h : (match (generalizing := false) a with | [.inr (.inr (12, th))] => pz_im M ∧ 0 ≤ M 1 24 ∧ M 1 24 ≤ 8 | _ => False) := h
    split at h
    · exact ⟨_, _, rfl⟩
    · exact h.elim) h1 h2 h3
noncomputable def k_X12_unit : pz_C := (1, 1, fun a M => (match a with | [.inr (.inr (12, th))] => pz_im M ∧ M 1 19 ≤ M 1 17 ∧ (M 1 18 ≠ 0 → M 1 19 + 1 ≤ M 1 17) ∧ M 1 14 ≤ M 1 19 | _ => False), fun a M r M' => (match a, r with | [.inr (.inr (12, th))], some (.inl v) => ((v = 0 ∨ (v = 1 ∧ pz_pg 0 0 M M')) ∧ pq_mu M M' v) ∧ pz_rl pz_Q1 M M' | _, _ => False))
noncomputable abbrev ct_X12_unit : List (Bool × Nat × pz_C) := [(false, 54, k_X12_isIn), (true, 188, k_X12_bad), (true, 204, k_X12_lay), (true, 191, k_X12_next0)]
theorem pz_wk_Q0_Q1 : ∀ b j, pz_Q0 b j → pz_Q1 b j := by
  intro b j q
  unfold pz_Q0 at q
  unfold pz_Q1
  omega
set_option maxRecDepth 100000 in
set_option maxHeartbeats 4000000 in
theorem h_X12_unit : pz_H yX12_unit cX12_unit 2 (some .boolean) k_X12_unit 9 190 := by
  refine pz_mk (own := RX12) (tb := t_X12_unit) (fl := pz_flf fl_RX12) (ci := pz_cif ci_RX12) (ct := pz_ctf ct_X12_unit) (rz := true) (pz_pfc_RX12 yX12_unit rfl) rfl t_X12_unit_ok (pz_flk fl_RX12_ok) (pz_cik ci_RX12_ok) ?_ ?_ (Or.inr ⟨rfl, rfl⟩) ?_ ?_
  · exact fun i k' h => pz_ctk (l := ct_X12_unit) (P := fun b i k => b = true → pz_cV 9 190 RX12 i k) (List.forall_mem_cons.mpr ⟨((fun z => by cases z)), List.forall_mem_cons.mpr ⟨(fun _ => v_X12_bad (by decide) (by decide) pz_wq1311), List.forall_mem_cons.mpr ⟨(fun _ => v_X12_lay (by decide) (by decide) pz_wq1327), List.forall_mem_cons.mpr ⟨(fun _ => v_X12_next0 (by decide) (by decide) pz_wq1243), fun _ h => absurd h List.not_mem_nil⟩⟩⟩⟩) true i k' h rfl
  · exact fun i k' h => pz_ctk (l := ct_X12_unit) (P := fun b i k => b = false → (pz_cS 9 190 RX12 i k ∨ (k = pz_kac ∧ 1 ≤ 9 ∧ 60 ≤ 190 ∧ Cond.methodLink RX12 i arraycopyName ∈ pz_tbl))) (List.forall_mem_cons.mpr ⟨(fun _ => Or.inl (s_X12_isIn (by decide) (by decide) (Or.inl pz_wq1217))), List.forall_mem_cons.mpr ⟨((fun z => by cases z)), List.forall_mem_cons.mpr ⟨((fun z => by cases z)), List.forall_mem_cons.mpr ⟨((fun z => by cases z)), fun _ h => absurd h List.not_mem_nil⟩⟩⟩⟩) false i k' h rfl
  · intro a M hlen hpre
    obtain ⟨th, rfl, hpre⟩ : ∃ th, a = [.inr (.inr (12, th))] ∧ (pz_im M ∧ M 1 19 ≤ M 1 17 ∧ (M 1 18 ≠ 0 → M 1 19 + 1 ≤ M 1 17) ∧ M 1 14 ≤ M 1 19) := by
      have hpre : (match (generalizing := false) a with | [.inr (.inr (12, th))] => pz_im M ∧ M 1 19 ≤ M 1 17 ∧ (M 1 18 ≠ 0 → M 1 19 + 1 ≤ M 1 17) ∧ M 1 14 ≤ M 1 19 | _ => False) := hpre
      split at hpre
      · exact ⟨_, rfl, hpre⟩
      · exact hpre.elim
    exact Nat.le_of_ble_eq_true rfl
  · intro a M hlen hcan hM hpre Ok hgo
    obtain ⟨th, rfl, hpre⟩ : ∃ th, a = [.inr (.inr (12, th))] ∧ (pz_im M ∧ M 1 19 ≤ M 1 17 ∧ (M 1 18 ≠ 0 → M 1 19 + 1 ≤ M 1 17) ∧ M 1 14 ≤ M 1 19) := by
      have hpre : (match (generalizing := false) a with | [.inr (.inr (12, th))] => pz_im M ∧ M 1 19 ≤ M 1 17 ∧ (M 1 18 ≠ 0 → M 1 19 + 1 ≤ M 1 17) ∧ M 1 14 ≤ M 1 19 | _ => False) := hpre
      split at hpre
      · exact ⟨_, rfl, hpre⟩
      · exact hpre.elim
    obtain ⟨k_th, hc_th⟩ := pz_tlm hcan
    have k_th : pz_kd th = 12 ∧ th < 231 := k_th
    have R_th := pz_kd12 k_th.1
    subst R_th
    clear k_th
    have hI : pz_im M := hpre.1
    have hI0 := hI
    have hS : pz_rl pz_Q1 M M := pz_rl.rf
    have I0 := hI.2.1.2.2.2.2.2.2.1
    have h14 := I0.1
    obtain ⟨-, pr1, pr2, pr3⟩ := hpre
    refine hgo (fun _ => false) 34 0 _ [] M ?_
    intro v1 e1 a1 b1
    refine And.intro (True.intro) ?_
    intro v8 M8 a8 b8 q8
    obtain ⟨q8, z8⟩ := q8
    subst z8
    clear a8 b8
    intro v13 e13 a13 b13
    refine And.intro (fun h17 => ?_) (fun h17 => ?_)
    · skip
      refine And.intro (fun h32 => ?_) (fun h32 => ?_)
      · skip
        replace q8 := q8.resolve_left (fun z => absurd (z.1.symm.trans h32) (by decide))
        intro v47 e47 a47 b47
        refine And.intro (And.intro hI (by have i19 := hI.2.1.2.2.2.2.1; omega)) ?_
        intro M50 q50
        obtain ⟨q50, z50⟩ := q50
        have hS : pz_rl pz_Q1 M M50 := hS.tr z50
        have hI : pz_im M50 := hS.1 hI0
        obtain ⟨q50, s50⟩ := q50
        have Y50 := q50
        obtain ⟨l50a, l50b, l50c, l50d, l50e, l50f, l50g, l50h⟩ := q50
        refine And.intro (hI) ?_
        intro M54 q54
        obtain ⟨q54, z54⟩ := q54
        have hS : pz_rl pz_Q1 M M54 := hS.tr (pz_rl.wk pz_wk_Q0_Q1 z54)
        have hI : pz_im M54 := hS.1 hI0
        obtain ⟨q54, s54⟩ := q54
        have f54 := pz_q0f z54
        obtain ⟨f54a, f54b, f54c⟩ := f54
        refine And.intro (by first | decide | omega) ?_
        refine And.intro rfl ?_
        first
          | exact ⟨⟨Or.inr ⟨rfl, pz_pg_one Y50 (by first | decide | omega) (by first | decide | omega) z54 q54⟩, pq_mu_n ⟨Y50, s50⟩ (by first | decide | omega) (by first | decide | omega) h14 (pq_Q1 z50) z54 s54⟩, hS⟩
          | exact ⟨⟨Or.inr ⟨rfl, pz_pg_one Y50 (by first | decide | omega) (by first | decide | omega) z54 q54⟩, pq_mu_w ⟨Y50, s50⟩ (by first | decide | omega) (by first | decide | omega) h14 (pq_Q1 z50) z54 s54⟩, hS⟩
      · skip
        replace q8 := q8.resolve_right (fun z => h32 z.1)
        replace h32 : 1 ≤ v8 := by omega
        intro v36 e36 a36 b36
        intro v41 e41 a41 b41
        rw [pz_wi (by first | decide | omega) (by first | decide | omega)] at e41
        clear a41 b41
        intro v47 e47 a47 b47
        refine And.intro (And.intro hI (by have i19 := hI.2.1.2.2.2.2.1; omega)) ?_
        intro M50 q50
        obtain ⟨q50, z50⟩ := q50
        have hS : pz_rl pz_Q1 M M50 := hS.tr z50
        have hI : pz_im M50 := hS.1 hI0
        obtain ⟨q50, s50⟩ := q50
        have Y50 := q50
        obtain ⟨l50a, l50b, l50c, l50d, l50e, l50f, l50g, l50h⟩ := q50
        refine And.intro (hI) ?_
        intro M54 q54
        obtain ⟨q54, z54⟩ := q54
        have hS : pz_rl pz_Q1 M M54 := hS.tr (pz_rl.wk pz_wk_Q0_Q1 z54)
        have hI : pz_im M54 := hS.1 hI0
        obtain ⟨q54, s54⟩ := q54
        have f54 := pz_q0f z54
        obtain ⟨f54a, f54b, f54c⟩ := f54
        refine And.intro (by first | decide | omega) ?_
        refine And.intro rfl ?_
        first
          | exact ⟨⟨Or.inr ⟨rfl, pz_pg_one Y50 (by first | decide | omega) (by first | decide | omega) z54 q54⟩, pq_mu_n ⟨Y50, s50⟩ (by first | decide | omega) (by first | decide | omega) h14 (pq_Q1 z50) z54 s54⟩, hS⟩
          | exact ⟨⟨Or.inr ⟨rfl, pz_pg_one Y50 (by first | decide | omega) (by first | decide | omega) z54 q54⟩, pq_mu_w ⟨Y50, s50⟩ (by first | decide | omega) (by first | decide | omega) h14 (pq_Q1 z50) z54 s54⟩, hS⟩
    · skip
      refine And.intro (fun h21 => ?_) (fun h21 => ?_)
      · skip
        replace q8 := q8.resolve_right (fun z => h21 z.1)
        replace h21 : 1 ≤ v8 := by omega
        refine And.intro (fun h32 => ?_) (fun h32 => ?_)
        · skip
          intro v47 e47 a47 b47
          refine And.intro (And.intro hI (by have i19 := hI.2.1.2.2.2.2.1; omega)) ?_
          intro M50 q50
          obtain ⟨q50, z50⟩ := q50
          have hS : pz_rl pz_Q1 M M50 := hS.tr z50
          have hI : pz_im M50 := hS.1 hI0
          obtain ⟨q50, s50⟩ := q50
          have Y50 := q50
          obtain ⟨l50a, l50b, l50c, l50d, l50e, l50f, l50g, l50h⟩ := q50
          refine And.intro (hI) ?_
          intro M54 q54
          obtain ⟨q54, z54⟩ := q54
          have hS : pz_rl pz_Q1 M M54 := hS.tr (pz_rl.wk pz_wk_Q0_Q1 z54)
          have hI : pz_im M54 := hS.1 hI0
          obtain ⟨q54, s54⟩ := q54
          have f54 := pz_q0f z54
          obtain ⟨f54a, f54b, f54c⟩ := f54
          refine And.intro (by first | decide | omega) ?_
          refine And.intro rfl ?_
          first
            | exact ⟨⟨Or.inr ⟨rfl, pz_pg_one Y50 (by first | decide | omega) (by first | decide | omega) z54 q54⟩, pq_mu_n ⟨Y50, s50⟩ (by first | decide | omega) (by first | decide | omega) h14 (pq_Q1 z50) z54 s54⟩, hS⟩
            | exact ⟨⟨Or.inr ⟨rfl, pz_pg_one Y50 (by first | decide | omega) (by first | decide | omega) z54 q54⟩, pq_mu_w ⟨Y50, s50⟩ (by first | decide | omega) (by first | decide | omega) h14 (pq_Q1 z50) z54 s54⟩, hS⟩
        · skip
          intro v36 e36 a36 b36
          intro v41 e41 a41 b41
          rw [pz_wi (by first | decide | omega) (by first | decide | omega)] at e41
          clear a41 b41
          intro v47 e47 a47 b47
          refine And.intro (And.intro hI (by have i19 := hI.2.1.2.2.2.2.1; omega)) ?_
          intro M50 q50
          obtain ⟨q50, z50⟩ := q50
          have hS : pz_rl pz_Q1 M M50 := hS.tr z50
          have hI : pz_im M50 := hS.1 hI0
          obtain ⟨q50, s50⟩ := q50
          have Y50 := q50
          obtain ⟨l50a, l50b, l50c, l50d, l50e, l50f, l50g, l50h⟩ := q50
          refine And.intro (hI) ?_
          intro M54 q54
          obtain ⟨q54, z54⟩ := q54
          have hS : pz_rl pz_Q1 M M54 := hS.tr (pz_rl.wk pz_wk_Q0_Q1 z54)
          have hI : pz_im M54 := hS.1 hI0
          obtain ⟨q54, s54⟩ := q54
          have f54 := pz_q0f z54
          obtain ⟨f54a, f54b, f54c⟩ := f54
          refine And.intro (by first | decide | omega) ?_
          refine And.intro rfl ?_
          first
            | exact ⟨⟨Or.inr ⟨rfl, pz_pg_one Y50 (by first | decide | omega) (by first | decide | omega) z54 q54⟩, pq_mu_n ⟨Y50, s50⟩ (by first | decide | omega) (by first | decide | omega) h14 (pq_Q1 z50) z54 s54⟩, hS⟩
            | exact ⟨⟨Or.inr ⟨rfl, pz_pg_one Y50 (by first | decide | omega) (by first | decide | omega) z54 q54⟩, pq_mu_w ⟨Y50, s50⟩ (by first | decide | omega) (by first | decide | omega) h14 (pq_Q1 z50) z54 s54⟩, hS⟩
      · skip
        replace q8 := q8.resolve_left (fun z => absurd (z.1.symm.trans h21) (by decide))
        refine And.intro (hI) ?_
        intro v26 M26 a26 b26 q26
        obtain ⟨q26, z26⟩ := q26
        have hS : pz_rl pz_Q1 M M26 := hS.tr (pz_rl.wk pz_wk_Q0_Q1 z26)
        have hI : pz_im M26 := hS.1 hI0
        clear a26 b26
        refine And.intro (by first | decide | omega) ?_
        refine And.intro rfl ?_
        exact ⟨⟨Or.inl (by first | decide | omega), pq_mu_b (by first | decide | omega) (by first | decide | omega) (by first | decide | omega) (by first | decide | omega)⟩, hS⟩
theorem v_X12_unit {fr lo i : Nat} {own : String} (h1 : 9 + 1 ≤ fr) (h2 : 8 + (2 + 11) + 190 ≤ lo) (h3 : .methodLink own i yX12_unit ∈ lw_tbl) : pz_cV fr lo own i k_X12_unit :=
  pz_cVk (maxL := 2) (fr' := 9) (lo' := 190) 0 12 h_X12_unit rfl ⟨(pz_nhc_RX12 yX12_unit rfl).1, (pz_nhc_RX12 yX12_unit rfl).2, pz_ds3⟩ ⟨pz_wq1326, pz_wq1325, pz_ws18, pz_wq13⟩ (Or.inl ⟨TX12, 28, rfl⟩) (fun a M _ h => by
    have h : (match (generalizing := false) a with | [.inr (.inr (12, th))] => pz_im M ∧ M 1 19 ≤ M 1 17 ∧ (M 1 18 ≠ 0 → M 1 19 + 1 ≤ M 1 17) ∧ M 1 14 ≤ M 1 19 | _ => False) := h
    split at h
    · exact ⟨_, _, rfl⟩
    · exact h.elim) h1 h2 h3
noncomputable def k_X12_product : pz_C := (1, 1, fun a M => (match a with | [.inr (.inr (12, th))] => pz_im M ∧ M 1 19 ≤ M 1 17 ∧ (M 1 18 ≠ 0 → M 1 19 + 1 ≤ M 1 17) ∧ M 1 14 ≤ M 1 19 | _ => False), fun a M r M' => (match a, r with | [.inr (.inr (12, th))], some (.inl v) => ((v = 0 ∨ (v = 1 ∧ pz_pg 0 0 M M')) ∧ pq_mg 1 0 M M' v) ∧ pz_rl pz_Q1 M M' | _, _ => False))
noncomputable abbrev ct_X12_product : List (Bool × Nat × pz_C) := [(true, 208, k_X12_unit), (true, 191, k_X12_next0), (true, 188, k_X12_bad), (true, 204, k_X12_lay)]
set_option maxRecDepth 100000 in
set_option maxHeartbeats 4000000 in
theorem h_X12_product : pz_H yX12_product cX12_product 3 (some .boolean) k_X12_product 10 211 := by
  refine pz_mk (own := RX12) (tb := t_X12_product) (fl := pz_flf fl_RX12) (ci := pz_cif ci_RX12) (ct := pz_ctf ct_X12_product) (rz := true) (pz_pfc_RX12 yX12_product rfl) rfl t_X12_product_ok (pz_flk fl_RX12_ok) (pz_cik ci_RX12_ok) ?_ ?_ (Or.inr ⟨rfl, rfl⟩) ?_ ?_
  · exact fun i k' h => pz_ctk (l := ct_X12_product) (P := fun b i k => b = true → pz_cV 10 211 RX12 i k) (List.forall_mem_cons.mpr ⟨(fun _ => v_X12_unit (by decide) (by decide) pz_wq1323), List.forall_mem_cons.mpr ⟨(fun _ => v_X12_next0 (by decide) (by decide) pz_wq1243), List.forall_mem_cons.mpr ⟨(fun _ => v_X12_bad (by decide) (by decide) pz_wq1311), List.forall_mem_cons.mpr ⟨(fun _ => v_X12_lay (by decide) (by decide) pz_wq1327), fun _ h => absurd h List.not_mem_nil⟩⟩⟩⟩) true i k' h rfl
  · exact fun i k' h => pz_ctk (l := ct_X12_product) (P := fun b i k => b = false → (pz_cS 10 211 RX12 i k ∨ (k = pz_kac ∧ 1 ≤ 10 ∧ 60 ≤ 211 ∧ Cond.methodLink RX12 i arraycopyName ∈ pz_tbl))) (List.forall_mem_cons.mpr ⟨((fun z => by cases z)), List.forall_mem_cons.mpr ⟨((fun z => by cases z)), List.forall_mem_cons.mpr ⟨((fun z => by cases z)), List.forall_mem_cons.mpr ⟨((fun z => by cases z)), fun _ h => absurd h List.not_mem_nil⟩⟩⟩⟩) false i k' h rfl
  · intro a M hlen hpre
    obtain ⟨th, rfl, hpre⟩ : ∃ th, a = [.inr (.inr (12, th))] ∧ (pz_im M ∧ M 1 19 ≤ M 1 17 ∧ (M 1 18 ≠ 0 → M 1 19 + 1 ≤ M 1 17) ∧ M 1 14 ≤ M 1 19) := by
      have hpre : (match (generalizing := false) a with | [.inr (.inr (12, th))] => pz_im M ∧ M 1 19 ≤ M 1 17 ∧ (M 1 18 ≠ 0 → M 1 19 + 1 ≤ M 1 17) ∧ M 1 14 ≤ M 1 19 | _ => False) := hpre
      split at hpre
      · exact ⟨_, rfl, hpre⟩
      · exact hpre.elim
    exact Nat.le_of_ble_eq_true rfl
  · intro a M hlen hcan hM hpre Ok hgo
    obtain ⟨th, rfl, hpre⟩ : ∃ th, a = [.inr (.inr (12, th))] ∧ (pz_im M ∧ M 1 19 ≤ M 1 17 ∧ (M 1 18 ≠ 0 → M 1 19 + 1 ≤ M 1 17) ∧ M 1 14 ≤ M 1 19) := by
      have hpre : (match (generalizing := false) a with | [.inr (.inr (12, th))] => pz_im M ∧ M 1 19 ≤ M 1 17 ∧ (M 1 18 ≠ 0 → M 1 19 + 1 ≤ M 1 17) ∧ M 1 14 ≤ M 1 19 | _ => False) := hpre
      split at hpre
      · exact ⟨_, rfl, hpre⟩
      · exact hpre.elim
    obtain ⟨k_th, hc_th⟩ := pz_tlm hcan
    have k_th : pz_kd th = 12 ∧ th < 231 := k_th
    have R_th := pz_kd12 k_th.1
    subst R_th
    clear k_th
    have hI : pz_im M := hpre.1
    have hI0 := hI
    have hS : pz_rl pz_Q1 M M := pz_rl.rf
    have I0 := hI.2.1.2.2.2.2.2.2.1
    have h14 := I0.1
    obtain ⟨-, pr1, pr2, pr3⟩ := hpre
    have L9 : ∀ (fu : Nat) (d1 : Option pz_V) (d2 : Option pz_V) (N9 : pz_M), (401 - N9 1 19).toNat < fu → (pz_rl pz_Q1 M N9) → (pz_pg 0 0 M N9) → (pq_sP M N9) → Ok 9 [some (.inr (.inr (12, 1))), d1, d2] [] N9 := by
      intro fu
      induction fu with
      | zero => exact fun _ _ _ hn => absurd hn (Nat.not_lt_zero _)
      | succ fu ih9 =>
        intro d1 d2 N9 hn9 hS g9_1 g9_2
        have hI : pz_im N9 := hS.1 hI0
        have i19 := hI.2.1.2.2.2.2.1
        have E9 := pq_Q1 hS
        have G9 := g9_1
        have KG9 := G9
        obtain ⟨⟨G91, G92⟩, G93, G94, G95, -, -⟩ := KG9
        refine hgo (fun p => Nat.beq p 9) 63 9 _ _ _ ?_
        intro v10 e10 a10 b10
        refine And.intro (fun h16 => ?_) (fun h16 => ?_)
        · skip
          intro v30 e30 a30 b30
          refine And.intro (fun h36 => ?_) (fun h36 => ?_)
          · skip
            refine And.intro (hI) ?_
            intro M46 q46
            obtain ⟨q46, z46⟩ := q46
            have hS : pz_rl pz_Q1 M M46 := hS.tr (pz_rl.wk pz_wk_Q0_Q1 z46)
            have hI : pz_im M46 := hS.1 hI0
            obtain ⟨q46, s46⟩ := q46
            have G46 := pz_pg_nx G9 (by first | decide | omega) z46 q46 (c' := 1) (by first | decide | omega)
            have KG46 := G46
            obtain ⟨⟨G461, G462⟩, G463, G464, G465, -, -⟩ := KG46
            refine And.intro (fun h50 => ?_) (fun h50 => ?_)
            · skip
              refine And.intro (And.intro hI (And.intro (by first | decide | omega) (And.intro (by first | decide | omega) (by first | decide | omega)))) ?_
              intro v97 M97 a97 b97 q97
              obtain ⟨q97, z97⟩ := q97
              have hS : pz_rl pz_Q1 M M97 := hS.tr z97
              have hI : pz_im M97 := hS.1 hI0
              obtain ⟨q97, s97⟩ := q97
              refine And.intro (fun h100 => ?_) (fun h100 => ?_)
              · skip
                have H100 := (q97.resolve_left h100).2
                have KH100 := H100
                obtain ⟨⟨H1001, H1002⟩, H1003, H1004, H1005, -, -⟩ := KH100
                refine And.intro (And.intro hI (by have i19 := hI.2.1.2.2.2.2.1; omega)) ?_
                intro M109 q109
                obtain ⟨q109, z109⟩ := q109
                have hS : pz_rl pz_Q1 M M109 := hS.tr z109
                have hI : pz_im M109 := hS.1 hI0
                obtain ⟨q109, s109⟩ := q109
                have Y109 := q109
                obtain ⟨l109a, l109b, l109c, l109d, l109e, l109f, l109g, l109h⟩ := q109
                have G109 := pz_pg_bi I0.1 G46 H100 Y109 (by first | decide | omega) (c' := 0) (by first | decide | omega)
                have P109 := pq_sP_m g9_2 E9 (by first | decide | omega) z46 s46 s97 h100 (pq_Q1 z97) ⟨Y109, s109⟩ (pq_Q1 z109) h14
                exact ih9 _ _ _ (by first | decide | omega) hS (by first | assumption | omega) (by first | assumption | omega)
              · skip
                skip
                refine And.intro (by first | decide | omega) ?_
                refine And.intro rfl ?_
                exact ⟨⟨Or.inl (by first | decide | omega), pq_sP_mb g9_2 E9 (by first | decide | omega) z46 s46 s97 h100⟩, hS⟩
            · skip
              exact absurd h50 (by decide)
          · skip
            refine And.intro (hI) ?_
            intro M46 q46
            obtain ⟨q46, z46⟩ := q46
            have hS : pz_rl pz_Q1 M M46 := hS.tr (pz_rl.wk pz_wk_Q0_Q1 z46)
            have hI : pz_im M46 := hS.1 hI0
            obtain ⟨q46, s46⟩ := q46
            have G46 := pz_pg_nx G9 (by first | decide | omega) z46 q46 (c' := 1) (by first | decide | omega)
            have KG46 := G46
            obtain ⟨⟨G461, G462⟩, G463, G464, G465, -, -⟩ := KG46
            refine And.intro (fun h50 => ?_) (fun h50 => ?_)
            · skip
              exact absurd h50 (by decide)
            · skip
              intro v54 e54 a54 b54
              intro v59 e59 a59 b59
              refine And.intro (fun h63 => ?_) (fun h63 => ?_)
              · skip
                refine And.intro (fun h73 => ?_) (fun h73 => ?_)
                · skip
                  refine And.intro (hI) ?_
                  intro M83 q83
                  obtain ⟨q83, z83⟩ := q83
                  have hS : pz_rl pz_Q1 M M83 := hS.tr (pz_rl.wk pz_wk_Q0_Q1 z83)
                  have hI : pz_im M83 := hS.1 hI0
                  obtain ⟨q83, s83⟩ := q83
                  have G83 := pz_pg_nx G46 (by first | decide | omega) z83 q83 (c' := 2) (by first | decide | omega)
                  have KG83 := G83
                  obtain ⟨⟨G831, G832⟩, G833, G834, G835, -, -⟩ := KG83
                  refine And.intro (And.intro hI (by have i19 := hI.2.1.2.2.2.2.1; omega)) ?_
                  intro M90 q90
                  obtain ⟨q90, z90⟩ := q90
                  have hS : pz_rl pz_Q1 M M90 := hS.tr z90
                  have hI : pz_im M90 := hS.1 hI0
                  obtain ⟨q90, s90⟩ := q90
                  have Y90 := q90
                  obtain ⟨l90a, l90b, l90c, l90d, l90e, l90f, l90g, l90h⟩ := q90
                  have G90 := pz_pg_un I0.1 G83 Y90 (Or.inl ⟨rfl, by omega⟩) (c' := 0) (by first | decide | omega)
                  have P90 := pq_sP_d g9_2 E9 (by first | decide | omega) z46 s46 (by first | decide | omega) (by first | decide | omega) z83 s83 ⟨Y90, s90⟩ (by first | decide | omega) (pq_Q1 z90) h14
                  exact ih9 _ _ _ (by first | decide | omega) hS (by first | assumption | omega) (by first | assumption | omega)
                · skip
                  refine And.intro (hI) ?_
                  intro v78 M78 a78 b78 q78
                  obtain ⟨q78, z78⟩ := q78
                  have hS : pz_rl pz_Q1 M M78 := hS.tr (pz_rl.wk pz_wk_Q0_Q1 z78)
                  have hI : pz_im M78 := hS.1 hI0
                  clear a78 b78
                  refine And.intro (by first | decide | omega) ?_
                  refine And.intro rfl ?_
                  exact ⟨⟨Or.inl (by first | decide | omega), by rw [show v78 = 0 from q78.1]; exact pq_sP_w g9_2 E9 (by first | decide | omega) z46 s46 (by first | decide | omega) q78.2.1 q78.2.2⟩, hS⟩
              · skip
                refine And.intro (hI) ?_
                intro v68 M68 a68 b68 q68
                obtain ⟨q68, z68⟩ := q68
                have hS : pz_rl pz_Q1 M M68 := hS.tr (pz_rl.wk pz_wk_Q0_Q1 z68)
                have hI : pz_im M68 := hS.1 hI0
                clear a68 b68
                refine And.intro (by first | decide | omega) ?_
                refine And.intro rfl ?_
                exact ⟨⟨Or.inl (by first | decide | omega), by rw [show v68 = 0 from q68.1]; exact pq_sP_w g9_2 E9 (by first | decide | omega) z46 s46 (by first | decide | omega) q68.2.1 q68.2.2⟩, hS⟩
        · skip
          intro v20 e20 a20 b20
          refine And.intro (fun h26 => ?_) (fun h26 => ?_)
          · skip
            refine And.intro (by first | decide | omega) ?_
            refine And.intro rfl ?_
            exact ⟨⟨Or.inr ⟨rfl, G9⟩, pq_sP_e g9_2 E9 (by first | decide | omega)⟩, hS⟩
          · skip
            intro v30 e30 a30 b30
            refine And.intro (fun h36 => ?_) (fun h36 => ?_)
            · skip
              refine And.intro (hI) ?_
              intro M46 q46
              obtain ⟨q46, z46⟩ := q46
              have hS : pz_rl pz_Q1 M M46 := hS.tr (pz_rl.wk pz_wk_Q0_Q1 z46)
              have hI : pz_im M46 := hS.1 hI0
              obtain ⟨q46, s46⟩ := q46
              have G46 := pz_pg_nx G9 (by first | decide | omega) z46 q46 (c' := 1) (by first | decide | omega)
              have KG46 := G46
              obtain ⟨⟨G461, G462⟩, G463, G464, G465, -, -⟩ := KG46
              refine And.intro (fun h50 => ?_) (fun h50 => ?_)
              · skip
                refine And.intro (And.intro hI (And.intro (by first | decide | omega) (And.intro (by first | decide | omega) (by first | decide | omega)))) ?_
                intro v97 M97 a97 b97 q97
                obtain ⟨q97, z97⟩ := q97
                have hS : pz_rl pz_Q1 M M97 := hS.tr z97
                have hI : pz_im M97 := hS.1 hI0
                obtain ⟨q97, s97⟩ := q97
                refine And.intro (fun h100 => ?_) (fun h100 => ?_)
                · skip
                  have H100 := (q97.resolve_left h100).2
                  have KH100 := H100
                  obtain ⟨⟨H1001, H1002⟩, H1003, H1004, H1005, -, -⟩ := KH100
                  refine And.intro (And.intro hI (by have i19 := hI.2.1.2.2.2.2.1; omega)) ?_
                  intro M109 q109
                  obtain ⟨q109, z109⟩ := q109
                  have hS : pz_rl pz_Q1 M M109 := hS.tr z109
                  have hI : pz_im M109 := hS.1 hI0
                  obtain ⟨q109, s109⟩ := q109
                  have Y109 := q109
                  obtain ⟨l109a, l109b, l109c, l109d, l109e, l109f, l109g, l109h⟩ := q109
                  have G109 := pz_pg_bi I0.1 G46 H100 Y109 (by first | decide | omega) (c' := 0) (by first | decide | omega)
                  have P109 := pq_sP_m g9_2 E9 (by first | decide | omega) z46 s46 s97 h100 (pq_Q1 z97) ⟨Y109, s109⟩ (pq_Q1 z109) h14
                  exact ih9 _ _ _ (by first | decide | omega) hS (by first | assumption | omega) (by first | assumption | omega)
                · skip
                  skip
                  refine And.intro (by first | decide | omega) ?_
                  refine And.intro rfl ?_
                  exact ⟨⟨Or.inl (by first | decide | omega), pq_sP_mb g9_2 E9 (by first | decide | omega) z46 s46 s97 h100⟩, hS⟩
              · skip
                exact absurd h50 (by decide)
            · skip
              refine And.intro (hI) ?_
              intro M46 q46
              obtain ⟨q46, z46⟩ := q46
              have hS : pz_rl pz_Q1 M M46 := hS.tr (pz_rl.wk pz_wk_Q0_Q1 z46)
              have hI : pz_im M46 := hS.1 hI0
              obtain ⟨q46, s46⟩ := q46
              have G46 := pz_pg_nx G9 (by first | decide | omega) z46 q46 (c' := 1) (by first | decide | omega)
              have KG46 := G46
              obtain ⟨⟨G461, G462⟩, G463, G464, G465, -, -⟩ := KG46
              refine And.intro (fun h50 => ?_) (fun h50 => ?_)
              · skip
                exact absurd h50 (by decide)
              · skip
                intro v54 e54 a54 b54
                intro v59 e59 a59 b59
                refine And.intro (fun h63 => ?_) (fun h63 => ?_)
                · skip
                  refine And.intro (fun h73 => ?_) (fun h73 => ?_)
                  · skip
                    refine And.intro (hI) ?_
                    intro M83 q83
                    obtain ⟨q83, z83⟩ := q83
                    have hS : pz_rl pz_Q1 M M83 := hS.tr (pz_rl.wk pz_wk_Q0_Q1 z83)
                    have hI : pz_im M83 := hS.1 hI0
                    obtain ⟨q83, s83⟩ := q83
                    have G83 := pz_pg_nx G46 (by first | decide | omega) z83 q83 (c' := 2) (by first | decide | omega)
                    have KG83 := G83
                    obtain ⟨⟨G831, G832⟩, G833, G834, G835, -, -⟩ := KG83
                    refine And.intro (And.intro hI (by have i19 := hI.2.1.2.2.2.2.1; omega)) ?_
                    intro M90 q90
                    obtain ⟨q90, z90⟩ := q90
                    have hS : pz_rl pz_Q1 M M90 := hS.tr z90
                    have hI : pz_im M90 := hS.1 hI0
                    obtain ⟨q90, s90⟩ := q90
                    have Y90 := q90
                    obtain ⟨l90a, l90b, l90c, l90d, l90e, l90f, l90g, l90h⟩ := q90
                    have G90 := pz_pg_un I0.1 G83 Y90 (Or.inl ⟨rfl, by omega⟩) (c' := 0) (by first | decide | omega)
                    have P90 := pq_sP_d g9_2 E9 (by first | decide | omega) z46 s46 (by first | decide | omega) (by first | decide | omega) z83 s83 ⟨Y90, s90⟩ (by first | decide | omega) (pq_Q1 z90) h14
                    exact ih9 _ _ _ (by first | decide | omega) hS (by first | assumption | omega) (by first | assumption | omega)
                  · skip
                    refine And.intro (hI) ?_
                    intro v78 M78 a78 b78 q78
                    obtain ⟨q78, z78⟩ := q78
                    have hS : pz_rl pz_Q1 M M78 := hS.tr (pz_rl.wk pz_wk_Q0_Q1 z78)
                    have hI : pz_im M78 := hS.1 hI0
                    clear a78 b78
                    refine And.intro (by first | decide | omega) ?_
                    refine And.intro rfl ?_
                    exact ⟨⟨Or.inl (by first | decide | omega), by rw [show v78 = 0 from q78.1]; exact pq_sP_w g9_2 E9 (by first | decide | omega) z46 s46 (by first | decide | omega) q78.2.1 q78.2.2⟩, hS⟩
                · skip
                  refine And.intro (hI) ?_
                  intro v68 M68 a68 b68 q68
                  obtain ⟨q68, z68⟩ := q68
                  have hS : pz_rl pz_Q1 M M68 := hS.tr (pz_rl.wk pz_wk_Q0_Q1 z68)
                  have hI : pz_im M68 := hS.1 hI0
                  clear a68 b68
                  refine And.intro (by first | decide | omega) ?_
                  refine And.intro rfl ?_
                  exact ⟨⟨Or.inl (by first | decide | omega), by rw [show v68 = 0 from q68.1]; exact pq_sP_w g9_2 E9 (by first | decide | omega) z46 s46 (by first | decide | omega) q68.2.1 q68.2.2⟩, hS⟩
    refine hgo (fun p => Nat.beq p 9) 63 0 _ [] M ?_
    refine And.intro (And.intro hI (And.intro (by first | decide | omega) (And.intro (by first | decide | omega) (by first | decide | omega)))) ?_
    intro v1 M1 a1 b1 q1
    obtain ⟨q1, z1⟩ := q1
    have hS : pz_rl pz_Q1 M M1 := hS.tr z1
    have hI : pz_im M1 := hS.1 hI0
    obtain ⟨q1, s1⟩ := q1
    refine And.intro (fun h4 => ?_) (fun h4 => ?_)
    · skip
      have G4 := (q1.resolve_left h4).2
      have KG4 := G4
      obtain ⟨⟨G41, G42⟩, G43, G44, G45, -, -⟩ := KG4
      have P4 := pq_sP_0 s1 h4
      exact L9 _ _ _ _ (Nat.lt_succ_self _) hS (by first | assumption | omega) (by first | assumption | omega)
    · skip
      skip
      refine And.intro (by first | decide | omega) ?_
      refine And.intro rfl ?_
      exact ⟨⟨Or.inl (by first | decide | omega), pq_sP_b s1 h4⟩, hS⟩
theorem v_X12_product {fr lo i : Nat} {own : String} (h1 : 10 + 1 ≤ fr) (h2 : 8 + (3 + 11) + 211 ≤ lo) (h3 : .methodLink own i yX12_product ∈ lw_tbl) : pz_cV fr lo own i k_X12_product :=
  pz_cVk (maxL := 3) (fr' := 10) (lo' := 211) 0 12 h_X12_product rfl ⟨(pz_nhc_RX12 yX12_product rfl).1, (pz_nhc_RX12 yX12_product rfl).2, pz_ds3⟩ ⟨pz_wq1322, pz_wq1321, pz_ws17, pz_wq13⟩ (Or.inl ⟨TX12, 28, rfl⟩) (fun a M _ h => by
    have h : (match (generalizing := false) a with | [.inr (.inr (12, th))] => pz_im M ∧ M 1 19 ≤ M 1 17 ∧ (M 1 18 ≠ 0 → M 1 19 + 1 ≤ M 1 17) ∧ M 1 14 ≤ M 1 19 | _ => False) := h
    split at h
    · exact ⟨_, _, rfl⟩
    · exact h.elim) h1 h2 h3
noncomputable def k_X12_sumUp : pz_C := (1, 1, fun a M => (match a with | [.inr (.inr (12, th))] => pz_im M ∧ M 1 19 ≤ M 1 17 ∧ (M 1 18 ≠ 0 → M 1 19 + 1 ≤ M 1 17) ∧ M 1 14 ≤ M 1 19 | _ => False), fun a M r M' => (match a, r with | [.inr (.inr (12, th))], some (.inl v) => ((v = 0 ∨ (v = 1 ∧ pz_pg 0 0 M M')) ∧ pq_mg 3 0 M M' v) ∧ pz_rl pz_Q1 M M' | _, _ => False))
noncomputable abbrev ct_X12_sumUp : List (Bool × Nat × pz_C) := [(true, 200, k_X12_product), (true, 191, k_X12_next0), (true, 204, k_X12_lay)]
set_option maxRecDepth 100000 in
set_option maxHeartbeats 4000000 in
theorem h_X12_sumUp : pz_H yX12_sumUp cX12_sumUp 2 (some .boolean) k_X12_sumUp 11 233 := by
  refine pz_mk (own := RX12) (tb := t_X12_sumUp) (fl := pz_flf fl_RX12) (ci := pz_cif ci_RX12) (ct := pz_ctf ct_X12_sumUp) (rz := true) (pz_pfc_RX12 yX12_sumUp rfl) rfl t_X12_sumUp_ok (pz_flk fl_RX12_ok) (pz_cik ci_RX12_ok) ?_ ?_ (Or.inr ⟨rfl, rfl⟩) ?_ ?_
  · exact fun i k' h => pz_ctk (l := ct_X12_sumUp) (P := fun b i k => b = true → pz_cV 11 233 RX12 i k) (List.forall_mem_cons.mpr ⟨(fun _ => v_X12_product (by decide) (by decide) pz_wq1319), List.forall_mem_cons.mpr ⟨(fun _ => v_X12_next0 (by decide) (by decide) pz_wq1243), List.forall_mem_cons.mpr ⟨(fun _ => v_X12_lay (by decide) (by decide) pz_wq1327), fun _ h => absurd h List.not_mem_nil⟩⟩⟩) true i k' h rfl
  · exact fun i k' h => pz_ctk (l := ct_X12_sumUp) (P := fun b i k => b = false → (pz_cS 11 233 RX12 i k ∨ (k = pz_kac ∧ 1 ≤ 11 ∧ 60 ≤ 233 ∧ Cond.methodLink RX12 i arraycopyName ∈ pz_tbl))) (List.forall_mem_cons.mpr ⟨((fun z => by cases z)), List.forall_mem_cons.mpr ⟨((fun z => by cases z)), List.forall_mem_cons.mpr ⟨((fun z => by cases z)), fun _ h => absurd h List.not_mem_nil⟩⟩⟩) false i k' h rfl
  · intro a M hlen hpre
    obtain ⟨th, rfl, hpre⟩ : ∃ th, a = [.inr (.inr (12, th))] ∧ (pz_im M ∧ M 1 19 ≤ M 1 17 ∧ (M 1 18 ≠ 0 → M 1 19 + 1 ≤ M 1 17) ∧ M 1 14 ≤ M 1 19) := by
      have hpre : (match (generalizing := false) a with | [.inr (.inr (12, th))] => pz_im M ∧ M 1 19 ≤ M 1 17 ∧ (M 1 18 ≠ 0 → M 1 19 + 1 ≤ M 1 17) ∧ M 1 14 ≤ M 1 19 | _ => False) := hpre
      split at hpre
      · exact ⟨_, rfl, hpre⟩
      · exact hpre.elim
    exact Nat.le_of_ble_eq_true rfl
  · intro a M hlen hcan hM hpre Ok hgo
    obtain ⟨th, rfl, hpre⟩ : ∃ th, a = [.inr (.inr (12, th))] ∧ (pz_im M ∧ M 1 19 ≤ M 1 17 ∧ (M 1 18 ≠ 0 → M 1 19 + 1 ≤ M 1 17) ∧ M 1 14 ≤ M 1 19) := by
      have hpre : (match (generalizing := false) a with | [.inr (.inr (12, th))] => pz_im M ∧ M 1 19 ≤ M 1 17 ∧ (M 1 18 ≠ 0 → M 1 19 + 1 ≤ M 1 17) ∧ M 1 14 ≤ M 1 19 | _ => False) := hpre
      split at hpre
      · exact ⟨_, rfl, hpre⟩
      · exact hpre.elim
    obtain ⟨k_th, hc_th⟩ := pz_tlm hcan
    have k_th : pz_kd th = 12 ∧ th < 231 := k_th
    have R_th := pz_kd12 k_th.1
    subst R_th
    clear k_th
    have hI : pz_im M := hpre.1
    have hI0 := hI
    have hS : pz_rl pz_Q1 M M := pz_rl.rf
    have I0 := hI.2.1.2.2.2.2.2.2.1
    have h14 := I0.1
    obtain ⟨-, pr1, pr2, pr3⟩ := hpre
    have L9 : ∀ (fu : Nat) (d1 : Option pz_V) (N9 : pz_M), (401 - N9 1 19).toNat < fu → (pz_rl pz_Q1 M N9) → (pz_pg 0 0 M N9) → (pq_sG 2 3 0 M N9) → Ok 9 [some (.inr (.inr (12, 1))), d1] [] N9 := by
      intro fu
      induction fu with
      | zero => exact fun _ _ hn => absurd hn (Nat.not_lt_zero _)
      | succ fu ih9 =>
        intro d1 N9 hn9 hS g9_1 g9_2
        have hI : pz_im N9 := hS.1 hI0
        have i19 := hI.2.1.2.2.2.2.1
        have E9 := pq_Q1 hS
        have G9 := g9_1
        have KG9 := G9
        obtain ⟨⟨G91, G92⟩, G93, G94, G95, -, -⟩ := KG9
        refine hgo (fun p => Nat.beq p 9) 37 9 _ _ _ ?_
        intro v10 e10 a10 b10
        refine And.intro (fun h16 => ?_) (fun h16 => ?_)
        · skip
          intro v30 e30 a30 b30
          refine And.intro (fun h36 => ?_) (fun h36 => ?_)
          · skip
            refine And.intro (hI) ?_
            intro M48 q48
            obtain ⟨q48, z48⟩ := q48
            have hS : pz_rl pz_Q1 M M48 := hS.tr (pz_rl.wk pz_wk_Q0_Q1 z48)
            have hI : pz_im M48 := hS.1 hI0
            obtain ⟨q48, s48⟩ := q48
            have G48 := pz_pg_nx G9 (by first | decide | omega) z48 q48 (c' := 1) (by first | decide | omega)
            have KG48 := G48
            obtain ⟨⟨G481, G482⟩, G483, G484, G485, -, -⟩ := KG48
            refine And.intro (And.intro hI (And.intro (by first | decide | omega) (And.intro (by first | decide | omega) (by first | decide | omega)))) ?_
            intro v52 M52 a52 b52 q52
            obtain ⟨q52, z52⟩ := q52
            have hS : pz_rl pz_Q1 M M52 := hS.tr z52
            have hI : pz_im M52 := hS.1 hI0
            obtain ⟨q52, s52⟩ := q52
            refine And.intro (fun h55 => ?_) (fun h55 => ?_)
            · skip
              have H55 := (q52.resolve_left h55).2
              have KH55 := H55
              obtain ⟨⟨H551, H552⟩, H553, H554, H555, -, -⟩ := KH55
              refine And.intro (And.intro hI (by have i19 := hI.2.1.2.2.2.2.1; omega)) ?_
              intro M63 q63
              obtain ⟨q63, z63⟩ := q63
              have hS : pz_rl pz_Q1 M M63 := hS.tr z63
              have hI : pz_im M63 := hS.1 hI0
              obtain ⟨q63, s63⟩ := q63
              have Y63 := q63
              obtain ⟨l63a, l63b, l63c, l63d, l63e, l63f, l63g, l63h⟩ := q63
              have G63 := pz_pg_bi I0.1 G48 H55 Y63 (by first | decide | omega) (c' := 0) (by first | decide | omega)
              have P63 := pq_sG_s (fun tk a b => pq_st1 (by have := pq_tkT tk; omega) a b) g9_2 E9 z48 s48 s52 h55 ⟨Y63, s63⟩ (by first | decide | omega) (pq_Q1 z63) h14
              exact ih9 _ _ (by first | decide | omega) hS (by first | assumption | omega) (by first | assumption | omega)
            · skip
              skip
              refine And.intro (by first | decide | omega) ?_
              refine And.intro rfl ?_
              exact ⟨⟨Or.inl (by first | decide | omega), pq_sG_sb (fun tk a => pz_gr.stb (by have := pq_tkT tk; omega) a) g9_2 E9 z48 s48 s52 h55⟩, hS⟩
          · skip
            refine And.intro (hI) ?_
            intro M48 q48
            obtain ⟨q48, z48⟩ := q48
            have hS : pz_rl pz_Q1 M M48 := hS.tr (pz_rl.wk pz_wk_Q0_Q1 z48)
            have hI : pz_im M48 := hS.1 hI0
            obtain ⟨q48, s48⟩ := q48
            have G48 := pz_pg_nx G9 (by first | decide | omega) z48 q48 (c' := 1) (by first | decide | omega)
            have KG48 := G48
            obtain ⟨⟨G481, G482⟩, G483, G484, G485, -, -⟩ := KG48
            refine And.intro (And.intro hI (And.intro (by first | decide | omega) (And.intro (by first | decide | omega) (by first | decide | omega)))) ?_
            intro v52 M52 a52 b52 q52
            obtain ⟨q52, z52⟩ := q52
            have hS : pz_rl pz_Q1 M M52 := hS.tr z52
            have hI : pz_im M52 := hS.1 hI0
            obtain ⟨q52, s52⟩ := q52
            refine And.intro (fun h55 => ?_) (fun h55 => ?_)
            · skip
              have H55 := (q52.resolve_left h55).2
              have KH55 := H55
              obtain ⟨⟨H551, H552⟩, H553, H554, H555, -, -⟩ := KH55
              refine And.intro (And.intro hI (by have i19 := hI.2.1.2.2.2.2.1; omega)) ?_
              intro M63 q63
              obtain ⟨q63, z63⟩ := q63
              have hS : pz_rl pz_Q1 M M63 := hS.tr z63
              have hI : pz_im M63 := hS.1 hI0
              obtain ⟨q63, s63⟩ := q63
              have Y63 := q63
              obtain ⟨l63a, l63b, l63c, l63d, l63e, l63f, l63g, l63h⟩ := q63
              have G63 := pz_pg_bi I0.1 G48 H55 Y63 (by first | decide | omega) (c' := 0) (by first | decide | omega)
              have P63 := pq_sG_s (fun tk a b => pq_st1 (by have := pq_tkT tk; omega) a b) g9_2 E9 z48 s48 s52 h55 ⟨Y63, s63⟩ (by first | decide | omega) (pq_Q1 z63) h14
              exact ih9 _ _ (by first | decide | omega) hS (by first | assumption | omega) (by first | assumption | omega)
            · skip
              skip
              refine And.intro (by first | decide | omega) ?_
              refine And.intro rfl ?_
              exact ⟨⟨Or.inl (by first | decide | omega), pq_sG_sb (fun tk a => pz_gr.stb (by have := pq_tkT tk; omega) a) g9_2 E9 z48 s48 s52 h55⟩, hS⟩
        · skip
          intro v20 e20 a20 b20
          refine And.intro (fun h26 => ?_) (fun h26 => ?_)
          · skip
            refine And.intro (by first | decide | omega) ?_
            refine And.intro rfl ?_
            exact ⟨⟨Or.inr ⟨rfl, G9⟩, pq_sG_e (fun tk => pz_gr.st0 (by have := pq_tkT tk; omega) (by have := pq_tkT tk; omega)) g9_2 E9⟩, hS⟩
          · skip
            intro v30 e30 a30 b30
            refine And.intro (fun h36 => ?_) (fun h36 => ?_)
            · skip
              refine And.intro (hI) ?_
              intro M48 q48
              obtain ⟨q48, z48⟩ := q48
              have hS : pz_rl pz_Q1 M M48 := hS.tr (pz_rl.wk pz_wk_Q0_Q1 z48)
              have hI : pz_im M48 := hS.1 hI0
              obtain ⟨q48, s48⟩ := q48
              have G48 := pz_pg_nx G9 (by first | decide | omega) z48 q48 (c' := 1) (by first | decide | omega)
              have KG48 := G48
              obtain ⟨⟨G481, G482⟩, G483, G484, G485, -, -⟩ := KG48
              refine And.intro (And.intro hI (And.intro (by first | decide | omega) (And.intro (by first | decide | omega) (by first | decide | omega)))) ?_
              intro v52 M52 a52 b52 q52
              obtain ⟨q52, z52⟩ := q52
              have hS : pz_rl pz_Q1 M M52 := hS.tr z52
              have hI : pz_im M52 := hS.1 hI0
              obtain ⟨q52, s52⟩ := q52
              refine And.intro (fun h55 => ?_) (fun h55 => ?_)
              · skip
                have H55 := (q52.resolve_left h55).2
                have KH55 := H55
                obtain ⟨⟨H551, H552⟩, H553, H554, H555, -, -⟩ := KH55
                refine And.intro (And.intro hI (by have i19 := hI.2.1.2.2.2.2.1; omega)) ?_
                intro M63 q63
                obtain ⟨q63, z63⟩ := q63
                have hS : pz_rl pz_Q1 M M63 := hS.tr z63
                have hI : pz_im M63 := hS.1 hI0
                obtain ⟨q63, s63⟩ := q63
                have Y63 := q63
                obtain ⟨l63a, l63b, l63c, l63d, l63e, l63f, l63g, l63h⟩ := q63
                have G63 := pz_pg_bi I0.1 G48 H55 Y63 (by first | decide | omega) (c' := 0) (by first | decide | omega)
                have P63 := pq_sG_s (fun tk a b => pq_st1 (by have := pq_tkT tk; omega) a b) g9_2 E9 z48 s48 s52 h55 ⟨Y63, s63⟩ (by first | decide | omega) (pq_Q1 z63) h14
                exact ih9 _ _ (by first | decide | omega) hS (by first | assumption | omega) (by first | assumption | omega)
              · skip
                skip
                refine And.intro (by first | decide | omega) ?_
                refine And.intro rfl ?_
                exact ⟨⟨Or.inl (by first | decide | omega), pq_sG_sb (fun tk a => pz_gr.stb (by have := pq_tkT tk; omega) a) g9_2 E9 z48 s48 s52 h55⟩, hS⟩
            · skip
              refine And.intro (hI) ?_
              intro M48 q48
              obtain ⟨q48, z48⟩ := q48
              have hS : pz_rl pz_Q1 M M48 := hS.tr (pz_rl.wk pz_wk_Q0_Q1 z48)
              have hI : pz_im M48 := hS.1 hI0
              obtain ⟨q48, s48⟩ := q48
              have G48 := pz_pg_nx G9 (by first | decide | omega) z48 q48 (c' := 1) (by first | decide | omega)
              have KG48 := G48
              obtain ⟨⟨G481, G482⟩, G483, G484, G485, -, -⟩ := KG48
              refine And.intro (And.intro hI (And.intro (by first | decide | omega) (And.intro (by first | decide | omega) (by first | decide | omega)))) ?_
              intro v52 M52 a52 b52 q52
              obtain ⟨q52, z52⟩ := q52
              have hS : pz_rl pz_Q1 M M52 := hS.tr z52
              have hI : pz_im M52 := hS.1 hI0
              obtain ⟨q52, s52⟩ := q52
              refine And.intro (fun h55 => ?_) (fun h55 => ?_)
              · skip
                have H55 := (q52.resolve_left h55).2
                have KH55 := H55
                obtain ⟨⟨H551, H552⟩, H553, H554, H555, -, -⟩ := KH55
                refine And.intro (And.intro hI (by have i19 := hI.2.1.2.2.2.2.1; omega)) ?_
                intro M63 q63
                obtain ⟨q63, z63⟩ := q63
                have hS : pz_rl pz_Q1 M M63 := hS.tr z63
                have hI : pz_im M63 := hS.1 hI0
                obtain ⟨q63, s63⟩ := q63
                have Y63 := q63
                obtain ⟨l63a, l63b, l63c, l63d, l63e, l63f, l63g, l63h⟩ := q63
                have G63 := pz_pg_bi I0.1 G48 H55 Y63 (by first | decide | omega) (c' := 0) (by first | decide | omega)
                have P63 := pq_sG_s (fun tk a b => pq_st1 (by have := pq_tkT tk; omega) a b) g9_2 E9 z48 s48 s52 h55 ⟨Y63, s63⟩ (by first | decide | omega) (pq_Q1 z63) h14
                exact ih9 _ _ (by first | decide | omega) hS (by first | assumption | omega) (by first | assumption | omega)
              · skip
                skip
                refine And.intro (by first | decide | omega) ?_
                refine And.intro rfl ?_
                exact ⟨⟨Or.inl (by first | decide | omega), pq_sG_sb (fun tk a => pz_gr.stb (by have := pq_tkT tk; omega) a) g9_2 E9 z48 s48 s52 h55⟩, hS⟩
    refine hgo (fun p => Nat.beq p 9) 37 0 _ [] M ?_
    refine And.intro (And.intro hI (And.intro (by first | decide | omega) (And.intro (by first | decide | omega) (by first | decide | omega)))) ?_
    intro v1 M1 a1 b1 q1
    obtain ⟨q1, z1⟩ := q1
    have hS : pz_rl pz_Q1 M M1 := hS.tr z1
    have hI : pz_im M1 := hS.1 hI0
    obtain ⟨q1, s1⟩ := q1
    refine And.intro (fun h4 => ?_) (fun h4 => ?_)
    · skip
      have G4 := (q1.resolve_left h4).2
      have KG4 := G4
      obtain ⟨⟨G41, G42⟩, G43, G44, G45, -, -⟩ := KG4
      have P4 : pq_sG 2 3 0 M M1 := pq_sG_0 (fun a b => pz_gr.sms a b) s1 h4
      exact L9 _ _ _ (Nat.lt_succ_self _) hS (by first | assumption | omega) (by first | assumption | omega)
    · skip
      skip
      refine And.intro (by first | decide | omega) ?_
      refine And.intro rfl ?_
      exact ⟨⟨Or.inl (by first | decide | omega), pq_sG_b (fun a => pz_gr.smb a) s1 h4⟩, hS⟩
theorem v_X12_sumUp {fr lo i : Nat} {own : String} (h1 : 11 + 1 ≤ fr) (h2 : 8 + (2 + 11) + 233 ≤ lo) (h3 : .methodLink own i yX12_sumUp ∈ lw_tbl) : pz_cV fr lo own i k_X12_sumUp :=
  pz_cVk (maxL := 2) (fr' := 11) (lo' := 233) 0 12 h_X12_sumUp rfl ⟨(pz_nhc_RX12 yX12_sumUp rfl).1, (pz_nhc_RX12 yX12_sumUp rfl).2, pz_ds3⟩ ⟨pz_wq1318, pz_wq1317, pz_ws16, pz_wq13⟩ (Or.inl ⟨TX12, 28, rfl⟩) (fun a M _ h => by
    have h : (match (generalizing := false) a with | [.inr (.inr (12, th))] => pz_im M ∧ M 1 19 ≤ M 1 17 ∧ (M 1 18 ≠ 0 → M 1 19 + 1 ≤ M 1 17) ∧ M 1 14 ≤ M 1 19 | _ => False) := h
    split at h
    · exact ⟨_, _, rfl⟩
    · exact h.elim) h1 h2 h3
