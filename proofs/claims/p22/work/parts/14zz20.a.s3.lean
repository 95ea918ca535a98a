noncomputable def k3_J9_floorDiv_7cf53 : pz_C := (2, 1, fun a M => (match a with | [.inl x, .inl y] => y = 4 ∨ y = 1000 | _ => False), fun a M r M' => (match a, r with | [.inl x, .inl y], some (.inl v) => (v = x / y) ∧ M = M' | _, _ => False))
noncomputable abbrev ct3_J9_floorDiv_7cf53 : List (Bool × Nat × pz_C) := []
set_option maxRecDepth 100000 in
set_option maxHeartbeats 4000000 in
theorem h3_J9_floorDiv_7cf53 : pz_H yJ9_floorDiv_7cf53 cJ9_floorDiv_7cf53 3 (some .int) k3_J9_floorDiv_7cf53 0 0 := by
  refine pz_mk (own := RJ9) (tb := t_J9_floorDiv_7cf53) (fl := fun _ => none) (ci := fun _ => none) (ct := pz_ctf ct3_J9_floorDiv_7cf53) (rz := false) (by decide +kernel) rfl t_J9_floorDiv_7cf53_ok (fun i v h => by cases h) (fun i v h => by cases h) ?_ ?_ (Or.inl ⟨rfl, rfl⟩) ?_ ?_
  · exact fun i k' h => pz_ctk (l := ct3_J9_floorDiv_7cf53) (P := fun b i k => b = true → pz_cV 0 0 RJ9 i k) (fun _ h => absurd h List.not_mem_nil) true i k' h rfl
  · exact fun i k' h => pz_ctk (l := ct3_J9_floorDiv_7cf53) (P := fun b i k => b = false → (pz_cS 0 0 RJ9 i k ∨ (k = pz_kac ∧ 1 ≤ 0 ∧ 60 ≤ 0 ∧ Cond.methodLink RJ9 i arraycopyName ∈ pz_tbl))) (fun _ h => absurd h List.not_mem_nil) false i k' h rfl
  · intro a M hlen hpre
    obtain ⟨x, y, rfl, hpre⟩ : ∃ x y, a = [.inl x, .inl y] ∧ (y = 4 ∨ y = 1000) := by
      have hpre : (match (generalizing := false) a with | [.inl x, .inl y] => y = 4 ∨ y = 1000 | _ => False) := hpre
      split at hpre
      · exact ⟨_, _, rfl, hpre⟩
      · exact hpre.elim
    exact Nat.le_of_ble_eq_true rfl
  · intro a M hlen hcan hM hpre Ok hgo
    obtain ⟨x, y, rfl, hpre⟩ : ∃ x y, a = [.inl x, .inl y] ∧ (y = 4 ∨ y = 1000) := by
      have hpre : (match (generalizing := false) a with | [.inl x, .inl y] => y = 4 ∨ y = 1000 | _ => False) := hpre
      split at hpre
      · exact ⟨_, _, rfl, hpre⟩
      · exact hpre.elim
    obtain ⟨k_x, hc_x⟩ := pz_tlm hcan
    have l_x : -2147483648 ≤ x := k_x.1
    have u_x : x ≤ 2147483647 := k_x.2
    obtain ⟨k_y, hc_y⟩ := pz_tlm hc_x
    have l_y : -2147483648 ≤ y := k_y.1
    have u_y : y ≤ 2147483647 := k_y.2
    refine hgo (fun _ => false) 21 0 _ [] M ?_
    refine And.intro (by first | decide | omega) ?_
    intro v2 e2 a2 b2
    intro v6 e6 a6 b6
    have S6 := pz_xs (x := x) (y := y) ⟨by omega, by omega⟩ (by first | decide | omega)
    rw [← e6] at S6
    refine And.intro (fun h7 => ?_) (fun h7 => ?_)
    · skip
      refine And.intro rfl ?_
      refine ⟨pz_fdv hpre ⟨by omega, by omega⟩ e2 ?_, rfl⟩
      first | exact Or.inl ⟨by omega, rfl⟩ | exact Or.inr (Or.inl ⟨by omega, by rw [← e12]; assumption, rfl⟩) | exact Or.inr (Or.inr ⟨by omega, by rw [← e12]; assumption, by assumption⟩)
    · skip
      intro v12 e12 a12 b12
      refine And.intro (fun h14 => ?_) (fun h14 => ?_)
      · skip
        refine And.intro rfl ?_
        refine ⟨pz_fdv hpre ⟨by omega, by omega⟩ e2 ?_, rfl⟩
        first | exact Or.inl ⟨by omega, rfl⟩ | exact Or.inr (Or.inl ⟨by omega, by rw [← e12]; assumption, rfl⟩) | exact Or.inr (Or.inr ⟨by omega, by rw [← e12]; assumption, by assumption⟩)
      · skip
        intro v19 e19 a19 b19
        try rw [pz_wi (by first | decide | omega) (by first | decide | omega)] at e19
        refine And.intro rfl ?_
        refine ⟨pz_fdv hpre ⟨by omega, by omega⟩ e2 ?_, rfl⟩
        first | exact Or.inl ⟨by omega, rfl⟩ | exact Or.inr (Or.inl ⟨by omega, by rw [← e12]; assumption, rfl⟩) | exact Or.inr (Or.inr ⟨by omega, by rw [← e12]; assumption, by assumption⟩)
theorem s3_J9_floorDiv_7cf53 {fr lo i : Nat} {own : String} (h1 : 0 + 1 ≤ fr) (h2 : 8 + (3 + 11) + 0 ≤ lo) (h3 : .methodLink own i yJ9_floorDiv_7cf53 ∈ lw_tbl ∨ (own = RX1 ∧ i = 35 ∧ yJ9_floorDiv_7cf53 = yX11_within)) : pz_cS fr lo own i k3_J9_floorDiv_7cf53 := pz_cSk (maxL := 3) (fr' := 0) (lo' := 0) 2 h3_J9_floorDiv_7cf53 rfl ⟨(pz_nhc_RJ9 yJ9_floorDiv_7cf53 rfl).1, (pz_nhc_RJ9 yJ9_floorDiv_7cf53 rfl).2, pz_ds10⟩ ⟨pz_wq515, pz_wq514, pz_wq14⟩ h1 h2 h3
noncomputable def k3_X3_untold : pz_C := (2, 1, fun a M => (match a with | [.inl w, .inr (.inr (5, c))] => pz_ic M | _ => False), fun a M r M' => (match a, r with | [.inl w, .inr (.inr (5, c))], some (.inl v) => (v = pz_utd w (M c 3) (M c 2)) ∧ M = M' | _, _ => False))
noncomputable abbrev ct3_X3_untold : List (Bool × Nat × pz_C) := [(false, 69, k3_J9_floorDiv_7cf53)]
set_option maxRecDepth 100000 in
set_option maxHeartbeats 4000000 in
theorem h3_X3_untold : pz_H yX3_untold cX3_untold 2 (some .int) k3_X3_untold 1 22 := by
  refine pz_mk (own := RX3) (tb := t_X3_untold) (fl := pz_flf fl_RX3) (ci := fun _ => none) (ct := pz_ctf ct3_X3_untold) (rz := false) (pz_pfc_RX3 yX3_untold rfl) rfl t_X3_untold_ok (pz_flk fl_RX3_ok) (fun i v h => by cases h) ?_ ?_ (Or.inl ⟨rfl, rfl⟩) ?_ ?_
  · exact fun i k' h => pz_ctk (l := ct3_X3_untold) (P := fun b i k => b = true → pz_cV 1 22 RX3 i k) (List.forall_mem_cons.mpr ⟨((fun z => by cases z)), fun _ h => absurd h List.not_mem_nil⟩) true i k' h rfl
  · exact fun i k' h => pz_ctk (l := ct3_X3_untold) (P := fun b i k => b = false → (pz_cS 1 22 RX3 i k ∨ (k = pz_kac ∧ 1 ≤ 1 ∧ 60 ≤ 22 ∧ Cond.methodLink RX3 i arraycopyName ∈ pz_tbl))) (List.forall_mem_cons.mpr ⟨(fun _ => Or.inl (s3_J9_floorDiv_7cf53 (by decide) (by decide) (Or.inl pz_wq513))), fun _ h => absurd h List.not_mem_nil⟩) false i k' h rfl
  · intro a M hlen hpre
    obtain ⟨w, c, rfl, hpre⟩ : ∃ w c, a = [.inl w, .inr (.inr (5, c))] ∧ (pz_ic M) := by
      have hpre : (match (generalizing := false) a with | [.inl w, .inr (.inr (5, c))] => pz_ic M | _ => False) := hpre
      split at hpre
      · exact ⟨_, _, rfl, hpre⟩
      · exact hpre.elim
    exact Nat.le_of_ble_eq_true rfl
  · intro a M hlen hcan hM hpre Ok hgo
    obtain ⟨w, c, rfl, hpre⟩ : ∃ w c, a = [.inl w, .inr (.inr (5, c))] ∧ (pz_ic M) := by
      have hpre : (match (generalizing := false) a with | [.inl w, .inr (.inr (5, c))] => pz_ic M | _ => False) := hpre
      split at hpre
      · exact ⟨_, _, rfl, hpre⟩
      · exact hpre.elim
    obtain ⟨k_w, hc_w⟩ := pz_tlm hcan
    have l_w : -2147483648 ≤ w := k_w.1
    have u_w : w ≤ 2147483647 := k_w.2
    obtain ⟨k_c, hc_c⟩ := pz_tlm hc_w
    have k_c : pz_kd c = 5 ∧ c < 231 := k_c
    have R_c := pz_kd5 k_c.1
    have hI : pz_ic M := hpre
    refine hgo (fun _ => false) 20 0 _ [] M ?_
    refine And.intro ?_ ?_
    · skip
      refine And.intro (fun h1 => ?_) ?_
      · skip
        intro v38 e38 a38 b38
        intro v41 e41 a41 b41
        intro v42 e42 a42 b42
        refine And.intro rfl ?_
        refine ⟨?_, rfl⟩
        unfold pz_utd
        first
          | (rw [if_pos (by first | decide | omega), e42, e41, e38])
          | (rw [if_neg (by first | decide | omega), if_pos (by first | decide | omega), q49, e45])
          | (rw [if_neg (by first | decide | omega), if_neg (by first | decide | omega), if_pos (by first | decide | omega)])
          | (rw [if_neg (by first | decide | omega), if_neg (by first | decide | omega), if_neg (by first | decide | omega)])
      refine And.intro (fun h1 => ?_) ?_
      · skip
        refine And.intro rfl ?_
        refine ⟨?_, rfl⟩
        unfold pz_utd
        first
          | (rw [if_pos (by first | decide | omega), e42, e41, e38])
          | (rw [if_neg (by first | decide | omega), if_pos (by first | decide | omega), q49, e45])
          | (rw [if_neg (by first | decide | omega), if_neg (by first | decide | omega), if_pos (by first | decide | omega)])
          | (rw [if_neg (by first | decide | omega), if_neg (by first | decide | omega), if_neg (by first | decide | omega)])
      refine And.intro (fun h1 => ?_) ?_
      · skip
        intro v45 e45 a45 b45
        refine And.intro (by first | exact Or.inl rfl | exact Or.inr rfl) ?_
        intro v49 M49 a49 b49 q49
        obtain ⟨q49, z49⟩ := q49
        subst z49
        refine And.intro rfl ?_
        refine ⟨?_, rfl⟩
        unfold pz_utd
        first
          | (rw [if_pos (by first | decide | omega), e42, e41, e38])
          | (rw [if_neg (by first | decide | omega), if_pos (by first | decide | omega), q49, e45])
          | (rw [if_neg (by first | decide | omega), if_neg (by first | decide | omega), if_pos (by first | decide | omega)])
          | (rw [if_neg (by first | decide | omega), if_neg (by first | decide | omega), if_neg (by first | decide | omega)])
      refine And.intro (fun h1 => ?_) ?_
      · skip
        refine And.intro rfl ?_
        refine ⟨?_, rfl⟩
        unfold pz_utd
        first
          | (rw [if_pos (by first | decide | omega), e42, e41, e38])
          | (rw [if_neg (by first | decide | omega), if_pos (by first | decide | omega), q49, e45])
          | (rw [if_neg (by first | decide | omega), if_neg (by first | decide | omega), if_pos (by first | decide | omega)])
          | (rw [if_neg (by first | decide | omega), if_neg (by first | decide | omega), if_neg (by first | decide | omega)])
      exact True.intro
    · intro h1
      refine And.intro rfl ?_
      refine ⟨?_, rfl⟩
      unfold pz_utd
      first
        | (rw [if_pos (by first | decide | omega), e42, e41, e38])
        | (rw [if_neg (by first | decide | omega), if_pos (by first | decide | omega), q49, e45])
        | (rw [if_neg (by first | decide | omega), if_neg (by first | decide | omega), if_pos (by first | decide | omega)])
        | (rw [if_neg (by first | decide | omega), if_neg (by first | decide | omega), if_neg (by first | decide | omega)])
theorem s3_X3_untold {fr lo i : Nat} {own : String} (h1 : 1 + 1 ≤ fr) (h2 : 8 + (2 + 11) + 22 ≤ lo) (h3 : .methodLink own i yX3_untold ∈ lw_tbl ∨ (own = RX1 ∧ i = 35 ∧ yX3_untold = yX11_within)) : pz_cS fr lo own i k3_X3_untold := pz_cSk (maxL := 2) (fr' := 1) (lo' := 22) 2 h3_X3_untold rfl ⟨(pz_nhc_RX3 yX3_untold rfl).1, (pz_nhc_RX3 yX3_untold rfl).2, pz_ds26⟩ ⟨pz_wq512, pz_wq511, pz_wq5⟩ h1 h2 h3
noncomputable def k3_X3_held : pz_C := (2, 1, fun a M => (match a with | [.inl w, .inl x] => True | _ => False), fun a M r M' => (match a, r with | [.inl w, .inl x], some (.inl v) => ((0 ≤ v ∧ v ≤ 1000) ∧ v = pv_hold (pc_mo w) x) ∧ M = M' | _, _ => False))
noncomputable abbrev ct3_X3_held : List (Bool × Nat × pz_C) := [(false, 74, k_J9_min_7cf53), (false, 77, k_J9_max_7cf53)]
set_option maxRecDepth 100000 in
set_option maxHeartbeats 4000000 in
theorem h3_X3_held : pz_H yX3_held cX3_held 3 (some .int) k3_X3_held 1 21 := by
  refine pz_mk (own := RX3) (tb := t_X3_held) (fl := pz_flf fl_RX3) (ci := fun _ => none) (ct := pz_ctf ct3_X3_held) (rz := false) (pz_pfc_RX3 yX3_held rfl) rfl t_X3_held_ok (pz_flk fl_RX3_ok) (fun i v h => by cases h) ?_ ?_ (Or.inl ⟨rfl, rfl⟩) ?_ ?_
  · exact fun i k' h => pz_ctk (l := ct3_X3_held) (P := fun b i k => b = true → pz_cV 1 21 RX3 i k) (List.forall_mem_cons.mpr ⟨((fun z => by cases z)), List.forall_mem_cons.mpr ⟨((fun z => by cases z)), fun _ h => absurd h List.not_mem_nil⟩⟩) true i k' h rfl
  · exact fun i k' h => pz_ctk (l := ct3_X3_held) (P := fun b i k => b = false → (pz_cS 1 21 RX3 i k ∨ (k = pz_kac ∧ 1 ≤ 1 ∧ 60 ≤ 21 ∧ Cond.methodLink RX3 i arraycopyName ∈ pz_tbl))) (List.forall_mem_cons.mpr ⟨(fun _ => Or.inl (s_J9_min_7cf53 (by decide) (by decide) (Or.inl pz_wq505))), List.forall_mem_cons.mpr ⟨(fun _ => Or.inl (s_J9_max_7cf53 (by decide) (by decide) (Or.inl pz_wq506))), fun _ h => absurd h List.not_mem_nil⟩⟩) false i k' h rfl
  · intro a M hlen hpre
    obtain ⟨w, x, rfl, hpre⟩ : ∃ w x, a = [.inl w, .inl x] ∧ (True) := by
      have hpre : (match (generalizing := false) a with | [.inl w, .inl x] => True | _ => False) := hpre
      split at hpre
      · exact ⟨_, _, rfl, hpre⟩
      · exact hpre.elim
    exact Nat.le_of_ble_eq_true rfl
  · intro a M hlen hcan hM hpre Ok hgo
    obtain ⟨w, x, rfl, hpre⟩ : ∃ w x, a = [.inl w, .inl x] ∧ (True) := by
      have hpre : (match (generalizing := false) a with | [.inl w, .inl x] => True | _ => False) := hpre
      split at hpre
      · exact ⟨_, _, rfl, hpre⟩
      · exact hpre.elim
    obtain ⟨k_w, hc_w⟩ := pz_tlm hcan
    have l_w : -2147483648 ≤ w := k_w.1
    have u_w : w ≤ 2147483647 := k_w.2
    obtain ⟨k_x, hc_x⟩ := pz_tlm hc_w
    have l_x : -2147483648 ≤ x := k_x.1
    have u_x : x ≤ 2147483647 := k_x.2
    refine hgo (fun _ => false) 20 0 _ [] M ?_
    refine And.intro (fun h2 => ?_) (fun h2 => ?_)
    · skip
      refine And.intro (fun h13 => ?_) (fun h13 => ?_)
      · skip
        refine And.intro (True.intro) ?_
        intro v28 M28 a28 b28 q28
        obtain ⟨q28, z28⟩ := q28
        subst z28
        refine And.intro (True.intro) ?_
        intro v31 M31 a31 b31 q31
        obtain ⟨q31, z31⟩ := q31
        subst z31
        refine And.intro rfl ?_
        refine ⟨⟨by omega, ?_⟩, rfl⟩
        unfold pv_hold pc_mo
        first
          | rw [if_pos (by first | decide | omega), q31, q28]
          | rw [if_neg (by first | decide | omega), if_pos (by first | decide | omega), q31, q28]
          | rw [if_neg (by first | decide | omega), if_neg (by first | decide | omega), q31, q28]
      · skip
        refine And.intro (True.intro) ?_
        intro v28 M28 a28 b28 q28
        obtain ⟨q28, z28⟩ := q28
        subst z28
        refine And.intro (True.intro) ?_
        intro v31 M31 a31 b31 q31
        obtain ⟨q31, z31⟩ := q31
        subst z31
        refine And.intro rfl ?_
        refine ⟨⟨by omega, ?_⟩, rfl⟩
        unfold pv_hold pc_mo
        first
          | rw [if_pos (by first | decide | omega), q31, q28]
          | rw [if_neg (by first | decide | omega), if_pos (by first | decide | omega), q31, q28]
          | rw [if_neg (by first | decide | omega), if_neg (by first | decide | omega), q31, q28]
    · skip
      refine And.intro (True.intro) ?_
      intro v28 M28 a28 b28 q28
      obtain ⟨q28, z28⟩ := q28
      subst z28
      refine And.intro (True.intro) ?_
      intro v31 M31 a31 b31 q31
      obtain ⟨q31, z31⟩ := q31
      subst z31
      refine And.intro rfl ?_
      refine ⟨⟨by omega, ?_⟩, rfl⟩
      unfold pv_hold pc_mo
      first
        | rw [if_pos (by first | decide | omega), q31, q28]
        | rw [if_neg (by first | decide | omega), if_pos (by first | decide | omega), q31, q28]
        | rw [if_neg (by first | decide | omega), if_neg (by first | decide | omega), q31, q28]
theorem s3_X3_held {fr lo i : Nat} {own : String} (h1 : 1 + 1 ≤ fr) (h2 : 8 + (3 + 11) + 21 ≤ lo) (h3 : .methodLink own i yX3_held ∈ lw_tbl ∨ (own = RX1 ∧ i = 35 ∧ yX3_held = yX11_within)) : pz_cS fr lo own i k3_X3_held := pz_cSk (maxL := 3) (fr' := 1) (lo' := 21) 2 h3_X3_held rfl ⟨(pz_nhc_RX3 yX3_held rfl).1, (pz_nhc_RX3 yX3_held rfl).2, pz_ds10⟩ ⟨pz_wq504, pz_wq503, pz_wq5⟩ h1 h2 h3
noncomputable def k3_X3_joined : pz_C := (3, 1, fun a M => (match a with | [.inl w, .inl x, .inl y] => True | _ => False), fun a M r M' => (match a, r with | [.inl w, .inl x, .inl y], some (.inl v) => (v = pc_j w x y) ∧ M = M' | _, _ => False))
noncomputable abbrev ct3_X3_joined : List (Bool × Nat × pz_C) := []
set_option maxRecDepth 100000 in
set_option maxHeartbeats 4000000 in
theorem h3_X3_joined : pz_H yX3_joined cX3_joined 3 (some .int) k3_X3_joined 0 0 := by
  refine pz_mk (own := RX3) (tb := t_X3_joined) (fl := pz_flf fl_RX3) (ci := fun _ => none) (ct := pz_ctf ct3_X3_joined) (rz := false) (pz_pfc_RX3 yX3_joined rfl) rfl t_X3_joined_ok (pz_flk fl_RX3_ok) (fun i v h => by cases h) ?_ ?_ (Or.inl ⟨rfl, rfl⟩) ?_ ?_
  · exact fun i k' h => pz_ctk (l := ct3_X3_joined) (P := fun b i k => b = true → pz_cV 0 0 RX3 i k) (fun _ h => absurd h List.not_mem_nil) true i k' h rfl
  · exact fun i k' h => pz_ctk (l := ct3_X3_joined) (P := fun b i k => b = false → (pz_cS 0 0 RX3 i k ∨ (k = pz_kac ∧ 1 ≤ 0 ∧ 60 ≤ 0 ∧ Cond.methodLink RX3 i arraycopyName ∈ pz_tbl))) (fun _ h => absurd h List.not_mem_nil) false i k' h rfl
  · intro a M hlen hpre
    obtain ⟨w, x, y, rfl, hpre⟩ : ∃ w x y, a = [.inl w, .inl x, .inl y] ∧ (True) := by
      have hpre : (match (generalizing := false) a with | [.inl w, .inl x, .inl y] => True | _ => False) := hpre
      split at hpre
      · exact ⟨_, _, _, rfl, hpre⟩
      · exact hpre.elim
    exact Nat.le_of_ble_eq_true rfl
  · intro a M hlen hcan hM hpre Ok hgo
    obtain ⟨w, x, y, rfl, hpre⟩ : ∃ w x y, a = [.inl w, .inl x, .inl y] ∧ (True) := by
      have hpre : (match (generalizing := false) a with | [.inl w, .inl x, .inl y] => True | _ => False) := hpre
      split at hpre
      · exact ⟨_, _, _, rfl, hpre⟩
      · exact hpre.elim
    obtain ⟨k_w, hc_w⟩ := pz_tlm hcan
    have l_w : -2147483648 ≤ w := k_w.1
    have u_w : w ≤ 2147483647 := k_w.2
    obtain ⟨k_x, hc_x⟩ := pz_tlm hc_w
    have l_x : -2147483648 ≤ x := k_x.1
    have u_x : x ≤ 2147483647 := k_x.2
    obtain ⟨k_y, hc_y⟩ := pz_tlm hc_x
    have l_y : -2147483648 ≤ y := k_y.1
    have u_y : y ≤ 2147483647 := k_y.2
    refine hgo (fun _ => false) 55 0 _ [] M ?_
    refine And.intro ?_ ?_
    · skip
      refine And.intro (fun h1 => ?_) ?_
      · skip
        intro v147 e147 a147 b147
        refine And.intro rfl ?_
        refine ⟨?_, rfl⟩
        unfold pc_j
        repeat first | rw [if_pos (by first | decide | omega)] | rw [if_neg (by first | decide | omega)]
        all_goals first | assumption | rfl | omega
      refine And.intro (fun h1 => ?_) ?_
      · skip
        intro v143 e143 a143 b143
        refine And.intro rfl ?_
        refine ⟨?_, rfl⟩
        unfold pc_j
        repeat first | rw [if_pos (by first | decide | omega)] | rw [if_neg (by first | decide | omega)]
        all_goals first | assumption | rfl | omega
      refine And.intro (fun h1 => ?_) ?_
      · skip
        intro v94 e94 a94 b94
        refine And.intro rfl ?_
        refine ⟨?_, rfl⟩
        unfold pc_j
        repeat first | rw [if_pos (by first | decide | omega)] | rw [if_neg (by first | decide | omega)]
        all_goals first | assumption | rfl | omega
      refine And.intro (fun h1 => ?_) ?_
      · skip
        intro v86 e86 a86 b86
        refine And.intro rfl ?_
        refine ⟨?_, rfl⟩
        unfold pc_j
        repeat first | rw [if_pos (by first | decide | omega)] | rw [if_neg (by first | decide | omega)]
        all_goals first | assumption | rfl | omega
      refine And.intro (fun h1 => ?_) ?_
      · skip
        intro v90 e90 a90 b90
        refine And.intro rfl ?_
        refine ⟨?_, rfl⟩
        unfold pc_j
        repeat first | rw [if_pos (by first | decide | omega)] | rw [if_neg (by first | decide | omega)]
        all_goals first | assumption | rfl | omega
      refine And.intro (fun h1 => ?_) ?_
      · skip
        refine And.intro (fun h97 => ?_) (fun h97 => ?_)
        · skip
          refine And.intro (by first | decide | omega) ?_
          intro v106 e106 a106 b106
          refine And.intro rfl ?_
          refine ⟨?_, rfl⟩
          unfold pc_j
          repeat first | rw [if_pos (by first | decide | omega)] | rw [if_neg (by first | decide | omega)]
          all_goals first | assumption | rfl | omega
        · skip
          refine And.intro rfl ?_
          refine ⟨?_, rfl⟩
          unfold pc_j
          repeat first | rw [if_pos (by first | decide | omega)] | rw [if_neg (by first | decide | omega)]
          all_goals first | assumption | rfl | omega
      refine And.intro (fun h1 => ?_) ?_
      · skip
        refine And.intro (fun h110 => ?_) (fun h110 => ?_)
        · skip
          refine And.intro rfl ?_
          refine ⟨?_, rfl⟩
          unfold pc_j
          repeat first | rw [if_pos (by first | decide | omega)] | rw [if_neg (by first | decide | omega)]
          all_goals first | assumption | rfl | omega
        · skip
          refine And.intro rfl ?_
          refine ⟨?_, rfl⟩
          unfold pc_j
          repeat first | rw [if_pos (by first | decide | omega)] | rw [if_neg (by first | decide | omega)]
          all_goals first | assumption | rfl | omega
      refine And.intro (fun h1 => ?_) ?_
      · skip
        refine And.intro (fun h121 => ?_) (fun h121 => ?_)
        · skip
          refine And.intro rfl ?_
          refine ⟨?_, rfl⟩
          unfold pc_j
          repeat first | rw [if_pos (by first | decide | omega)] | rw [if_neg (by first | decide | omega)]
          all_goals first | assumption | rfl | omega
        · skip
          refine And.intro rfl ?_
          refine ⟨?_, rfl⟩
          unfold pc_j
          repeat first | rw [if_pos (by first | decide | omega)] | rw [if_neg (by first | decide | omega)]
          all_goals first | assumption | rfl | omega
      refine And.intro (fun h1 => ?_) ?_
      · skip
        refine And.intro (fun h132 => ?_) (fun h132 => ?_)
        · skip
          refine And.intro rfl ?_
          refine ⟨?_, rfl⟩
          unfold pc_j
          repeat first | rw [if_pos (by first | decide | omega)] | rw [if_neg (by first | decide | omega)]
          all_goals first | assumption | rfl | omega
        · skip
          refine And.intro rfl ?_
          refine ⟨?_, rfl⟩
          unfold pc_j
          repeat first | rw [if_pos (by first | decide | omega)] | rw [if_neg (by first | decide | omega)]
          all_goals first | assumption | rfl | omega
      exact True.intro
    · intro h1_0 h1_1 h1_2 h1_3 h1_4 h1_5 h1_6 h1_7 h1_8
      refine And.intro rfl ?_
      refine ⟨?_, rfl⟩
      unfold pc_j
      repeat first | rw [if_pos (by first | decide | omega)] | rw [if_neg (by first | decide | omega)]
      all_goals first | assumption | rfl | omega
theorem s3_X3_joined {fr lo i : Nat} {own : String} (h1 : 0 + 1 ≤ fr) (h2 : 8 + (3 + 11) + 0 ≤ lo) (h3 : .methodLink own i yX3_joined ∈ lw_tbl ∨ (own = RX1 ∧ i = 35 ∧ yX3_joined = yX11_within)) : pz_cS fr lo own i k3_X3_joined := pz_cSk (maxL := 3) (fr' := 0) (lo' := 0) 3 h3_X3_joined rfl ⟨(pz_nhc_RX3 yX3_joined rfl).1, (pz_nhc_RX3 yX3_joined rfl).2, pz_ds14⟩ ⟨pz_wq501, pz_wq500, pz_wq5⟩ h1 h2 h3
noncomputable def k3_X0_lacks : pz_C := (2, 1, fun a M => (match a with | [.inr (.inr (0, c)), .inl i] => pz_ic M | _ => False), fun a M r M' => (match a, r with | [.inr (.inr (0, c)), .inl i], some (.inl v) => (v = pv_lc M c i) ∧ M = M' | _, _ => False))
noncomputable abbrev ct3_X0_lacks : List (Bool × Nat × pz_C) := []
set_option maxRecDepth 100000 in
set_option maxHeartbeats 4000000 in
theorem h3_X0_lacks : pz_H yX0_lacks cX0_lacks 4 (some .int) k3_X0_lacks 0 0 := by
  refine pz_mk (own := RX0) (tb := t_X0_lacks) (fl := pz_flf fl_RX0) (ci := pz_cif ci_RX0) (ct := pz_ctf ct3_X0_lacks) (rz := false) (pz_pfc_RX0 yX0_lacks rfl) rfl t_X0_lacks_ok (pz_flk fl_RX0_ok) (pz_cik ci_RX0_ok) ?_ ?_ (Or.inl ⟨rfl, rfl⟩) ?_ ?_
  · exact fun i k' h => pz_ctk (l := ct3_X0_lacks) (P := fun b i k => b = true → pz_cV 0 0 RX0 i k) (fun _ h => absurd h List.not_mem_nil) true i k' h rfl
  · exact fun i k' h => pz_ctk (l := ct3_X0_lacks) (P := fun b i k => b = false → (pz_cS 0 0 RX0 i k ∨ (k = pz_kac ∧ 1 ≤ 0 ∧ 60 ≤ 0 ∧ Cond.methodLink RX0 i arraycopyName ∈ pz_tbl))) (fun _ h => absurd h List.not_mem_nil) false i k' h rfl
  · intro a M hlen hpre
    obtain ⟨c, i, rfl, hpre⟩ : ∃ c i, a = [.inr (.inr (0, c)), .inl i] ∧ (pz_ic M) := by
      have hpre : (match (generalizing := false) a with | [.inr (.inr (0, c)), .inl i] => pz_ic M | _ => False) := hpre
      split at hpre
      · exact ⟨_, _, rfl, hpre⟩
      · exact hpre.elim
    exact Nat.le_of_ble_eq_true rfl
  · intro a M hlen hcan hM hpre Ok hgo
    obtain ⟨c, i, rfl, hpre⟩ : ∃ c i, a = [.inr (.inr (0, c)), .inl i] ∧ (pz_ic M) := by
      have hpre : (match (generalizing := false) a with | [.inr (.inr (0, c)), .inl i] => pz_ic M | _ => False) := hpre
      split at hpre
      · exact ⟨_, _, rfl, hpre⟩
      · exact hpre.elim
    obtain ⟨k_c, hc_c⟩ := pz_tlm hcan
    have k_c : pz_kd c = 0 ∧ c < 231 := k_c
    have R_c := pz_kd0 k_c.1
    obtain ⟨k_i, hc_i⟩ := pz_tlm hc_c
    have l_i : -2147483648 ≤ i := k_i.1
    have u_i : i ≤ 2147483647 := k_i.2
    have hI : pz_ic M := hpre
    have T_c : ∀ n : Nat, pz_rf (pz_rf c 1) n = pz_lb c + n := fun n => pz_rf_l R_c.1 R_c.2
    have L79 : ∀ (fu : Nat) (x2 : Int) (x3 : Int), (12 - x3).toNat < fu → (0 ≤ x3) → (i < x3) → (x3 ≤ 12) → (0 ≤ i ∧ i < 12) → (i < M c 3) → (pv_lup (pv_rd M c) (pv_br M c) (M c 3) (12 - x3).toNat x3.toNat x2 = pv_lc M c i) → Ok 79 [some (.inr (.inr (0, c))), some (.inl i), some (.inl x2), some (.inl x3)] [] M := by
      intro fu
      induction fu with
      | zero => exact fun _ _ hn => absurd hn (Nat.not_lt_zero _)
      | succ fu ih79 =>
        intro x2 x3 hn79 g79_0 g79_1 g79_2 g79_3 g79_4 g79_5
        refine hgo (fun p => Nat.beq p 36 || Nat.beq p 75 || Nat.beq p 79) 78 79 _ _ _ ?_
        intro v81 e81 a81 b81
        have I81 := hI.1 c (by first | decide | omega) (by first | decide | omega)
        refine And.intro (fun h84 => ?_) (fun h84 => ?_)
        · skip
          refine And.intro rfl ?_
          first | exact ⟨D116, rfl⟩ | exact ⟨(pv_lup_z (by first | decide | omega)).symm.trans g79_5, rfl⟩
        · skip
          refine And.intro (fun h90 => ?_) (fun h90 => ?_)
          · skip
            refine And.intro rfl ?_
            first | exact ⟨D116, rfl⟩ | exact ⟨(pv_lup_z (by first | decide | omega)).symm.trans g79_5, rfl⟩
          · skip
            intro r96 e96 k96
            have lo100 : (0 : Int) ≤ x3 := by omega
            have tn100 : (((x3).toNat : Nat) : Int) = x3 := Int.toNat_of_nonneg lo100
            refine And.intro (lo100) (And.intro (show _ < (12 : Int) from by omega) ?_)
            intro r100 e100 k100
            have R100 := pz_kd5 k100
            have L100 : r100 = pz_lb c + x3.toNat := by rw [e100, e96, T_c]
            intro v101 e101 a101 b101
            have V101 : v101 = pv_rd M c x3.toNat := by rw [e101, L100]; rfl
            intro v104 e104 a104 b104
            have V104 : v104 = pz_w (1 - pv_rd M c x3.toNat) := by rw [e104, V101]
            intro v105 e105 a105 b105
            have D105 := pv_lup_s (g := (11 - x3).toNat) g79_5 (by first | decide | omega) (by first | decide | omega) (show v105 = _ by rw [e105, V104])
            intro r108 e108 k108
            refine And.intro (lo100) (And.intro (show _ < (12 : Int) from by omega) ?_)
            intro r112 e112 k112
            have R112 := pz_kd5 k112
            have L112 : r112 = pz_lb c + x3.toNat := by rw [e112, e108, T_c]
            intro v113 e113 a113 b113
            have V113 : v113 = pv_br M c x3.toNat := by rw [e113, L112]; rfl
            refine And.intro (fun h116 => ?_) (fun h116 => ?_)
            · skip
              have D116 := D105.2 (by first | decide | omega)
              intro v122 e122 a122 b122
              rw [pz_wi (by first | decide | omega) (by first | decide | omega)] at e122
              have G122 : pv_lup (pv_rd M c) (pv_br M c) (M c 3) (12 - v122).toNat v122.toNat v105 = pv_lc M c i := by
                rw [show (12 - v122).toNat = (11 - x3).toNat by omega, show v122.toNat = x3.toNat + 1 by omega]
                exact D116
              exact ih79 _ _ (by first | decide | omega) (by first | omega | assumption) (by first | omega | assumption) (by first | omega | assumption) (by first | omega | assumption) (by first | omega | assumption) (by first | omega | assumption)
            · skip
              have D116 := D105.1 (by first | decide | omega)
              refine And.intro rfl ?_
              first | exact ⟨D116, rfl⟩ | exact ⟨(pv_lup_z (by first | decide | omega)).symm.trans g79_5, rfl⟩
    have L75 : ∀ (x2 : Int) (x3 : Int), (0 ≤ i ∧ i < 12) → (i < M c 3) → (x2 = pv_ldn (pv_rd M c) (pv_br M c) i.toNat (pz_w (1 - pv_rd M c i.toNat))) → Ok 75 [some (.inr (.inr (0, c))), some (.inl i), some (.inl x2), some (.inl x3)] [] M := by
      intro x2 x3 g75_0 g75_1 g75_2
      refine hgo (fun p => Nat.beq p 36 || Nat.beq p 75 || Nat.beq p 79) 78 75 _ _ _ ?_
      intro v77 e77 a77 b77
      rw [pz_wi (by first | decide | omega) (by first | decide | omega)] at e77
      have G77 : pv_lup (pv_rd M c) (pv_br M c) (M c 3) (12 - v77).toNat v77.toNat x2 = pv_lc M c i := by
        rw [show (12 - v77).toNat = (11 - i).toNat by omega, show v77.toNat = i.toNat + 1 by omega, g75_2]
        exact (if_pos ⟨by omega, by omega, by omega⟩).symm
      exact L79 _ _ _ (Nat.lt_succ_self _) (by first | omega | assumption) (by first | omega | assumption) (by first | omega | assumption) (by first | omega | assumption) (by first | omega | assumption) (by first | omega | assumption)
    have L36 : ∀ (fu : Nat) (x2 : Int) (x3 : Int), (x3 + 1).toNat < fu → (-1 ≤ x3) → (x3 < i) → (0 ≤ i ∧ i < 12) → (i < M c 3) → (pv_ldn (pv_rd M c) (pv_br M c) (x3 + 1).toNat x2 = pv_ldn (pv_rd M c) (pv_br M c) i.toNat (pz_w (1 - pv_rd M c i.toNat))) → Ok 36 [some (.inr (.inr (0, c))), some (.inl i), some (.inl x2), some (.inl x3)] [] M := by
      intro fu
      induction fu with
      | zero => exact fun _ _ hn => absurd hn (Nat.not_lt_zero _)
      | succ fu ih36 =>
        intro x2 x3 hn36 g36_0 g36_1 g36_2 g36_3 g36_4
        refine hgo (fun p => Nat.beq p 36 || Nat.beq p 75 || Nat.beq p 79) 78 36 _ _ _ ?_
        refine And.intro (fun h37 => ?_) (fun h37 => ?_)
        · skip
          have G37 : x2 = pv_ldn (pv_rd M c) (pv_br M c) i.toNat (pz_w (1 - pv_rd M c i.toNat)) := by
            have z := g36_4
            rw [show (x3 + 1).toNat = 0 by omega] at z
            exact z
          exact L75 _ _ (by first | omega | assumption) (by first | omega | assumption) (by first | omega | assumption)
        · skip
          skip
          intro r43 e43 k43
          have lo47 : (0 : Int) ≤ x3 := by omega
          have tn47 : (((x3).toNat : Nat) : Int) = x3 := Int.toNat_of_nonneg lo47
          refine And.intro (lo47) (And.intro (show _ < (12 : Int) from by omega) ?_)
          intro r47 e47 k47
          have R47 := pz_kd5 k47
          have L47 : r47 = pz_lb c + x3.toNat := by rw [e47, e43, T_c]
          intro v48 e48 a48 b48
          have V48 : v48 = pv_rd M c x3.toNat := by rw [e48, L47]; rfl
          intro v51 e51 a51 b51
          have V51 : v51 = pz_w (1 - pv_rd M c x3.toNat) := by rw [e51, V48]
          intro v52 e52 a52 b52
          have D52 := pv_ldn_s (m := x3.toNat) g36_4 (by first | decide | omega) (show v52 = _ by rw [e52, V51])
          intro r55 e55 k55
          refine And.intro (lo47) (And.intro (show _ < (12 : Int) from by omega) ?_)
          intro r59 e59 k59
          have R59 := pz_kd5 k59
          have L59 : r59 = pz_lb c + x3.toNat := by rw [e59, e55, T_c]
          intro v60 e60 a60 b60
          have V60 : v60 = pv_br M c x3.toNat := by rw [e60, L59]; rfl
          refine And.intro (fun h63 => ?_) (fun h63 => ?_)
          · skip
            have D63 := D52.2 (by first | decide | omega)
            intro v69 e69 a69 b69
            rw [pz_wi (by first | decide | omega) (by first | decide | omega)] at e69
            have G69 : pv_ldn (pv_rd M c) (pv_br M c) (v69 + 1).toNat v52 = pv_ldn (pv_rd M c) (pv_br M c) i.toNat (pz_w (1 - pv_rd M c i.toNat)) := by
              rw [show (v69 + 1).toNat = x3.toNat by omega]
              exact D63
            exact ih36 _ _ (by first | decide | omega) (by first | omega | assumption) (by first | omega | assumption) (by first | omega | assumption) (by first | omega | assumption) (by first | omega | assumption)
          · skip
            have D63 := D52.1 (by first | decide | omega)
            exact L75 _ _ (by first | omega | assumption) (by first | omega | assumption) (by first | omega | assumption)
    refine hgo (fun p => Nat.beq p 36 || Nat.beq p 75 || Nat.beq p 79) 78 0 _ [] M ?_
    refine And.intro (fun h1 => ?_) (fun h1 => ?_)
    · skip
      refine And.intro rfl ?_
      exact ⟨(show pv_lc M c i = 0 from if_neg (by first | decide | omega)).symm, rfl⟩
    · skip
      intro v6 e6 a6 b6
      have I6 := hI.1 c (by first | decide | omega) (by first | decide | omega)
      refine And.intro (fun h9 => ?_) (fun h9 => ?_)
      · skip
        refine And.intro rfl ?_
        exact ⟨(show pv_lc M c i = 0 from if_neg (by first | decide | omega)).symm, rfl⟩
      · skip
        refine And.intro (fun h15 => ?_) (fun h15 => ?_)
        · skip
          intro r22 e22 k22
          have lo26 : (0 : Int) ≤ i := by omega
          have tn26 : (((i).toNat : Nat) : Int) = i := Int.toNat_of_nonneg lo26
          refine And.intro (lo26) (And.intro (show _ < (12 : Int) from by omega) ?_)
          intro r26 e26 k26
          have R26 := pz_kd5 k26
          have L26 : r26 = pz_lb c + i.toNat := by rw [e26, e22, T_c]
          intro v27 e27 a27 b27
          have V27 : v27 = pv_rd M c i.toNat := by rw [e27, L26]; rfl
          intro v30 e30 a30 b30
          have V30 : v30 = pz_w (1 - pv_rd M c i.toNat) := by rw [e30, V27]
          intro v34 e34 a34 b34
          rw [pz_wi (by first | decide | omega) (by first | decide | omega)] at e34
          have G34 : pv_ldn (pv_rd M c) (pv_br M c) (v34 + 1).toNat v30 = pv_ldn (pv_rd M c) (pv_br M c) i.toNat (pz_w (1 - pv_rd M c i.toNat)) := by rw [show (v34 + 1).toNat = i.toNat by omega, V30]
          exact L36 _ _ _ (Nat.lt_succ_self _) (by first | omega | assumption) (by first | omega | assumption) (by first | omega | assumption) (by first | omega | assumption) (by first | omega | assumption)
        · skip
          refine And.intro rfl ?_
          exact ⟨(show pv_lc M c i = 0 from if_neg (by first | decide | omega)).symm, rfl⟩
theorem v3_X0_lacks {fr lo i : Nat} {own : String} (h1 : 0 + 1 ≤ fr) (h2 : 8 + (4 + 11) + 0 ≤ lo) (h3 : .methodLink own i yX0_lacks ∈ lw_tbl) : pz_cV fr lo own i k3_X0_lacks :=
  pz_cVk (maxL := 4) (fr' := 0) (lo' := 0) 1 0 h3_X0_lacks rfl ⟨(pz_nhc_RX0 yX0_lacks rfl).1, (pz_nhc_RX0 yX0_lacks rfl).2, pz_ds5⟩ ⟨pz_wq498, pz_wq496, pz_wq497, pz_wq2⟩ (Or.inl ⟨TX0, 8, rfl⟩) (fun a M _ h => by
    have h : (match (generalizing := false) a with | [.inr (.inr (0, c)), .inl i] => pz_ic M | _ => False) := h
    split at h
    · exact ⟨_, _, rfl⟩
    · exact h.elim) h1 h2 h3
noncomputable def k3_X0_named : pz_C := (3, 1, fun a M => (match a with | [.inr (.inr (0, c)), .inl w, .inl i] => pz_ic M | _ => False), fun a M r M' => (match a, r with | [.inr (.inr (0, c)), .inl w, .inl i], some (.inl v) => (v = pv_fn M c w i) ∧ M = M' | _, _ => False))
noncomputable abbrev ct3_X0_named : List (Bool × Nat × pz_C) := [(true, 48, k_X0_at), (true, 106, k3_X0_lacks)]
set_option maxRecDepth 100000 in
set_option maxHeartbeats 4000000 in
theorem h3_X0_named : pz_H yX0_named cX0_named 3 (some .int) k3_X0_named 1 23 := by
  refine pz_mk (own := RX0) (tb := t_X0_named) (fl := pz_flf fl_RX0) (ci := pz_cif ci_RX0) (ct := pz_ctf ct3_X0_named) (rz := false) (pz_pfc_RX0 yX0_named rfl) rfl t_X0_named_ok (pz_flk fl_RX0_ok) (pz_cik ci_RX0_ok) ?_ ?_ (Or.inl ⟨rfl, rfl⟩) ?_ ?_
  · exact fun i k' h => pz_ctk (l := ct3_X0_named) (P := fun b i k => b = true → pz_cV 1 23 RX0 i k) (List.forall_mem_cons.mpr ⟨(fun _ => v_X0_at (by decide) (by decide) pz_wq494), List.forall_mem_cons.mpr ⟨(fun _ => v3_X0_lacks (by decide) (by decide) pz_wq495), fun _ h => absurd h List.not_mem_nil⟩⟩) true i k' h rfl
  · exact fun i k' h => pz_ctk (l := ct3_X0_named) (P := fun b i k => b = false → (pz_cS 1 23 RX0 i k ∨ (k = pz_kac ∧ 1 ≤ 1 ∧ 60 ≤ 23 ∧ Cond.methodLink RX0 i arraycopyName ∈ pz_tbl))) (List.forall_mem_cons.mpr ⟨((fun z => by cases z)), List.forall_mem_cons.mpr ⟨((fun z => by cases z)), fun _ h => absurd h List.not_mem_nil⟩⟩) false i k' h rfl
  · intro a M hlen hpre
    obtain ⟨c, w, i, rfl, hpre⟩ : ∃ c w i, a = [.inr (.inr (0, c)), .inl w, .inl i] ∧ (pz_ic M) := by
      have hpre : (match (generalizing := false) a with | [.inr (.inr (0, c)), .inl w, .inl i] => pz_ic M | _ => False) := hpre
      split at hpre
      · exact ⟨_, _, _, rfl, hpre⟩
      · exact hpre.elim
    exact Nat.le_of_ble_eq_true rfl
  · intro a M hlen hcan hM hpre Ok hgo
    obtain ⟨c, w, i, rfl, hpre⟩ : ∃ c w i, a = [.inr (.inr (0, c)), .inl w, .inl i] ∧ (pz_ic M) := by
      have hpre : (match (generalizing := false) a with | [.inr (.inr (0, c)), .inl w, .inl i] => pz_ic M | _ => False) := hpre
      split at hpre
      · exact ⟨_, _, _, rfl, hpre⟩
      · exact hpre.elim
    obtain ⟨k_c, hc_c⟩ := pz_tlm hcan
    have k_c : pz_kd c = 0 ∧ c < 231 := k_c
    have R_c := pz_kd0 k_c.1
    obtain ⟨k_w, hc_w⟩ := pz_tlm hc_c
    have l_w : -2147483648 ≤ w := k_w.1
    have u_w : w ≤ 2147483647 := k_w.2
    obtain ⟨k_i, hc_i⟩ := pz_tlm hc_w
    have l_i : -2147483648 ≤ i := k_i.1
    have u_i : i ≤ 2147483647 := k_i.2
    have hI : pz_ic M := hpre
    refine hgo (fun _ => false) 43 0 _ [] M ?_
    refine And.intro ?_ ?_
    · skip
      refine And.intro (fun h1 => ?_) ?_
      · skip
        refine And.intro rfl ?_
        refine ⟨?_, rfl⟩
        unfold pv_fn
        repeat first | rw [if_pos (by first | decide | omega)] | rw [if_neg (by first | decide | omega)]
        all_goals first | rfl | assumption | (rw [e59, A56]) | (rw [e68, A65]) | (rw [e77, A74]) | (rw [e86, A83]) | (rw [e105, A102])
      refine And.intro (fun h1 => ?_) ?_
      · skip
        refine And.intro (True.intro) ?_
        intro r56 M56 k56 q56
        have R56 := pz_kd5 k56
        obtain ⟨q56, z56⟩ := q56
        subst z56
        have A56 := pz_at_lk R_c q56
        intro v59 e59 a59 b59
        refine And.intro rfl ?_
        refine ⟨?_, rfl⟩
        unfold pv_fn
        repeat first | rw [if_pos (by first | decide | omega)] | rw [if_neg (by first | decide | omega)]
        all_goals first | rfl | assumption | (rw [e59, A56]) | (rw [e68, A65]) | (rw [e77, A74]) | (rw [e86, A83]) | (rw [e105, A102])
      refine And.intro (fun h1 => ?_) ?_
      · skip
        refine And.intro (True.intro) ?_
        intro r65 M65 k65 q65
        have R65 := pz_kd5 k65
        obtain ⟨q65, z65⟩ := q65
        subst z65
        have A65 := pz_at_lk R_c q65
        intro v68 e68 a68 b68
        refine And.intro rfl ?_
        refine ⟨?_, rfl⟩
        unfold pv_fn
        repeat first | rw [if_pos (by first | decide | omega)] | rw [if_neg (by first | decide | omega)]
        all_goals first | rfl | assumption | (rw [e59, A56]) | (rw [e68, A65]) | (rw [e77, A74]) | (rw [e86, A83]) | (rw [e105, A102])
      refine And.intro (fun h1 => ?_) ?_
      · skip
        refine And.intro (True.intro) ?_
        intro r74 M74 k74 q74
        have R74 := pz_kd5 k74
        obtain ⟨q74, z74⟩ := q74
        subst z74
        have A74 := pz_at_lk R_c q74
        intro v77 e77 a77 b77
        refine And.intro rfl ?_
        refine ⟨?_, rfl⟩
        unfold pv_fn
        repeat first | rw [if_pos (by first | decide | omega)] | rw [if_neg (by first | decide | omega)]
        all_goals first | rfl | assumption | (rw [e59, A56]) | (rw [e68, A65]) | (rw [e77, A74]) | (rw [e86, A83]) | (rw [e105, A102])
      refine And.intro (fun h1 => ?_) ?_
      · skip
        refine And.intro (True.intro) ?_
        intro r83 M83 k83 q83
        have R83 := pz_kd5 k83
        obtain ⟨q83, z83⟩ := q83
        subst z83
        have A83 := pz_at_lk R_c q83
        intro v86 e86 a86 b86
        refine And.intro rfl ?_
        refine ⟨?_, rfl⟩
        unfold pv_fn
        repeat first | rw [if_pos (by first | decide | omega)] | rw [if_neg (by first | decide | omega)]
        all_goals first | rfl | assumption | (rw [e59, A56]) | (rw [e68, A65]) | (rw [e77, A74]) | (rw [e86, A83]) | (rw [e105, A102])
      refine And.intro (fun h1 => ?_) ?_
      · skip
        intro v91 e91 a91 b91
        refine And.intro rfl ?_
        refine ⟨?_, rfl⟩
        unfold pv_fn
        repeat first | rw [if_pos (by first | decide | omega)] | rw [if_neg (by first | decide | omega)]
        all_goals first | rfl | assumption | (rw [e59, A56]) | (rw [e68, A65]) | (rw [e77, A74]) | (rw [e86, A83]) | (rw [e105, A102])
      refine And.intro (fun h1 => ?_) ?_
      · skip
        intro v96 e96 a96 b96
        have I96 := hI.1 c (by first | decide | omega) (by first | decide | omega)
        refine And.intro rfl ?_
        refine ⟨?_, rfl⟩
        unfold pv_fn
        repeat first | rw [if_pos (by first | decide | omega)] | rw [if_neg (by first | decide | omega)]
        all_goals first | rfl | assumption | (rw [e59, A56]) | (rw [e68, A65]) | (rw [e77, A74]) | (rw [e86, A83]) | (rw [e105, A102])
      refine And.intro (fun h1 => ?_) ?_
      · skip
        refine And.intro (True.intro) ?_
        intro r102 M102 k102 q102
        have R102 := pz_kd5 k102
        obtain ⟨q102, z102⟩ := q102
        subst z102
        have A102 := pz_at_lk R_c q102
        intro v105 e105 a105 b105
        refine And.intro rfl ?_
        refine ⟨?_, rfl⟩
        unfold pv_fn
        repeat first | rw [if_pos (by first | decide | omega)] | rw [if_neg (by first | decide | omega)]
        all_goals first | rfl | assumption | (rw [e59, A56]) | (rw [e68, A65]) | (rw [e77, A74]) | (rw [e86, A83]) | (rw [e105, A102])
      refine And.intro (fun h1 => ?_) ?_
      · skip
        refine And.intro (hI) ?_
        intro v111 M111 a111 b111 q111
        obtain ⟨q111, z111⟩ := q111
        subst z111
        refine And.intro rfl ?_
        refine ⟨?_, rfl⟩
        unfold pv_fn
        repeat first | rw [if_pos (by first | decide | omega)] | rw [if_neg (by first | decide | omega)]
        all_goals first | rfl | assumption | (rw [e59, A56]) | (rw [e68, A65]) | (rw [e77, A74]) | (rw [e86, A83]) | (rw [e105, A102])
      exact True.intro
    · intro h1
      refine And.intro rfl ?_
      refine ⟨?_, rfl⟩
      unfold pv_fn
      repeat first | rw [if_pos (by first | decide | omega)] | rw [if_neg (by first | decide | omega)]
      all_goals first | rfl | assumption | (rw [e59, A56]) | (rw [e68, A65]) | (rw [e77, A74]) | (rw [e86, A83]) | (rw [e105, A102])
theorem v3_X0_named {fr lo i : Nat} {own : String} (h1 : 1 + 1 ≤ fr) (h2 : 8 + (3 + 11) + 23 ≤ lo) (h3 : .methodLink own i yX0_named ∈ lw_tbl) : pz_cV fr lo own i k3_X0_named :=
  pz_cVk (maxL := 3) (fr' := 1) (lo' := 23) 2 0 h3_X0_named rfl ⟨(pz_nhc_RX0 yX0_named rfl).1, (pz_nhc_RX0 yX0_named rfl).2, pz_ds10⟩ ⟨pz_wq493, pz_wq491, pz_wq492, pz_wq2⟩ (Or.inl ⟨TX0, 8, rfl⟩) (fun a M _ h => by
    have h : (match (generalizing := false) a with | [.inr (.inr (0, c)), .inl w, .inl i] => pz_ic M | _ => False) := h
    split at h
    · exact ⟨_, _, rfl⟩
    · exact h.elim) h1 h2 h3
noncomputable def k3_X3_worked : pz_C := (5, 1, fun a M => (match a with | [.inr (.inr (3, g)), .inl p, .inl q, .inr (.inr (0, c)), .inl i] => pz_ic M | _ => False), fun a M r M' => (match a, r with | [.inr (.inr (3, g)), .inl p, .inl q, .inr (.inr (0, c)), .inl i], some (.inl v) => (pc_wk (fun z => pv_fn M c (z + 7) i) M g p q v) ∧ pq_pr pq_Pw M M' | _, _ => False))
noncomputable abbrev ct3_X3_worked : List (Bool × Nat × pz_C) := [(true, 80, k3_X0_named), (false, 83, k3_X3_joined)]
set_option maxRecDepth 100000 in
set_option maxHeartbeats 4000000 in
theorem h3_X3_worked : pz_H yX3_worked cX3_worked 8 (some .int) k3_X3_worked 2 45 := by
  refine pz_mk (own := RX3) (tb := t_X3_worked) (fl := pz_flf fl_RX3) (ci := fun _ => none) (ct := pz_ctf ct3_X3_worked) (rz := false) (pz_pfc_RX3 yX3_worked rfl) rfl t_X3_worked_ok (pz_flk fl_RX3_ok) (fun i v h => by cases h) ?_ ?_ (Or.inl ⟨rfl, rfl⟩) ?_ ?_
  · exact fun i k' h => pz_ctk (l := ct3_X3_worked) (P := fun b i k => b = true → pz_cV 2 45 RX3 i k) (List.forall_mem_cons.mpr ⟨(fun _ => v3_X0_named (by decide) (by decide) pz_wq490), List.forall_mem_cons.mpr ⟨((fun z => by cases z)), fun _ h => absurd h List.not_mem_nil⟩⟩) true i k' h rfl
  · exact fun i k' h => pz_ctk (l := ct3_X3_worked) (P := fun b i k => b = false → (pz_cS 2 45 RX3 i k ∨ (k = pz_kac ∧ 1 ≤ 2 ∧ 60 ≤ 45 ∧ Cond.methodLink RX3 i arraycopyName ∈ pz_tbl))) (List.forall_mem_cons.mpr ⟨((fun z => by cases z)), List.forall_mem_cons.mpr ⟨(fun _ => Or.inl (s3_X3_joined (by decide) (by decide) (Or.inl pz_wq499))), fun _ h => absurd h List.not_mem_nil⟩⟩) false i k' h rfl
  · intro a M hlen hpre
    obtain ⟨g, p, q, c, i, rfl, hpre⟩ : ∃ g p q c i, a = [.inr (.inr (3, g)), .inl p, .inl q, .inr (.inr (0, c)), .inl i] ∧ (pz_ic M) := by
      have hpre : (match (generalizing := false) a with | [.inr (.inr (3, g)), .inl p, .inl q, .inr (.inr (0, c)), .inl i] => pz_ic M | _ => False) := hpre
      split at hpre
      · exact ⟨_, _, _, _, _, rfl, hpre⟩
      · exact hpre.elim
    exact Nat.le_of_ble_eq_true rfl
  · intro a M hlen hcan hM hpre Ok hgo
    obtain ⟨g, p, q, c, i, rfl, hpre⟩ : ∃ g p q c i, a = [.inr (.inr (3, g)), .inl p, .inl q, .inr (.inr (0, c)), .inl i] ∧ (pz_ic M) := by
      have hpre : (match (generalizing := false) a with | [.inr (.inr (3, g)), .inl p, .inl q, .inr (.inr (0, c)), .inl i] => pz_ic M | _ => False) := hpre
      split at hpre
      · exact ⟨_, _, _, _, _, rfl, hpre⟩
      · exact hpre.elim
    obtain ⟨k_g, hc_g⟩ := pz_tlm hcan
    have k_g : pz_kd g = 3 ∧ g < 231 := k_g
    have R_g := pz_kd3 k_g.1
    obtain ⟨k_p, hc_p⟩ := pz_tlm hc_g
    have l_p : -2147483648 ≤ p := k_p.1
    have u_p : p ≤ 2147483647 := k_p.2
    obtain ⟨k_q, hc_q⟩ := pz_tlm hc_p
    have l_q : -2147483648 ≤ q := k_q.1
    have u_q : q ≤ 2147483647 := k_q.2
    obtain ⟨k_c, hc_c⟩ := pz_tlm hc_q
    have k_c : pz_kd c = 0 ∧ c < 231 := k_c
    have R_c := pz_kd0 k_c.1
    obtain ⟨k_i, hc_i⟩ := pz_tlm hc_c
    have l_i : -2147483648 ≤ i := k_i.1
    have u_i : i ≤ 2147483647 := k_i.2
    have hI : pz_ic M := hpre
    have hI0 := hI
    have hS : pq_pr pq_Pw M M := pq_pr.rf
    have L182 : ∀ (x5 : Int) (x6 : Int) (d7 : Option pz_V) (N182 : pz_M), (pq_pr pq_Pw M N182) → (0 ≤ x5) → (x5 ≤ 64) → (q ≤ x6 ∨ x6 < 0 ∨ M g 1 ≤ x6) → (pc_iv (fun z => pv_fn M c (z + 7) i) M g (32 + 6 * (g - 10)) p q x6 x5 N182) → Ok 182 [some (.inr (.inr (3, g))), some (.inl p), some (.inl q), some (.inr (.inr (0, c))), some (.inl i), some (.inl x5), some (.inl x6), d7] [] N182 := by
      intro x5 x6 d7 N182 hS g182_1 g182_2 g182_3 g182_4
      have hI : pz_ic N182 := hS.1 hI0
      refine hgo (fun p => Nat.beq p 6 || Nat.beq p 176 || Nat.beq p 182) 107 182 _ _ _ ?_
      refine And.intro (fun h184 => ?_) (fun h184 => ?_)
      · skip
        refine And.intro rfl ?_
        first
          | exact ⟨pc_iv_z g182_4 g182_3 ⟨fun z => (by rw [e195, L188, show v194 = x5 - 1 by omega]), fun z => (by exfalso; omega)⟩, hS⟩
          | exact ⟨pc_iv_z g182_4 g182_3 ⟨fun z => (by exfalso; omega), fun _ => rfl⟩, hS⟩
      · skip
        intro r188 e188 k188
        have R188 := pz_kdA k188 (by decide) (by decide)
        have Q188 := pz_nm e188 k_g.1 (by decide) (by decide) rfl
        have L188 := e188.trans (pz_rf37 R_g)
        intro v194 e194 a194 b194
        try rw [pz_wi (by first | decide | omega) (by first | decide | omega)] at e194
        have lo195 : (0 : Int) ≤ v194 := by omega
        have tn195 : (((v194).toNat : Nat) : Int) = v194 := Int.toNat_of_nonneg lo195
        refine And.intro (lo195) (And.intro (show _ < (64 : Int) from by omega) ?_)
        intro v195 e195 a195 b195
        refine And.intro rfl ?_
        first
          | exact ⟨pc_iv_z g182_4 g182_3 ⟨fun z => (by rw [e195, L188, show v194 = x5 - 1 by omega]), fun z => (by exfalso; omega)⟩, hS⟩
          | exact ⟨pc_iv_z g182_4 g182_3 ⟨fun z => (by exfalso; omega), fun _ => rfl⟩, hS⟩
    have L6 : ∀ (fu : Nat) (x5 : Int) (x6 : Int) (d7 : Option pz_V) (N6 : pz_M), (q - x6).toNat < fu → (pq_pr pq_Pw M N6) → (0 ≤ x5) → (x5 ≤ 64) → (pc_iv (fun z => pv_fn M c (z + 7) i) M g (32 + 6 * (g - 10)) p q x6 x5 N6) → Ok 6 [some (.inr (.inr (3, g))), some (.inl p), some (.inl q), some (.inr (.inr (0, c))), some (.inl i), some (.inl x5), some (.inl x6), d7] [] N6 := by
      intro fu
      induction fu with
      | zero => exact fun _ _ _ _ hn => absurd hn (Nat.not_lt_zero _)
      | succ fu ih6 =>
        intro x5 x6 d7 N6 hn6 hS g6_1 g6_2 g6_3
        have hI : pz_ic N6 := hS.1 hI0
        have L176 : ∀ (x5 : Int) (x6 : Int) (x7 : Int) (N176 : pz_M), (pq_pr pq_Pw M N176) → (0 ≤ x5) → (x5 ≤ 64) → (x6 < q) → (0 ≤ x6) → ((q - x6).toNat < fu + 1) → (pc_iv (fun z => pv_fn M c (z + 7) i) M g (32 + 6 * (g - 10)) p q (x6 + 1) x5 N176) → Ok 176 [some (.inr (.inr (3, g))), some (.inl p), some (.inl q), some (.inr (.inr (0, c))), some (.inl i), some (.inl x5), some (.inl x6), some (.inl x7)] [] N176 := by
          intro x5 x6 x7 N176 hS g176_1 g176_2 g176_3 g176_4 g176_5 g176_6
          have hI : pz_ic N176 := hS.1 hI0
          refine hgo (fun p => Nat.beq p 6 || Nat.beq p 176 || Nat.beq p 182) 107 176 _ _ _ ?_
          intro v176 e176 a176 b176
          rw [pz_wi (by first | decide | omega) (by first | decide | omega)] at e176
          have G6 : pc_iv (fun z => pv_fn M c (z + 7) i) M g (32 + 6 * (g - 10)) p q v176 x5 N176 := by
            rw [e176]
            exact g176_6
          exact ih6 _ _ _ _ (by first | decide | omega) hS (by first | omega | assumption | exact pc_iv_0) (by first | omega | assumption | exact pc_iv_0) (by first | omega | assumption | exact pc_iv_0)
        refine hgo (fun p => Nat.beq p 6 || Nat.beq p 176 || Nat.beq p 182) 107 6 _ _ _ ?_
        refine And.intro (fun h9 => ?_) (fun h9 => ?_)
        · skip
          exact L182 _ _ _ _ hS (by first | omega | assumption) (by first | omega | assumption) (by first | omega | assumption) (by first | omega | assumption)
        · skip
          refine And.intro (fun h14 => ?_) (fun h14 => ?_)
          · skip
            skip
            exact L182 _ _ _ _ hS (by first | omega | assumption) (by first | omega | assumption) (by first | omega | assumption) (by first | omega | assumption)
          · skip
            have hS6 := hS
            intro v20 e20 a20 b20
            have I20 := hI.2.2.2.1 g (by first | decide | omega) (by first | decide | omega)
            have S20 : v20 = M g 1 := by
              rw [e20]
              exact hS.2 _ _ (by unfold pq_Pw; first | decide | omega)
            refine And.intro (fun h23 => ?_) (fun h23 => ?_)
            · skip
              exact L182 _ _ _ _ hS (by first | omega | assumption) (by first | omega | assumption) (by first | omega | assumption) (by first | omega | assumption)
            · skip
              intro r27 e27 k27
              have R27 := pz_kdA k27 (by decide) (by decide)
              have Q27 := pz_nm e27 k_g.1 (by decide) (by decide) rfl
              have L27 := e27.trans (pz_rf3 R_g).2.2.2.2
              have lo32 : (0 : Int) ≤ x6 := by omega
              have tn32 : (((x6).toNat : Nat) : Int) = x6 := Int.toNat_of_nonneg lo32
              refine And.intro (lo32) (And.intro (show _ < (400 : Int) from by omega) ?_)
              intro v32 e32 a32 b32
              have C32 : v32 = M (pz_lb3 g + 4) x6.toNat := by
                rw [e32, L27]
                exact hS.2 _ _ (by unfold pq_Pw pz_lb3; first | decide | omega)
              intro v34 e34 a34 b34
              have T34 : v34 = -v32 - 1 := pz_cpl (by first | decide | omega) (by first | decide | omega) e34
              refine And.intro (fun h39 => ?_) (fun h39 => ?_)
              · skip
                intro r59 e59 k59
                have R59 := pz_kdA k59 (by decide) (by decide)
                have Q59 := pz_nm e59 k_g.1 (by decide) (by decide) rfl
                have Z62 : (((pz_ak 16).2 : Nat) : Int) = 64 := rfl
                refine And.intro (fun h63 => ?_) (fun h63 => ?_)
                · skip
                  have G176 : pc_iv (fun z => pv_fn M c (z + 7) i) M g (32 + 6 * (g - 10)) p q (x6 + 1) x5 N6 := pc_iv_s g6_3 (by first | decide | omega) C32 rfl ⟨fun z => (by exfalso; omega), fun z => (by exfalso; omega), fun z => (by exfalso; omega), fun z => (by exfalso; omega)⟩
                  exact L176 _ _ _ _ hS (by first | omega | assumption) (by first | omega | assumption) (by first | omega | assumption) (by first | omega | assumption) (by first | omega | assumption) (by first | omega | assumption)
                · skip
                  skip
                  intro r67 e67 k67
                  have R67 := pz_kdA k67 (by decide) (by decide)
                  have Q67 := pz_nm e67 k_g.1 (by decide) (by decide) rfl
                  have L67 := e67.trans (pz_rf37 R_g)
                  refine And.intro (fun h74 => ?_) (fun h74 => ?_)
                  · skip
                    refine And.intro (hI) ?_
                    intro v92 M92 a92 b92 q92
                    obtain ⟨q92, z92⟩ := q92
                    subst z92
                    have lo95 : (0 : Int) ≤ x5 := by omega
                    have tn95 : (((x5).toNat : Nat) : Int) = x5 := Int.toNat_of_nonneg lo95
                    refine And.intro (lo95) (And.intro (show _ < (64 : Int) from by omega) ?_)
                    intro M95 e95
                    have hS : pq_pr pq_Pw M M95 := by
                      rw [e95]
                      exact pq_pr_u hS (by unfold pq_Pw; first | decide | omega) (by unfold pz_iok; first | decide | omega)
                    have hI : pz_ic M95 := hS.1 hI0
                    intro v96 e96 a96 b96
                    rw [pz_wi (by first | decide | omega) (by first | decide | omega)] at e96
                    first
                      | (have C83 : v83 = v32 := by rw [e83, L78, e32, L27]
                         have G176 : pc_iv (fun z => pv_fn M c (z + 7) i) M g (32 + 6 * (g - 10)) p q (x6 + 1) v96 M95 := pc_iv_s g6_3 (by first | decide | omega) C32 rfl ⟨fun z => ⟨by omega, by rw [e95, L67, C83]⟩, fun z => (by exfalso; omega), fun z => (by exfalso; omega), fun z => (by exfalso; omega)⟩)
                      | (have C92 : v92 = pv_fn M c (-v32 - 8 + 7) i := by
                           rw [q92, show -v32 - 8 + 7 = v34 by omega]
                           exact pv_fn_cg (fun b j z => hS6.2 b j (by unfold pz_lb at z; unfold pq_Pw; omega))
                         have G176 : pc_iv (fun z => pv_fn M c (z + 7) i) M g (32 + 6 * (g - 10)) p q (x6 + 1) v96 M95 := pc_iv_s g6_3 (by first | decide | omega) C32 rfl ⟨fun z => (by exfalso; omega), fun z => ⟨by omega, by rw [e95, L67, C92]⟩, fun z => (by exfalso; omega), fun z => (by exfalso; omega)⟩)
                    exact L176 _ _ _ _ hS (by first | omega | assumption) (by first | omega | assumption) (by first | omega | assumption) (by first | omega | assumption) (by first | omega | assumption) (by first | omega | assumption)
                  · skip
                    intro r78 e78 k78
                    have R78 := pz_kdA k78 (by decide) (by decide)
                    have Q78 := pz_nm e78 k_g.1 (by decide) (by decide) rfl
                    have L78 := e78.trans (pz_rf3 R_g).2.2.2.2
                    refine And.intro (lo32) (And.intro (show _ < (400 : Int) from by omega) ?_)
                    intro v83 e83 a83 b83
                    have lo95 : (0 : Int) ≤ x5 := by omega
                    have tn95 : (((x5).toNat : Nat) : Int) = x5 := Int.toNat_of_nonneg lo95
                    refine And.intro (lo95) (And.intro (show _ < (64 : Int) from by omega) ?_)
                    intro M95 e95
                    have hS : pq_pr pq_Pw M M95 := by
                      rw [e95]
                      exact pq_pr_u hS (by unfold pq_Pw; first | decide | omega) (by unfold pz_iok; first | decide | omega)
                    have hI : pz_ic M95 := hS.1 hI0
                    intro v96 e96 a96 b96
                    rw [pz_wi (by first | decide | omega) (by first | decide | omega)] at e96
                    first
                      | (have C83 : v83 = v32 := by rw [e83, L78, e32, L27]
                         have G176 : pc_iv (fun z => pv_fn M c (z + 7) i) M g (32 + 6 * (g - 10)) p q (x6 + 1) v96 M95 := pc_iv_s g6_3 (by first | decide | omega) C32 rfl ⟨fun z => ⟨by omega, by rw [e95, L67, C83]⟩, fun z => (by exfalso; omega), fun z => (by exfalso; omega), fun z => (by exfalso; omega)⟩)
                      | (have C92 : v92 = pv_fn M c (-v32 - 8 + 7) i := by
                           rw [q92, show -v32 - 8 + 7 = v34 by omega]
                           exact pv_fn_cg (fun b j z => hS6.2 b j (by unfold pz_lb at z; unfold pq_Pw; omega))
                         have G176 : pc_iv (fun z => pv_fn M c (z + 7) i) M g (32 + 6 * (g - 10)) p q (x6 + 1) v96 M95 := pc_iv_s g6_3 (by first | decide | omega) C32 rfl ⟨fun z => (by exfalso; omega), fun z => ⟨by omega, by rw [e95, L67, C92]⟩, fun z => (by exfalso; omega), fun z => (by exfalso; omega)⟩)
                    exact L176 _ _ _ _ hS (by first | omega | assumption) (by first | omega | assumption) (by first | omega | assumption) (by first | omega | assumption) (by first | omega | assumption) (by first | omega | assumption)
              · skip
                refine And.intro (fun h46 => ?_) (fun h46 => ?_)
                · skip
                  refine And.intro (fun h106 => ?_) (fun h106 => ?_)
                  · skip
                    refine And.intro (fun h140 => ?_) (fun h140 => ?_)
                    · skip
                      have G176 : pc_iv (fun z => pv_fn M c (z + 7) i) M g (32 + 6 * (g - 10)) p q (x6 + 1) x5 N6 := pc_iv_s g6_3 (by first | decide | omega) C32 rfl ⟨fun z => (by exfalso; omega), fun z => (by exfalso; omega), fun z => (by exfalso; omega), fun z => (by exfalso; omega)⟩
                      exact L176 _ _ _ _ hS (by first | omega | assumption) (by first | omega | assumption) (by first | omega | assumption) (by first | omega | assumption) (by first | omega | assumption) (by first | omega | assumption)
                    · skip
                      skip
                      intro v143 e143 a143 b143
                      try rw [pz_wi (by first | decide | omega) (by first | decide | omega)] at e143
                      intro r147 e147 k147
                      have R147 := pz_kdA k147 (by decide) (by decide)
                      have Q147 := pz_nm e147 k_g.1 (by decide) (by decide) rfl
                      have L147 := e147.trans (pz_rf37 R_g)
                      intro v153 e153 a153 b153
                      try rw [pz_wi (by first | decide | omega) (by first | decide | omega)] at e153
                      intro r157 e157 k157
                      have R157 := pz_kdA k157 (by decide) (by decide)
                      have Q157 := pz_nm e157 k_g.1 (by decide) (by decide) rfl
                      have L157 := e157.trans (pz_rf37 R_g)
                      intro v163 e163 a163 b163
                      try rw [pz_wi (by first | decide | omega) (by first | decide | omega)] at e163
                      have lo164 : (0 : Int) ≤ v163 := by omega
                      have tn164 : (((v163).toNat : Nat) : Int) = v163 := Int.toNat_of_nonneg lo164
                      refine And.intro (lo164) (And.intro (show _ < (64 : Int) from by omega) ?_)
                      intro v164 e164 a164 b164
                      intro r166 e166 k166
                      have R166 := pz_kdA k166 (by decide) (by decide)
                      have Q166 := pz_nm e166 k_g.1 (by decide) (by decide) rfl
                      have L166 := e166.trans (pz_rf37 R_g)
                      have lo171 : (0 : Int) ≤ v143 := by omega
                      have tn171 : (((v143).toNat : Nat) : Int) = v143 := Int.toNat_of_nonneg lo171
                      refine And.intro (lo171) (And.intro (show _ < (64 : Int) from by omega) ?_)
                      intro v171 e171 a171 b171
                      refine And.intro (True.intro) ?_
                      intro v172 M172 a172 b172 q172
                      obtain ⟨q172, z172⟩ := q172
                      subst z172
                      have lo175 : (0 : Int) ≤ v153 := by omega
                      have tn175 : (((v153).toNat : Nat) : Int) = v153 := Int.toNat_of_nonneg lo175
                      refine And.intro (lo175) (And.intro (show _ < (64 : Int) from by omega) ?_)
                      intro M175 e175
                      have hS : pq_pr pq_Pw M M175 := by
                        rw [e175]
                        exact pq_pr_u hS (by unfold pq_Pw; first | decide | omega) (by unfold pz_iok; first | decide | omega)
                      have hI : pz_ic M175 := hS.1 hI0
                      have G176 : pc_iv (fun z => pv_fn M c (z + 7) i) M g (32 + 6 * (g - 10)) p q (x6 + 1) v143 M175 := pc_iv_s g6_3 (by first | decide | omega) C32 rfl ⟨fun z => (by exfalso; omega), fun z => (by exfalso; omega), fun z => (by exfalso; omega), fun z => ⟨by omega, by rw [e175, L147, q172, e164, L157, e171, L166, show v153 = x5 - 2 by omega, show v163 = x5 - 2 by omega, show v143 = x5 - 1 by omega, show -v32 - 1 = v34 by omega]⟩⟩
                      exact L176 _ _ _ _ hS (by first | omega | assumption) (by first | omega | assumption) (by first | omega | assumption) (by first | omega | assumption) (by first | omega | assumption) (by first | omega | assumption)
                  · skip
                    refine And.intro (fun h111 => ?_) (fun h111 => ?_)
                    · skip
                      have G176 : pc_iv (fun z => pv_fn M c (z + 7) i) M g (32 + 6 * (g - 10)) p q (x6 + 1) x5 N6 := pc_iv_s g6_3 (by first | decide | omega) C32 rfl ⟨fun z => (by exfalso; omega), fun z => (by exfalso; omega), fun z => (by exfalso; omega), fun z => (by exfalso; omega)⟩
                      exact L176 _ _ _ _ hS (by first | omega | assumption) (by first | omega | assumption) (by first | omega | assumption) (by first | omega | assumption) (by first | omega | assumption) (by first | omega | assumption)
                    · skip
                      skip
                      intro r115 e115 k115
                      have R115 := pz_kdA k115 (by decide) (by decide)
                      have Q115 := pz_nm e115 k_g.1 (by decide) (by decide) rfl
                      have L115 := e115.trans (pz_rf37 R_g)
                      intro v121 e121 a121 b121
                      try rw [pz_wi (by first | decide | omega) (by first | decide | omega)] at e121
                      intro r124 e124 k124
                      have R124 := pz_kdA k124 (by decide) (by decide)
                      have Q124 := pz_nm e124 k_g.1 (by decide) (by decide) rfl
                      have L124 := e124.trans (pz_rf37 R_g)
                      intro v130 e130 a130 b130
                      try rw [pz_wi (by first | decide | omega) (by first | decide | omega)] at e130
                      have lo131 : (0 : Int) ≤ v130 := by omega
                      have tn131 : (((v130).toNat : Nat) : Int) = v130 := Int.toNat_of_nonneg lo131
                      refine And.intro (lo131) (And.intro (show _ < (64 : Int) from by omega) ?_)
                      intro v131 e131 a131 b131
                      intro v132 e132 a132 b132
                      have lo133 : (0 : Int) ≤ v121 := by omega
                      have tn133 : (((v121).toNat : Nat) : Int) = v121 := Int.toNat_of_nonneg lo133
                      refine And.intro (lo133) (And.intro (show _ < (64 : Int) from by omega) ?_)
                      intro M133 e133
                      have hS : pq_pr pq_Pw M M133 := by
                        rw [e133]
                        exact pq_pr_u hS (by unfold pq_Pw; first | decide | omega) (by unfold pz_iok; first | decide | omega)
                      have hI : pz_ic M133 := hS.1 hI0
                      have G176 : pc_iv (fun z => pv_fn M c (z + 7) i) M g (32 + 6 * (g - 10)) p q (x6 + 1) x5 M133 := pc_iv_s g6_3 (by first | decide | omega) C32 rfl ⟨fun z => (by exfalso; omega), fun z => (by exfalso; omega), fun z => ⟨rfl, by rw [e133, L115, e132, e131, L124, show v121 = x5 - 1 by omega, show v130 = x5 - 1 by omega]⟩, fun z => (by exfalso; omega)⟩
                      exact L176 _ _ _ _ hS (by first | omega | assumption) (by first | omega | assumption) (by first | omega | assumption) (by first | omega | assumption) (by first | omega | assumption) (by first | omega | assumption)
                · skip
                  refine And.intro (fun h53 => ?_) (fun h53 => ?_)
                  · skip
                    refine And.intro (fun h106 => ?_) (fun h106 => ?_)
                    · skip
                      refine And.intro (fun h140 => ?_) (fun h140 => ?_)
                      · skip
                        have G176 : pc_iv (fun z => pv_fn M c (z + 7) i) M g (32 + 6 * (g - 10)) p q (x6 + 1) x5 N6 := pc_iv_s g6_3 (by first | decide | omega) C32 rfl ⟨fun z => (by exfalso; omega), fun z => (by exfalso; omega), fun z => (by exfalso; omega), fun z => (by exfalso; omega)⟩
                        exact L176 _ _ _ _ hS (by first | omega | assumption) (by first | omega | assumption) (by first | omega | assumption) (by first | omega | assumption) (by first | omega | assumption) (by first | omega | assumption)
                      · skip
                        skip
                        intro v143 e143 a143 b143
                        try rw [pz_wi (by first | decide | omega) (by first | decide | omega)] at e143
                        intro r147 e147 k147
                        have R147 := pz_kdA k147 (by decide) (by decide)
                        have Q147 := pz_nm e147 k_g.1 (by decide) (by decide) rfl
                        have L147 := e147.trans (pz_rf37 R_g)
                        intro v153 e153 a153 b153
                        try rw [pz_wi (by first | decide | omega) (by first | decide | omega)] at e153
                        intro r157 e157 k157
                        have R157 := pz_kdA k157 (by decide) (by decide)
                        have Q157 := pz_nm e157 k_g.1 (by decide) (by decide) rfl
                        have L157 := e157.trans (pz_rf37 R_g)
                        intro v163 e163 a163 b163
                        try rw [pz_wi (by first | decide | omega) (by first | decide | omega)] at e163
                        have lo164 : (0 : Int) ≤ v163 := by omega
                        have tn164 : (((v163).toNat : Nat) : Int) = v163 := Int.toNat_of_nonneg lo164
                        refine And.intro (lo164) (And.intro (show _ < (64 : Int) from by omega) ?_)
                        intro v164 e164 a164 b164
                        intro r166 e166 k166
                        have R166 := pz_kdA k166 (by decide) (by decide)
                        have Q166 := pz_nm e166 k_g.1 (by decide) (by decide) rfl
                        have L166 := e166.trans (pz_rf37 R_g)
                        have lo171 : (0 : Int) ≤ v143 := by omega
                        have tn171 : (((v143).toNat : Nat) : Int) = v143 := Int.toNat_of_nonneg lo171
                        refine And.intro (lo171) (And.intro (show _ < (64 : Int) from by omega) ?_)
                        intro v171 e171 a171 b171
                        refine And.intro (True.intro) ?_
                        intro v172 M172 a172 b172 q172
                        obtain ⟨q172, z172⟩ := q172
                        subst z172
                        have lo175 : (0 : Int) ≤ v153 := by omega
                        have tn175 : (((v153).toNat : Nat) : Int) = v153 := Int.toNat_of_nonneg lo175
                        refine And.intro (lo175) (And.intro (show _ < (64 : Int) from by omega) ?_)
                        intro M175 e175
                        have hS : pq_pr pq_Pw M M175 := by
                          rw [e175]
                          exact pq_pr_u hS (by unfold pq_Pw; first | decide | omega) (by unfold pz_iok; first | decide | omega)
                        have hI : pz_ic M175 := hS.1 hI0
                        have G176 : pc_iv (fun z => pv_fn M c (z + 7) i) M g (32 + 6 * (g - 10)) p q (x6 + 1) v143 M175 := pc_iv_s g6_3 (by first | decide | omega) C32 rfl ⟨fun z => (by exfalso; omega), fun z => (by exfalso; omega), fun z => (by exfalso; omega), fun z => ⟨by omega, by rw [e175, L147, q172, e164, L157, e171, L166, show v153 = x5 - 2 by omega, show v163 = x5 - 2 by omega, show v143 = x5 - 1 by omega, show -v32 - 1 = v34 by omega]⟩⟩
                        exact L176 _ _ _ _ hS (by first | omega | assumption) (by first | omega | assumption) (by first | omega | assumption) (by first | omega | assumption) (by first | omega | assumption) (by first | omega | assumption)
                    · skip
                      refine And.intro (fun h111 => ?_) (fun h111 => ?_)
                      · skip
                        have G176 : pc_iv (fun z => pv_fn M c (z + 7) i) M g (32 + 6 * (g - 10)) p q (x6 + 1) x5 N6 := pc_iv_s g6_3 (by first | decide | omega) C32 rfl ⟨fun z => (by exfalso; omega), fun z => (by exfalso; omega), fun z => (by exfalso; omega), fun z => (by exfalso; omega)⟩
                        exact L176 _ _ _ _ hS (by first | omega | assumption) (by first | omega | assumption) (by first | omega | assumption) (by first | omega | assumption) (by first | omega | assumption) (by first | omega | assumption)
                      · skip
                        skip
                        intro r115 e115 k115
                        have R115 := pz_kdA k115 (by decide) (by decide)
                        have Q115 := pz_nm e115 k_g.1 (by decide) (by decide) rfl
                        have L115 := e115.trans (pz_rf37 R_g)
                        intro v121 e121 a121 b121
                        try rw [pz_wi (by first | decide | omega) (by first | decide | omega)] at e121
                        intro r124 e124 k124
                        have R124 := pz_kdA k124 (by decide) (by decide)
                        have Q124 := pz_nm e124 k_g.1 (by decide) (by decide) rfl
                        have L124 := e124.trans (pz_rf37 R_g)
                        intro v130 e130 a130 b130
                        try rw [pz_wi (by first | decide | omega) (by first | decide | omega)] at e130
                        have lo131 : (0 : Int) ≤ v130 := by omega
                        have tn131 : (((v130).toNat : Nat) : Int) = v130 := Int.toNat_of_nonneg lo131
                        refine And.intro (lo131) (And.intro (show _ < (64 : Int) from by omega) ?_)
                        intro v131 e131 a131 b131
                        intro v132 e132 a132 b132
                        have lo133 : (0 : Int) ≤ v121 := by omega
                        have tn133 : (((v121).toNat : Nat) : Int) = v121 := Int.toNat_of_nonneg lo133
                        refine And.intro (lo133) (And.intro (show _ < (64 : Int) from by omega) ?_)
                        intro M133 e133
                        have hS : pq_pr pq_Pw M M133 := by
                          rw [e133]
                          exact pq_pr_u hS (by unfold pq_Pw; first | decide | omega) (by unfold pz_iok; first | decide | omega)
                        have hI : pz_ic M133 := hS.1 hI0
                        have G176 : pc_iv (fun z => pv_fn M c (z + 7) i) M g (32 + 6 * (g - 10)) p q (x6 + 1) x5 M133 := pc_iv_s g6_3 (by first | decide | omega) C32 rfl ⟨fun z => (by exfalso; omega), fun z => (by exfalso; omega), fun z => ⟨rfl, by rw [e133, L115, e132, e131, L124, show v121 = x5 - 1 by omega, show v130 = x5 - 1 by omega]⟩, fun z => (by exfalso; omega)⟩
                        exact L176 _ _ _ _ hS (by first | omega | assumption) (by first | omega | assumption) (by first | omega | assumption) (by first | omega | assumption) (by first | omega | assumption) (by first | omega | assumption)
                  · skip
                    intro r59 e59 k59
                    have R59 := pz_kdA k59 (by decide) (by decide)
                    have Q59 := pz_nm e59 k_g.1 (by decide) (by decide) rfl
                    have Z62 : (((pz_ak 16).2 : Nat) : Int) = 64 := rfl
                    refine And.intro (fun h63 => ?_) (fun h63 => ?_)
                    · skip
                      have G176 : pc_iv (fun z => pv_fn M c (z + 7) i) M g (32 + 6 * (g - 10)) p q (x6 + 1) x5 N6 := pc_iv_s g6_3 (by first | decide | omega) C32 rfl ⟨fun z => (by exfalso; omega), fun z => (by exfalso; omega), fun z => (by exfalso; omega), fun z => (by exfalso; omega)⟩
                      exact L176 _ _ _ _ hS (by first | omega | assumption) (by first | omega | assumption) (by first | omega | assumption) (by first | omega | assumption) (by first | omega | assumption) (by first | omega | assumption)
                    · skip
                      skip
                      intro r67 e67 k67
                      have R67 := pz_kdA k67 (by decide) (by decide)
                      have Q67 := pz_nm e67 k_g.1 (by decide) (by decide) rfl
                      have L67 := e67.trans (pz_rf37 R_g)
                      refine And.intro (fun h74 => ?_) (fun h74 => ?_)
                      · skip
                        refine And.intro (hI) ?_
                        intro v92 M92 a92 b92 q92
                        obtain ⟨q92, z92⟩ := q92
                        subst z92
                        have lo95 : (0 : Int) ≤ x5 := by omega
                        have tn95 : (((x5).toNat : Nat) : Int) = x5 := Int.toNat_of_nonneg lo95
                        refine And.intro (lo95) (And.intro (show _ < (64 : Int) from by omega) ?_)
                        intro M95 e95
                        have hS : pq_pr pq_Pw M M95 := by
                          rw [e95]
                          exact pq_pr_u hS (by unfold pq_Pw; first | decide | omega) (by unfold pz_iok; first | decide | omega)
                        have hI : pz_ic M95 := hS.1 hI0
                        intro v96 e96 a96 b96
                        rw [pz_wi (by first | decide | omega) (by first | decide | omega)] at e96
                        first
                          | (have C83 : v83 = v32 := by rw [e83, L78, e32, L27]
                             have G176 : pc_iv (fun z => pv_fn M c (z + 7) i) M g (32 + 6 * (g - 10)) p q (x6 + 1) v96 M95 := pc_iv_s g6_3 (by first | decide | omega) C32 rfl ⟨fun z => ⟨by omega, by rw [e95, L67, C83]⟩, fun z => (by exfalso; omega), fun z => (by exfalso; omega), fun z => (by exfalso; omega)⟩)
                          | (have C92 : v92 = pv_fn M c (-v32 - 8 + 7) i := by
                               rw [q92, show -v32 - 8 + 7 = v34 by omega]
                               exact pv_fn_cg (fun b j z => hS6.2 b j (by unfold pz_lb at z; unfold pq_Pw; omega))
                             have G176 : pc_iv (fun z => pv_fn M c (z + 7) i) M g (32 + 6 * (g - 10)) p q (x6 + 1) v96 M95 := pc_iv_s g6_3 (by first | decide | omega) C32 rfl ⟨fun z => (by exfalso; omega), fun z => ⟨by omega, by rw [e95, L67, C92]⟩, fun z => (by exfalso; omega), fun z => (by exfalso; omega)⟩)
                        exact L176 _ _ _ _ hS (by first | omega | assumption) (by first | omega | assumption) (by first | omega | assumption) (by first | omega | assumption) (by first | omega | assumption) (by first | omega | assumption)
                      · skip
                        intro r78 e78 k78
                        have R78 := pz_kdA k78 (by decide) (by decide)
                        have Q78 := pz_nm e78 k_g.1 (by decide) (by decide) rfl
                        have L78 := e78.trans (pz_rf3 R_g).2.2.2.2
                        refine And.intro (lo32) (And.intro (show _ < (400 : Int) from by omega) ?_)
                        intro v83 e83 a83 b83
                        have lo95 : (0 : Int) ≤ x5 := by omega
                        have tn95 : (((x5).toNat : Nat) : Int) = x5 := Int.toNat_of_nonneg lo95
                        refine And.intro (lo95) (And.intro (show _ < (64 : Int) from by omega) ?_)
                        intro M95 e95
                        have hS : pq_pr pq_Pw M M95 := by
                          rw [e95]
                          exact pq_pr_u hS (by unfold pq_Pw; first | decide | omega) (by unfold pz_iok; first | decide | omega)
                        have hI : pz_ic M95 := hS.1 hI0
                        intro v96 e96 a96 b96
                        rw [pz_wi (by first | decide | omega) (by first | decide | omega)] at e96
                        first
                          | (have C83 : v83 = v32 := by rw [e83, L78, e32, L27]
                             have G176 : pc_iv (fun z => pv_fn M c (z + 7) i) M g (32 + 6 * (g - 10)) p q (x6 + 1) v96 M95 := pc_iv_s g6_3 (by first | decide | omega) C32 rfl ⟨fun z => ⟨by omega, by rw [e95, L67, C83]⟩, fun z => (by exfalso; omega), fun z => (by exfalso; omega), fun z => (by exfalso; omega)⟩)
                          | (have C92 : v92 = pv_fn M c (-v32 - 8 + 7) i := by
                               rw [q92, show -v32 - 8 + 7 = v34 by omega]
                               exact pv_fn_cg (fun b j z => hS6.2 b j (by unfold pz_lb at z; unfold pq_Pw; omega))
                             have G176 : pc_iv (fun z => pv_fn M c (z + 7) i) M g (32 + 6 * (g - 10)) p q (x6 + 1) v96 M95 := pc_iv_s g6_3 (by first | decide | omega) C32 rfl ⟨fun z => (by exfalso; omega), fun z => ⟨by omega, by rw [e95, L67, C92]⟩, fun z => (by exfalso; omega), fun z => (by exfalso; omega)⟩)
                        exact L176 _ _ _ _ hS (by first | omega | assumption) (by first | omega | assumption) (by first | omega | assumption) (by first | omega | assumption) (by first | omega | assumption) (by first | omega | assumption)
    refine hgo (fun p => Nat.beq p 6 || Nat.beq p 176 || Nat.beq p 182) 107 0 _ [] M ?_
    exact L6 _ _ _ _ _ (Nat.lt_succ_self _) hS (by first | omega | assumption | exact pc_iv_0) (by first | omega | assumption | exact pc_iv_0) (by first | omega | assumption | exact pc_iv_0)
theorem v3_X3_worked {fr lo i : Nat} {own : String} (h1 : 2 + 1 ≤ fr) (h2 : 8 + (8 + 11) + 45 ≤ lo) (h3 : .methodLink own i yX3_worked ∈ lw_tbl) : pz_cV fr lo own i k3_X3_worked :=
  pz_cVk (maxL := 8) (fr' := 2) (lo' := 45) 4 3 h3_X3_worked rfl ⟨(pz_nhc_RX3 yX3_worked rfl).1, (pz_nhc_RX3 yX3_worked rfl).2, pz_ds23⟩ ⟨pz_wq489, pz_wq487, pz_wq488, pz_wq5⟩ (Or.inl ⟨TX3, 8, rfl⟩) (fun a M _ h => by
    have h : (match (generalizing := false) a with | [.inr (.inr (3, g)), .inl p, .inl q, .inr (.inr (0, c)), .inl i] => pz_ic M | _ => False) := h
    split at h
    · exact ⟨_, _, rfl⟩
    · exact h.elim) h1 h2 h3
noncomputable def k3_X3_tells : pz_C := (4, 1, fun a M => (match a with | [.inr (.inr (3, g)), .inl w, .inr (.inr (0, c)), .inl i] => pz_ic M | _ => False), fun a M r M' => (match a, r with | [.inr (.inr (3, g)), .inl w, .inr (.inr (0, c)), .inl i], some (.inl v) => ((0 ≤ v ∧ v ≤ 1000) ∧ pz_tel M g w c i v) ∧ pq_pr pq_Pw M M' | _, _ => False))
noncomputable abbrev ct3_X3_tells : List (Bool × Nat × pz_C) := [(true, 43, k3_X3_worked), (false, 47, k3_X3_held), (true, 51, k_X0_at), (false, 57, k3_X3_untold)]
set_option maxRecDepth 100000 in
set_option maxHeartbeats 4000000 in
theorem h3_X3_tells : pz_H yX3_tells cX3_tells 6 (some .int) k3_X3_tells 3 72 := by
  refine pz_mk (own := RX3) (tb := t_X3_tells) (fl := pz_flf fl_RX3) (ci := fun _ => none) (ct := pz_ctf ct3_X3_tells) (rz := false) (pz_pfc_RX3 yX3_tells rfl) rfl t_X3_tells_ok (pz_flk fl_RX3_ok) (fun i v h => by cases h) ?_ ?_ (Or.inl ⟨rfl, rfl⟩) ?_ ?_
  · exact fun i k' h => pz_ctk (l := ct3_X3_tells) (P := fun b i k => b = true → pz_cV 3 72 RX3 i k) (List.forall_mem_cons.mpr ⟨(fun _ => v3_X3_worked (by decide) (by decide) pz_wq486), List.forall_mem_cons.mpr ⟨((fun z => by cases z)), List.forall_mem_cons.mpr ⟨(fun _ => v_X0_at (by decide) (by decide) pz_wq509), List.forall_mem_cons.mpr ⟨((fun z => by cases z)), fun _ h => absurd h List.not_mem_nil⟩⟩⟩⟩) true i k' h rfl
  · exact fun i k' h => pz_ctk (l := ct3_X3_tells) (P := fun b i k => b = false → (pz_cS 3 72 RX3 i k ∨ (k = pz_kac ∧ 1 ≤ 3 ∧ 60 ≤ 72 ∧ Cond.methodLink RX3 i arraycopyName ∈ pz_tbl))) (List.forall_mem_cons.mpr ⟨((fun z => by cases z)), List.forall_mem_cons.mpr ⟨(fun _ => Or.inl (s3_X3_held (by decide) (by decide) (Or.inl pz_wq502))), List.forall_mem_cons.mpr ⟨((fun z => by cases z)), List.forall_mem_cons.mpr ⟨(fun _ => Or.inl (s3_X3_untold (by decide) (by decide) (Or.inl pz_wq510))), fun _ h => absurd h List.not_mem_nil⟩⟩⟩⟩) false i k' h rfl
  · intro a M hlen hpre
    obtain ⟨g, w, c, i, rfl, hpre⟩ : ∃ g w c i, a = [.inr (.inr (3, g)), .inl w, .inr (.inr (0, c)), .inl i] ∧ (pz_ic M) := by
      have hpre : (match (generalizing := false) a with | [.inr (.inr (3, g)), .inl w, .inr (.inr (0, c)), .inl i] => pz_ic M | _ => False) := hpre
      split at hpre
      · exact ⟨_, _, _, _, rfl, hpre⟩
      · exact hpre.elim
    exact Nat.le_of_ble_eq_true rfl
  · intro a M hlen hcan hM hpre Ok hgo
    obtain ⟨g, w, c, i, rfl, hpre⟩ : ∃ g w c i, a = [.inr (.inr (3, g)), .inl w, .inr (.inr (0, c)), .inl i] ∧ (pz_ic M) := by
      have hpre : (match (generalizing := false) a with | [.inr (.inr (3, g)), .inl w, .inr (.inr (0, c)), .inl i] => pz_ic M | _ => False) := hpre
      split at hpre
      · exact ⟨_, _, _, _, rfl, hpre⟩
      · exact hpre.elim
    obtain ⟨k_g, hc_g⟩ := pz_tlm hcan
    have k_g : pz_kd g = 3 ∧ g < 231 := k_g
    have R_g := pz_kd3 k_g.1
    obtain ⟨k_w, hc_w⟩ := pz_tlm hc_g
    have l_w : -2147483648 ≤ w := k_w.1
    have u_w : w ≤ 2147483647 := k_w.2
    obtain ⟨k_c, hc_c⟩ := pz_tlm hc_w
    have k_c : pz_kd c = 0 ∧ c < 231 := k_c
    have R_c := pz_kd0 k_c.1
    obtain ⟨k_i, hc_i⟩ := pz_tlm hc_c
    have l_i : -2147483648 ≤ i := k_i.1
    have u_i : i ≤ 2147483647 := k_i.2
    have hI : pz_ic M := hpre
    have hI0 := hI
    have hS : pq_pr pq_Pw M M := pq_pr.rf
    have I0 := hI.2.2.2.1 g R_g.1 R_g.2
    have B_c := pz_lnk_b (i := i) R_c.1
    have L3 : ∀ (fu : Nat) (x4 : Int) (d5 : Option pz_V) (N3 : pz_M), (16 - x4).toNat < fu → (pq_pr pq_Pw M N3) → (0 ≤ x4) → (pz_tlv M g w c i x4) → Ok 3 [some (.inr (.inr (3, g))), some (.inl w), some (.inr (.inr (0, c))), some (.inl i), some (.inl x4), d5] [] N3 := by
      intro fu
      induction fu with
      | zero => exact fun _ _ _ hn => absurd hn (Nat.not_lt_zero _)
      | succ fu ih3 =>
        intro x4 d5 N3 hn3 hS g3_1 g3_2
        have hI : pz_ic N3 := hS.1 hI0
        have hS3 := hS
        have L107 : ∀ (x4 : Int) (x5 : Int) (N107 : pz_M), (pq_pr pq_Pw M N107) → (0 ≤ x4) → (x4 < 16) → ((16 - x4).toNat < fu + 1) → (pz_tlv M g w c i (x4 + 1)) → Ok 107 [some (.inr (.inr (3, g))), some (.inl w), some (.inr (.inr (0, c))), some (.inl i), some (.inl x4), some (.inl x5)] [] N107 := by
          intro x4 x5 N107 hS g107_1 g107_2 g107_3 g107_4
          have hI : pz_ic N107 := hS.1 hI0
          refine hgo (fun p => Nat.beq p 3 || Nat.beq p 107) 70 107 _ _ _ ?_
          intro v107 e107 a107 b107
          rw [pz_wi (by first | decide | omega) (by first | decide | omega)] at e107
          have G3 : pz_tlv M g w c i v107 := by
            rw [e107]
            exact g107_4
          exact ih3 _ _ _ (by first | decide | omega) hS (by first | omega | assumption | exact pz_tlv_0) (by first | omega | assumption | exact pz_tlv_0)
        refine hgo (fun p => Nat.beq p 3 || Nat.beq p 107) 70 3 _ _ _ ?_
        intro v6 e6 a6 b6
        have I6 := hI.2.2.2.1 g (by first | decide | omega) (by first | decide | omega)
        have S6 : v6 = M g 0 := by
          rw [e6]
          exact hS.2 _ _ (by unfold pq_Pw; first | decide | omega)
        refine And.intro (fun h9 => ?_) (fun h9 => ?_)
        · skip
          refine And.intro (True.intro) ?_
          intro r117 M117 k117 q117
          have R117 := pz_kd5 k117
          obtain ⟨q117, z117⟩ := q117
          subst z117
          have A117 := pz_at_lk R_c q117
          refine And.intro (hI) ?_
          intro v120 M120 a120 b120 q120
          obtain ⟨q120, z120⟩ := q120
          subst z120
          refine And.intro (True.intro) ?_
          intro v123 M123 a123 b123 q123
          obtain ⟨q123, z123⟩ := q123
          subst z123
          refine And.intro rfl ?_
          exact ⟨⟨q123.1, pz_tlv_e g3_2 (by first | decide | omega) (by first | decide | omega) (by rw [q123.2, q120, A117, hS3.2 _ 3 (by unfold pq_Pw; first | decide | omega), hS3.2 _ 2 (by unfold pq_Pw; first | decide | omega)])⟩, hS⟩
        · skip
          refine And.intro (fun h16 => ?_) (fun h16 => ?_)
          · skip
            refine And.intro (True.intro) ?_
            intro r117 M117 k117 q117
            have R117 := pz_kd5 k117
            obtain ⟨q117, z117⟩ := q117
            subst z117
            have A117 := pz_at_lk R_c q117
            refine And.intro (hI) ?_
            intro v120 M120 a120 b120 q120
            obtain ⟨q120, z120⟩ := q120
            subst z120
            refine And.intro (True.intro) ?_
            intro v123 M123 a123 b123 q123
            obtain ⟨q123, z123⟩ := q123
            subst z123
            refine And.intro rfl ?_
            exact ⟨⟨q123.1, pz_tlv_e g3_2 (by first | decide | omega) (by first | decide | omega) (by rw [q123.2, q120, A117, hS3.2 _ 3 (by unfold pq_Pw; first | decide | omega), hS3.2 _ 2 (by unfold pq_Pw; first | decide | omega)])⟩, hS⟩
          · skip
            intro r20 e20 k20
            have R20 := pz_kdA k20 (by decide) (by decide)
            have Q20 := pz_nm e20 k_g.1 (by decide) (by decide) rfl
            have L20 := e20.trans (pz_rf3 R_g).2.2.1
            have lo25 : (0 : Int) ≤ x4 := by omega
            have tn25 : (((x4).toNat : Nat) : Int) = x4 := Int.toNat_of_nonneg lo25
            refine And.intro (lo25) (And.intro (show _ < (16 : Int) from by omega) ?_)
            intro v25 e25 a25 b25
            have V25 : v25 = M (pz_lb3 g + 2) x4.toNat := by
              rw [e25, L20]
              exact hS.2 _ _ (by unfold pq_Pw pz_lb3; first | decide | omega)
            intro r27 e27 k27
            have R27 := pz_kdA k27 (by decide) (by decide)
            have Q27 := pz_nm e27 k_g.1 (by decide) (by decide) rfl
            have L27 := e27.trans (pz_rf3 R_g).2.2.2.1
            refine And.intro (lo25) (And.intro (show _ < (16 : Int) from by omega) ?_)
            intro v32 e32 a32 b32
            have V32 : v32 = M (pz_lb3 g + 3) x4.toNat := by
              rw [e32, L27]
              exact hS.2 _ _ (by unfold pq_Pw pz_lb3; first | decide | omega)
            refine And.intro (fun h33 => ?_) (fun h33 => ?_)
            · skip
              intro r44 e44 k44
              have R44 := pz_kdA k44 (by decide) (by decide)
              have Q44 := pz_nm e44 k_g.1 (by decide) (by decide) rfl
              have L44 := e44.trans (pz_rf3 R_g).1
              refine And.intro (lo25) (And.intro (show _ < (16 : Int) from by omega) ?_)
              intro v49 e49 a49 b49
              have V49 : v49 = M (pz_lb3 g + 0) x4.toNat := by
                rw [e49, L44]
                exact hS.2 _ _ (by unfold pq_Pw pz_lb3; first | decide | omega)
              have FA : pz_lnf M g x4 v25 v32 v49 := fun t ht hg => ⟨by rw [V25, hg, show pz_lb3 (10 + t) + 2 = 29 + 6 * t by unfold pz_lb3; omega], by rw [V32, hg, show pz_lb3 (10 + t) + 3 = 30 + 6 * t by unfold pz_lb3; omega], by rw [V49, hg, show pz_lb3 (10 + t) + 0 = 27 + 6 * t by unfold pz_lb3; omega]⟩
              refine And.intro (fun h51 => ?_) (fun h51 => ?_)
              · skip
                have G107 : pz_tlv M g w c i (x4 + 1) := pz_tlv_w g3_2 (by first | decide | omega) (by first | decide | omega) rfl FA h51
                exact L107 _ _ _ hS (by first | omega | assumption) (by first | omega | assumption) (by first | omega | assumption) (by first | omega | assumption)
              · skip
                skip
                refine And.intro (fun h56 => ?_) (fun h56 => ?_)
                · skip
                  exact absurd h56 (by decide)
                · skip
                  intro r61 e61 k61
                  have R61 := pz_kdA k61 (by decide) (by decide)
                  have Q61 := pz_nm e61 k_g.1 (by decide) (by decide) rfl
                  have L61 := e61.trans (pz_rf3 R_g).2.2.1
                  refine And.intro (lo25) (And.intro (show _ < (16 : Int) from by omega) ?_)
                  intro v66 e66 a66 b66
                  have E66 : v66 = v25 := by rw [e66, L61, e25, L20]
                  intro r68 e68 k68
                  have R68 := pz_kdA k68 (by decide) (by decide)
                  have Q68 := pz_nm e68 k_g.1 (by decide) (by decide) rfl
                  have L68 := e68.trans (pz_rf3 R_g).2.2.2.1
                  refine And.intro (lo25) (And.intro (show _ < (16 : Int) from by omega) ?_)
                  intro v73 e73 a73 b73
                  have E73 : v73 = v32 := by rw [e73, L68, e32, L27]
                  refine And.intro (hI) ?_
                  intro v76 M76 a76 b76 q76
                  obtain ⟨q76, z76⟩ := q76
                  have hS : pq_pr pq_Pw M M76 := hS.tr z76
                  have hI : pz_ic M76 := hS.1 hI0
                  rw [E66, E73] at q76
                  refine And.intro (fun h79 => ?_) (fun h79 => ?_)
                  · skip
                    first
                      | (have G107 : pz_tlv M g w c i (x4 + 1) := pz_tlv_b g3_2 (by first | decide | omega) (by first | decide | omega) rfl FA h33 hS3.2 q76 R_c h79)
                      | (have G107 : pz_tlv M g w c i (x4 + 1) := by exfalso; omega)
                    exact L107 _ _ _ hS (by first | omega | assumption) (by first | omega | assumption) (by first | omega | assumption) (by first | omega | assumption)
                  · skip
                    skip
                    intro r85 e85 k85
                    have R85 := pz_kdA k85 (by decide) (by decide)
                    have Q85 := pz_nm e85 k_g.1 (by decide) (by decide) rfl
                    have L85 := e85.trans (pz_rf3 R_g).2.1
                    refine And.intro (lo25) (And.intro (show _ < (16 : Int) from by omega) ?_)
                    intro v90 e90 a90 b90
                    have V90 : v90 = M (pz_lb3 g + 1) x4.toNat := by
                      rw [e90, L85]
                      exact hS.2 _ _ (by unfold pq_Pw pz_lb3; first | decide | omega)
                    intro r92 e92 k92
                    have R92 := pz_kdA k92 (by decide) (by decide)
                    have Q92 := pz_nm e92 k_g.1 (by decide) (by decide) rfl
                    have L92 := e92.trans (pz_rf3 R_g).2.2.1
                    refine And.intro (lo25) (And.intro (show _ < (16 : Int) from by omega) ?_)
                    intro v97 e97 a97 b97
                    have V97 : v97 = M (pz_lb3 g + 2) x4.toNat := by
                      rw [e97, L92]
                      exact hS.2 _ _ (by unfold pq_Pw pz_lb3; first | decide | omega)
                    have hS9 := hS
                    have FS : ∀ t : Nat, t < 3 → g = 10 + t → v90 = M (28 + 6 * t) x4.toNat := fun t ht hg => by rw [V90, hg, show pz_lb3 (10 + t) + 1 = 28 + 6 * t by unfold pz_lb3; omega]
                    refine And.intro (hI) ?_
                    intro v100 M100 a100 b100 q100
                    obtain ⟨q100, z100⟩ := q100
                    have hS : pq_pr pq_Pw M M100 := hS.tr z100
                    have hI : pz_ic M100 := hS.1 hI0
                    rw [V97.trans V25.symm] at q100
                    refine And.intro (True.intro) ?_
                    intro v103 M103 a103 b103 q103
                    obtain ⟨q103, z103⟩ := q103
                    subst z103
                    refine And.intro rfl ?_
                    first
                      | exact ⟨⟨q103.1, pz_tlv_y g3_2 (by first | decide | omega) (by first | decide | omega) FA FS (by first | decide | omega) (Or.inl h33) hS9.2 q100 R_c q103.2⟩, hS⟩
                      | exact ⟨⟨q103.1, pz_tlv_y g3_2 (by first | decide | omega) (by first | decide | omega) FA FS (by first | decide | omega) (Or.inr ⟨_, _, hS3.2, q76, h79⟩) hS9.2 q100 R_c q103.2⟩, hS⟩
                      | (exfalso; omega)
            · skip
              intro r44 e44 k44
              have R44 := pz_kdA k44 (by decide) (by decide)
              have Q44 := pz_nm e44 k_g.1 (by decide) (by decide) rfl
              have L44 := e44.trans (pz_rf3 R_g).1
              refine And.intro (lo25) (And.intro (show _ < (16 : Int) from by omega) ?_)
              intro v49 e49 a49 b49
              have V49 : v49 = M (pz_lb3 g + 0) x4.toNat := by
                rw [e49, L44]
                exact hS.2 _ _ (by unfold pq_Pw pz_lb3; first | decide | omega)
              have FA : pz_lnf M g x4 v25 v32 v49 := fun t ht hg => ⟨by rw [V25, hg, show pz_lb3 (10 + t) + 2 = 29 + 6 * t by unfold pz_lb3; omega], by rw [V32, hg, show pz_lb3 (10 + t) + 3 = 30 + 6 * t by unfold pz_lb3; omega], by rw [V49, hg, show pz_lb3 (10 + t) + 0 = 27 + 6 * t by unfold pz_lb3; omega]⟩
              refine And.intro (fun h51 => ?_) (fun h51 => ?_)
              · skip
                have G107 : pz_tlv M g w c i (x4 + 1) := pz_tlv_w g3_2 (by first | decide | omega) (by first | decide | omega) rfl FA h51
                exact L107 _ _ _ hS (by first | omega | assumption) (by first | omega | assumption) (by first | omega | assumption) (by first | omega | assumption)
              · skip
                skip
                refine And.intro (fun h56 => ?_) (fun h56 => ?_)
                · skip
                  intro r85 e85 k85
                  have R85 := pz_kdA k85 (by decide) (by decide)
                  have Q85 := pz_nm e85 k_g.1 (by decide) (by decide) rfl
                  have L85 := e85.trans (pz_rf3 R_g).2.1
                  refine And.intro (lo25) (And.intro (show _ < (16 : Int) from by omega) ?_)
                  intro v90 e90 a90 b90
                  have V90 : v90 = M (pz_lb3 g + 1) x4.toNat := by
                    rw [e90, L85]
                    exact hS.2 _ _ (by unfold pq_Pw pz_lb3; first | decide | omega)
                  intro r92 e92 k92
                  have R92 := pz_kdA k92 (by decide) (by decide)
                  have Q92 := pz_nm e92 k_g.1 (by decide) (by decide) rfl
                  have L92 := e92.trans (pz_rf3 R_g).2.2.1
                  refine And.intro (lo25) (And.intro (show _ < (16 : Int) from by omega) ?_)
                  intro v97 e97 a97 b97
                  have V97 : v97 = M (pz_lb3 g + 2) x4.toNat := by
                    rw [e97, L92]
                    exact hS.2 _ _ (by unfold pq_Pw pz_lb3; first | decide | omega)
                  have hS9 := hS
                  have FS : ∀ t : Nat, t < 3 → g = 10 + t → v90 = M (28 + 6 * t) x4.toNat := fun t ht hg => by rw [V90, hg, show pz_lb3 (10 + t) + 1 = 28 + 6 * t by unfold pz_lb3; omega]
                  refine And.intro (hI) ?_
                  intro v100 M100 a100 b100 q100
                  obtain ⟨q100, z100⟩ := q100
                  have hS : pq_pr pq_Pw M M100 := hS.tr z100
                  have hI : pz_ic M100 := hS.1 hI0
                  rw [V97.trans V25.symm] at q100
                  refine And.intro (True.intro) ?_
                  intro v103 M103 a103 b103 q103
                  obtain ⟨q103, z103⟩ := q103
                  subst z103
                  refine And.intro rfl ?_
                  first
                    | exact ⟨⟨q103.1, pz_tlv_y g3_2 (by first | decide | omega) (by first | decide | omega) FA FS (by first | decide | omega) (Or.inl h33) hS9.2 q100 R_c q103.2⟩, hS⟩
                    | exact ⟨⟨q103.1, pz_tlv_y g3_2 (by first | decide | omega) (by first | decide | omega) FA FS (by first | decide | omega) (Or.inr ⟨_, _, hS3.2, q76, h79⟩) hS9.2 q100 R_c q103.2⟩, hS⟩
                    | (exfalso; omega)
                · skip
                  exact absurd h56 (by decide)
    refine hgo (fun p => Nat.beq p 3 || Nat.beq p 107) 70 0 _ [] M ?_
    exact L3 _ _ _ _ (Nat.lt_succ_self _) hS (by first | omega | assumption | exact pz_tlv_0) (by first | omega | assumption | exact pz_tlv_0)
theorem v3_X3_tells {fr lo i : Nat} {own : String} (h1 : 3 + 1 ≤ fr) (h2 : 8 + (6 + 11) + 72 ≤ lo) (h3 : .methodLink own i yX3_tells ∈ lw_tbl) : pz_cV fr lo own i k3_X3_tells :=
  pz_cVk (maxL := 6) (fr' := 3) (lo' := 72) 3 3 h3_X3_tells rfl ⟨(pz_nhc_RX3 yX3_tells rfl).1, (pz_nhc_RX3 yX3_tells rfl).2, pz_ds25⟩ ⟨pz_wq485, pz_wq483, pz_wq484, pz_wq5⟩ (Or.inl ⟨TX3, 8, rfl⟩) (fun a M _ h => by
    have h : (match (generalizing := false) a with | [.inr (.inr (3, g)), .inl w, .inr (.inr (0, c)), .inl i] => pz_ic M | _ => False) := h
    split at h
    · exact ⟨_, _, rfl⟩
    · exact h.elim) h1 h2 h3
