noncomputable def k3_X12_held : pz_C := (3, 1, fun a M => (match a with | [.inl x, .inl y, .inl z] => True | _ => False), fun a M r M' => (match a, r with | [.inl x, .inl y, .inl z], some (.inl v) => (v = max y (min z x)) ∧ M = M' | _, _ => False))
noncomputable abbrev ct3_X12_held : List (Bool × Nat × pz_C) := [(false, 47, k_X12_lesser), (false, 51, k_X12_greater)]
set_option maxRecDepth 100000 in
set_option maxHeartbeats 4000000 in
theorem h3_X12_held : pz_H yX12_held cX12_held 3 (some .int) k3_X12_held 1 21 := by
  refine pz_mk (own := RX12) (tb := t_X12_held) (fl := pz_flf fl_RX12) (ci := pz_cif ci_RX12) (ct := pz_ctf ct3_X12_held) (rz := false) (pz_pfc_RX12 yX12_held rfl) rfl t_X12_held_ok (pz_flk fl_RX12_ok) (pz_cik ci_RX12_ok) ?_ ?_ (Or.inl ⟨rfl, rfl⟩) ?_ ?_
  · exact fun i k' h => pz_ctk (l := ct3_X12_held) (P := fun b i k => b = true → pz_cV 1 21 RX12 i k) (List.forall_mem_cons.mpr ⟨((fun z => by cases z)), List.forall_mem_cons.mpr ⟨((fun z => by cases z)), fun _ h => absurd h List.not_mem_nil⟩⟩) true i k' h rfl
  · exact fun i k' h => pz_ctk (l := ct3_X12_held) (P := fun b i k => b = false → (pz_cS 1 21 RX12 i k ∨ (k = pz_kac ∧ 1 ≤ 1 ∧ 60 ≤ 21 ∧ Cond.methodLink RX12 i arraycopyName ∈ pz_tbl))) (List.forall_mem_cons.mpr ⟨(fun _ => Or.inl (s_X12_lesser (by decide) (by decide) (Or.inl pz_wq1462))), List.forall_mem_cons.mpr ⟨(fun _ => Or.inl (s_X12_greater (by decide) (by decide) (Or.inl pz_wq1447))), fun _ h => absurd h List.not_mem_nil⟩⟩) false i k' h rfl
  · intro a M hlen hpre
    obtain ⟨x, y, z, rfl, hpre⟩ : ∃ x y z, a = [.inl x, .inl y, .inl z] ∧ (True) := by
      have hpre : (match (generalizing := false) a with | [.inl x, .inl y, .inl z] => True | _ => False) := hpre
      split at hpre
      · exact ⟨_, _, _, rfl, hpre⟩
      · exact hpre.elim
    exact Nat.le_of_ble_eq_true rfl
  · intro a M hlen hcan hM hpre Ok hgo
    obtain ⟨x, y, z, rfl, hpre⟩ : ∃ x y z, a = [.inl x, .inl y, .inl z] ∧ (True) := by
      have hpre : (match (generalizing := false) a with | [.inl x, .inl y, .inl z] => True | _ => False) := hpre
      split at hpre
      · exact ⟨_, _, _, rfl, hpre⟩
      · exact hpre.elim
    obtain ⟨k_x, hc_x⟩ := pz_tlm hcan
    have l_x : -2147483648 ≤ x := k_x.1
    have u_x : x ≤ 2147483647 := k_x.2
    obtain ⟨k_y, hc_y⟩ := pz_tlm hc_x
    have l_y : -2147483648 ≤ y := k_y.1
    have u_y : y ≤ 2147483647 := k_y.2
    obtain ⟨k_z, hc_z⟩ := pz_tlm hc_y
    have l_z : -2147483648 ≤ z := k_z.1
    have u_z : z ≤ 2147483647 := k_z.2
    refine hgo (fun _ => false) 8 0 _ [] M ?_
    refine And.intro (True.intro) ?_
    intro v3 M3 a3 b3 q3
    obtain ⟨q3, z3⟩ := q3
    subst z3
    refine And.intro (True.intro) ?_
    intro v6 M6 a6 b6 q6
    obtain ⟨q6, z6⟩ := q6
    subst z6
    refine And.intro rfl ?_
    exact ⟨by omega, rfl⟩
theorem s3_X12_held {fr lo i : Nat} {own : String} (h1 : 1 + 1 ≤ fr) (h2 : 8 + (3 + 11) + 21 ≤ lo) (h3 : .methodLink own i yX12_held ∈ lw_tbl ∨ (own = RX1 ∧ i = 35 ∧ yX12_held = yX11_within)) : pz_cS fr lo own i k3_X12_held := pz_cSk (maxL := 3) (fr' := 1) (lo' := 21) 3 h3_X12_held rfl ⟨(pz_nhc_RX12 yX12_held rfl).1, (pz_nhc_RX12 yX12_held rfl).2, pz_ds14⟩ ⟨pz_wq1482, pz_wq1481, pz_wq13⟩ h1 h2 h3
noncomputable def k3_X12_both : pz_C := (3, 1, fun a M => (match a with | [.inl o, .inl x, .inl y] => True | _ => False), fun a M r M' => (match a, r with | [.inl o, .inl x, .inl y], some (.inl v) => (v = pv_bi o x y) ∧ M = M' | _, _ => False))
noncomputable abbrev ct3_X12_both : List (Bool × Nat × pz_C) := []
set_option maxRecDepth 100000 in
set_option maxHeartbeats 4000000 in
theorem h3_X12_both : pz_H yX12_both cX12_both 3 (some .int) k3_X12_both 0 0 := by
  refine pz_mk (own := RX12) (tb := t_X12_both) (fl := pz_flf fl_RX12) (ci := pz_cif ci_RX12) (ct := pz_ctf ct3_X12_both) (rz := false) (pz_pfc_RX12 yX12_both rfl) rfl t_X12_both_ok (pz_flk fl_RX12_ok) (pz_cik ci_RX12_ok) ?_ ?_ (Or.inl ⟨rfl, rfl⟩) ?_ ?_
  · exact fun i k' h => pz_ctk (l := ct3_X12_both) (P := fun b i k => b = true → pz_cV 0 0 RX12 i k) (fun _ h => absurd h List.not_mem_nil) true i k' h rfl
  · exact fun i k' h => pz_ctk (l := ct3_X12_both) (P := fun b i k => b = false → (pz_cS 0 0 RX12 i k ∨ (k = pz_kac ∧ 1 ≤ 0 ∧ 60 ≤ 0 ∧ Cond.methodLink RX12 i arraycopyName ∈ pz_tbl))) (fun _ h => absurd h List.not_mem_nil) false i k' h rfl
  · intro a M hlen hpre
    obtain ⟨o, x, y, rfl, hpre⟩ : ∃ o x y, a = [.inl o, .inl x, .inl y] ∧ (True) := by
      have hpre : (match (generalizing := false) a with | [.inl o, .inl x, .inl y] => True | _ => False) := hpre
      split at hpre
      · exact ⟨_, _, _, rfl, hpre⟩
      · exact hpre.elim
    exact Nat.le_of_ble_eq_true rfl
  · intro a M hlen hcan hM hpre Ok hgo
    obtain ⟨o, x, y, rfl, hpre⟩ : ∃ o x y, a = [.inl o, .inl x, .inl y] ∧ (True) := by
      have hpre : (match (generalizing := false) a with | [.inl o, .inl x, .inl y] => True | _ => False) := hpre
      split at hpre
      · exact ⟨_, _, _, rfl, hpre⟩
      · exact hpre.elim
    obtain ⟨k_o, hc_o⟩ := pz_tlm hcan
    have l_o : -2147483648 ≤ o := k_o.1
    have u_o : o ≤ 2147483647 := k_o.2
    obtain ⟨k_x, hc_x⟩ := pz_tlm hc_o
    have l_x : -2147483648 ≤ x := k_x.1
    have u_x : x ≤ 2147483647 := k_x.2
    obtain ⟨k_y, hc_y⟩ := pz_tlm hc_x
    have l_y : -2147483648 ≤ y := k_y.1
    have u_y : y ≤ 2147483647 := k_y.2
    refine hgo (fun _ => false) 45 0 _ [] M ?_
    refine And.intro ?_ ?_
    · skip
      refine And.intro (fun h1 => ?_) ?_
      · skip
        intro v54 e54 a54 b54
        refine And.intro rfl ?_
        refine ⟨?_, rfl⟩
        unfold pv_bi
        repeat first | rw [if_pos (by first | decide | omega)] | rw [if_neg (by first | decide | omega)]
        all_goals first | exact e54 | exact e58 | exact e62 | exact e99 | exact e103 | rfl
      refine And.intro (fun h1 => ?_) ?_
      · skip
        intro v58 e58 a58 b58
        refine And.intro rfl ?_
        refine ⟨?_, rfl⟩
        unfold pv_bi
        repeat first | rw [if_pos (by first | decide | omega)] | rw [if_neg (by first | decide | omega)]
        all_goals first | exact e54 | exact e58 | exact e62 | exact e99 | exact e103 | rfl
      refine And.intro (fun h1 => ?_) ?_
      · skip
        intro v62 e62 a62 b62
        refine And.intro rfl ?_
        refine ⟨?_, rfl⟩
        unfold pv_bi
        repeat first | rw [if_pos (by first | decide | omega)] | rw [if_neg (by first | decide | omega)]
        all_goals first | exact e54 | exact e58 | exact e62 | exact e99 | exact e103 | rfl
      refine And.intro (fun h1 => ?_) ?_
      · skip
        intro v103 e103 a103 b103
        refine And.intro rfl ?_
        refine ⟨?_, rfl⟩
        unfold pv_bi
        repeat first | rw [if_pos (by first | decide | omega)] | rw [if_neg (by first | decide | omega)]
        all_goals first | exact e54 | exact e58 | exact e62 | exact e99 | exact e103 | rfl
      refine And.intro (fun h1 => ?_) ?_
      · skip
        refine And.intro (fun h66 => ?_) (fun h66 => ?_)
        · skip
          refine And.intro rfl ?_
          refine ⟨?_, rfl⟩
          unfold pv_bi
          repeat first | rw [if_pos (by first | decide | omega)] | rw [if_neg (by first | decide | omega)]
          all_goals first | exact e54 | exact e58 | exact e62 | exact e99 | exact e103 | rfl
        · skip
          refine And.intro rfl ?_
          refine ⟨?_, rfl⟩
          unfold pv_bi
          repeat first | rw [if_pos (by first | decide | omega)] | rw [if_neg (by first | decide | omega)]
          all_goals first | exact e54 | exact e58 | exact e62 | exact e99 | exact e103 | rfl
      refine And.intro (fun h1 => ?_) ?_
      · skip
        refine And.intro (fun h77 => ?_) (fun h77 => ?_)
        · skip
          refine And.intro rfl ?_
          refine ⟨?_, rfl⟩
          unfold pv_bi
          repeat first | rw [if_pos (by first | decide | omega)] | rw [if_neg (by first | decide | omega)]
          all_goals first | exact e54 | exact e58 | exact e62 | exact e99 | exact e103 | rfl
        · skip
          refine And.intro rfl ?_
          refine ⟨?_, rfl⟩
          unfold pv_bi
          repeat first | rw [if_pos (by first | decide | omega)] | rw [if_neg (by first | decide | omega)]
          all_goals first | exact e54 | exact e58 | exact e62 | exact e99 | exact e103 | rfl
      refine And.intro (fun h1 => ?_) ?_
      · skip
        refine And.intro (fun h88 => ?_) (fun h88 => ?_)
        · skip
          refine And.intro rfl ?_
          refine ⟨?_, rfl⟩
          unfold pv_bi
          repeat first | rw [if_pos (by first | decide | omega)] | rw [if_neg (by first | decide | omega)]
          all_goals first | exact e54 | exact e58 | exact e62 | exact e99 | exact e103 | rfl
        · skip
          refine And.intro rfl ?_
          refine ⟨?_, rfl⟩
          unfold pv_bi
          repeat first | rw [if_pos (by first | decide | omega)] | rw [if_neg (by first | decide | omega)]
          all_goals first | exact e54 | exact e58 | exact e62 | exact e99 | exact e103 | rfl
      refine And.intro (fun h1 => ?_) ?_
      · skip
        intro v103 e103 a103 b103
        refine And.intro rfl ?_
        refine ⟨?_, rfl⟩
        unfold pv_bi
        repeat first | rw [if_pos (by first | decide | omega)] | rw [if_neg (by first | decide | omega)]
        all_goals first | exact e54 | exact e58 | exact e62 | exact e99 | exact e103 | rfl
      refine And.intro (fun h1 => ?_) ?_
      · skip
        intro v99 e99 a99 b99
        refine And.intro rfl ?_
        refine ⟨?_, rfl⟩
        unfold pv_bi
        repeat first | rw [if_pos (by first | decide | omega)] | rw [if_neg (by first | decide | omega)]
        all_goals first | exact e54 | exact e58 | exact e62 | exact e99 | exact e103 | rfl
      exact True.intro
    · intro h1
      intro v103 e103 a103 b103
      refine And.intro rfl ?_
      refine ⟨?_, rfl⟩
      unfold pv_bi
      repeat first | rw [if_pos (by first | decide | omega)] | rw [if_neg (by first | decide | omega)]
      all_goals first | exact e54 | exact e58 | exact e62 | exact e99 | exact e103 | rfl
theorem s3_X12_both {fr lo i : Nat} {own : String} (h1 : 0 + 1 ≤ fr) (h2 : 8 + (3 + 11) + 0 ≤ lo) (h3 : .methodLink own i yX12_both ∈ lw_tbl ∨ (own = RX1 ∧ i = 35 ∧ yX12_both = yX11_within)) : pz_cS fr lo own i k3_X12_both := pz_cSk (maxL := 3) (fr' := 0) (lo' := 0) 3 h3_X12_both rfl ⟨(pz_nhc_RX12 yX12_both rfl).1, (pz_nhc_RX12 yX12_both rfl).2, pz_ds14⟩ ⟨pz_wq1479, pz_wq1478, pz_wq13⟩ h1 h2 h3
noncomputable def k3_X12_comesTo : pz_C := (4, 1, fun a M => (match a with | [.inr (.inr (12, th)), .inl k, .inl aa, .inl bb] => pz_im M ∧ k = 0 ∧ 0 ≤ aa ∧ bb ≤ 410 ∧ pz_sg (fun j => M 60 (905 + j)) aa bb | _ => False), fun a M r M' => (match a, r with | [.inr (.inr (12, th)), .inl k, .inl aa, .inl bb], some (.inl v) => (pv_cm M aa bb v) ∧ pz_rl pz_Q3 M M' | _, _ => False))
noncomputable abbrev ct3_X12_comesTo : List (Bool × Nat × pz_C) := [(false, 282, k3_X12_both)]
set_option maxRecDepth 100000 in
set_option maxHeartbeats 4000000 in
theorem h3_X12_comesTo : pz_H yX12_comesTo cX12_comesTo 8 (some .int) k3_X12_comesTo 1 22 := by
  refine pz_mk (own := RX12) (tb := t_X12_comesTo) (fl := pz_flf fl_RX12) (ci := pz_cif ci_RX12) (ct := pz_ctf ct3_X12_comesTo) (rz := false) (pz_pfc_RX12 yX12_comesTo rfl) rfl t_X12_comesTo_ok (pz_flk fl_RX12_ok) (pz_cik ci_RX12_ok) ?_ ?_ (Or.inl ⟨rfl, rfl⟩) ?_ ?_
  · exact fun i k' h => pz_ctk (l := ct3_X12_comesTo) (P := fun b i k => b = true → pz_cV 1 22 RX12 i k) (List.forall_mem_cons.mpr ⟨((fun z => by cases z)), fun _ h => absurd h List.not_mem_nil⟩) true i k' h rfl
  · exact fun i k' h => pz_ctk (l := ct3_X12_comesTo) (P := fun b i k => b = false → (pz_cS 1 22 RX12 i k ∨ (k = pz_kac ∧ 1 ≤ 1 ∧ 60 ≤ 22 ∧ Cond.methodLink RX12 i arraycopyName ∈ pz_tbl))) (List.forall_mem_cons.mpr ⟨(fun _ => Or.inl (s3_X12_both (by decide) (by decide) (Or.inl pz_wq1477))), fun _ h => absurd h List.not_mem_nil⟩) false i k' h rfl
  · intro a M hlen hpre
    obtain ⟨th, k, aa, bb, rfl, hpre⟩ : ∃ th k aa bb, a = [.inr (.inr (12, th)), .inl k, .inl aa, .inl bb] ∧ (pz_im M ∧ k = 0 ∧ 0 ≤ aa ∧ bb ≤ 410 ∧ pz_sg (fun j => M 60 (905 + j)) aa bb) := by
      have hpre : (match (generalizing := false) a with | [.inr (.inr (12, th)), .inl k, .inl aa, .inl bb] => pz_im M ∧ k = 0 ∧ 0 ≤ aa ∧ bb ≤ 410 ∧ pz_sg (fun j => M 60 (905 + j)) aa bb | _ => False) := hpre
      split at hpre
      · exact ⟨_, _, _, _, rfl, hpre⟩
      · exact hpre.elim
    exact Nat.le_of_ble_eq_true rfl
  · intro a M hlen hcan hM hpre Ok hgo
    obtain ⟨th, k, aa, bb, rfl, hpre⟩ : ∃ th k aa bb, a = [.inr (.inr (12, th)), .inl k, .inl aa, .inl bb] ∧ (pz_im M ∧ k = 0 ∧ 0 ≤ aa ∧ bb ≤ 410 ∧ pz_sg (fun j => M 60 (905 + j)) aa bb) := by
      have hpre : (match (generalizing := false) a with | [.inr (.inr (12, th)), .inl k, .inl aa, .inl bb] => pz_im M ∧ k = 0 ∧ 0 ≤ aa ∧ bb ≤ 410 ∧ pz_sg (fun j => M 60 (905 + j)) aa bb | _ => False) := hpre
      split at hpre
      · exact ⟨_, _, _, _, rfl, hpre⟩
      · exact hpre.elim
    obtain ⟨k_th, hc_th⟩ := pz_tlm hcan
    have k_th : pz_kd th = 12 ∧ th < 231 := k_th
    have R_th := pz_kd12 k_th.1
    subst R_th
    clear k_th
    obtain ⟨k_k, hc_k⟩ := pz_tlm hc_th
    have l_k : -2147483648 ≤ k := k_k.1
    have u_k : k ≤ 2147483647 := k_k.2
    obtain ⟨k_aa, hc_aa⟩ := pz_tlm hc_k
    have l_aa : -2147483648 ≤ aa := k_aa.1
    have u_aa : aa ≤ 2147483647 := k_aa.2
    obtain ⟨k_bb, hc_bb⟩ := pz_tlm hc_aa
    have l_bb : -2147483648 ≤ bb := k_bb.1
    have u_bb : bb ≤ 2147483647 := k_bb.2
    have hI : pz_im M := hpre.1
    have hI0 := hI
    have hS : pz_rl pz_Q3 M M := pz_rl.rf
    obtain ⟨-, hk0, hp0, hp1, hst, d, hd0, hd1, hd⟩ := hpre
    have L6 : ∀ (fu : Nat) (x4 : Int) (x5 : Int) (d6 : Option pz_V) (d7 : Option pz_V) (N6 : pz_M), (bb - x5).toNat < fu → (pz_rl pz_Q3 M N6) → (x4 = d x5) → (0 ≤ x4) → (x4 ≤ x5 - aa) → (aa ≤ x5) → (x5 ≤ bb) → (pv_in M aa bb x5 x4 N6) → Ok 6 [some (.inr (.inr (12, 1))), some (.inl k), some (.inl aa), some (.inl bb), some (.inl x4), some (.inl x5), d6, d7] [] N6 := by
      intro fu
      induction fu with
      | zero => exact fun _ _ _ _ _ hn => absurd hn (Nat.not_lt_zero _)
      | succ fu ih6 =>
        intro x4 x5 d6 d7 N6 hn6 hS g6_1 g6_2 g6_3 g6_4 g6_5 g6_6
        have hI : pz_im N6 := hS.1 hI0
        have L180 : ∀ (x4 : Int) (x5 : Int) (x6 : Int) (x7 : Int) (N180 : pz_M), (pz_rl pz_Q3 M N180) → (x4 = d (x5 + 1)) → (0 ≤ x4) → (x4 ≤ x5 + 1 - aa) → (aa ≤ x5) → (x5 < bb) → ((bb - x5).toNat < fu + 1) → (pv_in M aa bb (x5 + 1) x4 N180) → Ok 180 [some (.inr (.inr (12, 1))), some (.inl k), some (.inl aa), some (.inl bb), some (.inl x4), some (.inl x5), some (.inl x6), some (.inl x7)] [] N180 := by
          intro x4 x5 x6 x7 N180 hS g180_1 g180_2 g180_3 g180_4 g180_5 g180_6 g180_7
          have hI : pz_im N180 := hS.1 hI0
          refine hgo (fun p => Nat.beq p 6 || Nat.beq p 180) 112 180 _ _ _ ?_
          intro v180 e180 a180 b180
          rw [pz_wi (by first | decide | omega) (by first | decide | omega)] at e180
          have D180 : d v180 = d (x5 + 1) := by rw [e180]
          have G6 : pv_in M aa bb v180 x4 N180 := by
            rw [e180]
            exact g180_7
          exact ih6 _ _ _ _ _ (by first | decide | omega) hS (by first | omega | assumption | exact pv_in_0) (by first | omega | assumption | exact pv_in_0) (by first | omega | assumption | exact pv_in_0) (by first | omega | assumption | exact pv_in_0) (by first | omega | assumption | exact pv_in_0) (by first | omega | assumption | exact pv_in_0)
        refine hgo (fun p => Nat.beq p 6 || Nat.beq p 180) 112 6 _ _ _ ?_
        refine And.intro (fun h9 => ?_) (fun h9 => ?_)
        · skip
          refine pz_nrc (c := 68) rfl ?_
          refine And.intro (by first | decide | omega) (And.intro (show _ < (420 : Int) from by omega) ?_)
          intro v191 e191 a191 b191
          replace e191 : v191 = N6 68 0 := e191
          refine And.intro rfl ?_
          have x9 : x5 = bb := by omega
          have y9 : x4 = 1 := by
            rw [g6_1, x9]
            exact hd1
          have z9 := g6_6
          rw [x9, y9] at z9
          exact ⟨pv_in_z z9 e191, hS⟩
        · skip
          refine pz_nrc (c := 60) rfl ?_
          intro v23 e23 a23 b23
          rw [pz_wi (by first | decide | omega) (by first | decide | omega)] at e23
          clear a23 b23
          intro v24 e24 a24 b24
          rw [pz_wi (by first | decide | omega) (by first | decide | omega)] at e24
          clear a24 b24
          intro v28 e28 a28 b28
          rw [pz_wi (by first | decide | omega) (by first | decide | omega)] at e28
          clear a28 b28
          intro v29 e29 a29 b29
          rw [pz_wi (by first | decide | omega) (by first | decide | omega)] at e29
          clear a29 b29
          have lo30 : (0 : Int) ≤ v29 := by omega
          have tn30 : (((v29).toNat : Nat) : Int) = v29 := Int.toNat_of_nonneg lo30
          refine And.intro (lo30) (And.intro (show _ < (1725 : Int) from by omega) ?_)
          intro v30 e30 a30 b30
          rw [show v29.toNat = 905 + (2 * x5).toNat by omega, hS.2 60 _ (by unfold pz_Q3; first | decide | omega)] at e30
          refine pz_nrc (c := 60) rfl ?_
          intro v44 e44 a44 b44
          rw [pz_wi (by first | decide | omega) (by first | decide | omega)] at e44
          clear a44 b44
          intro v45 e45 a45 b45
          rw [pz_wi (by first | decide | omega) (by first | decide | omega)] at e45
          clear a45 b45
          intro v49 e49 a49 b49
          rw [pz_wi (by first | decide | omega) (by first | decide | omega)] at e49
          clear a49 b49
          intro v50 e50 a50 b50
          rw [pz_wi (by first | decide | omega) (by first | decide | omega)] at e50
          clear a50 b50
          intro v52 e52 a52 b52
          rw [pz_wi (by first | decide | omega) (by first | decide | omega)] at e52
          clear a52 b52
          have lo53 : (0 : Int) ≤ v52 := by omega
          have tn53 : (((v52).toNat : Nat) : Int) = v52 := Int.toNat_of_nonneg lo53
          refine And.intro (lo53) (And.intro (show _ < (1725 : Int) from by omega) ?_)
          intro v53 e53 a53 b53
          rw [show v52.toNat = 905 + (2 * x5 + 1).toNat by omega, hS.2 60 _ (by unfold pz_Q3; first | decide | omega)] at e53
          have D53 : 0 ≤ d x5 ∧ pz_sp1 v30 v53 (d x5) (d (x5 + 1)) := by
            rw [e30, e53]
            exact hd x5 (by first | decide | omega) (by first | decide | omega)
          unfold pz_sp1 at D53
          refine And.intro (fun h60 => ?_) (fun h60 => ?_)
          · skip
            refine And.intro (fun h97 => ?_) (fun h97 => ?_)
            · skip
              refine And.intro (fun h121 => ?_) (fun h121 => ?_)
              · skip
                intro v147 e147 a147 b147
                rw [pz_wi (by first | decide | omega) (by first | decide | omega)] at e147
                clear a147 b147
                refine pz_nrc (c := 68) rfl ?_
                intro v157 e157 a157 b157
                rw [pz_wi (by first | decide | omega) (by first | decide | omega)] at e157
                clear a157 b157
                refine pz_nrc (c := 68) rfl ?_
                intro v167 e167 a167 b167
                rw [pz_wi (by first | decide | omega) (by first | decide | omega)] at e167
                clear a167 b167
                have lo168 : (0 : Int) ≤ v167 := by omega
                have tn168 : (((v167).toNat : Nat) : Int) = v167 := Int.toNat_of_nonneg lo168
                refine And.intro (lo168) (And.intro (show _ < (420 : Int) from by omega) ?_)
                intro v168 e168 a168 b168
                refine pz_nrc (c := 68) rfl ?_
                have lo175 : (0 : Int) ≤ v147 := by omega
                have tn175 : (((v147).toNat : Nat) : Int) = v147 := Int.toNat_of_nonneg lo175
                refine And.intro (lo175) (And.intro (show _ < (420 : Int) from by omega) ?_)
                intro v175 e175 a175 b175
                refine And.intro (True.intro) ?_
                intro v176 M176 a176 b176 q176
                obtain ⟨q176, z176⟩ := q176
                subst z176
                have lo179 : (0 : Int) ≤ v157 := by omega
                have tn179 : (((v157).toNat : Nat) : Int) = v157 := Int.toNat_of_nonneg lo179
                refine And.intro (lo179) (And.intro (show _ < (420 : Int) from by omega) ?_)
                intro M179 e179
                have hS : pz_rl pz_Q3 M M179 := by
                  rw [e179]
                  exact pz_rl_u hS (by unfold pz_Q3; first | decide | omega) (pz_iom_a (by decide))
                have hI : pz_im M179 := hS.1 hI0
                have G180 : pv_in M aa bb (x5 + 1) v147 M179 := pv_in_b g6_6 ⟨by omega, by omega, by omega⟩ (by first | decide | omega) e30 ⟨by omega, by omega, by omega⟩ (x := v168) (y := v175) (z := v176) (by rw [e168, show v167 = v147 - 1 by omega]) e175 q176 (by rw [e179, show v157 = v147 - 1 by omega]) rfl (by first | decide | omega)
                exact L180 _ _ _ _ _ hS (by first | omega | assumption) (by first | omega | assumption) (by first | omega | assumption) (by first | omega | assumption) (by first | omega | assumption) (by first | omega | assumption) (by first | omega | assumption)
              · skip
                refine pz_nrc (c := 68) rfl ?_
                intro v131 e131 a131 b131
                rw [pz_wi (by first | decide | omega) (by first | decide | omega)] at e131
                clear a131 b131
                refine pz_nrc (c := 68) rfl ?_
                intro v140 e140 a140 b140
                rw [pz_wi (by first | decide | omega) (by first | decide | omega)] at e140
                clear a140 b140
                have lo141 : (0 : Int) ≤ v140 := by omega
                have tn141 : (((v140).toNat : Nat) : Int) = v140 := Int.toNat_of_nonneg lo141
                refine And.intro (lo141) (And.intro (show _ < (420 : Int) from by omega) ?_)
                intro v141 e141 a141 b141
                intro v142 e142 a142 b142
                have lo143 : (0 : Int) ≤ v131 := by omega
                have tn143 : (((v131).toNat : Nat) : Int) = v131 := Int.toNat_of_nonneg lo143
                refine And.intro (lo143) (And.intro (show _ < (420 : Int) from by omega) ?_)
                intro M143 e143
                have hS : pz_rl pz_Q3 M M143 := by
                  rw [e143]
                  exact pz_rl_u hS (by unfold pz_Q3; first | decide | omega) (pz_iom_a (by decide))
                have hI : pz_im M143 := hS.1 hI0
                have G180 : pv_in M aa bb (x5 + 1) x4 M143 := pv_in_u g6_6 ⟨by omega, by omega, by omega⟩ (by first | decide | omega) e30 e53 (Or.inr (by first | decide | omega)) (x := v141) (y := v142) (by rw [e141, show v140 = x4 - 1 by omega]) (by
                  rw [e142]
                  unfold pv_un
                  rw [if_neg (by first | decide | omega)]) (by rw [e143, show v131 = x4 - 1 by omega]) rfl
                exact L180 _ _ _ _ _ hS (by first | omega | assumption) (by first | omega | assumption) (by first | omega | assumption) (by first | omega | assumption) (by first | omega | assumption) (by first | omega | assumption) (by first | omega | assumption)
            · skip
              refine pz_nrc (c := 68) rfl ?_
              intro v107 e107 a107 b107
              rw [pz_wi (by first | decide | omega) (by first | decide | omega)] at e107
              have lo109 : (0 : Int) ≤ v107 := by omega
              have tn109 : (((v107).toNat : Nat) : Int) = v107 := Int.toNat_of_nonneg lo109
              refine And.intro (lo109) (And.intro (show _ < (420 : Int) from by omega) ?_)
              intro v109 e109 a109 b109
              refine And.intro (by first | decide | omega) ?_
              intro v112 e112 a112 b112
              refine And.intro (lo109) (And.intro (show _ < (420 : Int) from by omega) ?_)
              intro M113 e113
              have hS : pz_rl pz_Q3 M M113 := by
                rw [e113]
                exact pz_rl_u hS (by unfold pz_Q3; first | decide | omega) (pz_iom_a (by decide))
              have hI : pz_im M113 := hS.1 hI0
              have G180 : pv_in M aa bb (x5 + 1) x4 M113 := pv_in_u g6_6 ⟨by omega, by omega, by omega⟩ (by first | decide | omega) e30 e53 (Or.inl (by first | decide | omega)) (x := v109) (y := v112) (by rw [e109, show v107 = x4 - 1 by omega]) (by
                rw [e112]
                unfold pv_un
                rw [if_pos (by first | decide | omega)]) (by rw [e113, show v107 = x4 - 1 by omega]) rfl
              exact L180 _ _ _ _ _ hS (by first | omega | assumption) (by first | omega | assumption) (by first | omega | assumption) (by first | omega | assumption) (by first | omega | assumption) (by first | omega | assumption) (by first | omega | assumption)
          · skip
            refine pz_nrc (c := 68) rfl ?_
            refine And.intro (fun h71 => ?_) (fun h71 => ?_)
            · skip
              refine pz_nrc (c := 69) rfl ?_
              have lo85 : (0 : Int) ≤ v30 := by omega
              have tn85 : (((v30).toNat : Nat) : Int) = v30 := Int.toNat_of_nonneg lo85
              refine And.intro (lo85) (And.intro (show _ < (10 : Int) from by omega) ?_)
              intro v85 e85 a85 b85
              rw [hS.2 69 _ (by unfold pz_Q3; first | decide | omega)] at e85
              have lo86 : (0 : Int) ≤ x4 := by omega
              have tn86 : (((x4).toNat : Nat) : Int) = x4 := Int.toNat_of_nonneg lo86
              refine And.intro (lo86) (And.intro (show _ < (420 : Int) from by omega) ?_)
              intro M86 e86
              have hS : pz_rl pz_Q3 M M86 := by
                rw [e86]
                exact pz_rl_u hS (by unfold pz_Q3; first | decide | omega) (pz_iom_a (by decide))
              have hI : pz_im M86 := hS.1 hI0
              intro v87 e87 a87 b87
              rw [pz_wi (by first | decide | omega) (by first | decide | omega)] at e87
              first
                | (have G180 : pv_in M aa bb (x5 + 1) v87 M86 := pv_in_p g6_6 ⟨by omega, by omega, by omega⟩ e30 e53 ⟨by omega, by omega⟩ (x := v53) (if_pos (by first | decide | omega)).symm e86 rfl e87)
                | (have G180 : pv_in M aa bb (x5 + 1) v87 M86 := pv_in_p g6_6 ⟨by omega, by omega, by omega⟩ e30 e53 ⟨by omega, by omega⟩ (x := v85) (by rw [if_neg (by first | decide | omega)]; exact e85) e86 rfl e87)
              exact L180 _ _ _ _ _ hS (by first | omega | assumption) (by first | omega | assumption) (by first | omega | assumption) (by first | omega | assumption) (by first | omega | assumption) (by first | omega | assumption) (by first | omega | assumption)
            · skip
              have lo86 : (0 : Int) ≤ x4 := by omega
              have tn86 : (((x4).toNat : Nat) : Int) = x4 := Int.toNat_of_nonneg lo86
              refine And.intro (lo86) (And.intro (show _ < (420 : Int) from by omega) ?_)
              intro M86 e86
              have hS : pz_rl pz_Q3 M M86 := by
                rw [e86]
                exact pz_rl_u hS (by unfold pz_Q3; first | decide | omega) (pz_iom_a (by decide))
              have hI : pz_im M86 := hS.1 hI0
              intro v87 e87 a87 b87
              rw [pz_wi (by first | decide | omega) (by first | decide | omega)] at e87
              first
                | (have G180 : pv_in M aa bb (x5 + 1) v87 M86 := pv_in_p g6_6 ⟨by omega, by omega, by omega⟩ e30 e53 ⟨by omega, by omega⟩ (x := v53) (if_pos (by first | decide | omega)).symm e86 rfl e87)
                | (have G180 : pv_in M aa bb (x5 + 1) v87 M86 := pv_in_p g6_6 ⟨by omega, by omega, by omega⟩ e30 e53 ⟨by omega, by omega⟩ (x := v85) (by rw [if_neg (by first | decide | omega)]; exact e85) e86 rfl e87)
              exact L180 _ _ _ _ _ hS (by first | omega | assumption) (by first | omega | assumption) (by first | omega | assumption) (by first | omega | assumption) (by first | omega | assumption) (by first | omega | assumption) (by first | omega | assumption)
    refine hgo (fun p => Nat.beq p 6 || Nat.beq p 180) 112 0 _ [] M ?_
    exact L6 _ _ _ _ _ _ (Nat.lt_succ_self _) hS (by first | omega | assumption | exact pv_in_0) (by first | omega | assumption | exact pv_in_0) (by first | omega | assumption | exact pv_in_0) (by first | omega | assumption | exact pv_in_0) (by first | omega | assumption | exact pv_in_0) (by first | omega | assumption | exact pv_in_0)
theorem v3_X12_comesTo {fr lo i : Nat} {own : String} (h1 : 1 + 1 ≤ fr) (h2 : 8 + (8 + 11) + 22 ≤ lo) (h3 : .methodLink own i yX12_comesTo ∈ lw_tbl) : pz_cV fr lo own i k3_X12_comesTo :=
  pz_cVk (maxL := 8) (fr' := 1) (lo' := 22) 3 12 h3_X12_comesTo rfl ⟨(pz_nhc_RX12 yX12_comesTo rfl).1, (pz_nhc_RX12 yX12_comesTo rfl).2, pz_ds14⟩ ⟨pz_wq1476, pz_wq1475, pz_ws51, pz_wq13⟩ (Or.inl ⟨TX12, 28, rfl⟩) (fun a M _ h => by
    have h : (match (generalizing := false) a with | [.inr (.inr (12, th)), .inl k, .inl aa, .inl bb] => pz_im M ∧ k = 0 ∧ 0 ≤ aa ∧ bb ≤ 410 ∧ pz_sg (fun j => M 60 (905 + j)) aa bb | _ => False) := h
    split at h
    · exact ⟨_, _, rfl⟩
    · exact h.elim) h1 h2 h3
noncomputable def k3_X12_isSo : pz_C := (2, 1, fun a M => (match a with | [.inr (.inr (12, th)), .inl i] => pz_im M ∧ 0 ≤ i ∧ i < M 60 89 | _ => False), fun a M r M' => (match a, r with | [.inr (.inr (12, th)), .inl i], some (.inl v) => ((v = 0 ∨ v = 1) ∧ pz_iso M i v) ∧ pz_rl pz_Q3 M M' | _, _ => False))
noncomputable abbrev ct3_X12_isSo : List (Bool × Nat × pz_C) := [(true, 285, k3_X12_comesTo)]
set_option maxRecDepth 100000 in
set_option maxHeartbeats 4000000 in
theorem h3_X12_isSo : pz_H yX12_isSo cX12_isSo 2 (some .boolean) k3_X12_isSo 2 49 := by
  refine pz_mk (own := RX12) (tb := t_X12_isSo) (fl := pz_flf fl_RX12) (ci := pz_cif ci_RX12) (ct := pz_ctf ct3_X12_isSo) (rz := true) (pz_pfc_RX12 yX12_isSo rfl) rfl t_X12_isSo_ok (pz_flk fl_RX12_ok) (pz_cik ci_RX12_ok) ?_ ?_ (Or.inr ⟨rfl, rfl⟩) ?_ ?_
  · exact fun i k' h => pz_ctk (l := ct3_X12_isSo) (P := fun b i k => b = true → pz_cV 2 49 RX12 i k) (List.forall_mem_cons.mpr ⟨(fun _ => v3_X12_comesTo (by decide) (by decide) pz_wq1473), fun _ h => absurd h List.not_mem_nil⟩) true i k' h rfl
  · exact fun i k' h => pz_ctk (l := ct3_X12_isSo) (P := fun b i k => b = false → (pz_cS 2 49 RX12 i k ∨ (k = pz_kac ∧ 1 ≤ 2 ∧ 60 ≤ 49 ∧ Cond.methodLink RX12 i arraycopyName ∈ pz_tbl))) (List.forall_mem_cons.mpr ⟨((fun z => by cases z)), fun _ h => absurd h List.not_mem_nil⟩) false i k' h rfl
  · intro a M hlen hpre
    obtain ⟨th, i, rfl, hpre⟩ : ∃ th i, a = [.inr (.inr (12, th)), .inl i] ∧ (pz_im M ∧ 0 ≤ i ∧ i < M 60 89) := by
      have hpre : (match (generalizing := false) a with | [.inr (.inr (12, th)), .inl i] => pz_im M ∧ 0 ≤ i ∧ i < M 60 89 | _ => False) := hpre
      split at hpre
      · exact ⟨_, _, rfl, hpre⟩
      · exact hpre.elim
    exact Nat.le_of_ble_eq_true rfl
  · intro a M hlen hcan hM hpre Ok hgo
    obtain ⟨th, i, rfl, hpre⟩ : ∃ th i, a = [.inr (.inr (12, th)), .inl i] ∧ (pz_im M ∧ 0 ≤ i ∧ i < M 60 89) := by
      have hpre : (match (generalizing := false) a with | [.inr (.inr (12, th)), .inl i] => pz_im M ∧ 0 ≤ i ∧ i < M 60 89 | _ => False) := hpre
      split at hpre
      · exact ⟨_, _, rfl, hpre⟩
      · exact hpre.elim
    obtain ⟨k_th, hc_th⟩ := pz_tlm hcan
    have k_th : pz_kd th = 12 ∧ th < 231 := k_th
    have R_th := pz_kd12 k_th.1
    subst R_th
    clear k_th
    obtain ⟨k_i, hc_i⟩ := pz_tlm hc_th
    have l_i : -2147483648 ≤ i := k_i.1
    have u_i : i ≤ 2147483647 := k_i.2
    have hI : pz_im M := hpre.1
    have hI0 := hI
    have hS : pz_rl pz_Q3 M M := pz_rl.rf
    have W9 := hI.2.2.1 i (by first | decide | omega) (by first | decide | omega)
    obtain ⟨w1, w2, w3, w4⟩ := W9
    have I9 := hI.1.2.1
    refine hgo (fun _ => false) 36 0 _ [] M ?_
    refine pz_nrc (c := 60) rfl ?_
    intro v8 e8 a8 b8
    rw [pz_wi (by first | decide | omega) (by first | decide | omega)] at e8
    clear a8 b8
    have lo9 : (0 : Int) ≤ v8 := by omega
    have tn9 : (((v8).toNat : Nat) : Int) = v8 := Int.toNat_of_nonneg lo9
    refine And.intro (lo9) (And.intro (show _ < (1725 : Int) from by omega) ?_)
    intro v9 e9 a9 b9
    rw [e8] at e9
    refine pz_nrc (c := 60) rfl ?_
    intro v18 e18 a18 b18
    rw [pz_wi (by first | decide | omega) (by first | decide | omega)] at e18
    clear a18 b18
    have lo19 : (0 : Int) ≤ v18 := by omega
    have tn19 : (((v18).toNat : Nat) : Int) = v18 := Int.toNat_of_nonneg lo19
    refine And.intro (lo19) (And.intro (show _ < (1725 : Int) from by omega) ?_)
    intro v19 e19 a19 b19
    rw [e18] at e19
    refine And.intro (fun h20 => ?_) (fun h20 => ?_)
    · skip
      refine And.intro (by first | decide | omega) ?_
      refine And.intro rfl ?_
      have K3 : (873 + i).toNat = 873 + i.toNat := by omega
      have K7 : (857 + i).toNat = 857 + i.toNat := by omega
      rw [K3] at e9
      rw [K7] at e19
      first
        | (exact ⟨⟨Or.inr rfl, Or.inl ⟨by rw [← e9, ← e19]; exact h20, rfl⟩⟩, hS⟩)
        | (rw [K7] at e34
           rw [K3] at e44
           rw [e34, e44] at q45
           first
             | exact ⟨⟨Or.inr rfl, Or.inr ⟨by rw [← e9, ← e19]; exact h20, v45, q45, Or.inl ⟨rfl, by omega⟩⟩⟩, hS⟩
             | exact ⟨⟨Or.inl rfl, Or.inr ⟨by rw [← e9, ← e19]; exact h20, v45, q45, Or.inr ⟨rfl, by omega⟩⟩⟩, hS⟩)
    · skip
      refine pz_nrc (c := 60) rfl ?_
      intro v33 e33 a33 b33
      rw [pz_wi (by first | decide | omega) (by first | decide | omega)] at e33
      clear a33 b33
      have lo34 : (0 : Int) ≤ v33 := by omega
      have tn34 : (((v33).toNat : Nat) : Int) = v33 := Int.toNat_of_nonneg lo34
      refine And.intro (lo34) (And.intro (show _ < (1725 : Int) from by omega) ?_)
      intro v34 e34 a34 b34
      rw [e33] at e34
      refine pz_nrc (c := 60) rfl ?_
      intro v43 e43 a43 b43
      rw [pz_wi (by first | decide | omega) (by first | decide | omega)] at e43
      clear a43 b43
      have lo44 : (0 : Int) ≤ v43 := by omega
      have tn44 : (((v43).toNat : Nat) : Int) = v43 := Int.toNat_of_nonneg lo44
      refine And.intro (lo44) (And.intro (show _ < (1725 : Int) from by omega) ?_)
      intro v44 e44 a44 b44
      rw [e43] at e44
      refine And.intro (by
        refine ⟨hI, rfl, ?_, ?_, ?_⟩
        · rw [e34]; have := w3.1; omega
        · rw [e44]; omega
        · rw [e34, e44]
          rcases w4 with w4 | w4
          · exact absurd (e9.trans (w4.symm.trans e19.symm)) h20
          · exact w4) ?_
      intro v45 M45 a45 b45 q45
      obtain ⟨q45, z45⟩ := q45
      have hS : pz_rl pz_Q3 M M45 := hS.tr z45
      have hI : pz_im M45 := hS.1 hI0
      refine And.intro (fun h49 => ?_) (fun h49 => ?_)
      · skip
        refine And.intro (by first | decide | omega) ?_
        refine And.intro rfl ?_
        have K3 : (873 + i).toNat = 873 + i.toNat := by omega
        have K7 : (857 + i).toNat = 857 + i.toNat := by omega
        rw [K3] at e9
        rw [K7] at e19
        first
          | (exact ⟨⟨Or.inr rfl, Or.inl ⟨by rw [← e9, ← e19]; exact h20, rfl⟩⟩, hS⟩)
          | (rw [K7] at e34
             rw [K3] at e44
             rw [e34, e44] at q45
             first
               | exact ⟨⟨Or.inr rfl, Or.inr ⟨by rw [← e9, ← e19]; exact h20, v45, q45, Or.inl ⟨rfl, by omega⟩⟩⟩, hS⟩
               | exact ⟨⟨Or.inl rfl, Or.inr ⟨by rw [← e9, ← e19]; exact h20, v45, q45, Or.inr ⟨rfl, by omega⟩⟩⟩, hS⟩)
      · skip
        refine And.intro (by first | decide | omega) ?_
        refine And.intro rfl ?_
        have K3 : (873 + i).toNat = 873 + i.toNat := by omega
        have K7 : (857 + i).toNat = 857 + i.toNat := by omega
        rw [K3] at e9
        rw [K7] at e19
        first
          | (exact ⟨⟨Or.inr rfl, Or.inl ⟨by rw [← e9, ← e19]; exact h20, rfl⟩⟩, hS⟩)
          | (rw [K7] at e34
             rw [K3] at e44
             rw [e34, e44] at q45
             first
               | exact ⟨⟨Or.inr rfl, Or.inr ⟨by rw [← e9, ← e19]; exact h20, v45, q45, Or.inl ⟨rfl, by omega⟩⟩⟩, hS⟩
               | exact ⟨⟨Or.inl rfl, Or.inr ⟨by rw [← e9, ← e19]; exact h20, v45, q45, Or.inr ⟨rfl, by omega⟩⟩⟩, hS⟩)
theorem v3_X12_isSo {fr lo i : Nat} {own : String} (h1 : 2 + 1 ≤ fr) (h2 : 8 + (2 + 11) + 49 ≤ lo) (h3 : .methodLink own i yX12_isSo ∈ lw_tbl) : pz_cV fr lo own i k3_X12_isSo :=
  pz_cVk (maxL := 2) (fr' := 2) (lo' := 49) 1 12 h3_X12_isSo rfl ⟨(pz_nhc_RX12 yX12_isSo rfl).1, (pz_nhc_RX12 yX12_isSo rfl).2, pz_ds9⟩ ⟨pz_wq1472, pz_wq1471, pz_ws50, pz_wq13⟩ (Or.inl ⟨TX12, 28, rfl⟩) (fun a M _ h => by
    have h : (match (generalizing := false) a with | [.inr (.inr (12, th)), .inl i] => pz_im M ∧ 0 ≤ i ∧ i < M 60 89 | _ => False) := h
    split at h
    · exact ⟨_, _, rfl⟩
    · exact h.elim) h1 h2 h3
noncomputable def k3_X12_isReady : pz_C := (2, 1, fun a M => (match a with | [.inr (.inr (12, th)), .inl i] => pz_im M ∧ -40 ≤ i ∧ i ≤ 1000 | _ => False), fun a M r M' => (match a, r with | [.inr (.inr (12, th)), .inl i], some (.inl v) => ((v = 1 ∧ M 60 (40 + i).toNat = 1) ∨ (v = 0 ∧ ¬ M 60 (40 + i).toNat = 1)) ∧ M = M' | _, _ => False))
noncomputable abbrev ct3_X12_isReady : List (Bool × Nat × pz_C) := []
set_option maxRecDepth 100000 in
set_option maxHeartbeats 4000000 in
theorem h3_X12_isReady : pz_H yX12_isReady cX12_isReady 2 (some .boolean) k3_X12_isReady 0 0 := by
  refine pz_mk (own := RX12) (tb := t_X12_isReady) (fl := pz_flf fl_RX12) (ci := pz_cif ci_RX12) (ct := pz_ctf ct3_X12_isReady) (rz := true) (pz_pfc_RX12 yX12_isReady rfl) rfl t_X12_isReady_ok (pz_flk fl_RX12_ok) (pz_cik ci_RX12_ok) ?_ ?_ (Or.inr ⟨rfl, rfl⟩) ?_ ?_
  · exact fun i k' h => pz_ctk (l := ct3_X12_isReady) (P := fun b i k => b = true → pz_cV 0 0 RX12 i k) (fun _ h => absurd h List.not_mem_nil) true i k' h rfl
  · exact fun i k' h => pz_ctk (l := ct3_X12_isReady) (P := fun b i k => b = false → (pz_cS 0 0 RX12 i k ∨ (k = pz_kac ∧ 1 ≤ 0 ∧ 60 ≤ 0 ∧ Cond.methodLink RX12 i arraycopyName ∈ pz_tbl))) (fun _ h => absurd h List.not_mem_nil) false i k' h rfl
  · intro a M hlen hpre
    obtain ⟨th, i, rfl, hpre⟩ : ∃ th i, a = [.inr (.inr (12, th)), .inl i] ∧ (pz_im M ∧ -40 ≤ i ∧ i ≤ 1000) := by
      have hpre : (match (generalizing := false) a with | [.inr (.inr (12, th)), .inl i] => pz_im M ∧ -40 ≤ i ∧ i ≤ 1000 | _ => False) := hpre
      split at hpre
      · exact ⟨_, _, rfl, hpre⟩
      · exact hpre.elim
    exact Nat.le_of_ble_eq_true rfl
  · intro a M hlen hcan hM hpre Ok hgo
    obtain ⟨th, i, rfl, hpre⟩ : ∃ th i, a = [.inr (.inr (12, th)), .inl i] ∧ (pz_im M ∧ -40 ≤ i ∧ i ≤ 1000) := by
      have hpre : (match (generalizing := false) a with | [.inr (.inr (12, th)), .inl i] => pz_im M ∧ -40 ≤ i ∧ i ≤ 1000 | _ => False) := hpre
      split at hpre
      · exact ⟨_, _, rfl, hpre⟩
      · exact hpre.elim
    obtain ⟨k_th, hc_th⟩ := pz_tlm hcan
    have k_th : pz_kd th = 12 ∧ th < 231 := k_th
    have R_th := pz_kd12 k_th.1
    subst R_th
    clear k_th
    obtain ⟨k_i, hc_i⟩ := pz_tlm hc_th
    have l_i : -2147483648 ≤ i := k_i.1
    have u_i : i ≤ 2147483647 := k_i.2
    have hI : pz_im M := hpre.1
    refine hgo (fun _ => false) 14 0 _ [] M ?_
    refine pz_nrc (c := 60) rfl ?_
    intro v7 e7 a7 b7
    rw [pz_wi (by first | decide | omega) (by first | decide | omega)] at e7
    clear a7 b7
    have lo8 : (0 : Int) ≤ v7 := by omega
    have tn8 : (((v7).toNat : Nat) : Int) = v7 := Int.toNat_of_nonneg lo8
    refine And.intro (lo8) (And.intro (show _ < (1725 : Int) from by omega) ?_)
    intro v8 e8 a8 b8
    rw [e7] at e8
    refine And.intro (fun h10 => ?_) (fun h10 => ?_)
    · skip
      refine And.intro (by first | decide | omega) ?_
      refine And.intro rfl ?_
      exact ⟨by omega, rfl⟩
    · skip
      refine And.intro (by first | decide | omega) ?_
      refine And.intro rfl ?_
      exact ⟨by omega, rfl⟩
theorem v3_X12_isReady {fr lo i : Nat} {own : String} (h1 : 0 + 1 ≤ fr) (h2 : 8 + (2 + 11) + 0 ≤ lo) (h3 : .methodLink own i yX12_isReady ∈ lw_tbl) : pz_cV fr lo own i k3_X12_isReady :=
  pz_cVk (maxL := 2) (fr' := 0) (lo' := 0) 1 12 h3_X12_isReady rfl ⟨(pz_nhc_RX12 yX12_isReady rfl).1, (pz_nhc_RX12 yX12_isReady rfl).2, pz_ds9⟩ ⟨pz_wq1468, pz_wq1467, pz_ws49, pz_wq13⟩ (Or.inl ⟨TX12, 28, rfl⟩) (fun a M _ h => by
    have h : (match (generalizing := false) a with | [.inr (.inr (12, th)), .inl i] => pz_im M ∧ -40 ≤ i ∧ i ≤ 1000 | _ => False) := h
    split at h
    · exact ⟨_, _, rfl⟩
    · exact h.elim) h1 h2 h3
noncomputable def k3_X12_isOut : pz_C := (2, 1, fun a M => (match a with | [.inr (.inr (12, th)), .inl i] => pz_im M ∧ -52 ≤ i ∧ i ≤ 1000 | _ => False), fun a M r M' => (match a, r with | [.inr (.inr (12, th)), .inl i], some (.inl v) => ((v = 1 ∧ M 60 (52 + i).toNat = 1) ∨ (v = 0 ∧ ¬ M 60 (52 + i).toNat = 1)) ∧ M = M' | _, _ => False))
noncomputable abbrev ct3_X12_isOut : List (Bool × Nat × pz_C) := []
set_option maxRecDepth 100000 in
set_option maxHeartbeats 4000000 in
theorem h3_X12_isOut : pz_H yX12_isOut cX12_isOut 2 (some .boolean) k3_X12_isOut 0 0 := by
  refine pz_mk (own := RX12) (tb := t_X12_isOut) (fl := pz_flf fl_RX12) (ci := pz_cif ci_RX12) (ct := pz_ctf ct3_X12_isOut) (rz := true) (pz_pfc_RX12 yX12_isOut rfl) rfl t_X12_isOut_ok (pz_flk fl_RX12_ok) (pz_cik ci_RX12_ok) ?_ ?_ (Or.inr ⟨rfl, rfl⟩) ?_ ?_
  · exact fun i k' h => pz_ctk (l := ct3_X12_isOut) (P := fun b i k => b = true → pz_cV 0 0 RX12 i k) (fun _ h => absurd h List.not_mem_nil) true i k' h rfl
  · exact fun i k' h => pz_ctk (l := ct3_X12_isOut) (P := fun b i k => b = false → (pz_cS 0 0 RX12 i k ∨ (k = pz_kac ∧ 1 ≤ 0 ∧ 60 ≤ 0 ∧ Cond.methodLink RX12 i arraycopyName ∈ pz_tbl))) (fun _ h => absurd h List.not_mem_nil) false i k' h rfl
  · intro a M hlen hpre
    obtain ⟨th, i, rfl, hpre⟩ : ∃ th i, a = [.inr (.inr (12, th)), .inl i] ∧ (pz_im M ∧ -52 ≤ i ∧ i ≤ 1000) := by
      have hpre : (match (generalizing := false) a with | [.inr (.inr (12, th)), .inl i] => pz_im M ∧ -52 ≤ i ∧ i ≤ 1000 | _ => False) := hpre
      split at hpre
      · exact ⟨_, _, rfl, hpre⟩
      · exact hpre.elim
    exact Nat.le_of_ble_eq_true rfl
  · intro a M hlen hcan hM hpre Ok hgo
    obtain ⟨th, i, rfl, hpre⟩ : ∃ th i, a = [.inr (.inr (12, th)), .inl i] ∧ (pz_im M ∧ -52 ≤ i ∧ i ≤ 1000) := by
      have hpre : (match (generalizing := false) a with | [.inr (.inr (12, th)), .inl i] => pz_im M ∧ -52 ≤ i ∧ i ≤ 1000 | _ => False) := hpre
      split at hpre
      · exact ⟨_, _, rfl, hpre⟩
      · exact hpre.elim
    obtain ⟨k_th, hc_th⟩ := pz_tlm hcan
    have k_th : pz_kd th = 12 ∧ th < 231 := k_th
    have R_th := pz_kd12 k_th.1
    subst R_th
    clear k_th
    obtain ⟨k_i, hc_i⟩ := pz_tlm hc_th
    have l_i : -2147483648 ≤ i := k_i.1
    have u_i : i ≤ 2147483647 := k_i.2
    have hI : pz_im M := hpre.1
    refine hgo (fun _ => false) 14 0 _ [] M ?_
    refine pz_nrc (c := 60) rfl ?_
    intro v7 e7 a7 b7
    rw [pz_wi (by first | decide | omega) (by first | decide | omega)] at e7
    clear a7 b7
    have lo8 : (0 : Int) ≤ v7 := by omega
    have tn8 : (((v7).toNat : Nat) : Int) = v7 := Int.toNat_of_nonneg lo8
    refine And.intro (lo8) (And.intro (show _ < (1725 : Int) from by omega) ?_)
    intro v8 e8 a8 b8
    rw [e7] at e8
    refine And.intro (fun h10 => ?_) (fun h10 => ?_)
    · skip
      refine And.intro (by first | decide | omega) ?_
      refine And.intro rfl ?_
      exact ⟨by omega, rfl⟩
    · skip
      refine And.intro (by first | decide | omega) ?_
      refine And.intro rfl ?_
      exact ⟨by omega, rfl⟩
theorem v3_X12_isOut {fr lo i : Nat} {own : String} (h1 : 0 + 1 ≤ fr) (h2 : 8 + (2 + 11) + 0 ≤ lo) (h3 : .methodLink own i yX12_isOut ∈ lw_tbl) : pz_cV fr lo own i k3_X12_isOut :=
  pz_cVk (maxL := 2) (fr' := 0) (lo' := 0) 1 12 h3_X12_isOut rfl ⟨(pz_nhc_RX12 yX12_isOut rfl).1, (pz_nhc_RX12 yX12_isOut rfl).2, pz_ds9⟩ ⟨pz_wq1422, pz_wq1421, pz_ws39, pz_wq13⟩ (Or.inl ⟨TX12, 28, rfl⟩) (fun a M _ h => by
    have h : (match (generalizing := false) a with | [.inr (.inr (12, th)), .inl i] => pz_im M ∧ -52 ≤ i ∧ i ≤ 1000 | _ => False) := h
    split at h
    · exact ⟨_, _, rfl⟩
    · exact h.elim) h1 h2 h3
noncomputable def k3_X12_isBridged : pz_C := (2, 1, fun a M => (match a with | [.inr (.inr (12, th)), .inl i] => pz_im M ∧ -64 ≤ i ∧ i ≤ 1000 | _ => False), fun a M r M' => (match a, r with | [.inr (.inr (12, th)), .inl i], some (.inl v) => ((v = 1 ∧ M 60 (64 + i).toNat = 1) ∨ (v = 0 ∧ ¬ M 60 (64 + i).toNat = 1)) ∧ M = M' | _, _ => False))
noncomputable abbrev ct3_X12_isBridged : List (Bool × Nat × pz_C) := []
set_option maxRecDepth 100000 in
set_option maxHeartbeats 4000000 in
theorem h3_X12_isBridged : pz_H yX12_isBridged cX12_isBridged 2 (some .boolean) k3_X12_isBridged 0 0 := by
  refine pz_mk (own := RX12) (tb := t_X12_isBridged) (fl := pz_flf fl_RX12) (ci := pz_cif ci_RX12) (ct := pz_ctf ct3_X12_isBridged) (rz := true) (pz_pfc_RX12 yX12_isBridged rfl) rfl t_X12_isBridged_ok (pz_flk fl_RX12_ok) (pz_cik ci_RX12_ok) ?_ ?_ (Or.inr ⟨rfl, rfl⟩) ?_ ?_
  · exact fun i k' h => pz_ctk (l := ct3_X12_isBridged) (P := fun b i k => b = true → pz_cV 0 0 RX12 i k) (fun _ h => absurd h List.not_mem_nil) true i k' h rfl
  · exact fun i k' h => pz_ctk (l := ct3_X12_isBridged) (P := fun b i k => b = false → (pz_cS 0 0 RX12 i k ∨ (k = pz_kac ∧ 1 ≤ 0 ∧ 60 ≤ 0 ∧ Cond.methodLink RX12 i arraycopyName ∈ pz_tbl))) (fun _ h => absurd h List.not_mem_nil) false i k' h rfl
  · intro a M hlen hpre
    obtain ⟨th, i, rfl, hpre⟩ : ∃ th i, a = [.inr (.inr (12, th)), .inl i] ∧ (pz_im M ∧ -64 ≤ i ∧ i ≤ 1000) := by
      have hpre : (match (generalizing := false) a with | [.inr (.inr (12, th)), .inl i] => pz_im M ∧ -64 ≤ i ∧ i ≤ 1000 | _ => False) := hpre
      split at hpre
      · exact ⟨_, _, rfl, hpre⟩
      · exact hpre.elim
    exact Nat.le_of_ble_eq_true rfl
  · intro a M hlen hcan hM hpre Ok hgo
    obtain ⟨th, i, rfl, hpre⟩ : ∃ th i, a = [.inr (.inr (12, th)), .inl i] ∧ (pz_im M ∧ -64 ≤ i ∧ i ≤ 1000) := by
      have hpre : (match (generalizing := false) a with | [.inr (.inr (12, th)), .inl i] => pz_im M ∧ -64 ≤ i ∧ i ≤ 1000 | _ => False) := hpre
      split at hpre
      · exact ⟨_, _, rfl, hpre⟩
      · exact hpre.elim
    obtain ⟨k_th, hc_th⟩ := pz_tlm hcan
    have k_th : pz_kd th = 12 ∧ th < 231 := k_th
    have R_th := pz_kd12 k_th.1
    subst R_th
    clear k_th
    obtain ⟨k_i, hc_i⟩ := pz_tlm hc_th
    have l_i : -2147483648 ≤ i := k_i.1
    have u_i : i ≤ 2147483647 := k_i.2
    have hI : pz_im M := hpre.1
    refine hgo (fun _ => false) 14 0 _ [] M ?_
    refine pz_nrc (c := 60) rfl ?_
    intro v7 e7 a7 b7
    rw [pz_wi (by first | decide | omega) (by first | decide | omega)] at e7
    clear a7 b7
    have lo8 : (0 : Int) ≤ v7 := by omega
    have tn8 : (((v7).toNat : Nat) : Int) = v7 := Int.toNat_of_nonneg lo8
    refine And.intro (lo8) (And.intro (show _ < (1725 : Int) from by omega) ?_)
    intro v8 e8 a8 b8
    rw [e7] at e8
    refine And.intro (fun h10 => ?_) (fun h10 => ?_)
    · skip
      refine And.intro (by first | decide | omega) ?_
      refine And.intro rfl ?_
      exact ⟨by omega, rfl⟩
    · skip
      refine And.intro (by first | decide | omega) ?_
      refine And.intro rfl ?_
      exact ⟨by omega, rfl⟩
theorem v3_X12_isBridged {fr lo i : Nat} {own : String} (h1 : 0 + 1 ≤ fr) (h2 : 8 + (2 + 11) + 0 ≤ lo) (h3 : .methodLink own i yX12_isBridged ∈ lw_tbl) : pz_cV fr lo own i k3_X12_isBridged :=
  pz_cVk (maxL := 2) (fr' := 0) (lo' := 0) 1 12 h3_X12_isBridged rfl ⟨(pz_nhc_RX12 yX12_isBridged rfl).1, (pz_nhc_RX12 yX12_isBridged rfl).2, pz_ds9⟩ ⟨pz_wq1453, pz_wq1452, pz_ws46, pz_wq13⟩ (Or.inl ⟨TX12, 28, rfl⟩) (fun a M _ h => by
    have h : (match (generalizing := false) a with | [.inr (.inr (12, th)), .inl i] => pz_im M ∧ -64 ≤ i ∧ i ≤ 1000 | _ => False) := h
    split at h
    · exact ⟨_, _, rfl⟩
    · exact h.elim) h1 h2 h3
noncomputable def k3_X12_hasMoved : pz_C := (2, 1, fun a M => (match a with | [.inr (.inr (12, th)), .inl i] => pz_im M ∧ -76 ≤ i ∧ i ≤ 1000 | _ => False), fun a M r M' => (match a, r with | [.inr (.inr (12, th)), .inl i], some (.inl v) => ((v = 1 ∧ ¬ M 60 (76 + i).toNat = -1) ∨ (v = 0 ∧ M 60 (76 + i).toNat = -1)) ∧ M = M' | _, _ => False))
noncomputable abbrev ct3_X12_hasMoved : List (Bool × Nat × pz_C) := []
set_option maxRecDepth 100000 in
set_option maxHeartbeats 4000000 in
theorem h3_X12_hasMoved : pz_H yX12_hasMoved cX12_hasMoved 2 (some .boolean) k3_X12_hasMoved 0 0 := by
  refine pz_mk (own := RX12) (tb := t_X12_hasMoved) (fl := pz_flf fl_RX12) (ci := pz_cif ci_RX12) (ct := pz_ctf ct3_X12_hasMoved) (rz := true) (pz_pfc_RX12 yX12_hasMoved rfl) rfl t_X12_hasMoved_ok (pz_flk fl_RX12_ok) (pz_cik ci_RX12_ok) ?_ ?_ (Or.inr ⟨rfl, rfl⟩) ?_ ?_
  · exact fun i k' h => pz_ctk (l := ct3_X12_hasMoved) (P := fun b i k => b = true → pz_cV 0 0 RX12 i k) (fun _ h => absurd h List.not_mem_nil) true i k' h rfl
  · exact fun i k' h => pz_ctk (l := ct3_X12_hasMoved) (P := fun b i k => b = false → (pz_cS 0 0 RX12 i k ∨ (k = pz_kac ∧ 1 ≤ 0 ∧ 60 ≤ 0 ∧ Cond.methodLink RX12 i arraycopyName ∈ pz_tbl))) (fun _ h => absurd h List.not_mem_nil) false i k' h rfl
  · intro a M hlen hpre
    obtain ⟨th, i, rfl, hpre⟩ : ∃ th i, a = [.inr (.inr (12, th)), .inl i] ∧ (pz_im M ∧ -76 ≤ i ∧ i ≤ 1000) := by
      have hpre : (match (generalizing := false) a with | [.inr (.inr (12, th)), .inl i] => pz_im M ∧ -76 ≤ i ∧ i ≤ 1000 | _ => False) := hpre
      split at hpre
      · exact ⟨_, _, rfl, hpre⟩
      · exact hpre.elim
    exact Nat.le_of_ble_eq_true rfl
  · intro a M hlen hcan hM hpre Ok hgo
    obtain ⟨th, i, rfl, hpre⟩ : ∃ th i, a = [.inr (.inr (12, th)), .inl i] ∧ (pz_im M ∧ -76 ≤ i ∧ i ≤ 1000) := by
      have hpre : (match (generalizing := false) a with | [.inr (.inr (12, th)), .inl i] => pz_im M ∧ -76 ≤ i ∧ i ≤ 1000 | _ => False) := hpre
      split at hpre
      · exact ⟨_, _, rfl, hpre⟩
      · exact hpre.elim
    obtain ⟨k_th, hc_th⟩ := pz_tlm hcan
    have k_th : pz_kd th = 12 ∧ th < 231 := k_th
    have R_th := pz_kd12 k_th.1
    subst R_th
    clear k_th
    obtain ⟨k_i, hc_i⟩ := pz_tlm hc_th
    have l_i : -2147483648 ≤ i := k_i.1
    have u_i : i ≤ 2147483647 := k_i.2
    have hI : pz_im M := hpre.1
    refine hgo (fun _ => false) 14 0 _ [] M ?_
    refine pz_nrc (c := 60) rfl ?_
    intro v7 e7 a7 b7
    rw [pz_wi (by first | decide | omega) (by first | decide | omega)] at e7
    clear a7 b7
    have lo8 : (0 : Int) ≤ v7 := by omega
    have tn8 : (((v7).toNat : Nat) : Int) = v7 := Int.toNat_of_nonneg lo8
    refine And.intro (lo8) (And.intro (show _ < (1725 : Int) from by omega) ?_)
    intro v8 e8 a8 b8
    rw [e7] at e8
    refine And.intro (fun h10 => ?_) (fun h10 => ?_)
    · skip
      refine And.intro (by first | decide | omega) ?_
      refine And.intro rfl ?_
      exact ⟨by omega, rfl⟩
    · skip
      refine And.intro (by first | decide | omega) ?_
      refine And.intro rfl ?_
      exact ⟨by omega, rfl⟩
theorem v3_X12_hasMoved {fr lo i : Nat} {own : String} (h1 : 0 + 1 ≤ fr) (h2 : 8 + (2 + 11) + 0 ≤ lo) (h3 : .methodLink own i yX12_hasMoved ∈ lw_tbl) : pz_cV fr lo own i k3_X12_hasMoved :=
  pz_cVk (maxL := 2) (fr' := 0) (lo' := 0) 1 12 h3_X12_hasMoved rfl ⟨(pz_nhc_RX12 yX12_hasMoved rfl).1, (pz_nhc_RX12 yX12_hasMoved rfl).2, pz_ds9⟩ ⟨pz_wq1426, pz_wq1425, pz_ws40, pz_wq13⟩ (Or.inl ⟨TX12, 28, rfl⟩) (fun a M _ h => by
    have h : (match (generalizing := false) a with | [.inr (.inr (12, th)), .inl i] => pz_im M ∧ -76 ≤ i ∧ i ≤ 1000 | _ => False) := h
    split at h
    · exact ⟨_, _, rfl⟩
    · exact h.elim) h1 h2 h3
noncomputable def k3_X12_bridgedOnes : pz_C := (1, 1, fun a M => (match a with | [.inr (.inr (12, th))] => pz_im M | _ => False), fun a M r M' => (match a, r with | [.inr (.inr (12, th))], some (.inl v) => (pz_zs v (sd_bn (M 60))) ∧ M = M' | _, _ => False))
noncomputable abbrev ct3_X12_bridgedOnes : List (Bool × Nat × pz_C) := [(true, 288, k3_X12_isBridged)]
set_option maxRecDepth 100000 in
set_option maxHeartbeats 4000000 in
theorem h3_X12_bridgedOnes : pz_H yX12_bridgedOnes cX12_bridgedOnes 3 (some .int) k3_X12_bridgedOnes 1 21 := by
  refine pz_mk (own := RX12) (tb := t_X12_bridgedOnes) (fl := pz_flf fl_RX12) (ci := pz_cif ci_RX12) (ct := pz_ctf ct3_X12_bridgedOnes) (rz := false) (pz_pfc_RX12 yX12_bridgedOnes rfl) rfl t_X12_bridgedOnes_ok (pz_flk fl_RX12_ok) (pz_cik ci_RX12_ok) ?_ ?_ (Or.inl ⟨rfl, rfl⟩) ?_ ?_
  · exact fun i k' h => pz_ctk (l := ct3_X12_bridgedOnes) (P := fun b i k => b = true → pz_cV 1 21 RX12 i k) (List.forall_mem_cons.mpr ⟨(fun _ => v3_X12_isBridged (by decide) (by decide) pz_wq1450), fun _ h => absurd h List.not_mem_nil⟩) true i k' h rfl
  · exact fun i k' h => pz_ctk (l := ct3_X12_bridgedOnes) (P := fun b i k => b = false → (pz_cS 1 21 RX12 i k ∨ (k = pz_kac ∧ 1 ≤ 1 ∧ 60 ≤ 21 ∧ Cond.methodLink RX12 i arraycopyName ∈ pz_tbl))) (List.forall_mem_cons.mpr ⟨((fun z => by cases z)), fun _ h => absurd h List.not_mem_nil⟩) false i k' h rfl
  · intro a M hlen hpre
    obtain ⟨th, rfl, hpre⟩ : ∃ th, a = [.inr (.inr (12, th))] ∧ (pz_im M) := by
      have hpre : (match (generalizing := false) a with | [.inr (.inr (12, th))] => pz_im M | _ => False) := hpre
      split at hpre
      · exact ⟨_, rfl, hpre⟩
      · exact hpre.elim
    exact Nat.le_of_ble_eq_true rfl
  · intro a M hlen hcan hM hpre Ok hgo
    obtain ⟨th, rfl, hpre⟩ : ∃ th, a = [.inr (.inr (12, th))] ∧ (pz_im M) := by
      have hpre : (match (generalizing := false) a with | [.inr (.inr (12, th))] => pz_im M | _ => False) := hpre
      split at hpre
      · exact ⟨_, rfl, hpre⟩
      · exact hpre.elim
    obtain ⟨k_th, hc_th⟩ := pz_tlm hcan
    have k_th : pz_kd th = 12 ∧ th < 231 := k_th
    have R_th := pz_kd12 k_th.1
    subst R_th
    clear k_th
    have hI : pz_im M := hpre
    have I88 := hI.1.1
    have L4 : ∀ (fu : Nat) (x1 : Int) (x2 : Int), (12 - x2).toNat < fu → (0 ≤ x2) → (x2 ≤ 12) → (x2 ≤ M 60 88) → (pz_bt x2 (sd_bn (M 60)) x1) → Ok 4 [some (.inr (.inr (12, 1))), some (.inl x1), some (.inl x2)] [] M := by
      intro fu
      induction fu with
      | zero => exact fun _ _ hn => absurd hn (Nat.not_lt_zero _)
      | succ fu ih4 =>
        intro x1 x2 hn4 g4_0 g4_1 g4_2 g4_3
        have L31 : ∀ (x1 : Int) (x2 : Int) (s0 : Int) (s1 : Int), (0 ≤ x2) → (x2 < 12) → ((12 - x2).toNat < fu + 1) → (x2 < M 60 88) → (pz_bt x2 (sd_bn (M 60)) s0) → (pz_bO x2 (sd_bn (M 60)) s1) → Ok 31 [some (.inr (.inr (12, 1))), some (.inl x1), some (.inl x2)] [.inl s1, .inl s0] M := by
          intro x1 x2 s0 s1 g31_0 g31_1 g31_2 g31_3 g31_4 g31_5
          refine hgo (fun p => Nat.beq p 4 || Nat.beq p 31) 28 31 _ _ _ ?_
          intro v31 e31 a31 b31
          skip
          intro v33 e33 a33 b33
          rw [pz_wi (by first | decide | omega) (by first | decide | omega)] at e33
          have G33 : pz_bt v33 (sd_bn (M 60)) v31 := pz_bt_s ⟨by omega, by omega⟩ e33 g31_4 g31_5 e31
          exact ih4 _ _ (by first | decide | omega) (by first | omega | assumption | exact pz_bt_0) (by first | omega | assumption | exact pz_bt_0) (by first | omega | assumption | exact pz_bt_0) (by first | omega | assumption | exact pz_bt_0)
        refine hgo (fun p => Nat.beq p 4 || Nat.beq p 31) 28 4 _ _ _ ?_
        refine pz_nrc (c := 60) rfl ?_
        refine And.intro (by first | decide | omega) (And.intro (show _ < (1725 : Int) from by omega) ?_)
        intro v11 e11 a11 b11
        replace e11 : v11 = M 60 88 := e11
        have I11 : 0 ≤ v11 ∧ v11 ≤ 12 := by
          rw [e11]
          exact hI.1.1
        clear a11 b11
        refine And.intro (fun h12 => ?_) (fun h12 => ?_)
        · skip
          refine And.intro rfl ?_
          exact ⟨pz_bt_e g4_3 (sd_bn_e (by first | decide | omega) (by first | decide | omega)), rfl⟩
        · skip
          refine And.intro (And.intro hI (And.intro (by first | decide | omega) (by first | decide | omega))) ?_
          intro v18 M18 a18 b18 q18
          obtain ⟨q18, z18⟩ := q18
          subst z18
          clear a18 b18
          refine And.intro (fun h21 => ?_) (fun h21 => ?_)
          · skip
            replace q18 := q18.resolve_left (fun z => absurd (z.1.symm.trans h21) (by decide))
            clear h21
            exact L31 _ _ _ _ (by first | omega | assumption | exact pz_bO_y ⟨by omega, by omega⟩ (decide_eq_true ⟨by omega, by rw [← show (64 + x2).toNat = 64 + x2.toNat by omega]; omega⟩) e26 | exact pz_bO_n (decide_eq_false (fun z => by have z2 := z.2; rw [← show (64 + x2).toNat = 64 + x2.toNat by omega] at z2; omega))) (by first | omega | assumption | exact pz_bO_y ⟨by omega, by omega⟩ (decide_eq_true ⟨by omega, by rw [← show (64 + x2).toNat = 64 + x2.toNat by omega]; omega⟩) e26 | exact pz_bO_n (decide_eq_false (fun z => by have z2 := z.2; rw [← show (64 + x2).toNat = 64 + x2.toNat by omega] at z2; omega))) (by first | omega | assumption | exact pz_bO_y ⟨by omega, by omega⟩ (decide_eq_true ⟨by omega, by rw [← show (64 + x2).toNat = 64 + x2.toNat by omega]; omega⟩) e26 | exact pz_bO_n (decide_eq_false (fun z => by have z2 := z.2; rw [← show (64 + x2).toNat = 64 + x2.toNat by omega] at z2; omega))) (by first | omega | assumption | exact pz_bO_y ⟨by omega, by omega⟩ (decide_eq_true ⟨by omega, by rw [← show (64 + x2).toNat = 64 + x2.toNat by omega]; omega⟩) e26 | exact pz_bO_n (decide_eq_false (fun z => by have z2 := z.2; rw [← show (64 + x2).toNat = 64 + x2.toNat by omega] at z2; omega))) (by first | omega | assumption | exact pz_bO_y ⟨by omega, by omega⟩ (decide_eq_true ⟨by omega, by rw [← show (64 + x2).toNat = 64 + x2.toNat by omega]; omega⟩) e26 | exact pz_bO_n (decide_eq_false (fun z => by have z2 := z.2; rw [← show (64 + x2).toNat = 64 + x2.toNat by omega] at z2; omega))) (by first | omega | assumption | exact pz_bO_y ⟨by omega, by omega⟩ (decide_eq_true ⟨by omega, by rw [← show (64 + x2).toNat = 64 + x2.toNat by omega]; omega⟩) e26 | exact pz_bO_n (decide_eq_false (fun z => by have z2 := z.2; rw [← show (64 + x2).toNat = 64 + x2.toNat by omega] at z2; omega)))
          · skip
            replace q18 := q18.resolve_right (fun z => h21 z.1)
            clear h21
            intro v26 e26 a26 b26
            exact L31 _ _ _ _ (by first | omega | assumption | exact pz_bO_y ⟨by omega, by omega⟩ (decide_eq_true ⟨by omega, by rw [← show (64 + x2).toNat = 64 + x2.toNat by omega]; omega⟩) e26 | exact pz_bO_n (decide_eq_false (fun z => by have z2 := z.2; rw [← show (64 + x2).toNat = 64 + x2.toNat by omega] at z2; omega))) (by first | omega | assumption | exact pz_bO_y ⟨by omega, by omega⟩ (decide_eq_true ⟨by omega, by rw [← show (64 + x2).toNat = 64 + x2.toNat by omega]; omega⟩) e26 | exact pz_bO_n (decide_eq_false (fun z => by have z2 := z.2; rw [← show (64 + x2).toNat = 64 + x2.toNat by omega] at z2; omega))) (by first | omega | assumption | exact pz_bO_y ⟨by omega, by omega⟩ (decide_eq_true ⟨by omega, by rw [← show (64 + x2).toNat = 64 + x2.toNat by omega]; omega⟩) e26 | exact pz_bO_n (decide_eq_false (fun z => by have z2 := z.2; rw [← show (64 + x2).toNat = 64 + x2.toNat by omega] at z2; omega))) (by first | omega | assumption | exact pz_bO_y ⟨by omega, by omega⟩ (decide_eq_true ⟨by omega, by rw [← show (64 + x2).toNat = 64 + x2.toNat by omega]; omega⟩) e26 | exact pz_bO_n (decide_eq_false (fun z => by have z2 := z.2; rw [← show (64 + x2).toNat = 64 + x2.toNat by omega] at z2; omega))) (by first | omega | assumption | exact pz_bO_y ⟨by omega, by omega⟩ (decide_eq_true ⟨by omega, by rw [← show (64 + x2).toNat = 64 + x2.toNat by omega]; omega⟩) e26 | exact pz_bO_n (decide_eq_false (fun z => by have z2 := z.2; rw [← show (64 + x2).toNat = 64 + x2.toNat by omega] at z2; omega))) (by first | omega | assumption | exact pz_bO_y ⟨by omega, by omega⟩ (decide_eq_true ⟨by omega, by rw [← show (64 + x2).toNat = 64 + x2.toNat by omega]; omega⟩) e26 | exact pz_bO_n (decide_eq_false (fun z => by have z2 := z.2; rw [← show (64 + x2).toNat = 64 + x2.toNat by omega] at z2; omega)))
    refine hgo (fun p => Nat.beq p 4 || Nat.beq p 31) 28 0 _ [] M ?_
    exact L4 _ _ _ (Nat.lt_succ_self _) (by first | omega | assumption | exact pz_bt_0) (by first | omega | assumption | exact pz_bt_0) (by first | omega | assumption | exact pz_bt_0) (by first | omega | assumption | exact pz_bt_0)
theorem v3_X12_bridgedOnes {fr lo i : Nat} {own : String} (h1 : 1 + 1 ≤ fr) (h2 : 8 + (3 + 11) + 21 ≤ lo) (h3 : .methodLink own i yX12_bridgedOnes ∈ lw_tbl) : pz_cV fr lo own i k3_X12_bridgedOnes :=
  pz_cVk (maxL := 3) (fr' := 1) (lo' := 21) 0 12 h3_X12_bridgedOnes rfl ⟨(pz_nhc_RX12 yX12_bridgedOnes rfl).1, (pz_nhc_RX12 yX12_bridgedOnes rfl).2, pz_ds1⟩ ⟨pz_wq1457, pz_wq1456, pz_ws47, pz_wq13⟩ (Or.inl ⟨TX12, 28, rfl⟩) (fun a M _ h => by
    have h : (match (generalizing := false) a with | [.inr (.inr (12, th))] => pz_im M | _ => False) := h
    split at h
    · exact ⟨_, _, rfl⟩
    · exact h.elim) h1 h2 h3
noncomputable def k3_X12_endOf : pz_C := (3, 1, fun a M => (match a with | [.inr (.inr (12, th)), .inl i, .inl x] => pz_im M ∧ 0 ≤ i ∧ i ≤ 100 | _ => False), fun a M r M' => (match a, r with | [.inr (.inr (12, th)), .inl i, .inl x], some (.inl v) => ((v < 12 ∧ (v = M 60 88 - 1 ∨ (i < v ∧ v < M 60 88 - 1))) ∧ ∀ b : Nat → Bool, pz_zs x b → 0 ≤ i → i < M 60 88 → v = (sd_end b (M 60 88).toNat i.toNat : Int)) ∧ M = M' | _, _ => False))
noncomputable abbrev ct3_X12_endOf : List (Bool × Nat × pz_C) := [(false, 47, k_X12_lesser)]
set_option maxRecDepth 100000 in
set_option maxHeartbeats 4000000 in
theorem h3_X12_endOf : pz_H yX12_endOf cX12_endOf 4 (some .int) k3_X12_endOf 1 21 := by
  refine pz_mk (own := RX12) (tb := t_X12_endOf) (fl := pz_flf fl_RX12) (ci := pz_cif ci_RX12) (ct := pz_ctf ct3_X12_endOf) (rz := false) (pz_pfc_RX12 yX12_endOf rfl) rfl t_X12_endOf_ok (pz_flk fl_RX12_ok) (pz_cik ci_RX12_ok) ?_ ?_ (Or.inl ⟨rfl, rfl⟩) ?_ ?_
  · exact fun i k' h => pz_ctk (l := ct3_X12_endOf) (P := fun b i k => b = true → pz_cV 1 21 RX12 i k) (List.forall_mem_cons.mpr ⟨((fun z => by cases z)), fun _ h => absurd h List.not_mem_nil⟩) true i k' h rfl
  · exact fun i k' h => pz_ctk (l := ct3_X12_endOf) (P := fun b i k => b = false → (pz_cS 1 21 RX12 i k ∨ (k = pz_kac ∧ 1 ≤ 1 ∧ 60 ≤ 21 ∧ Cond.methodLink RX12 i arraycopyName ∈ pz_tbl))) (List.forall_mem_cons.mpr ⟨(fun _ => Or.inl (s_X12_lesser (by decide) (by decide) (Or.inl pz_wq1462))), fun _ h => absurd h List.not_mem_nil⟩) false i k' h rfl
  · intro a M hlen hpre
    obtain ⟨th, i, x, rfl, hpre⟩ : ∃ th i x, a = [.inr (.inr (12, th)), .inl i, .inl x] ∧ (pz_im M ∧ 0 ≤ i ∧ i ≤ 100) := by
      have hpre : (match (generalizing := false) a with | [.inr (.inr (12, th)), .inl i, .inl x] => pz_im M ∧ 0 ≤ i ∧ i ≤ 100 | _ => False) := hpre
      split at hpre
      · exact ⟨_, _, _, rfl, hpre⟩
      · exact hpre.elim
    exact Nat.le_of_ble_eq_true rfl
  · intro a M hlen hcan hM hpre Ok hgo
    obtain ⟨th, i, x, rfl, hpre⟩ : ∃ th i x, a = [.inr (.inr (12, th)), .inl i, .inl x] ∧ (pz_im M ∧ 0 ≤ i ∧ i ≤ 100) := by
      have hpre : (match (generalizing := false) a with | [.inr (.inr (12, th)), .inl i, .inl x] => pz_im M ∧ 0 ≤ i ∧ i ≤ 100 | _ => False) := hpre
      split at hpre
      · exact ⟨_, _, _, rfl, hpre⟩
      · exact hpre.elim
    obtain ⟨k_th, hc_th⟩ := pz_tlm hcan
    have k_th : pz_kd th = 12 ∧ th < 231 := k_th
    have R_th := pz_kd12 k_th.1
    subst R_th
    clear k_th
    obtain ⟨k_i, hc_i⟩ := pz_tlm hc_th
    have l_i : -2147483648 ≤ i := k_i.1
    have u_i : i ≤ 2147483647 := k_i.2
    obtain ⟨k_x, hc_x⟩ := pz_tlm hc_i
    have l_x : -2147483648 ≤ x := k_x.1
    have u_x : x ≤ 2147483647 := k_x.2
    have hI : pz_im M := hpre.1
    have I88 := hI.1.1
    have L4 : ∀ (fu : Nat) (x3 : Int), (101 - x3).toNat < fu → (i < x3) → (x3 ≤ 101) → (∀ b : Nat → Bool, pz_zs x b → pz_eD M b i x3) → Ok 4 [some (.inr (.inr (12, 1))), some (.inl i), some (.inl x), some (.inl x3)] [] M := by
      intro fu
      induction fu with
      | zero => exact fun _ hn => absurd hn (Nat.not_lt_zero _)
      | succ fu ih4 =>
        intro x3 hn4 g4_0 g4_1 g4_2
        refine hgo (fun p => Nat.beq p 4) 31 4 _ _ _ ?_
        refine pz_nrc (c := 60) rfl ?_
        refine And.intro (by first | decide | omega) (And.intro (show _ < (1725 : Int) from by omega) ?_)
        intro v11 e11 a11 b11
        replace e11 : v11 = M 60 88 := e11
        have I11 : 0 ≤ v11 ∧ v11 ≤ 12 := by
          rw [e11]
          exact hI.1.1
        clear a11 b11
        intro v13 e13 a13 b13
        rw [pz_wi (by first | decide | omega) (by first | decide | omega)] at e13
        clear a13 b13
        refine And.intro (fun h14 => ?_) (fun h14 => ?_)
        · skip
          refine pz_nrc (c := 60) rfl ?_
          refine And.intro (by first | decide | omega) (And.intro (show _ < (1725 : Int) from by omega) ?_)
          intro v38 e38 a38 b38
          replace e38 : v38 = M 60 88 := e38
          have I38 : 0 ≤ v38 ∧ v38 ≤ 12 := by
            rw [e38]
            exact hI.1.1
          clear a38 b38
          intro v40 e40 a40 b40
          rw [pz_wi (by first | decide | omega) (by first | decide | omega)] at e40
          clear a40 b40
          refine And.intro (True.intro) ?_
          intro v41 M41 a41 b41 q41
          obtain ⟨q41, z41⟩ := q41
          subst z41
          refine And.intro rfl ?_
          have e9 : ∀ b : Nat → Bool, pz_zs x b → ¬ x3 < M 60 88 - 1 ∨ b x3.toNat = true := fun b hb => by
            first
              | exact Or.inl (by first | decide | omega)
              | (refine Or.inr ?_
                 have z := B21 b hb
                 cases q : b x3.toNat with
                 | true => rfl
                 | false =>
                   rw [q, if_neg (by decide)] at z
                   omega)
          exact ⟨⟨by omega, fun b hb h0 h1 => by rw [← pz_eD_e (g4_2 b hb) (by first | decide | omega) (e9 b hb) h0 h1]; omega⟩, rfl⟩
        · skip
          intro v19 e19 a19 b19
          intro v21 e21 a21 b21
          have X21 := pz_a1 e21
          have B21 : ∀ b : Nat → Bool, pz_zs x b → v21 = if b x3.toNat = true then 1 else 0 := fun b hb => pz_sb_at hb (by first | decide | omega) (by first | decide | omega) e19 e21
          refine And.intro (fun h22 => ?_) (fun h22 => ?_)
          · skip
            replace h22 : 1 ≤ v21 := by omega
            refine pz_nrc (c := 60) rfl ?_
            refine And.intro (by first | decide | omega) (And.intro (show _ < (1725 : Int) from by omega) ?_)
            intro v38 e38 a38 b38
            replace e38 : v38 = M 60 88 := e38
            have I38 : 0 ≤ v38 ∧ v38 ≤ 12 := by
              rw [e38]
              exact hI.1.1
            clear a38 b38
            intro v40 e40 a40 b40
            rw [pz_wi (by first | decide | omega) (by first | decide | omega)] at e40
            clear a40 b40
            refine And.intro (True.intro) ?_
            intro v41 M41 a41 b41 q41
            obtain ⟨q41, z41⟩ := q41
            subst z41
            refine And.intro rfl ?_
            have e9 : ∀ b : Nat → Bool, pz_zs x b → ¬ x3 < M 60 88 - 1 ∨ b x3.toNat = true := fun b hb => by
              first
                | exact Or.inl (by first | decide | omega)
                | (refine Or.inr ?_
                   have z := B21 b hb
                   cases q : b x3.toNat with
                   | true => rfl
                   | false =>
                     rw [q, if_neg (by decide)] at z
                     omega)
            exact ⟨⟨by omega, fun b hb h0 h1 => by rw [← pz_eD_e (g4_2 b hb) (by first | decide | omega) (e9 b hb) h0 h1]; omega⟩, rfl⟩
          · skip
            intro v25 e25 a25 b25
            rw [pz_wi (by first | decide | omega) (by first | decide | omega)] at e25
            have G25 : ∀ b : Nat → Bool, pz_zs x b → pz_eD M b i v25 := fun b hb => pz_eD_s (g4_2 b hb) (by first | decide | omega) (by first | decide | omega) (by
              have z := B21 b hb
              cases q : b x3.toNat with
              | false => rfl
              | true =>
                rw [q, if_pos rfl] at z
                omega) e25
            exact ih4 _ (by first | decide | omega) (by first | omega | assumption) (by first | omega | assumption) (by first | omega | assumption)
    refine hgo (fun p => Nat.beq p 4) 31 0 _ [] M ?_
    intro v2 e2 a2 b2
    rw [pz_wi (by first | decide | omega) (by first | decide | omega)] at e2
    have G2 : ∀ b : Nat → Bool, pz_zs x b → pz_eD M b i v2 := fun b _ h0 h1 => by rw [show v2.toNat = i.toNat + 1 by omega]
    exact L4 _ _ (Nat.lt_succ_self _) (by first | omega | assumption) (by first | omega | assumption) (by first | omega | assumption)
theorem v3_X12_endOf {fr lo i : Nat} {own : String} (h1 : 1 + 1 ≤ fr) (h2 : 8 + (4 + 11) + 21 ≤ lo) (h3 : .methodLink own i yX12_endOf ∈ lw_tbl) : pz_cV fr lo own i k3_X12_endOf :=
  pz_cVk (maxL := 4) (fr' := 1) (lo' := 21) 2 12 h3_X12_endOf rfl ⟨(pz_nhc_RX12 yX12_endOf rfl).1, (pz_nhc_RX12 yX12_endOf rfl).2, pz_ds10⟩ ⟨pz_wq1461, pz_wq1460, pz_ws48, pz_wq13⟩ (Or.inl ⟨TX12, 28, rfl⟩) (fun a M _ h => by
    have h : (match (generalizing := false) a with | [.inr (.inr (12, th)), .inl i, .inl x] => pz_im M ∧ 0 ≤ i ∧ i ≤ 100 | _ => False) := h
    split at h
    · exact ⟨_, _, rfl⟩
    · exact h.elim) h1 h2 h3
noncomputable def k3_X12_lacksOf : pz_C := (2, 1, fun a M => (match a with | [.inr (.inr (12, th)), .inl i] => pz_im M ∧ 0 ≤ i ∧ i < 12 | _ => False), fun a M r M' => (match a, r with | [.inr (.inr (12, th)), .inl i], some (.inl v) => (pz_lko (M 60) i v) ∧ M = M' | _, _ => False))
noncomputable abbrev ct3_X12_lacksOf : List (Bool × Nat × pz_C) := [(false, 51, k_X12_greater), (true, 288, k3_X12_isBridged), (true, 291, k3_X12_bridgedOnes), (true, 294, k3_X12_endOf), (true, 297, k3_X12_isReady)]
set_option maxRecDepth 100000 in
set_option maxHeartbeats 4000000 in
theorem h3_X12_lacksOf : pz_H yX12_lacksOf cX12_lacksOf 6 (some .int) k3_X12_lacksOf 2 44 := by
  refine pz_mk (own := RX12) (tb := t_X12_lacksOf) (fl := pz_flf fl_RX12) (ci := pz_cif ci_RX12) (ct := pz_ctf ct3_X12_lacksOf) (rz := false) (pz_pfc_RX12 yX12_lacksOf rfl) rfl t_X12_lacksOf_ok (pz_flk fl_RX12_ok) (pz_cik ci_RX12_ok) ?_ ?_ (Or.inl ⟨rfl, rfl⟩) ?_ ?_
  · exact fun i k' h => pz_ctk (l := ct3_X12_lacksOf) (P := fun b i k => b = true → pz_cV 2 44 RX12 i k) (List.forall_mem_cons.mpr ⟨((fun z => by cases z)), List.forall_mem_cons.mpr ⟨(fun _ => v3_X12_isBridged (by decide) (by decide) pz_wq1450), List.forall_mem_cons.mpr ⟨(fun _ => v3_X12_bridgedOnes (by decide) (by decide) pz_wq1454), List.forall_mem_cons.mpr ⟨(fun _ => v3_X12_endOf (by decide) (by decide) pz_wq1458), List.forall_mem_cons.mpr ⟨(fun _ => v3_X12_isReady (by decide) (by decide) pz_wq1465), fun _ h => absurd h List.not_mem_nil⟩⟩⟩⟩⟩) true i k' h rfl
  · exact fun i k' h => pz_ctk (l := ct3_X12_lacksOf) (P := fun b i k => b = false → (pz_cS 2 44 RX12 i k ∨ (k = pz_kac ∧ 1 ≤ 2 ∧ 60 ≤ 44 ∧ Cond.methodLink RX12 i arraycopyName ∈ pz_tbl))) (List.forall_mem_cons.mpr ⟨(fun _ => Or.inl (s_X12_greater (by decide) (by decide) (Or.inl pz_wq1447))), List.forall_mem_cons.mpr ⟨((fun z => by cases z)), List.forall_mem_cons.mpr ⟨((fun z => by cases z)), List.forall_mem_cons.mpr ⟨((fun z => by cases z)), List.forall_mem_cons.mpr ⟨((fun z => by cases z)), fun _ h => absurd h List.not_mem_nil⟩⟩⟩⟩⟩) false i k' h rfl
  · intro a M hlen hpre
    obtain ⟨th, i, rfl, hpre⟩ : ∃ th i, a = [.inr (.inr (12, th)), .inl i] ∧ (pz_im M ∧ 0 ≤ i ∧ i < 12) := by
      have hpre : (match (generalizing := false) a with | [.inr (.inr (12, th)), .inl i] => pz_im M ∧ 0 ≤ i ∧ i < 12 | _ => False) := hpre
      split at hpre
      · exact ⟨_, _, rfl, hpre⟩
      · exact hpre.elim
    exact Nat.le_of_ble_eq_true rfl
  · intro a M hlen hcan hM hpre Ok hgo
    obtain ⟨th, i, rfl, hpre⟩ : ∃ th i, a = [.inr (.inr (12, th)), .inl i] ∧ (pz_im M ∧ 0 ≤ i ∧ i < 12) := by
      have hpre : (match (generalizing := false) a with | [.inr (.inr (12, th)), .inl i] => pz_im M ∧ 0 ≤ i ∧ i < 12 | _ => False) := hpre
      split at hpre
      · exact ⟨_, _, rfl, hpre⟩
      · exact hpre.elim
    obtain ⟨k_th, hc_th⟩ := pz_tlm hcan
    have k_th : pz_kd th = 12 ∧ th < 231 := k_th
    have R_th := pz_kd12 k_th.1
    subst R_th
    clear k_th
    obtain ⟨k_i, hc_i⟩ := pz_tlm hc_th
    have l_i : -2147483648 ≤ i := k_i.1
    have u_i : i ≤ 2147483647 := k_i.2
    have hI : pz_im M := hpre.1
    have I88 := hI.1.1
    have L66 : ∀ (fu : Nat) (x2 : Int) (x3 : Int) (x4 : Int) (x5 : Int), (12 - x5).toNat < fu → (0 ≤ x5) → (x3 < 12) → (x5 ≤ 13) → (0 ≤ x4) → (x4 ≤ x5) → (i < M 60 88 → x4 + sd_nr (M 60) x5.toNat (x3 + 1 - x5).toNat = sd_lk (M 60) i.toNat) → Ok 66 [some (.inr (.inr (12, 1))), some (.inl i), some (.inl x2), some (.inl x3), some (.inl x4), some (.inl x5)] [] M := by
      intro fu
      induction fu with
      | zero => exact fun _ _ _ _ hn => absurd hn (Nat.not_lt_zero _)
      | succ fu ih66 =>
        intro x2 x3 x4 x5 hn66 g66_0 g66_1 g66_2 g66_3 g66_4 g66_5
        refine hgo (fun p => Nat.beq p 8 || Nat.beq p 26 || Nat.beq p 59 || Nat.beq p 66) 55 66 _ _ _ ?_
        refine And.intro (fun h69 => ?_) (fun h69 => ?_)
        · skip
          refine And.intro rfl ?_
          exact ⟨fun hi => by
            have z := g66_5 hi
            rw [show (x3 + 1 - x5).toNat = 0 by omega] at z
            have z : x4 + 0 = _ := z
            omega, rfl⟩
        · skip
          refine And.intro (And.intro hI (And.intro (by first | decide | omega) (by first | decide | omega))) ?_
          intro v77 M77 a77 b77 q77
          obtain ⟨q77, z77⟩ := q77
          subst z77
          clear a77 b77
          refine And.intro (fun h80 => ?_) (fun h80 => ?_)
          · skip
            have S80 : (1 : Int) = if M 60 (40 + x5.toNat) = 1 then 0 else 1 := by rw [if_neg (by rw [← show (40 + x5).toNat = 40 + x5.toNat by omega]; omega)]
            replace q77 := q77.resolve_left (fun z => absurd (z.1.symm.trans h80) (by decide))
            clear h80
            intro v88 e88 a88 b88
            rw [pz_wi (by first | decide | omega) (by first | decide | omega)] at e88
            clear a88 b88
            intro v91 e91 a91 b91
            rw [pz_wi (by first | decide | omega) (by first | decide | omega)] at e91
            have G91 : i < M 60 88 → v88 + sd_nr (M 60) v91.toNat (x3 + 1 - v91).toNat = sd_lk (M 60) i.toNat := fun hi => by
              rw [show v91.toNat = x5.toNat + 1 by omega, show (x3 + 1 - v91).toNat = (x3 + 1 - x5).toNat - 1 by omega]
              exact sd_nr_s (g66_5 hi) (by first | decide | omega) S80 (by first | decide | omega)
            exact ih66 _ _ _ _ (by first | decide | omega) (by first | omega | assumption | exact pz_lk0 g59_0 g59_4 g59_5) (by first | omega | assumption | exact pz_lk0 g59_0 g59_4 g59_5) (by first | omega | assumption | exact pz_lk0 g59_0 g59_4 g59_5) (by first | omega | assumption | exact pz_lk0 g59_0 g59_4 g59_5) (by first | omega | assumption | exact pz_lk0 g59_0 g59_4 g59_5) (by first | omega | assumption | exact pz_lk0 g59_0 g59_4 g59_5)
          · skip
            have S80 : (0 : Int) = if M 60 (40 + x5.toNat) = 1 then 0 else 1 := by rw [if_pos (by rw [← show (40 + x5).toNat = 40 + x5.toNat by omega]; omega)]
            replace q77 := q77.resolve_right (fun z => h80 z.1)
            clear h80
            intro v88 e88 a88 b88
            rw [pz_wi (by first | decide | omega) (by first | decide | omega)] at e88
            clear a88 b88
            intro v91 e91 a91 b91
            rw [pz_wi (by first | decide | omega) (by first | decide | omega)] at e91
            have G91 : i < M 60 88 → v88 + sd_nr (M 60) v91.toNat (x3 + 1 - v91).toNat = sd_lk (M 60) i.toNat := fun hi => by
              rw [show v91.toNat = x5.toNat + 1 by omega, show (x3 + 1 - v91).toNat = (x3 + 1 - x5).toNat - 1 by omega]
              exact sd_nr_s (g66_5 hi) (by first | decide | omega) S80 (by first | decide | omega)
            exact ih66 _ _ _ _ (by first | decide | omega) (by first | omega | assumption | exact pz_lk0 g59_0 g59_4 g59_5) (by first | omega | assumption | exact pz_lk0 g59_0 g59_4 g59_5) (by first | omega | assumption | exact pz_lk0 g59_0 g59_4 g59_5) (by first | omega | assumption | exact pz_lk0 g59_0 g59_4 g59_5) (by first | omega | assumption | exact pz_lk0 g59_0 g59_4 g59_5) (by first | omega | assumption | exact pz_lk0 g59_0 g59_4 g59_5)
    have L59 : ∀ (x2 : Int) (d3 : Option pz_V) (d4 : Option pz_V) (d5 : Option pz_V) (s0 : Int), (0 ≤ x2) → (s0 < 12) → (x2 ≤ i) → (x2 < 12) → (x2.toNat = sd_from (M 60) i.toNat) → (i < M 60 88 → s0 = (sd_to (M 60) i.toNat : Int)) → Ok 59 [some (.inr (.inr (12, 1))), some (.inl i), some (.inl x2), d3, d4, d5] [.inl s0] M := by
      intro x2 d3 d4 d5 s0 g59_0 g59_1 g59_2 g59_3 g59_4 g59_5
      refine hgo (fun p => Nat.beq p 8 || Nat.beq p 26 || Nat.beq p 59 || Nat.beq p 66) 55 59 _ _ _ ?_
      exact L66 _ _ _ _ _ (Nat.lt_succ_self _) (by first | omega | assumption | exact pz_lk0 g59_0 g59_4 g59_5) (by first | omega | assumption | exact pz_lk0 g59_0 g59_4 g59_5) (by first | omega | assumption | exact pz_lk0 g59_0 g59_4 g59_5) (by first | omega | assumption | exact pz_lk0 g59_0 g59_4 g59_5) (by first | omega | assumption | exact pz_lk0 g59_0 g59_4 g59_5) (by first | omega | assumption | exact pz_lk0 g59_0 g59_4 g59_5)
    have L8 : ∀ (fu : Nat) (x2 : Int) (d3 : Option pz_V) (d4 : Option pz_V) (d5 : Option pz_V), x2.toNat < fu → (0 ≤ x2) → (x2 < 12) → (x2 ≤ i) → (sd_lo (M 60) x2.toNat = sd_from (M 60) i.toNat) → Ok 8 [some (.inr (.inr (12, 1))), some (.inl i), some (.inl x2), d3, d4, d5] [] M := by
      intro fu
      induction fu with
      | zero => exact fun _ _ _ _ hn => absurd hn (Nat.not_lt_zero _)
      | succ fu ih8 =>
        intro x2 d3 d4 d5 hn8 g8_0 g8_1 g8_2 g8_3
        have L26 : ∀ (x2 : Int) (d3 : Option pz_V) (d4 : Option pz_V) (d5 : Option pz_V), (0 ≤ x2) → (x2 < 12) → (x2 ≤ i) → (x2.toNat = sd_from (M 60) i.toNat) → Ok 26 [some (.inr (.inr (12, 1))), some (.inl i), some (.inl x2), d3, d4, d5] [] M := by
          intro x2 d3 d4 d5 g26_0 g26_1 g26_2 g26_3
          refine hgo (fun p => Nat.beq p 8 || Nat.beq p 26 || Nat.beq p 59 || Nat.beq p 66) 55 26 _ _ _ ?_
          refine And.intro (And.intro hI (And.intro (by first | decide | omega) (by first | decide | omega))) ?_
          intro v28 M28 a28 b28 q28
          obtain ⟨q28, z28⟩ := q28
          subst z28
          clear a28 b28
          refine And.intro (fun h31 => ?_) (fun h31 => ?_)
          · skip
            replace q28 := q28.resolve_right (fun z => h31 z.1)
            clear h31
            refine And.intro (hI) ?_
            intro v41 M41 a41 b41 q41
            obtain ⟨q41, z41⟩ := q41
            subst z41
            refine And.intro (And.intro hI (And.intro (by first | decide | omega) (by first | decide | omega))) ?_
            intro v44 M44 a44 b44 q44
            obtain ⟨q44, z44⟩ := q44
            subst z44
            have G44 : i < M 60 88 → v44 = (sd_to (M 60) i.toNat : Int) := fun hi => by
              unfold sd_to
              rw [if_pos (by rw [← show (64 + i).toNat = 64 + i.toNat by omega]; omega), q44.2 _ q41 (by first | decide | omega) hi, sd_end_bn]
            exact L59 _ _ _ _ _ (by first | omega | assumption) (by first | omega | assumption) (by first | omega | assumption) (by first | omega | assumption) (by first | omega | assumption) (by first | omega | assumption)
          · skip
            replace q28 := q28.resolve_left (fun z => absurd (z.1.symm.trans h31) (by decide))
            clear h31
            refine And.intro (fun h35 => ?_) (fun h35 => ?_)
            · skip
              replace h35 : 1 ≤ i := by omega
              refine And.intro (hI) ?_
              intro v53 M53 a53 b53 q53
              obtain ⟨q53, z53⟩ := q53
              subst z53
              refine And.intro (And.intro hI (And.intro (by first | decide | omega) (by first | decide | omega))) ?_
              intro v56 M56 a56 b56 q56
              obtain ⟨q56, z56⟩ := q56
              subst z56
              have G56 : i < M 60 88 → v56 = (sd_to (M 60) i.toNat : Int) := fun hi => by
                unfold sd_to
                rw [if_neg (by rw [← show (64 + i).toNat = 64 + i.toNat by omega]; omega), q56.2 _ q53 (by first | decide | omega) (by first | decide | omega), sd_end_bn, g26_3]
              exact L59 _ _ _ _ _ (by first | omega | assumption) (by first | omega | assumption) (by first | omega | assumption) (by first | omega | assumption) (by first | omega | assumption) (by first | omega | assumption)
            · skip
              refine And.intro (hI) ?_
              intro v41 M41 a41 b41 q41
              obtain ⟨q41, z41⟩ := q41
              subst z41
              refine And.intro (And.intro hI (And.intro (by first | decide | omega) (by first | decide | omega))) ?_
              intro v44 M44 a44 b44 q44
              obtain ⟨q44, z44⟩ := q44
              subst z44
              have G44 : i < M 60 88 → v44 = (sd_to (M 60) i.toNat : Int) := fun hi => by
                unfold sd_to
                rw [if_pos (by rw [← show (64 + i).toNat = 64 + i.toNat by omega]; omega), q44.2 _ q41 (by first | decide | omega) hi, sd_end_bn]
              exact L59 _ _ _ _ _ (by first | omega | assumption) (by first | omega | assumption) (by first | omega | assumption) (by first | omega | assumption) (by first | omega | assumption) (by first | omega | assumption)
        refine hgo (fun p => Nat.beq p 8 || Nat.beq p 26 || Nat.beq p 59 || Nat.beq p 66) 55 8 _ _ _ ?_
        refine And.intro (fun h9 => ?_) (fun h9 => ?_)
        · skip
          have G9 : x2.toNat = sd_from (M 60) i.toNat := by
            rw [← g8_3, show x2.toNat = 0 by omega]
            rfl
          exact L26 _ _ _ _ (by first | omega | assumption) (by first | omega | assumption) (by first | omega | assumption) (by first | omega | assumption)
        · skip
          skip
          refine And.intro (And.intro hI (And.intro (by first | decide | omega) (by first | decide | omega))) ?_
          intro v14 M14 a14 b14 q14
          obtain ⟨q14, z14⟩ := q14
          subst z14
          clear a14 b14
          refine And.intro (fun h17 => ?_) (fun h17 => ?_)
          · skip
            have G17 : x2.toNat = sd_from (M 60) i.toNat := by
              rw [← g8_3]
              exact (sd_lo_y (by rw [← show (64 + x2).toNat = 64 + x2.toNat by omega]; omega)).symm
            replace q14 := q14.resolve_right (fun z => h17 z.1)
            clear h17
            exact L26 _ _ _ _ (by first | omega | assumption) (by first | omega | assumption) (by first | omega | assumption) (by first | omega | assumption)
          · skip
            skip
            replace q14 := q14.resolve_left (fun z => absurd (z.1.symm.trans h17) (by decide))
            clear h17
            intro v20 e20 a20 b20
            rw [pz_wi (by first | decide | omega) (by first | decide | omega)] at e20
            have G20 : sd_lo (M 60) v20.toNat = sd_from (M 60) i.toNat := by
              rw [← g8_3, show v20.toNat = x2.toNat - 1 by omega]
              exact (sd_lo_s (by first | decide | omega) (by rw [← show (64 + x2).toNat = 64 + x2.toNat by omega]; omega)).symm
            exact ih8 _ _ _ _ (by first | decide | omega) (by first | omega | assumption) (by first | omega | assumption) (by first | omega | assumption) (by first | omega | assumption)
    refine hgo (fun p => Nat.beq p 8 || Nat.beq p 26 || Nat.beq p 59 || Nat.beq p 66) 55 0 _ [] M ?_
    intro v3 e3 a3 b3
    rw [pz_wi (by first | decide | omega) (by first | decide | omega)] at e3
    clear a3 b3
    refine And.intro (True.intro) ?_
    intro v4 M4 a4 b4 q4
    obtain ⟨q4, z4⟩ := q4
    subst z4
    have G4 : sd_lo (M 60) v4.toNat = sd_from (M 60) i.toNat := by
      unfold sd_from
      rw [show v4.toNat = i.toNat - 1 by omega]
    exact L8 _ _ _ _ _ (Nat.lt_succ_self _) (by first | omega | assumption) (by first | omega | assumption) (by first | omega | assumption) (by first | omega | assumption)
theorem v3_X12_lacksOf {fr lo i : Nat} {own : String} (h1 : 2 + 1 ≤ fr) (h2 : 8 + (6 + 11) + 44 ≤ lo) (h3 : .methodLink own i yX12_lacksOf ∈ lw_tbl) : pz_cV fr lo own i k3_X12_lacksOf :=
  pz_cVk (maxL := 6) (fr' := 2) (lo' := 44) 1 12 h3_X12_lacksOf rfl ⟨(pz_nhc_RX12 yX12_lacksOf rfl).1, (pz_nhc_RX12 yX12_lacksOf rfl).2, pz_ds5⟩ ⟨pz_wq1446, pz_wq1445, pz_ws45, pz_wq13⟩ (Or.inl ⟨TX12, 28, rfl⟩) (fun a M _ h => by
    have h : (match (generalizing := false) a with | [.inr (.inr (12, th)), .inl i] => pz_im M ∧ 0 ≤ i ∧ i < 12 | _ => False) := h
    split at h
    · exact ⟨_, _, rfl⟩
    · exact h.elim) h1 h2 h3
noncomputable def k3_X12_says : pz_C := (5, 1, fun a M => (match a with | [.inr (.inr (12, th)), .inl k, .inl i, .inl x, .inl y] => pz_im M ∧ 0 ≤ i ∧ i < 12 | _ => False), fun a M r M' => (match a, r with | [.inr (.inr (12, th)), .inl k, .inl i, .inl x, .inl y], some (.inl v) => ((pz_say M k i x y v) ∧ 0 ≤ v ∧ (0 ≤ y → v ≤ y)) ∧ pz_rl pz_QS M M' | _, _ => False))
noncomputable abbrev ct3_X12_says : List (Bool × Nat × pz_C) := [(true, 300, k3_X12_lacksOf), (true, 303, k3_X12_isSo), (true, 285, k3_X12_comesTo), (false, 306, k3_X12_held)]
theorem pz_wk_Q3_QS : ∀ b j, pz_Q3 b j → pz_QS b j := by
  intro b j q
  unfold pz_Q3 at q
  unfold pz_QS
  omega
set_option maxRecDepth 100000 in
set_option maxHeartbeats 4000000 in
theorem h3_X12_says : pz_H yX12_says cX12_says 6 (some .int) k3_X12_says 3 70 := by
  refine pz_mk (own := RX12) (tb := t_X12_says) (fl := pz_flf fl_RX12) (ci := pz_cif ci_RX12) (ct := pz_ctf ct3_X12_says) (rz := false) (pz_pfc_RX12 yX12_says rfl) rfl t_X12_says_ok (pz_flk fl_RX12_ok) (pz_cik ci_RX12_ok) ?_ ?_ (Or.inl ⟨rfl, rfl⟩) ?_ ?_
  · exact fun i k' h => pz_ctk (l := ct3_X12_says) (P := fun b i k => b = true → pz_cV 3 70 RX12 i k) (List.forall_mem_cons.mpr ⟨(fun _ => v3_X12_lacksOf (by decide) (by decide) pz_wq1443), List.forall_mem_cons.mpr ⟨(fun _ => v3_X12_isSo (by decide) (by decide) pz_wq1469), List.forall_mem_cons.mpr ⟨(fun _ => v3_X12_comesTo (by decide) (by decide) pz_wq1473), List.forall_mem_cons.mpr ⟨((fun z => by cases z)), fun _ h => absurd h List.not_mem_nil⟩⟩⟩⟩) true i k' h rfl
  · exact fun i k' h => pz_ctk (l := ct3_X12_says) (P := fun b i k => b = false → (pz_cS 3 70 RX12 i k ∨ (k = pz_kac ∧ 1 ≤ 3 ∧ 60 ≤ 70 ∧ Cond.methodLink RX12 i arraycopyName ∈ pz_tbl))) (List.forall_mem_cons.mpr ⟨((fun z => by cases z)), List.forall_mem_cons.mpr ⟨((fun z => by cases z)), List.forall_mem_cons.mpr ⟨((fun z => by cases z)), List.forall_mem_cons.mpr ⟨(fun _ => Or.inl (s3_X12_held (by decide) (by decide) (Or.inl pz_wq1480))), fun _ h => absurd h List.not_mem_nil⟩⟩⟩⟩) false i k' h rfl
  · intro a M hlen hpre
    obtain ⟨th, k, i, x, y, rfl, hpre⟩ : ∃ th k i x y, a = [.inr (.inr (12, th)), .inl k, .inl i, .inl x, .inl y] ∧ (pz_im M ∧ 0 ≤ i ∧ i < 12) := by
      have hpre : (match (generalizing := false) a with | [.inr (.inr (12, th)), .inl k, .inl i, .inl x, .inl y] => pz_im M ∧ 0 ≤ i ∧ i < 12 | _ => False) := hpre
      split at hpre
      · exact ⟨_, _, _, _, _, rfl, hpre⟩
      · exact hpre.elim
    exact Nat.le_of_ble_eq_true rfl
  · intro a M hlen hcan hM hpre Ok hgo
    obtain ⟨th, k, i, x, y, rfl, hpre⟩ : ∃ th k i x y, a = [.inr (.inr (12, th)), .inl k, .inl i, .inl x, .inl y] ∧ (pz_im M ∧ 0 ≤ i ∧ i < 12) := by
      have hpre : (match (generalizing := false) a with | [.inr (.inr (12, th)), .inl k, .inl i, .inl x, .inl y] => pz_im M ∧ 0 ≤ i ∧ i < 12 | _ => False) := hpre
      split at hpre
      · exact ⟨_, _, _, _, _, rfl, hpre⟩
      · exact hpre.elim
    obtain ⟨k_th, hc_th⟩ := pz_tlm hcan
    have k_th : pz_kd th = 12 ∧ th < 231 := k_th
    have R_th := pz_kd12 k_th.1
    subst R_th
    clear k_th
    obtain ⟨k_k, hc_k⟩ := pz_tlm hc_th
    have l_k : -2147483648 ≤ k := k_k.1
    have u_k : k ≤ 2147483647 := k_k.2
    obtain ⟨k_i, hc_i⟩ := pz_tlm hc_k
    have l_i : -2147483648 ≤ i := k_i.1
    have u_i : i ≤ 2147483647 := k_i.2
    obtain ⟨k_x, hc_x⟩ := pz_tlm hc_i
    have l_x : -2147483648 ≤ x := k_x.1
    have u_x : x ≤ 2147483647 := k_x.2
    obtain ⟨k_y, hc_y⟩ := pz_tlm hc_x
    have l_y : -2147483648 ≤ y := k_y.1
    have u_y : y ≤ 2147483647 := k_y.2
    have hI : pz_im M := hpre.1
    have hI0 := hI
    have hS : pz_rl pz_QS M M := pz_rl.rf
    have L124 : ∀ (fu : Nat) (x5 : Int) (N124 : pz_M), (16 - x5).toNat < fu → (pz_rl pz_QS M N124) → (0 ≤ x5) → (x5 ≤ 16) → (pz_sld M N124 k i x y x5) → Ok 124 [some (.inr (.inr (12, 1))), some (.inl k), some (.inl i), some (.inl x), some (.inl y), some (.inl x5)] [] N124 := by
      intro fu
      induction fu with
      | zero => exact fun _ _ hn => absurd hn (Nat.not_lt_zero _)
      | succ fu ih124 =>
        intro x5 N124 hn124 hS g124_1 g124_2 g124_3
        have hI : pz_im N124 := hS.1 hI0
        have hS124 := hS
        have L194 : ∀ (x5 : Int) (N194 : pz_M), (pz_rl pz_QS M N194) → (0 ≤ x5) → (x5 < 16) → ((16 - x5).toNat < fu + 1) → (pz_sld M N194 k i x y (x5 + 1)) → Ok 194 [some (.inr (.inr (12, 1))), some (.inl k), some (.inl i), some (.inl x), some (.inl y), some (.inl x5)] [] N194 := by
          intro x5 N194 hS g194_1 g194_2 g194_3 g194_4
          have hI : pz_im N194 := hS.1 hI0
          refine hgo (fun p => Nat.beq p 124 || Nat.beq p 194) 126 194 _ _ _ ?_
          intro v194 e194 a194 b194
          rw [pz_wi (by first | decide | omega) (by first | decide | omega)] at e194
          have G194 : pz_sld M N194 k i x y v194 := by
            rw [e194]
            exact g194_4
          exact ih124 _ _ (by first | decide | omega) hS (by first | omega | assumption) (by first | omega | assumption) (by first | omega | assumption)
        refine hgo (fun p => Nat.beq p 124 || Nat.beq p 194) 126 124 _ _ _ ?_
        refine pz_nrc (c := 60) rfl ?_
        refine And.intro (by first | decide | omega) (And.intro (show _ < (1725 : Int) from by omega) ?_)
        intro v132 e132 a132 b132
        replace e132 : v132 = N124 60 89 := e132
        have I132 : 0 ≤ v132 ∧ v132 ≤ 16 := by
          rw [e132]
          exact hI.1.2.1
        clear a132 b132
        have W132 : N124 60 89 = M 60 89 := hS.2 60 89 (by unfold pz_QS; first | decide | omega)
        refine And.intro (fun h133 => ?_) (fun h133 => ?_)
        · skip
          refine And.intro (True.intro) ?_
          intro v204 M204 a204 b204 q204
          obtain ⟨q204, z204⟩ := q204
          subst z204
          refine And.intro rfl ?_
          first
            | (have K41 : v172 = M 60 (841 + x5.toNat) := by
                 rw [e172, show M154 60 = M 60 from W154.trans (funext fun j => hS124.2 60 j (by unfold pz_QS; first | decide | omega))]
                 congr 1
                 omega
               have K57 : v183 = M 60 (857 + x5.toNat) := by
                 rw [e183, show M154 60 = M 60 from W154.trans (funext fun j => hS124.2 60 j (by unfold pz_QS; first | decide | omega))]
                 congr 1
                 omega
               exact ⟨⟨pz_sld_y g124_3 (by first | decide | omega) (by first | decide | omega) e146 (by first | decide | omega) q154.2 (by first | decide | omega) Y154 W154 K41 K57 q184 q190, by omega, by omega⟩, hS⟩)
            | exact ⟨⟨pz_sld_e g124_3 (by first | decide | omega) (by first | decide | omega) q204, by omega, by omega⟩, hS⟩
        · skip
          refine pz_nrc (c := 60) rfl ?_
          intro v145 e145 a145 b145
          rw [pz_wi (by first | decide | omega) (by first | decide | omega)] at e145
          clear a145 b145
          have lo146 : (0 : Int) ≤ v145 := by omega
          have tn146 : (((v145).toNat : Nat) : Int) = v145 := Int.toNat_of_nonneg lo146
          refine And.intro (lo146) (And.intro (show _ < (1725 : Int) from by omega) ?_)
          intro v146 e146 a146 b146
          rw [show N124 60 = M 60 from funext fun j => hS.2 60 j (by unfold pz_QS; first | decide | omega), show v145.toNat = 889 + x5.toNat by omega] at e146
          refine And.intro (fun h148 => ?_) (fun h148 => ?_)
          · skip
            have G148 : pz_sld M N124 k i x y (x5 + 1) := pz_sld_w g124_3 (by first | decide | omega) (by first | decide | omega) rfl e146 (by first | decide | omega) rfl rfl
            exact L194 _ _ hS (by first | omega | assumption) (by first | omega | assumption) (by first | omega | assumption) (by first | omega | assumption)
          · skip
            skip
            refine And.intro (And.intro hI (And.intro (by first | decide | omega) (by first | decide | omega))) ?_
            intro v154 M154 a154 b154 q154
            obtain ⟨q154, z154⟩ := q154
            have hS : pz_rl pz_QS M M154 := hS.tr (pz_rl.wk pz_wk_Q3_QS z154)
            have hI : pz_im M154 := hS.1 hI0
            have F154 := z154.2 60 89 (by unfold pz_Q3; first | decide | omega)
            have W154 : M154 60 = N124 60 := funext fun j => z154.2 60 j (by unfold pz_Q3; first | decide | omega)
            have Y154 : M154 69 = N124 69 := funext fun j => z154.2 69 j (by unfold pz_Q3; first | decide | omega)
            refine And.intro (fun h157 => ?_) (fun h157 => ?_)
            · skip
              have G157 : pz_sld M M154 k i x y (x5 + 1) := pz_sld_b g124_3 (by first | decide | omega) (by first | decide | omega) rfl q154.2 (by first | decide | omega) Y154 W154
              exact L194 _ _ hS (by first | omega | assumption) (by first | omega | assumption) (by first | omega | assumption) (by first | omega | assumption)
            · skip
              skip
              refine pz_nrc (c := 60) rfl ?_
              intro v171 e171 a171 b171
              rw [pz_wi (by first | decide | omega) (by first | decide | omega)] at e171
              clear a171 b171
              have lo172 : (0 : Int) ≤ v171 := by omega
              have tn172 : (((v171).toNat : Nat) : Int) = v171 := Int.toNat_of_nonneg lo172
              refine And.intro (lo172) (And.intro (show _ < (1725 : Int) from by omega) ?_)
              intro v172 e172 a172 b172
              rw [e171] at e172
              refine pz_nrc (c := 60) rfl ?_
              intro v182 e182 a182 b182
              rw [pz_wi (by first | decide | omega) (by first | decide | omega)] at e182
              clear a182 b182
              have lo183 : (0 : Int) ≤ v182 := by omega
              have tn183 : (((v182).toNat : Nat) : Int) = v182 := Int.toNat_of_nonneg lo183
              refine And.intro (lo183) (And.intro (show _ < (1725 : Int) from by omega) ?_)
              intro v183 e183 a183 b183
              rw [e182] at e183
              refine And.intro (by
                obtain ⟨w1, w2, w3, w4⟩ := hI.2.2.1 x5 (by first | decide | omega) (by first | decide | omega)
                refine ⟨hI, rfl, ?_, ?_, ?_⟩
                · rw [e172]; exact w1
                · rw [e183]; rcases w4 with w4 | w4
                  · omega
                  · have := w4.1; omega
                · rw [e172, e183]; exact w3) ?_
              intro v184 M184 a184 b184 q184
              obtain ⟨q184, z184⟩ := q184
              have hS : pz_rl pz_QS M M184 := hS.tr (pz_rl.wk pz_wk_Q3_QS z184)
              have hI : pz_im M184 := hS.1 hI0
              refine And.intro (True.intro) ?_
              intro v190 M190 a190 b190 q190
              obtain ⟨q190, z190⟩ := q190
              subst z190
              refine And.intro rfl ?_
              first
                | (have K41 : v172 = M 60 (841 + x5.toNat) := by
                     rw [e172, show M154 60 = M 60 from W154.trans (funext fun j => hS124.2 60 j (by unfold pz_QS; first | decide | omega))]
                     congr 1
                     omega
                   have K57 : v183 = M 60 (857 + x5.toNat) := by
                     rw [e183, show M154 60 = M 60 from W154.trans (funext fun j => hS124.2 60 j (by unfold pz_QS; first | decide | omega))]
                     congr 1
                     omega
                   exact ⟨⟨pz_sld_y g124_3 (by first | decide | omega) (by first | decide | omega) e146 (by first | decide | omega) q154.2 (by first | decide | omega) Y154 W154 K41 K57 q184 q190, by omega, by omega⟩, hS⟩)
                | exact ⟨⟨pz_sld_e g124_3 (by first | decide | omega) (by first | decide | omega) q204, by omega, by omega⟩, hS⟩
    refine hgo (fun p => Nat.beq p 124 || Nat.beq p 194) 126 0 _ [] M ?_
    refine pz_nrc (c := 69) rfl ?_
    refine And.intro (by first | decide | omega) (And.intro (show _ < (10 : Int) from by omega) ?_)
    intro M6 e6
    have hS : pz_rl pz_QS M M6 := by
      rw [e6]
      exact pz_rl_u hS (by unfold pz_QS; first | decide | omega) (pz_iom_a (by decide))
    have hI : pz_im M6 := hS.1 hI0
    refine pz_nrc (c := 69) rfl ?_
    refine pz_nrc (c := 60) rfl ?_
    intro v18 e18 a18 b18
    rw [pz_wi (by first | decide | omega) (by first | decide | omega)] at e18
    clear a18 b18
    have lo19 : (0 : Int) ≤ v18 := by omega
    have tn19 : (((v18).toNat : Nat) : Int) = v18 := Int.toNat_of_nonneg lo19
    refine And.intro (lo19) (And.intro (show _ < (1725 : Int) from by omega) ?_)
    intro v19 e19 a19 b19
    rw [hS.2 60 _ (by unfold pz_QS; first | decide | omega), show v18.toNat = 4 + i.toNat by omega] at e19
    refine And.intro (by first | decide | omega) (And.intro (show _ < (10 : Int) from by omega) ?_)
    intro M20 e20
    have hS : pz_rl pz_QS M M20 := by
      rw [e20]
      exact pz_rl_u hS (by unfold pz_QS; first | decide | omega) (pz_iom_a (by decide))
    have hI : pz_im M20 := hS.1 hI0
    refine pz_nrc (c := 69) rfl ?_
    refine pz_nrc (c := 60) rfl ?_
    intro v33 e33 a33 b33
    rw [pz_wi (by first | decide | omega) (by first | decide | omega)] at e33
    clear a33 b33
    have lo34 : (0 : Int) ≤ v33 := by omega
    have tn34 : (((v33).toNat : Nat) : Int) = v33 := Int.toNat_of_nonneg lo34
    refine And.intro (lo34) (And.intro (show _ < (1725 : Int) from by omega) ?_)
    intro v34 e34 a34 b34
    rw [hS.2 60 _ (by unfold pz_QS; first | decide | omega), show v33.toNat = 16 + i.toNat by omega] at e34
    refine And.intro (by first | decide | omega) (And.intro (show _ < (10 : Int) from by omega) ?_)
    intro M35 e35
    have hS : pz_rl pz_QS M M35 := by
      rw [e35]
      exact pz_rl_u hS (by unfold pz_QS; first | decide | omega) (pz_iom_a (by decide))
    have hI : pz_im M35 := hS.1 hI0
    refine pz_nrc (c := 69) rfl ?_
    refine pz_nrc (c := 60) rfl ?_
    intro v48 e48 a48 b48
    rw [pz_wi (by first | decide | omega) (by first | decide | omega)] at e48
    clear a48 b48
    have lo49 : (0 : Int) ≤ v48 := by omega
    have tn49 : (((v48).toNat : Nat) : Int) = v48 := Int.toNat_of_nonneg lo49
    refine And.intro (lo49) (And.intro (show _ < (1725 : Int) from by omega) ?_)
    intro v49 e49 a49 b49
    rw [hS.2 60 _ (by unfold pz_QS; first | decide | omega), show v48.toNat = 28 + i.toNat by omega] at e49
    refine And.intro (by first | decide | omega) (And.intro (show _ < (10 : Int) from by omega) ?_)
    intro M50 e50
    have hS : pz_rl pz_QS M M50 := by
      rw [e50]
      exact pz_rl_u hS (by unfold pz_QS; first | decide | omega) (pz_iom_a (by decide))
    have hI : pz_im M50 := hS.1 hI0
    refine pz_nrc (c := 69) rfl ?_
    refine pz_nrc (c := 60) rfl ?_
    intro v63 e63 a63 b63
    rw [pz_wi (by first | decide | omega) (by first | decide | omega)] at e63
    clear a63 b63
    have lo64 : (0 : Int) ≤ v63 := by omega
    have tn64 : (((v63).toNat : Nat) : Int) = v63 := Int.toNat_of_nonneg lo64
    refine And.intro (lo64) (And.intro (show _ < (1725 : Int) from by omega) ?_)
    intro v64 e64 a64 b64
    rw [hS.2 60 _ (by unfold pz_QS; first | decide | omega), show v63.toNat = 93 + i.toNat by omega] at e64
    refine And.intro (by first | decide | omega) (And.intro (show _ < (10 : Int) from by omega) ?_)
    intro M65 e65
    have hS : pz_rl pz_QS M M65 := by
      rw [e65]
      exact pz_rl_u hS (by unfold pz_QS; first | decide | omega) (pz_iom_a (by decide))
    have hI : pz_im M65 := hS.1 hI0
    refine pz_nrc (c := 69) rfl ?_
    refine pz_nrc (c := 60) rfl ?_
    refine And.intro (by first | decide | omega) (And.intro (show _ < (1725 : Int) from by omega) ?_)
    intro v77 e77 a77 b77
    replace e77 : v77 = M65 60 0 := e77
    rw [hS.2 60 _ (by unfold pz_QS; first | decide | omega)] at e77
    refine And.intro (by first | decide | omega) (And.intro (show _ < (10 : Int) from by omega) ?_)
    intro M78 e78
    have hS : pz_rl pz_QS M M78 := by
      rw [e78]
      exact pz_rl_u hS (by unfold pz_QS; first | decide | omega) (pz_iom_a (by decide))
    have hI : pz_im M78 := hS.1 hI0
    refine pz_nrc (c := 69) rfl ?_
    refine pz_nrc (c := 60) rfl ?_
    refine And.intro (by first | decide | omega) (And.intro (show _ < (1725 : Int) from by omega) ?_)
    intro v91 e91 a91 b91
    replace e91 : v91 = M78 60 88 := e91
    have I91 : 0 ≤ v91 ∧ v91 ≤ 12 := by
      rw [e91]
      exact hI.1.1
    clear a91 b91
    rw [hS.2 60 _ (by unfold pz_QS; first | decide | omega)] at e91
    refine And.intro (by first | decide | omega) (And.intro (show _ < (10 : Int) from by omega) ?_)
    intro M92 e92
    have hS : pz_rl pz_QS M M92 := by
      rw [e92]
      exact pz_rl_u hS (by unfold pz_QS; first | decide | omega) (pz_iom_a (by decide))
    have hI : pz_im M92 := hS.1 hI0
    refine pz_nrc (c := 69) rfl ?_
    refine pz_nrc (c := 60) rfl ?_
    intro v106 e106 a106 b106
    rw [pz_wi (by first | decide | omega) (by first | decide | omega)] at e106
    clear a106 b106
    have lo107 : (0 : Int) ≤ v106 := by omega
    have tn107 : (((v106).toNat : Nat) : Int) = v106 := Int.toNat_of_nonneg lo107
    refine And.intro (lo107) (And.intro (show _ < (1725 : Int) from by omega) ?_)
    intro v107 e107 a107 b107
    rw [hS.2 60 _ (by unfold pz_QS; first | decide | omega), show v106.toNat = 64 + i.toNat by omega] at e107
    refine And.intro (by first | decide | omega) (And.intro (show _ < (10 : Int) from by omega) ?_)
    intro M108 e108
    have hS : pz_rl pz_QS M M108 := by
      rw [e108]
      exact pz_rl_u hS (by unfold pz_QS; first | decide | omega) (pz_iom_a (by decide))
    have hI : pz_im M108 := hS.1 hI0
    refine pz_nrc (c := 69) rfl ?_
    refine And.intro (And.intro hI (And.intro (by first | decide | omega) (by first | decide | omega))) ?_
    intro v117 M117 a117 b117 q117
    obtain ⟨q117, z117⟩ := q117
    subst z117
    rw [show M108 60 = M 60 from funext fun j => hS.2 60 j (by unfold pz_QS; first | decide | omega)] at q117
    refine And.intro (by first | decide | omega) (And.intro (show _ < (10 : Int) from by omega) ?_)
    intro M120 e120
    have hS : pz_rl pz_QS M M120 := by
      rw [e120]
      exact pz_rl_u hS (by unfold pz_QS; first | decide | omega) (pz_iom_a (by decide))
    have hI : pz_im M120 := hS.1 hI0
    have W120 : M120 60 = M 60 := funext fun j => hS.2 60 j (by unfold pz_QS; first | decide | omega)
    have G120 : pz_sld M M120 k i x y 0 := fun hi => ⟨pz_syl_0, fun q a b => by
      have q9 : q = 1 ∨ q = 2 ∨ q = 3 ∨ q = 4 ∨ q = 5 ∨ q = 6 ∨ q = 7 ∨ q = 8 ∨ q = 9 := by omega
      rcases q9 with rfl | rfl | rfl | rfl | rfl | rfl | rfl | rfl | rfl
      · show M120 69 1 = _
        rw [e120, pz_une (by decide), e108, pz_une (by decide), e92, pz_une (by decide), e78, pz_une (by decide), e65, pz_une (by decide), e50, pz_une (by decide), e35, pz_une (by decide), e20, pz_une (by decide), e6, pz_ue (by decide)]
        unfold sd_fn
        rw [if_pos rfl]
        omega
      · show M120 69 2 = _
        rw [e120, pz_une (by decide), e108, pz_une (by decide), e92, pz_une (by decide), e78, pz_une (by decide), e65, pz_une (by decide), e50, pz_une (by decide), e35, pz_une (by decide), e20, pz_ue (by decide)]
        unfold sd_fn
        rw [if_neg (by decide), if_pos rfl]
        exact e19
      · show M120 69 3 = _
        rw [e120, pz_une (by decide), e108, pz_une (by decide), e92, pz_une (by decide), e78, pz_une (by decide), e65, pz_une (by decide), e50, pz_une (by decide), e35, pz_ue (by decide)]
        unfold sd_fn
        rw [if_neg (by decide), if_neg (by decide), if_pos rfl]
        exact e34
      · show M120 69 4 = _
        rw [e120, pz_une (by decide), e108, pz_une (by decide), e92, pz_une (by decide), e78, pz_une (by decide), e65, pz_une (by decide), e50, pz_ue (by decide)]
        unfold sd_fn
        rw [if_neg (by decide), if_neg (by decide), if_neg (by decide), if_pos rfl]
        exact e49
      · show M120 69 5 = _
        rw [e120, pz_une (by decide), e108, pz_une (by decide), e92, pz_une (by decide), e78, pz_une (by decide), e65, pz_ue (by decide)]
        unfold sd_fn
        rw [if_neg (by decide), if_neg (by decide), if_neg (by decide), if_neg (by decide), if_pos rfl]
        exact e64
      · show M120 69 6 = _
        rw [e120, pz_une (by decide), e108, pz_une (by decide), e92, pz_une (by decide), e78, pz_ue (by decide)]
        unfold sd_fn
        rw [if_neg (by decide), if_neg (by decide), if_neg (by decide), if_neg (by decide), if_neg (by decide), if_pos rfl]
        exact e77
      · show M120 69 7 = _
        rw [e120, pz_une (by decide), e108, pz_une (by decide), e92, pz_ue (by decide)]
        unfold sd_fn
        rw [if_neg (by decide), if_neg (by decide), if_neg (by decide), if_neg (by decide), if_neg (by decide), if_neg (by decide), if_pos rfl]
        exact e91
      · show M120 69 8 = _
        rw [e120, pz_une (by decide), e108, pz_ue (by decide)]
        unfold sd_fn
        rw [if_neg (by decide), if_neg (by decide), if_neg (by decide), if_neg (by decide), if_neg (by decide), if_neg (by decide), if_neg (by decide), if_pos rfl]
        exact e107
      · show M120 69 9 = _
        rw [e120, pz_ue (by decide)]
        unfold sd_fn
        rw [if_neg (by decide), if_neg (by decide), if_neg (by decide), if_neg (by decide), if_neg (by decide), if_neg (by decide), if_neg (by decide), if_neg (by decide)]
        exact q117 hi, W120⟩
    exact L124 _ _ _ (Nat.lt_succ_self _) hS (by first | omega | assumption) (by first | omega | assumption) (by first | omega | assumption)
theorem v3_X12_says {fr lo i : Nat} {own : String} (h1 : 3 + 1 ≤ fr) (h2 : 8 + (6 + 11) + 70 ≤ lo) (h3 : .methodLink own i yX12_says ∈ lw_tbl) : pz_cV fr lo own i k3_X12_says :=
  pz_cVk (maxL := 6) (fr' := 3) (lo' := 70) 4 12 h3_X12_says rfl ⟨(pz_nhc_RX12 yX12_says rfl).1, (pz_nhc_RX12 yX12_says rfl).2, pz_ds18⟩ ⟨pz_wq1442, pz_wq1441, pz_ws44, pz_wq13⟩ (Or.inl ⟨TX12, 28, rfl⟩) (fun a M _ h => by
    have h : (match (generalizing := false) a with | [.inr (.inr (12, th)), .inl k, .inl i, .inl x, .inl y] => pz_im M ∧ 0 ≤ i ∧ i < 12 | _ => False) := h
    split at h
    · exact ⟨_, _, rfl⟩
    · exact h.elim) h1 h2 h3
noncomputable def k3_X12_readyOf : pz_C := (2, 1, fun a M => (match a with | [.inr (.inr (12, th)), .inl i] => pz_im M ∧ 0 ≤ i ∧ i < 12 | _ => False), fun a M r M' => (match a, r with | [.inr (.inr (12, th)), .inl i], some (.inl v) => ((i < M 60 88 → ∀ ls : List pz_lne, pq_wlw ls (M 60) → (∀ q ∈ ls, pv_ln q) → v = sd_rd ls (M 60) i.toNat) ∧ 0 ≤ v ∧ v ≤ 1000) ∧ pz_rl pz_QS M M' | _, _ => False))
noncomputable abbrev ct3_X12_readyOf : List (Bool × Nat × pz_C) := [(true, 309, k3_X12_says)]
set_option maxRecDepth 100000 in
set_option maxHeartbeats 4000000 in
theorem h3_X12_readyOf : pz_H yX12_readyOf cX12_readyOf 2 (some .int) k3_X12_readyOf 4 95 := by
  refine pz_mk (own := RX12) (tb := t_X12_readyOf) (fl := pz_flf fl_RX12) (ci := pz_cif ci_RX12) (ct := pz_ctf ct3_X12_readyOf) (rz := false) (pz_pfc_RX12 yX12_readyOf rfl) rfl t_X12_readyOf_ok (pz_flk fl_RX12_ok) (pz_cik ci_RX12_ok) ?_ ?_ (Or.inl ⟨rfl, rfl⟩) ?_ ?_
  · exact fun i k' h => pz_ctk (l := ct3_X12_readyOf) (P := fun b i k => b = true → pz_cV 4 95 RX12 i k) (List.forall_mem_cons.mpr ⟨(fun _ => v3_X12_says (by decide) (by decide) pz_wq1439), fun _ h => absurd h List.not_mem_nil⟩) true i k' h rfl
  · exact fun i k' h => pz_ctk (l := ct3_X12_readyOf) (P := fun b i k => b = false → (pz_cS 4 95 RX12 i k ∨ (k = pz_kac ∧ 1 ≤ 4 ∧ 60 ≤ 95 ∧ Cond.methodLink RX12 i arraycopyName ∈ pz_tbl))) (List.forall_mem_cons.mpr ⟨((fun z => by cases z)), fun _ h => absurd h List.not_mem_nil⟩) false i k' h rfl
  · intro a M hlen hpre
    obtain ⟨th, i, rfl, hpre⟩ : ∃ th i, a = [.inr (.inr (12, th)), .inl i] ∧ (pz_im M ∧ 0 ≤ i ∧ i < 12) := by
      have hpre : (match (generalizing := false) a with | [.inr (.inr (12, th)), .inl i] => pz_im M ∧ 0 ≤ i ∧ i < 12 | _ => False) := hpre
      split at hpre
      · exact ⟨_, _, rfl, hpre⟩
      · exact hpre.elim
    exact Nat.le_of_ble_eq_true rfl
  · intro a M hlen hcan hM hpre Ok hgo
    obtain ⟨th, i, rfl, hpre⟩ : ∃ th i, a = [.inr (.inr (12, th)), .inl i] ∧ (pz_im M ∧ 0 ≤ i ∧ i < 12) := by
      have hpre : (match (generalizing := false) a with | [.inr (.inr (12, th)), .inl i] => pz_im M ∧ 0 ≤ i ∧ i < 12 | _ => False) := hpre
      split at hpre
      · exact ⟨_, _, rfl, hpre⟩
      · exact hpre.elim
    obtain ⟨k_th, hc_th⟩ := pz_tlm hcan
    have k_th : pz_kd th = 12 ∧ th < 231 := k_th
    have R_th := pz_kd12 k_th.1
    subst R_th
    clear k_th
    obtain ⟨k_i, hc_i⟩ := pz_tlm hc_th
    have l_i : -2147483648 ≤ i := k_i.1
    have u_i : i ≤ 2147483647 := k_i.2
    have hI : pz_im M := hpre.1
    have hI0 := hI
    have hS : pz_rl pz_QS M M := pz_rl.rf
    refine hgo (fun _ => false) 18 0 _ [] M ?_
    refine pz_nrc (c := 60) rfl ?_
    intro v16 e16 a16 b16
    rw [pz_wi (by first | decide | omega) (by first | decide | omega)] at e16
    clear a16 b16
    have lo17 : (0 : Int) ≤ v16 := by omega
    have tn17 : (((v16).toNat : Nat) : Int) = v16 := Int.toNat_of_nonneg lo17
    refine And.intro (lo17) (And.intro (show _ < (1725 : Int) from by omega) ?_)
    intro v17 e17 a17 b17
    rw [show v16.toNat = 93 + i.toNat by omega] at e17
    intro v18 e18 a18 b18
    intro v19 e19 a19 b19
    refine And.intro (And.intro hI (And.intro (by first | decide | omega) (by first | decide | omega))) ?_
    intro v23 M23 a23 b23 q23
    obtain ⟨q23, z23⟩ := q23
    have hS : pz_rl pz_QS M M23 := hS.tr z23
    have hI : pz_im M23 := hS.1 hI0
    refine And.intro rfl ?_
    exact ⟨⟨fun hi ls hl hq => (q23.1 hi ls hl hq).trans (by
      unfold sd_rd
      rw [e19, e18, e17]
      rfl), q23.2.1, q23.2.2 (by decide)⟩, hS⟩
theorem v3_X12_readyOf {fr lo i : Nat} {own : String} (h1 : 4 + 1 ≤ fr) (h2 : 8 + (2 + 11) + 95 ≤ lo) (h3 : .methodLink own i yX12_readyOf ∈ lw_tbl) : pz_cV fr lo own i k3_X12_readyOf :=
  pz_cVk (maxL := 2) (fr' := 4) (lo' := 95) 1 12 h3_X12_readyOf rfl ⟨(pz_nhc_RX12 yX12_readyOf rfl).1, (pz_nhc_RX12 yX12_readyOf rfl).2, pz_ds5⟩ ⟨pz_wq1542, pz_wq1541, pz_ws61, pz_wq13⟩ (Or.inl ⟨TX12, 28, rfl⟩) (fun a M _ h => by
    have h : (match (generalizing := false) a with | [.inr (.inr (12, th)), .inl i] => pz_im M ∧ 0 ≤ i ∧ i < 12 | _ => False) := h
    split at h
    · exact ⟨_, _, rfl⟩
    · exact h.elim) h1 h2 h3
noncomputable def k3_X12_leaveOf : pz_C := (2, 1, fun a M => (match a with | [.inr (.inr (12, th)), .inl i] => pz_im M ∧ 0 ≤ i ∧ i < 12 | _ => False), fun a M r M' => (match a, r with | [.inr (.inr (12, th)), .inl i], some (.inl v) => ((i < M 60 88 → ∀ ls : List pz_lne, pq_wlw ls (M 60) → (∀ q ∈ ls, pv_ln q) → v = sd_le ls (M 60) i.toNat) ∧ 0 ≤ v ∧ v ≤ 1000) ∧ pz_rl pz_QS M M' | _, _ => False))
noncomputable abbrev ct3_X12_leaveOf : List (Bool × Nat × pz_C) := [(true, 309, k3_X12_says)]
set_option maxRecDepth 100000 in
set_option maxHeartbeats 4000000 in
theorem h3_X12_leaveOf : pz_H yX12_leaveOf cX12_leaveOf 2 (some .int) k3_X12_leaveOf 4 95 := by
  refine pz_mk (own := RX12) (tb := t_X12_leaveOf) (fl := pz_flf fl_RX12) (ci := pz_cif ci_RX12) (ct := pz_ctf ct3_X12_leaveOf) (rz := false) (pz_pfc_RX12 yX12_leaveOf rfl) rfl t_X12_leaveOf_ok (pz_flk fl_RX12_ok) (pz_cik ci_RX12_ok) ?_ ?_ (Or.inl ⟨rfl, rfl⟩) ?_ ?_
  · exact fun i k' h => pz_ctk (l := ct3_X12_leaveOf) (P := fun b i k => b = true → pz_cV 4 95 RX12 i k) (List.forall_mem_cons.mpr ⟨(fun _ => v3_X12_says (by decide) (by decide) pz_wq1439), fun _ h => absurd h List.not_mem_nil⟩) true i k' h rfl
  · exact fun i k' h => pz_ctk (l := ct3_X12_leaveOf) (P := fun b i k => b = false → (pz_cS 4 95 RX12 i k ∨ (k = pz_kac ∧ 1 ≤ 4 ∧ 60 ≤ 95 ∧ Cond.methodLink RX12 i arraycopyName ∈ pz_tbl))) (List.forall_mem_cons.mpr ⟨((fun z => by cases z)), fun _ h => absurd h List.not_mem_nil⟩) false i k' h rfl
  · intro a M hlen hpre
    obtain ⟨th, i, rfl, hpre⟩ : ∃ th i, a = [.inr (.inr (12, th)), .inl i] ∧ (pz_im M ∧ 0 ≤ i ∧ i < 12) := by
      have hpre : (match (generalizing := false) a with | [.inr (.inr (12, th)), .inl i] => pz_im M ∧ 0 ≤ i ∧ i < 12 | _ => False) := hpre
      split at hpre
      · exact ⟨_, _, rfl, hpre⟩
      · exact hpre.elim
    exact Nat.le_of_ble_eq_true rfl
  · intro a M hlen hcan hM hpre Ok hgo
    obtain ⟨th, i, rfl, hpre⟩ : ∃ th i, a = [.inr (.inr (12, th)), .inl i] ∧ (pz_im M ∧ 0 ≤ i ∧ i < 12) := by
      have hpre : (match (generalizing := false) a with | [.inr (.inr (12, th)), .inl i] => pz_im M ∧ 0 ≤ i ∧ i < 12 | _ => False) := hpre
      split at hpre
      · exact ⟨_, _, rfl, hpre⟩
      · exact hpre.elim
    obtain ⟨k_th, hc_th⟩ := pz_tlm hcan
    have k_th : pz_kd th = 12 ∧ th < 231 := k_th
    have R_th := pz_kd12 k_th.1
    subst R_th
    clear k_th
    obtain ⟨k_i, hc_i⟩ := pz_tlm hc_th
    have l_i : -2147483648 ≤ i := k_i.1
    have u_i : i ≤ 2147483647 := k_i.2
    have hI : pz_im M := hpre.1
    have hI0 := hI
    have hS : pz_rl pz_QS M M := pz_rl.rf
    refine hgo (fun _ => false) 9 0 _ [] M ?_
    refine And.intro (And.intro hI (And.intro (by first | decide | omega) (by first | decide | omega))) ?_
    intro v8 M8 a8 b8 q8
    obtain ⟨q8, z8⟩ := q8
    have hS : pz_rl pz_QS M M8 := hS.tr z8
    have hI : pz_im M8 := hS.1 hI0
    refine And.intro rfl ?_
    exact ⟨⟨fun hi ls hl hq => q8.1 hi ls hl hq, q8.2.1, q8.2.2 (by decide)⟩, hS⟩
theorem v3_X12_leaveOf {fr lo i : Nat} {own : String} (h1 : 4 + 1 ≤ fr) (h2 : 8 + (2 + 11) + 95 ≤ lo) (h3 : .methodLink own i yX12_leaveOf ∈ lw_tbl) : pz_cV fr lo own i k3_X12_leaveOf :=
  pz_cVk (maxL := 2) (fr' := 4) (lo' := 95) 1 12 h3_X12_leaveOf rfl ⟨(pz_nhc_RX12 yX12_leaveOf rfl).1, (pz_nhc_RX12 yX12_leaveOf rfl).2, pz_ds5⟩ ⟨pz_wq1556, pz_wq1555, pz_ws64, pz_wq13⟩ (Or.inl ⟨TX12, 28, rfl⟩) (fun a M _ h => by
    have h : (match (generalizing := false) a with | [.inr (.inr (12, th)), .inl i] => pz_im M ∧ 0 ≤ i ∧ i < 12 | _ => False) := h
    split at h
    · exact ⟨_, _, rfl⟩
    · exact h.elim) h1 h2 h3
noncomputable def k3_X12_costOf : pz_C := (2, 1, fun a M => (match a with | [.inr (.inr (12, th)), .inl i] => pz_im M ∧ 0 ≤ i ∧ i < 12 | _ => False), fun a M r M' => (match a, r with | [.inr (.inr (12, th)), .inl i], some (.inl v) => ((i < M 60 88 → ∀ ls : List pz_lne, pq_wlw ls (M 60) → (∀ q ∈ ls, pv_ln q) → v = sd_co ls (M 60) i.toNat) ∧ 0 ≤ v ∧ v ≤ 99) ∧ pz_rl pz_QS M M' | _, _ => False))
noncomputable abbrev ct3_X12_costOf : List (Bool × Nat × pz_C) := [(true, 309, k3_X12_says)]
set_option maxRecDepth 100000 in
set_option maxHeartbeats 4000000 in
theorem h3_X12_costOf : pz_H yX12_costOf cX12_costOf 2 (some .int) k3_X12_costOf 4 95 := by
  refine pz_mk (own := RX12) (tb := t_X12_costOf) (fl := pz_flf fl_RX12) (ci := pz_cif ci_RX12) (ct := pz_ctf ct3_X12_costOf) (rz := false) (pz_pfc_RX12 yX12_costOf rfl) rfl t_X12_costOf_ok (pz_flk fl_RX12_ok) (pz_cik ci_RX12_ok) ?_ ?_ (Or.inl ⟨rfl, rfl⟩) ?_ ?_
  · exact fun i k' h => pz_ctk (l := ct3_X12_costOf) (P := fun b i k => b = true → pz_cV 4 95 RX12 i k) (List.forall_mem_cons.mpr ⟨(fun _ => v3_X12_says (by decide) (by decide) pz_wq1439), fun _ h => absurd h List.not_mem_nil⟩) true i k' h rfl
  · exact fun i k' h => pz_ctk (l := ct3_X12_costOf) (P := fun b i k => b = false → (pz_cS 4 95 RX12 i k ∨ (k = pz_kac ∧ 1 ≤ 4 ∧ 60 ≤ 95 ∧ Cond.methodLink RX12 i arraycopyName ∈ pz_tbl))) (List.forall_mem_cons.mpr ⟨((fun z => by cases z)), fun _ h => absurd h List.not_mem_nil⟩) false i k' h rfl
  · intro a M hlen hpre
    obtain ⟨th, i, rfl, hpre⟩ : ∃ th i, a = [.inr (.inr (12, th)), .inl i] ∧ (pz_im M ∧ 0 ≤ i ∧ i < 12) := by
      have hpre : (match (generalizing := false) a with | [.inr (.inr (12, th)), .inl i] => pz_im M ∧ 0 ≤ i ∧ i < 12 | _ => False) := hpre
      split at hpre
      · exact ⟨_, _, rfl, hpre⟩
      · exact hpre.elim
    exact Nat.le_of_ble_eq_true rfl
  · intro a M hlen hcan hM hpre Ok hgo
    obtain ⟨th, i, rfl, hpre⟩ : ∃ th i, a = [.inr (.inr (12, th)), .inl i] ∧ (pz_im M ∧ 0 ≤ i ∧ i < 12) := by
      have hpre : (match (generalizing := false) a with | [.inr (.inr (12, th)), .inl i] => pz_im M ∧ 0 ≤ i ∧ i < 12 | _ => False) := hpre
      split at hpre
      · exact ⟨_, _, rfl, hpre⟩
      · exact hpre.elim
    obtain ⟨k_th, hc_th⟩ := pz_tlm hcan
    have k_th : pz_kd th = 12 ∧ th < 231 := k_th
    have R_th := pz_kd12 k_th.1
    subst R_th
    clear k_th
    obtain ⟨k_i, hc_i⟩ := pz_tlm hc_th
    have l_i : -2147483648 ≤ i := k_i.1
    have u_i : i ≤ 2147483647 := k_i.2
    have hI : pz_im M := hpre.1
    have hI0 := hI
    have hS : pz_rl pz_QS M M := pz_rl.rf
    refine hgo (fun _ => false) 9 0 _ [] M ?_
    refine And.intro (And.intro hI (And.intro (by first | decide | omega) (by first | decide | omega))) ?_
    intro v7 M7 a7 b7 q7
    obtain ⟨q7, z7⟩ := q7
    have hS : pz_rl pz_QS M M7 := hS.tr z7
    have hI : pz_im M7 := hS.1 hI0
    refine And.intro rfl ?_
    exact ⟨⟨fun hi ls hl hq => q7.1 hi ls hl hq, q7.2.1, q7.2.2 (by decide)⟩, hS⟩
theorem v3_X12_costOf {fr lo i : Nat} {own : String} (h1 : 4 + 1 ≤ fr) (h2 : 8 + (2 + 11) + 95 ≤ lo) (h3 : .methodLink own i yX12_costOf ∈ lw_tbl) : pz_cV fr lo own i k3_X12_costOf :=
  pz_cVk (maxL := 2) (fr' := 4) (lo' := 95) 1 12 h3_X12_costOf rfl ⟨(pz_nhc_RX12 yX12_costOf rfl).1, (pz_nhc_RX12 yX12_costOf rfl).2, pz_ds5⟩ ⟨pz_wq1580, pz_wq1579, pz_ws70, pz_wq13⟩ (Or.inl ⟨TX12, 28, rfl⟩) (fun a M _ h => by
    have h : (match (generalizing := false) a with | [.inr (.inr (12, th)), .inl i] => pz_im M ∧ 0 ≤ i ∧ i < 12 | _ => False) := h
    split at h
    · exact ⟨_, _, rfl⟩
    · exact h.elim) h1 h2 h3
noncomputable def k3_X12_giveOf : pz_C := (2, 1, fun a M => (match a with | [.inr (.inr (12, th)), .inl i] => pz_im M ∧ 0 ≤ i ∧ i < 12 | _ => False), fun a M r M' => (match a, r with | [.inr (.inr (12, th)), .inl i], some (.inl v) => ((i < M 60 88 → ∀ ls : List pz_lne, pq_wlw ls (M 60) → (∀ q ∈ ls, pv_ln q) → v = sd_gv ls (M 60) i.toNat) ∧ 0 ≤ v ∧ v ≤ 999) ∧ pz_rl pz_QS M M' | _, _ => False))
noncomputable abbrev ct3_X12_giveOf : List (Bool × Nat × pz_C) := [(true, 309, k3_X12_says)]
set_option maxRecDepth 100000 in
set_option maxHeartbeats 4000000 in
theorem h3_X12_giveOf : pz_H yX12_giveOf cX12_giveOf 2 (some .int) k3_X12_giveOf 4 95 := by
  refine pz_mk (own := RX12) (tb := t_X12_giveOf) (fl := pz_flf fl_RX12) (ci := pz_cif ci_RX12) (ct := pz_ctf ct3_X12_giveOf) (rz := false) (pz_pfc_RX12 yX12_giveOf rfl) rfl t_X12_giveOf_ok (pz_flk fl_RX12_ok) (pz_cik ci_RX12_ok) ?_ ?_ (Or.inl ⟨rfl, rfl⟩) ?_ ?_
  · exact fun i k' h => pz_ctk (l := ct3_X12_giveOf) (P := fun b i k => b = true → pz_cV 4 95 RX12 i k) (List.forall_mem_cons.mpr ⟨(fun _ => v3_X12_says (by decide) (by decide) pz_wq1439), fun _ h => absurd h List.not_mem_nil⟩) true i k' h rfl
  · exact fun i k' h => pz_ctk (l := ct3_X12_giveOf) (P := fun b i k => b = false → (pz_cS 4 95 RX12 i k ∨ (k = pz_kac ∧ 1 ≤ 4 ∧ 60 ≤ 95 ∧ Cond.methodLink RX12 i arraycopyName ∈ pz_tbl))) (List.forall_mem_cons.mpr ⟨((fun z => by cases z)), fun _ h => absurd h List.not_mem_nil⟩) false i k' h rfl
  · intro a M hlen hpre
    obtain ⟨th, i, rfl, hpre⟩ : ∃ th i, a = [.inr (.inr (12, th)), .inl i] ∧ (pz_im M ∧ 0 ≤ i ∧ i < 12) := by
      have hpre : (match (generalizing := false) a with | [.inr (.inr (12, th)), .inl i] => pz_im M ∧ 0 ≤ i ∧ i < 12 | _ => False) := hpre
      split at hpre
      · exact ⟨_, _, rfl, hpre⟩
      · exact hpre.elim
    exact Nat.le_of_ble_eq_true rfl
  · intro a M hlen hcan hM hpre Ok hgo
    obtain ⟨th, i, rfl, hpre⟩ : ∃ th i, a = [.inr (.inr (12, th)), .inl i] ∧ (pz_im M ∧ 0 ≤ i ∧ i < 12) := by
      have hpre : (match (generalizing := false) a with | [.inr (.inr (12, th)), .inl i] => pz_im M ∧ 0 ≤ i ∧ i < 12 | _ => False) := hpre
      split at hpre
      · exact ⟨_, _, rfl, hpre⟩
      · exact hpre.elim
    obtain ⟨k_th, hc_th⟩ := pz_tlm hcan
    have k_th : pz_kd th = 12 ∧ th < 231 := k_th
    have R_th := pz_kd12 k_th.1
    subst R_th
    clear k_th
    obtain ⟨k_i, hc_i⟩ := pz_tlm hc_th
    have l_i : -2147483648 ≤ i := k_i.1
    have u_i : i ≤ 2147483647 := k_i.2
    have hI : pz_im M := hpre.1
    have hI0 := hI
    have hS : pz_rl pz_QS M M := pz_rl.rf
    refine hgo (fun _ => false) 25 0 _ [] M ?_
    refine pz_nrc (c := 60) rfl ?_
    intro v11 e11 a11 b11
    rw [pz_wi (by first | decide | omega) (by first | decide | omega)] at e11
    clear a11 b11
    have lo12 : (0 : Int) ≤ v11 := by omega
    have tn12 : (((v11).toNat : Nat) : Int) = v11 := Int.toNat_of_nonneg lo12
    refine And.intro (lo12) (And.intro (show _ < (1725 : Int) from by omega) ?_)
    intro v12 e12 a12 b12
    rw [show v11.toNat = 28 + i.toNat by omega] at e12
    refine And.intro (fun h13 => ?_) (fun h13 => ?_)
    · skip
      refine pz_nrc (c := 60) rfl ?_
      intro v27 e27 a27 b27
      rw [pz_wi (by first | decide | omega) (by first | decide | omega)] at e27
      clear a27 b27
      have lo28 : (0 : Int) ≤ v27 := by omega
      have tn28 : (((v27).toNat : Nat) : Int) = v27 := Int.toNat_of_nonneg lo28
      refine And.intro (lo28) (And.intro (show _ < (1725 : Int) from by omega) ?_)
      intro v28 e28 a28 b28
      rw [show v27.toNat = 28 + i.toNat by omega] at e28
      refine And.intro (by first | decide | omega) ?_
      intro v30 e30 a30 b30
      rw [Int.tdiv_eq_ediv_of_nonneg (by first | decide | omega), pz_wi (by first | decide | omega) (by first | decide | omega)] at e30
      refine And.intro (And.intro hI (And.intro (by first | decide | omega) (by first | decide | omega))) ?_
      intro v34 M34 a34 b34 q34
      obtain ⟨q34, z34⟩ := q34
      have hS : pz_rl pz_QS M M34 := hS.tr z34
      have hI : pz_im M34 := hS.1 hI0
      refine And.intro rfl ?_
      exact ⟨⟨fun hi ls hl hq => (q34.1 hi ls hl hq).trans (by
        unfold sd_gv
        first
          | (rw [if_pos (by first | decide | omega)]; rfl)
          | (rw [if_neg (by first | decide | omega), e30, e28]; rfl)), q34.2.1, q34.2.2 (by decide)⟩, hS⟩
    · skip
      refine And.intro (And.intro hI (And.intro (by first | decide | omega) (by first | decide | omega))) ?_
      intro v34 M34 a34 b34 q34
      obtain ⟨q34, z34⟩ := q34
      have hS : pz_rl pz_QS M M34 := hS.tr z34
      have hI : pz_im M34 := hS.1 hI0
      refine And.intro rfl ?_
      exact ⟨⟨fun hi ls hl hq => (q34.1 hi ls hl hq).trans (by
        unfold sd_gv
        first
          | (rw [if_pos (by first | decide | omega)]; rfl)
          | (rw [if_neg (by first | decide | omega), e30, e28]; rfl)), q34.2.1, q34.2.2 (by decide)⟩, hS⟩
theorem v3_X12_giveOf {fr lo i : Nat} {own : String} (h1 : 4 + 1 ≤ fr) (h2 : 8 + (2 + 11) + 95 ≤ lo) (h3 : .methodLink own i yX12_giveOf ∈ lw_tbl) : pz_cV fr lo own i k3_X12_giveOf :=
  pz_cVk (maxL := 2) (fr' := 4) (lo' := 95) 1 12 h3_X12_giveOf rfl ⟨(pz_nhc_RX12 yX12_giveOf rfl).1, (pz_nhc_RX12 yX12_giveOf rfl).2, pz_ds5⟩ ⟨pz_wq1438, pz_wq1437, pz_ws43, pz_wq13⟩ (Or.inl ⟨TX12, 28, rfl⟩) (fun a M _ h => by
    have h : (match (generalizing := false) a with | [.inr (.inr (12, th)), .inl i] => pz_im M ∧ 0 ≤ i ∧ i < 12 | _ => False) := h
    split at h
    · exact ⟨_, _, rfl⟩
    · exact h.elim) h1 h2 h3
