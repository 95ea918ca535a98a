def k3_X1_doPlanned : pz_C := (3, 0, fun a M => (match a with | [.inr (.inr (1, d)), .inr (.inr (0, c)), .inl i] => pz_ic M | _ => False), fun a M r M' => (match a, r with | [.inr (.inr (1, d)), .inr (.inr (0, c)), .inl i], none => (sd_dd M M' c (fun l1 _ => 0 ≤ i ∧ i < (l1.length : Int)) (fun tr ls l1 F => sd_doe tr ls F (l1.getD i.toNat []))) ∧ pq_pr (pq_Pd c) M M' | _, _ => False))
abbrev ct3_X1_doPlanned : List (Bool × Nat × pz_C) := [(true, 103, k_X6_cell), (true, 131, k3_X1_canAsk), (true, 135, k3_X1_askFor), (true, 139, k3_X0_canBridge), (true, 142, k3_X1_putBridge), (true, 145, k3_X1_canHandOver), (true, 149, k3_X1_handOver), (true, 110, k3_X1_canGetReady), (true, 117, k3_X1_getReady)]
set_option maxRecDepth 100000 in
set_option maxHeartbeats 4000000 in
theorem h3_X1_doPlanned : pz_H yX1_doPlanned cX1_doPlanned 6 none k3_X1_doPlanned 5 122 := by
  refine pz_mk (own := RX1) (tb := t_X1_doPlanned) (fl := pz_flf fl_RX1) (ci := fun _ => none) (ct := pz_ctf ct3_X1_doPlanned) (rz := false) (by decide +kernel) rfl t_X1_doPlanned_ok (pz_flk fl_RX1_ok) (fun i v h => by cases h) ?_ ?_ (rfl) ?_ ?_
  · exact fun i k' h => pz_ctk (l := ct3_X1_doPlanned) (P := fun b i k => b = true → pz_cV 5 122 RX1 i k) (List.forall_mem_cons.mpr ⟨(fun _ => v_X6_cell (by decide) (by decide) (pz_mt 575 (by decide +kernel))), List.forall_mem_cons.mpr ⟨(fun _ => v3_X1_canAsk (by decide) (by decide) (pz_mt 583 (by decide +kernel))), List.forall_mem_cons.mpr ⟨(fun _ => v3_X1_askFor (by decide) (by decide) (pz_mt 584 (by decide +kernel))), List.forall_mem_cons.mpr ⟨(fun _ => v3_X0_canBridge (by decide) (by decide) (pz_mt 585 (by decide +kernel))), List.forall_mem_cons.mpr ⟨(fun _ => v3_X1_putBridge (by decide) (by decide) (pz_mt 586 (by decide +kernel))), List.forall_mem_cons.mpr ⟨(fun _ => v3_X1_canHandOver (by decide) (by decide) (pz_mt 587 (by decide +kernel))), List.forall_mem_cons.mpr ⟨(fun _ => v3_X1_handOver (by decide) (by decide) (pz_mt 588 (by decide +kernel))), List.forall_mem_cons.mpr ⟨(fun _ => v3_X1_canGetReady (by decide) (by decide) (pz_mt 589 (by decide +kernel))), List.forall_mem_cons.mpr ⟨(fun _ => v3_X1_getReady (by decide) (by decide) (pz_mt 590 (by decide +kernel))), fun _ h => absurd h List.not_mem_nil⟩⟩⟩⟩⟩⟩⟩⟩⟩) true i k' h rfl
  · exact fun i k' h => pz_ctk (l := ct3_X1_doPlanned) (P := fun b i k => b = false → (pz_cS 5 122 RX1 i k ∨ (k = pz_kac ∧ 1 ≤ 5 ∧ 60 ≤ 122 ∧ Cond.methodLink RX1 i arraycopyName ∈ pz_tbl))) (List.forall_mem_cons.mpr ⟨((fun z => by cases z)), List.forall_mem_cons.mpr ⟨((fun z => by cases z)), List.forall_mem_cons.mpr ⟨((fun z => by cases z)), List.forall_mem_cons.mpr ⟨((fun z => by cases z)), List.forall_mem_cons.mpr ⟨((fun z => by cases z)), List.forall_mem_cons.mpr ⟨((fun z => by cases z)), List.forall_mem_cons.mpr ⟨((fun z => by cases z)), List.forall_mem_cons.mpr ⟨((fun z => by cases z)), List.forall_mem_cons.mpr ⟨((fun z => by cases z)), fun _ h => absurd h List.not_mem_nil⟩⟩⟩⟩⟩⟩⟩⟩⟩) false i k' h rfl
  · intro a M hlen hpre
    obtain ⟨d, c, i, rfl, hpre⟩ : ∃ d c i, a = [.inr (.inr (1, d)), .inr (.inr (0, c)), .inl i] ∧ (pz_ic M) := by
      have hpre : (match (generalizing := false) a with | [.inr (.inr (1, d)), .inr (.inr (0, c)), .inl i] => pz_ic M | _ => False) := hpre
      split at hpre
      · exact ⟨_, _, _, rfl, hpre⟩
      · exact hpre.elim
    exact Nat.le_of_ble_eq_true rfl
  · intro a M hlen hcan hM hpre Ok hgo
    obtain ⟨d, c, i, rfl, hpre⟩ : ∃ d c i, a = [.inr (.inr (1, d)), .inr (.inr (0, c)), .inl i] ∧ (pz_ic M) := by
      have hpre : (match (generalizing := false) a with | [.inr (.inr (1, d)), .inr (.inr (0, c)), .inl i] => pz_ic M | _ => False) := hpre
      split at hpre
      · exact ⟨_, _, _, rfl, hpre⟩
      · exact hpre.elim
    obtain ⟨k_d, hc_d⟩ := pz_tlm hcan
    have k_d : pz_kd d = 1 ∧ d < 231 := k_d
    have R_d := pz_kd1 k_d.1
    subst R_d
    obtain ⟨k_c, hc_c⟩ := pz_tlm hc_d
    have k_c : pz_kd c = 0 ∧ c < 231 := k_c
    have R_c := pz_kd0 k_c.1
    obtain ⟨k_i, hc_i⟩ := pz_tlm hc_c
    have l_i : -2147483648 ≤ i := k_i.1
    have u_i : i ≤ 2147483647 := k_i.2
    have hI : pz_ic M := hpre
    have hI0 := hI
    have hS : pq_pr (pq_Pd c) M M := pq_pr.rf
    refine hgo (fun _ => false) 76 0 _ [] M ?_
    intro r1 e1 k1
    have R1 := pz_kd10 k1
    intro r4 e4 k4
    have R4 := pz_kd6 k4
    have L4 : r4 = 13 := by rw [e4, e1]; rfl
    refine And.intro (hI) ?_
    intro v9 M9 a9 b9 q9
    obtain ⟨q9, z9⟩ := q9
    subst z9
    rw [L4] at q9
    intro r14 e14 k14
    have R14 := pz_kd10 k14
    intro r17 e17 k17
    have R17 := pz_kd6 k17
    have L17 : r17 = 13 := by rw [e17, e14]; rfl
    refine And.intro (hI) ?_
    intro v22 M22 a22 b22 q22
    obtain ⟨q22, z22⟩ := q22
    subst z22
    rw [L17] at q22
    intro r28 e28 k28
    have R28 := pz_kd10 k28
    intro r31 e31 k31
    have R31 := pz_kd6 k31
    have L31 : r31 = 13 := by rw [e31, e28]; rfl
    refine And.intro (hI) ?_
    intro v36 M36 a36 b36 q36
    obtain ⟨q36, z36⟩ := q36
    subst z36
    rw [L31] at q36
    intro r42 e42 k42
    have R42 := pz_kd10 k42
    intro r45 e45 k45
    have R45 := pz_kd6 k45
    have L45 : r45 = 13 := by rw [e45, e42]; rfl
    refine And.intro (hI) ?_
    intro v50 M50 a50 b50 q50
    obtain ⟨q50, z50⟩ := q50
    subst z50
    rw [L45] at q50
    refine And.intro ?_ ?_
    · skip
      refine And.intro (fun h53 => ?_) ?_
      · skip
        refine And.intro (hI) ?_
        intro v85 M85 a85 b85 q85
        obtain ⟨q85, z85⟩ := q85
        subst z85
        refine And.intro (fun h88 => ?_) (fun h88 => ?_)
        · skip
          refine And.intro rfl ?_
          refine ⟨fun ls l1 F hT hF hP hW hp => ?_, hS⟩
          have C9 := sd_cel hT hp ⟨by decide, by decide⟩ q9
          have C22 := sd_cel hT hp ⟨by decide, by decide⟩ q22
          have C36 := sd_cel hT hp ⟨by decide, by decide⟩ q36
          have C50 := sd_cel hT hp ⟨by decide, by decide⟩ q50
          obtain ⟨R0, R1, R2, R3, R4, R5⟩ := sd_row (r := i.toNat) hT (by omega)
          have C9 : v9 = (l1.getD i.toNat []).getD 2 0 := C9
          have C22 : v22 = (l1.getD i.toNat []).getD 3 0 := C22
          have C36 : v36 = (l1.getD i.toNat []).getD 4 0 := C36
          have C50 : v50 = (l1.getD i.toNat []).getD 1 0 := C50
          unfold sd_doe
          rw [← C9, ← C22, ← C36, ← C50]
          rw [← C9] at R2
          rw [← C22] at R3
          rw [← C36] at R4 R5
          rw [← C50] at R1 R5
          first
            | (rw [if_pos (by omega)]
               have a := q85.2 F hF hW
               first
                 | (have a := a.mp (by omega)
                    rw [if_pos a.2.2]
                    have z := q96 ls l1 F hT hF hP hW a
                    exact ⟨z.2.1, z.2.2.1, z.2.2.2⟩)
                 | (rw [if_neg (fun y => absurd (a.mpr ⟨R2, ⟨R5 (by omega), R4.2⟩, y⟩) (by omega))]
                    exact ⟨hF, hP, hW⟩))
            | (rw [if_neg (by omega), if_pos (by omega)]
               have a := q105.2 F hF hW
               first
                 | (have a := a.mp (by omega)
                    rw [if_pos a.2]
                    exact q114 ls l1 F hT hF hP hW a)
                 | (rw [if_neg (fun y => absurd (a.mpr ⟨R2, y⟩) (by omega))]
                    exact ⟨hF, hP, hW⟩))
            | (rw [if_neg (by omega), if_neg (by omega), if_pos (by omega)]
               have a := q127.2 F hF hW
               first
                 | (have a := a.mp (by omega)
                    rw [if_pos a.2.2.2]
                    exact q140 ls l1 F hT hF hP hW a)
                 | (rw [if_neg (fun y => absurd (a.mpr ⟨R2, R3, ⟨R5 (by omega), R4.2⟩, y⟩) (by omega))]
                    exact ⟨hF, hP, hW⟩))
            | (rw [if_neg (by omega), if_neg (by omega), if_neg (by omega)]
               have a := q149.2 F hF hW
               first
                 | (have a := a.mp (by omega)
                    rw [if_pos a.2]
                    exact q158 ls l1 F hT hF hP hW ⟨R2, by have := a.2.1; omega⟩)
                 | (rw [if_neg (fun y => absurd (a.mpr ⟨R2, y⟩) (by omega))]
                    exact ⟨hF, hP, hW⟩))
        · skip
          refine And.intro (hI) ?_
          intro v96 M96 a96 b96 q96
          obtain ⟨q96, z96⟩ := q96
          have hS : pq_pr (pq_Pd c) M M96 := hS.tr z96
          have hI : pz_ic M96 := hS.1 hI0
          refine And.intro rfl ?_
          refine ⟨fun ls l1 F hT hF hP hW hp => ?_, hS⟩
          have C9 := sd_cel hT hp ⟨by decide, by decide⟩ q9
          have C22 := sd_cel hT hp ⟨by decide, by decide⟩ q22
          have C36 := sd_cel hT hp ⟨by decide, by decide⟩ q36
          have C50 := sd_cel hT hp ⟨by decide, by decide⟩ q50
          obtain ⟨R0, R1, R2, R3, R4, R5⟩ := sd_row (r := i.toNat) hT (by omega)
          have C9 : v9 = (l1.getD i.toNat []).getD 2 0 := C9
          have C22 : v22 = (l1.getD i.toNat []).getD 3 0 := C22
          have C36 : v36 = (l1.getD i.toNat []).getD 4 0 := C36
          have C50 : v50 = (l1.getD i.toNat []).getD 1 0 := C50
          unfold sd_doe
          rw [← C9, ← C22, ← C36, ← C50]
          rw [← C9] at R2
          rw [← C22] at R3
          rw [← C36] at R4 R5
          rw [← C50] at R1 R5
          first
            | (rw [if_pos (by omega)]
               have a := q85.2 F hF hW
               first
                 | (have a := a.mp (by omega)
                    rw [if_pos a.2.2]
                    have z := q96 ls l1 F hT hF hP hW a
                    exact ⟨z.2.1, z.2.2.1, z.2.2.2⟩)
                 | (rw [if_neg (fun y => absurd (a.mpr ⟨R2, ⟨R5 (by omega), R4.2⟩, y⟩) (by omega))]
                    exact ⟨hF, hP, hW⟩))
            | (rw [if_neg (by omega), if_pos (by omega)]
               have a := q105.2 F hF hW
               first
                 | (have a := a.mp (by omega)
                    rw [if_pos a.2]
                    exact q114 ls l1 F hT hF hP hW a)
                 | (rw [if_neg (fun y => absurd (a.mpr ⟨R2, y⟩) (by omega))]
                    exact ⟨hF, hP, hW⟩))
            | (rw [if_neg (by omega), if_neg (by omega), if_pos (by omega)]
               have a := q127.2 F hF hW
               first
                 | (have a := a.mp (by omega)
                    rw [if_pos a.2.2.2]
                    exact q140 ls l1 F hT hF hP hW a)
                 | (rw [if_neg (fun y => absurd (a.mpr ⟨R2, R3, ⟨R5 (by omega), R4.2⟩, y⟩) (by omega))]
                    exact ⟨hF, hP, hW⟩))
            | (rw [if_neg (by omega), if_neg (by omega), if_neg (by omega)]
               have a := q149.2 F hF hW
               first
                 | (have a := a.mp (by omega)
                    rw [if_pos a.2]
                    exact q158 ls l1 F hT hF hP hW ⟨R2, by have := a.2.1; omega⟩)
                 | (rw [if_neg (fun y => absurd (a.mpr ⟨R2, y⟩) (by omega))]
                    exact ⟨hF, hP, hW⟩))
      refine And.intro (fun h53 => ?_) ?_
      · skip
        refine And.intro (hI) ?_
        intro v105 M105 a105 b105 q105
        obtain ⟨q105, z105⟩ := q105
        subst z105
        refine And.intro (fun h108 => ?_) (fun h108 => ?_)
        · skip
          refine And.intro rfl ?_
          refine ⟨fun ls l1 F hT hF hP hW hp => ?_, hS⟩
          have C9 := sd_cel hT hp ⟨by decide, by decide⟩ q9
          have C22 := sd_cel hT hp ⟨by decide, by decide⟩ q22
          have C36 := sd_cel hT hp ⟨by decide, by decide⟩ q36
          have C50 := sd_cel hT hp ⟨by decide, by decide⟩ q50
          obtain ⟨R0, R1, R2, R3, R4, R5⟩ := sd_row (r := i.toNat) hT (by omega)
          have C9 : v9 = (l1.getD i.toNat []).getD 2 0 := C9
          have C22 : v22 = (l1.getD i.toNat []).getD 3 0 := C22
          have C36 : v36 = (l1.getD i.toNat []).getD 4 0 := C36
          have C50 : v50 = (l1.getD i.toNat []).getD 1 0 := C50
          unfold sd_doe
          rw [← C9, ← C22, ← C36, ← C50]
          rw [← C9] at R2
          rw [← C22] at R3
          rw [← C36] at R4 R5
          rw [← C50] at R1 R5
          first
            | (rw [if_pos (by omega)]
               have a := q85.2 F hF hW
               first
                 | (have a := a.mp (by omega)
                    rw [if_pos a.2.2]
                    have z := q96 ls l1 F hT hF hP hW a
                    exact ⟨z.2.1, z.2.2.1, z.2.2.2⟩)
                 | (rw [if_neg (fun y => absurd (a.mpr ⟨R2, ⟨R5 (by omega), R4.2⟩, y⟩) (by omega))]
                    exact ⟨hF, hP, hW⟩))
            | (rw [if_neg (by omega), if_pos (by omega)]
               have a := q105.2 F hF hW
               first
                 | (have a := a.mp (by omega)
                    rw [if_pos a.2]
                    exact q114 ls l1 F hT hF hP hW a)
                 | (rw [if_neg (fun y => absurd (a.mpr ⟨R2, y⟩) (by omega))]
                    exact ⟨hF, hP, hW⟩))
            | (rw [if_neg (by omega), if_neg (by omega), if_pos (by omega)]
               have a := q127.2 F hF hW
               first
                 | (have a := a.mp (by omega)
                    rw [if_pos a.2.2.2]
                    exact q140 ls l1 F hT hF hP hW a)
                 | (rw [if_neg (fun y => absurd (a.mpr ⟨R2, R3, ⟨R5 (by omega), R4.2⟩, y⟩) (by omega))]
                    exact ⟨hF, hP, hW⟩))
            | (rw [if_neg (by omega), if_neg (by omega), if_neg (by omega)]
               have a := q149.2 F hF hW
               first
                 | (have a := a.mp (by omega)
                    rw [if_pos a.2]
                    exact q158 ls l1 F hT hF hP hW ⟨R2, by have := a.2.1; omega⟩)
                 | (rw [if_neg (fun y => absurd (a.mpr ⟨R2, y⟩) (by omega))]
                    exact ⟨hF, hP, hW⟩))
        · skip
          refine And.intro (hI) ?_
          intro M114 q114
          obtain ⟨q114, z114⟩ := q114
          have hS : pq_pr (pq_Pd c) M M114 := hS.tr z114
          have hI : pz_ic M114 := hS.1 hI0
          refine And.intro rfl ?_
          refine ⟨fun ls l1 F hT hF hP hW hp => ?_, hS⟩
          have C9 := sd_cel hT hp ⟨by decide, by decide⟩ q9
          have C22 := sd_cel hT hp ⟨by decide, by decide⟩ q22
          have C36 := sd_cel hT hp ⟨by decide, by decide⟩ q36
          have C50 := sd_cel hT hp ⟨by decide, by decide⟩ q50
          obtain ⟨R0, R1, R2, R3, R4, R5⟩ := sd_row (r := i.toNat) hT (by omega)
          have C9 : v9 = (l1.getD i.toNat []).getD 2 0 := C9
          have C22 : v22 = (l1.getD i.toNat []).getD 3 0 := C22
          have C36 : v36 = (l1.getD i.toNat []).getD 4 0 := C36
          have C50 : v50 = (l1.getD i.toNat []).getD 1 0 := C50
          unfold sd_doe
          rw [← C9, ← C22, ← C36, ← C50]
          rw [← C9] at R2
          rw [← C22] at R3
          rw [← C36] at R4 R5
          rw [← C50] at R1 R5
          first
            | (rw [if_pos (by omega)]
               have a := q85.2 F hF hW
               first
                 | (have a := a.mp (by omega)
                    rw [if_pos a.2.2]
                    have z := q96 ls l1 F hT hF hP hW a
                    exact ⟨z.2.1, z.2.2.1, z.2.2.2⟩)
                 | (rw [if_neg (fun y => absurd (a.mpr ⟨R2, ⟨R5 (by omega), R4.2⟩, y⟩) (by omega))]
                    exact ⟨hF, hP, hW⟩))
            | (rw [if_neg (by omega), if_pos (by omega)]
               have a := q105.2 F hF hW
               first
                 | (have a := a.mp (by omega)
                    rw [if_pos a.2]
                    exact q114 ls l1 F hT hF hP hW a)
                 | (rw [if_neg (fun y => absurd (a.mpr ⟨R2, y⟩) (by omega))]
                    exact ⟨hF, hP, hW⟩))
            | (rw [if_neg (by omega), if_neg (by omega), if_pos (by omega)]
               have a := q127.2 F hF hW
               first
                 | (have a := a.mp (by omega)
                    rw [if_pos a.2.2.2]
                    exact q140 ls l1 F hT hF hP hW a)
                 | (rw [if_neg (fun y => absurd (a.mpr ⟨R2, R3, ⟨R5 (by omega), R4.2⟩, y⟩) (by omega))]
                    exact ⟨hF, hP, hW⟩))
            | (rw [if_neg (by omega), if_neg (by omega), if_neg (by omega)]
               have a := q149.2 F hF hW
               first
                 | (have a := a.mp (by omega)
                    rw [if_pos a.2]
                    exact q158 ls l1 F hT hF hP hW ⟨R2, by have := a.2.1; omega⟩)
                 | (rw [if_neg (fun y => absurd (a.mpr ⟨R2, y⟩) (by omega))]
                    exact ⟨hF, hP, hW⟩))
      refine And.intro (fun h53 => ?_) ?_
      · skip
        refine And.intro (hI) ?_
        intro v127 M127 a127 b127 q127
        obtain ⟨q127, z127⟩ := q127
        subst z127
        refine And.intro (fun h130 => ?_) (fun h130 => ?_)
        · skip
          refine And.intro rfl ?_
          refine ⟨fun ls l1 F hT hF hP hW hp => ?_, hS⟩
          have C9 := sd_cel hT hp ⟨by decide, by decide⟩ q9
          have C22 := sd_cel hT hp ⟨by decide, by decide⟩ q22
          have C36 := sd_cel hT hp ⟨by decide, by decide⟩ q36
          have C50 := sd_cel hT hp ⟨by decide, by decide⟩ q50
          obtain ⟨R0, R1, R2, R3, R4, R5⟩ := sd_row (r := i.toNat) hT (by omega)
          have C9 : v9 = (l1.getD i.toNat []).getD 2 0 := C9
          have C22 : v22 = (l1.getD i.toNat []).getD 3 0 := C22
          have C36 : v36 = (l1.getD i.toNat []).getD 4 0 := C36
          have C50 : v50 = (l1.getD i.toNat []).getD 1 0 := C50
          unfold sd_doe
          rw [← C9, ← C22, ← C36, ← C50]
          rw [← C9] at R2
          rw [← C22] at R3
          rw [← C36] at R4 R5
          rw [← C50] at R1 R5
          first
            | (rw [if_pos (by omega)]
               have a := q85.2 F hF hW
               first
                 | (have a := a.mp (by omega)
                    rw [if_pos a.2.2]
                    have z := q96 ls l1 F hT hF hP hW a
                    exact ⟨z.2.1, z.2.2.1, z.2.2.2⟩)
                 | (rw [if_neg (fun y => absurd (a.mpr ⟨R2, ⟨R5 (by omega), R4.2⟩, y⟩) (by omega))]
                    exact ⟨hF, hP, hW⟩))
            | (rw [if_neg (by omega), if_pos (by omega)]
               have a := q105.2 F hF hW
               first
                 | (have a := a.mp (by omega)
                    rw [if_pos a.2]
                    exact q114 ls l1 F hT hF hP hW a)
                 | (rw [if_neg (fun y => absurd (a.mpr ⟨R2, y⟩) (by omega))]
                    exact ⟨hF, hP, hW⟩))
            | (rw [if_neg (by omega), if_neg (by omega), if_pos (by omega)]
               have a := q127.2 F hF hW
               first
                 | (have a := a.mp (by omega)
                    rw [if_pos a.2.2.2]
                    exact q140 ls l1 F hT hF hP hW a)
                 | (rw [if_neg (fun y => absurd (a.mpr ⟨R2, R3, ⟨R5 (by omega), R4.2⟩, y⟩) (by omega))]
                    exact ⟨hF, hP, hW⟩))
            | (rw [if_neg (by omega), if_neg (by omega), if_neg (by omega)]
               have a := q149.2 F hF hW
               first
                 | (have a := a.mp (by omega)
                    rw [if_pos a.2]
                    exact q158 ls l1 F hT hF hP hW ⟨R2, by have := a.2.1; omega⟩)
                 | (rw [if_neg (fun y => absurd (a.mpr ⟨R2, y⟩) (by omega))]
                    exact ⟨hF, hP, hW⟩))
        · skip
          refine And.intro (hI) ?_
          intro M140 q140
          obtain ⟨q140, z140⟩ := q140
          have hS : pq_pr (pq_Pd c) M M140 := hS.tr z140
          have hI : pz_ic M140 := hS.1 hI0
          refine And.intro rfl ?_
          refine ⟨fun ls l1 F hT hF hP hW hp => ?_, hS⟩
          have C9 := sd_cel hT hp ⟨by decide, by decide⟩ q9
          have C22 := sd_cel hT hp ⟨by decide, by decide⟩ q22
          have C36 := sd_cel hT hp ⟨by decide, by decide⟩ q36
          have C50 := sd_cel hT hp ⟨by decide, by decide⟩ q50
          obtain ⟨R0, R1, R2, R3, R4, R5⟩ := sd_row (r := i.toNat) hT (by omega)
          have C9 : v9 = (l1.getD i.toNat []).getD 2 0 := C9
          have C22 : v22 = (l1.getD i.toNat []).getD 3 0 := C22
          have C36 : v36 = (l1.getD i.toNat []).getD 4 0 := C36
          have C50 : v50 = (l1.getD i.toNat []).getD 1 0 := C50
          unfold sd_doe
          rw [← C9, ← C22, ← C36, ← C50]
          rw [← C9] at R2
          rw [← C22] at R3
          rw [← C36] at R4 R5
          rw [← C50] at R1 R5
          first
            | (rw [if_pos (by omega)]
               have a := q85.2 F hF hW
               first
                 | (have a := a.mp (by omega)
                    rw [if_pos a.2.2]
                    have z := q96 ls l1 F hT hF hP hW a
                    exact ⟨z.2.1, z.2.2.1, z.2.2.2⟩)
                 | (rw [if_neg (fun y => absurd (a.mpr ⟨R2, ⟨R5 (by omega), R4.2⟩, y⟩) (by omega))]
                    exact ⟨hF, hP, hW⟩))
            | (rw [if_neg (by omega), if_pos (by omega)]
               have a := q105.2 F hF hW
               first
                 | (have a := a.mp (by omega)
                    rw [if_pos a.2]
                    exact q114 ls l1 F hT hF hP hW a)
                 | (rw [if_neg (fun y => absurd (a.mpr ⟨R2, y⟩) (by omega))]
                    exact ⟨hF, hP, hW⟩))
            | (rw [if_neg (by omega), if_neg (by omega), if_pos (by omega)]
               have a := q127.2 F hF hW
               first
                 | (have a := a.mp (by omega)
                    rw [if_pos a.2.2.2]
                    exact q140 ls l1 F hT hF hP hW a)
                 | (rw [if_neg (fun y => absurd (a.mpr ⟨R2, R3, ⟨R5 (by omega), R4.2⟩, y⟩) (by omega))]
                    exact ⟨hF, hP, hW⟩))
            | (rw [if_neg (by omega), if_neg (by omega), if_neg (by omega)]
               have a := q149.2 F hF hW
               first
                 | (have a := a.mp (by omega)
                    rw [if_pos a.2]
                    exact q158 ls l1 F hT hF hP hW ⟨R2, by have := a.2.1; omega⟩)
                 | (rw [if_neg (fun y => absurd (a.mpr ⟨R2, y⟩) (by omega))]
                    exact ⟨hF, hP, hW⟩))
      exact True.intro
    · intro h53
      refine And.intro (hI) ?_
      intro v149 M149 a149 b149 q149
      obtain ⟨q149, z149⟩ := q149
      subst z149
      refine And.intro (fun h152 => ?_) (fun h152 => ?_)
      · skip
        refine And.intro rfl ?_
        refine ⟨fun ls l1 F hT hF hP hW hp => ?_, hS⟩
        have C9 := sd_cel hT hp ⟨by decide, by decide⟩ q9
        have C22 := sd_cel hT hp ⟨by decide, by decide⟩ q22
        have C36 := sd_cel hT hp ⟨by decide, by decide⟩ q36
        have C50 := sd_cel hT hp ⟨by decide, by decide⟩ q50
        obtain ⟨R0, R1, R2, R3, R4, R5⟩ := sd_row (r := i.toNat) hT (by omega)
        have C9 : v9 = (l1.getD i.toNat []).getD 2 0 := C9
        have C22 : v22 = (l1.getD i.toNat []).getD 3 0 := C22
        have C36 : v36 = (l1.getD i.toNat []).getD 4 0 := C36
        have C50 : v50 = (l1.getD i.toNat []).getD 1 0 := C50
        unfold sd_doe
        rw [← C9, ← C22, ← C36, ← C50]
        rw [← C9] at R2
        rw [← C22] at R3
        rw [← C36] at R4 R5
        rw [← C50] at R1 R5
        first
          | (rw [if_pos (by omega)]
             have a := q85.2 F hF hW
             first
               | (have a := a.mp (by omega)
                  rw [if_pos a.2.2]
                  have z := q96 ls l1 F hT hF hP hW a
                  exact ⟨z.2.1, z.2.2.1, z.2.2.2⟩)
               | (rw [if_neg (fun y => absurd (a.mpr ⟨R2, ⟨R5 (by omega), R4.2⟩, y⟩) (by omega))]
                  exact ⟨hF, hP, hW⟩))
          | (rw [if_neg (by omega), if_pos (by omega)]
             have a := q105.2 F hF hW
             first
               | (have a := a.mp (by omega)
                  rw [if_pos a.2]
                  exact q114 ls l1 F hT hF hP hW a)
               | (rw [if_neg (fun y => absurd (a.mpr ⟨R2, y⟩) (by omega))]
                  exact ⟨hF, hP, hW⟩))
          | (rw [if_neg (by omega), if_neg (by omega), if_pos (by omega)]
             have a := q127.2 F hF hW
             first
               | (have a := a.mp (by omega)
                  rw [if_pos a.2.2.2]
                  exact q140 ls l1 F hT hF hP hW a)
               | (rw [if_neg (fun y => absurd (a.mpr ⟨R2, R3, ⟨R5 (by omega), R4.2⟩, y⟩) (by omega))]
                  exact ⟨hF, hP, hW⟩))
          | (rw [if_neg (by omega), if_neg (by omega), if_neg (by omega)]
             have a := q149.2 F hF hW
             first
               | (have a := a.mp (by omega)
                  rw [if_pos a.2]
                  exact q158 ls l1 F hT hF hP hW ⟨R2, by have := a.2.1; omega⟩)
               | (rw [if_neg (fun y => absurd (a.mpr ⟨R2, y⟩) (by omega))]
                  exact ⟨hF, hP, hW⟩))
      · skip
        refine And.intro (hI) ?_
        intro M158 q158
        obtain ⟨q158, z158⟩ := q158
        have hS : pq_pr (pq_Pd c) M M158 := hS.tr z158
        have hI : pz_ic M158 := hS.1 hI0
        refine And.intro rfl ?_
        refine ⟨fun ls l1 F hT hF hP hW hp => ?_, hS⟩
        have C9 := sd_cel hT hp ⟨by decide, by decide⟩ q9
        have C22 := sd_cel hT hp ⟨by decide, by decide⟩ q22
        have C36 := sd_cel hT hp ⟨by decide, by decide⟩ q36
        have C50 := sd_cel hT hp ⟨by decide, by decide⟩ q50
        obtain ⟨R0, R1, R2, R3, R4, R5⟩ := sd_row (r := i.toNat) hT (by omega)
        have C9 : v9 = (l1.getD i.toNat []).getD 2 0 := C9
        have C22 : v22 = (l1.getD i.toNat []).getD 3 0 := C22
        have C36 : v36 = (l1.getD i.toNat []).getD 4 0 := C36
        have C50 : v50 = (l1.getD i.toNat []).getD 1 0 := C50
        unfold sd_doe
        rw [← C9, ← C22, ← C36, ← C50]
        rw [← C9] at R2
        rw [← C22] at R3
        rw [← C36] at R4 R5
        rw [← C50] at R1 R5
        first
          | (rw [if_pos (by omega)]
             have a := q85.2 F hF hW
             first
               | (have a := a.mp (by omega)
                  rw [if_pos a.2.2]
                  have z := q96 ls l1 F hT hF hP hW a
                  exact ⟨z.2.1, z.2.2.1, z.2.2.2⟩)
               | (rw [if_neg (fun y => absurd (a.mpr ⟨R2, ⟨R5 (by omega), R4.2⟩, y⟩) (by omega))]
                  exact ⟨hF, hP, hW⟩))
          | (rw [if_neg (by omega), if_pos (by omega)]
             have a := q105.2 F hF hW
             first
               | (have a := a.mp (by omega)
                  rw [if_pos a.2]
                  exact q114 ls l1 F hT hF hP hW a)
               | (rw [if_neg (fun y => absurd (a.mpr ⟨R2, y⟩) (by omega))]
                  exact ⟨hF, hP, hW⟩))
          | (rw [if_neg (by omega), if_neg (by omega), if_pos (by omega)]
             have a := q127.2 F hF hW
             first
               | (have a := a.mp (by omega)
                  rw [if_pos a.2.2.2]
                  exact q140 ls l1 F hT hF hP hW a)
               | (rw [if_neg (fun y => absurd (a.mpr ⟨R2, R3, ⟨R5 (by omega), R4.2⟩, y⟩) (by omega))]
                  exact ⟨hF, hP, hW⟩))
          | (rw [if_neg (by omega), if_neg (by omega), if_neg (by omega)]
             have a := q149.2 F hF hW
             first
               | (have a := a.mp (by omega)
                  rw [if_pos a.2]
                  exact q158 ls l1 F hT hF hP hW ⟨R2, by have := a.2.1; omega⟩)
               | (rw [if_neg (fun y => absurd (a.mpr ⟨R2, y⟩) (by omega))]
                  exact ⟨hF, hP, hW⟩))
theorem v3_X1_doPlanned {fr lo i : Nat} {own : String} (h1 : 5 + 1 ≤ fr) (h2 : 8 + (6 + 11) + 122 ≤ lo) (h3 : .methodLink own i yX1_doPlanned ∈ lw_tbl) : pz_cV fr lo own i k3_X1_doPlanned :=
  pz_cVk (maxL := 6) (fr' := 5) (lo' := 122) 2 1 h3_X1_doPlanned rfl ⟨by decide +kernel, by decide +kernel, by decide +kernel⟩ ⟨(pz_mt 582 (by decide +kernel)), (pz_mt 580 (by decide +kernel)), (pz_mt 581 (by decide +kernel)), (pz_mt 7 (by decide +kernel))⟩ (Or.inl ⟨TX1, 2, rfl⟩) (fun a M _ h => by
    have h : (match (generalizing := false) a with | [.inr (.inr (1, d)), .inr (.inr (0, c)), .inl i] => pz_ic M | _ => False) := h
    split at h
    · exact ⟨_, _, rfl⟩
    · exact h.elim) h1 h2 h3
def k3_X1_canMove : pz_C := (3, 1, fun a M => (match a with | [.inr (.inr (0, c)), .inl i, .inl j] => pz_ic M ∧ j ≤ 1000 | _ => False), fun a M r M' => (match a, r with | [.inr (.inr (0, c)), .inl i, .inl j], some (.inl v) => ((v = 0 ∨ v = 1) ∧ sd_q M c (fun F => 0 ≤ i → i ≤ j → j < F 88 → v = if sd_cm F j.toNat (j + 1 - i).toNat i.toNat = true then 1 else 0)) ∧ M = M' | _, _ => False))
abbrev ct3_X1_canMove : List (Bool × Nat × pz_C) := [(true, 39, k_X0_at), (true, 172, k3_X0_canPay)]
set_option maxRecDepth 100000 in
set_option maxHeartbeats 4000000 in
theorem h3_X1_canMove : pz_H yX1_canMove cX1_canMove 5 (some .boolean) k3_X1_canMove 3 64 := by
  refine pz_mk (own := RX1) (tb := t_X1_canMove) (fl := pz_flf fl_RX1) (ci := fun _ => none) (ct := pz_ctf ct3_X1_canMove) (rz := true) (by decide +kernel) rfl t_X1_canMove_ok (pz_flk fl_RX1_ok) (fun i v h => by cases h) ?_ ?_ (Or.inr ⟨rfl, rfl⟩) ?_ ?_
  · exact fun i k' h => pz_ctk (l := ct3_X1_canMove) (P := fun b i k => b = true → pz_cV 3 64 RX1 i k) (List.forall_mem_cons.mpr ⟨(fun _ => v_X0_at (by decide) (by decide) (pz_mt 457 (by decide +kernel))), List.forall_mem_cons.mpr ⟨(fun _ => v3_X0_canPay (by decide) (by decide) (pz_mt 626 (by decide +kernel))), fun _ h => absurd h List.not_mem_nil⟩⟩) true i k' h rfl
  · exact fun i k' h => pz_ctk (l := ct3_X1_canMove) (P := fun b i k => b = false → (pz_cS 3 64 RX1 i k ∨ (k = pz_kac ∧ 1 ≤ 3 ∧ 60 ≤ 64 ∧ Cond.methodLink RX1 i arraycopyName ∈ pz_tbl))) (List.forall_mem_cons.mpr ⟨((fun z => by cases z)), List.forall_mem_cons.mpr ⟨((fun z => by cases z)), fun _ h => absurd h List.not_mem_nil⟩⟩) false i k' h rfl
  · intro a M hlen hpre
    obtain ⟨c, i, j, rfl, hpre⟩ : ∃ c i j, a = [.inr (.inr (0, c)), .inl i, .inl j] ∧ (pz_ic M ∧ j ≤ 1000) := by
      have hpre : (match (generalizing := false) a with | [.inr (.inr (0, c)), .inl i, .inl j] => pz_ic M ∧ j ≤ 1000 | _ => False) := hpre
      split at hpre
      · exact ⟨_, _, _, rfl, hpre⟩
      · exact hpre.elim
    exact Nat.le_of_ble_eq_true rfl
  · intro a M hlen hcan hM hpre Ok hgo
    obtain ⟨c, i, j, rfl, hpre⟩ : ∃ c i j, a = [.inr (.inr (0, c)), .inl i, .inl j] ∧ (pz_ic M ∧ j ≤ 1000) := by
      have hpre : (match (generalizing := false) a with | [.inr (.inr (0, c)), .inl i, .inl j] => pz_ic M ∧ j ≤ 1000 | _ => False) := hpre
      split at hpre
      · exact ⟨_, _, _, rfl, hpre⟩
      · exact hpre.elim
    obtain ⟨k_c, hc_c⟩ := pz_tlm hcan
    have k_c : pz_kd c = 0 ∧ c < 231 := k_c
    have R_c := pz_kd0 k_c.1
    obtain ⟨k_i, hc_i⟩ := pz_tlm hc_c
    have l_i : -2147483648 ≤ i := k_i.1
    have u_i : i ≤ 2147483647 := k_i.2
    obtain ⟨k_j, hc_j⟩ := pz_tlm hc_i
    have l_j : -2147483648 ≤ j := k_j.1
    have u_j : j ≤ 2147483647 := k_j.2
    have hI : pz_ic M := hpre.1
    have L2 : ∀ (fu : Nat) (x3 : Int) (d4 : Option pz_V), (j + 1 - x3).toNat < fu → (-2147483648 ≤ x3) → (sd_q M c (fun F => 0 ≤ i → i ≤ j → j < F 88 → (i ≤ x3 ∧ x3 ≤ j + 1 ∧ sd_cm F j.toNat (j + 1 - i).toNat i.toNat = sd_cm F j.toNat (j + 1 - x3).toNat (x3).toNat))) → Ok 2 [some (.inr (.inr (0, c))), some (.inl i), some (.inl j), some (.inl x3), d4] [] M := by
      intro fu
      induction fu with
      | zero => exact fun _ _ hn => absurd hn (Nat.not_lt_zero _)
      | succ fu ih2 =>
        intro x3 d4 hn2 g2_0 g2_1
        refine hgo (fun p => Nat.beq p 2) 30 2 _ _ _ ?_
        refine And.intro (fun h4 => ?_) (fun h4 => ?_)
        · skip
          refine And.intro (by omega) ?_
          refine And.intro rfl ?_
          refine ⟨⟨Or.inr rfl, fun F hF hW h0 h1 h2 => ?_⟩, rfl⟩
          obtain ⟨g1, g2, g3⟩ := g2_1 F hF hW h0 h1 h2
          rw [g3, show (j + 1 - x3).toNat = 0 by omega]
          exact (if_pos rfl).symm
        · skip
          refine And.intro (True.intro) ?_
          intro r9 M9 k9 q9
          have R9 := pz_kd5 k9
          obtain ⟨q9, z9⟩ := q9
          subst z9
          have A9 := pz_at_lk R_c q9
          have B9 : 89 + 13 * (c - 71) ≤ r9 ∧ r9 ≤ 89 + 13 * (c - 71) + 12 := by
            rw [A9]
            exact pz_lnk_c
          intro v16 e16 a16 b16
          refine And.intro (fun h19 => ?_) (fun h19 => ?_)
          · skip
            refine And.intro (by omega) ?_
            refine And.intro rfl ?_
            refine ⟨⟨Or.inl rfl, fun F hF hW h0 h1 h2 => ?_⟩, rfl⟩
            obtain ⟨g1, g2, g3⟩ := g2_1 F hF hW h0 h1 h2
            have hm := hW.1
            have b := sd_at R_c hF hW (show 0 ≤ x3 by omega) (by omega) A9
            have b4 := b.2.2.2.2.1
            have b5 := b.2.2.2.2.2.1
            have P := hW.2.2 x3.toNat (by omega)
            unfold sd_lw at P
            rw [g3, show (j + 1 - x3).toNat = (j + 1 - x3).toNat - 1 + 1 by omega]
            refine (if_neg ?_).symm
            show ¬ ((decide (F (40 + x3.toNat) = 1 ∧ F (52 + x3.toNat) ≠ 1 ∧ (x3.toNat < j.toNat → sd_py F x3.toNat)) && _) = true)
            rw [decide_eq_false (fun z => (by
              first
                | omega
                | (have y := (q37.2 F hF hW (by omega) (by omega)).mpr (z.2.2 (by omega))
                   omega)))]
            exact Bool.false_ne_true
          · skip
            intro v24 e24 a24 b24
            refine And.intro (fun h27 => ?_) (fun h27 => ?_)
            · skip
              refine And.intro (by omega) ?_
              refine And.intro rfl ?_
              refine ⟨⟨Or.inl rfl, fun F hF hW h0 h1 h2 => ?_⟩, rfl⟩
              obtain ⟨g1, g2, g3⟩ := g2_1 F hF hW h0 h1 h2
              have hm := hW.1
              have b := sd_at R_c hF hW (show 0 ≤ x3 by omega) (by omega) A9
              have b4 := b.2.2.2.2.1
              have b5 := b.2.2.2.2.2.1
              have P := hW.2.2 x3.toNat (by omega)
              unfold sd_lw at P
              rw [g3, show (j + 1 - x3).toNat = (j + 1 - x3).toNat - 1 + 1 by omega]
              refine (if_neg ?_).symm
              show ¬ ((decide (F (40 + x3.toNat) = 1 ∧ F (52 + x3.toNat) ≠ 1 ∧ (x3.toNat < j.toNat → sd_py F x3.toNat)) && _) = true)
              rw [decide_eq_false (fun z => (by
                first
                  | omega
                  | (have y := (q37.2 F hF hW (by omega) (by omega)).mpr (z.2.2 (by omega))
                     omega)))]
              exact Bool.false_ne_true
            · skip
              refine And.intro (fun h32 => ?_) (fun h32 => ?_)
              · skip
                intro v45 e45 a45 b45
                have G45 : sd_q M c (fun F => 0 ≤ i → i ≤ j → j < F 88 → (i ≤ v45 ∧ v45 ≤ j + 1 ∧ sd_cm F j.toNat (j + 1 - i).toNat i.toNat = sd_cm F j.toNat (j + 1 - v45).toNat (v45).toNat)) := fun F hF hW h0 h1 h2 => by
                  obtain ⟨g1, g2, g3⟩ := g2_1 F hF hW h0 h1 h2
                  have hm := hW.1
                  rw [pz_wi (by omega) (by omega)] at e45
                  refine ⟨by omega, by omega, g3.trans ?_⟩
                  have b := sd_at R_c hF hW (show 0 ≤ x3 by omega) (by omega) A9
                  have b4 := b.2.2.2.2.1
                  have b5 := b.2.2.2.2.2.1
                  have P := hW.2.2 x3.toNat (by omega)
                  unfold sd_lw at P
                  rw [show (j + 1 - x3).toNat = (j + 1 - v45).toNat + 1 by omega, show v45.toNat = x3.toNat + 1 by omega]
                  show (decide (F (40 + x3.toNat) = 1 ∧ F (52 + x3.toNat) ≠ 1 ∧ (x3.toNat < j.toNat → sd_py F x3.toNat)) && _) = _
                  rw [decide_eq_true ⟨by omega, by omega, fun z => (by
                    first
                      | exact absurd z (by omega)
                      | exact (q37.2 F hF hW (by omega) (by omega)).mp (by omega))⟩]
                  rfl
                exact ih2 _ _ (by omega) (by first | omega | assumption | exact fun F hF hW h0 h1 h2 => ⟨by omega, by omega, rfl⟩) (by first | omega | assumption | exact fun F hF hW h0 h1 h2 => ⟨by omega, by omega, rfl⟩)
              · skip
                refine And.intro (hI) ?_
                intro v37 M37 a37 b37 q37
                obtain ⟨q37, z37⟩ := q37
                subst z37
                refine And.intro (fun h40 => ?_) (fun h40 => ?_)
                · skip
                  intro v45 e45 a45 b45
                  have G45 : sd_q M c (fun F => 0 ≤ i → i ≤ j → j < F 88 → (i ≤ v45 ∧ v45 ≤ j + 1 ∧ sd_cm F j.toNat (j + 1 - i).toNat i.toNat = sd_cm F j.toNat (j + 1 - v45).toNat (v45).toNat)) := fun F hF hW h0 h1 h2 => by
                    obtain ⟨g1, g2, g3⟩ := g2_1 F hF hW h0 h1 h2
                    have hm := hW.1
                    rw [pz_wi (by omega) (by omega)] at e45
                    refine ⟨by omega, by omega, g3.trans ?_⟩
                    have b := sd_at R_c hF hW (show 0 ≤ x3 by omega) (by omega) A9
                    have b4 := b.2.2.2.2.1
                    have b5 := b.2.2.2.2.2.1
                    have P := hW.2.2 x3.toNat (by omega)
                    unfold sd_lw at P
                    rw [show (j + 1 - x3).toNat = (j + 1 - v45).toNat + 1 by omega, show v45.toNat = x3.toNat + 1 by omega]
                    show (decide (F (40 + x3.toNat) = 1 ∧ F (52 + x3.toNat) ≠ 1 ∧ (x3.toNat < j.toNat → sd_py F x3.toNat)) && _) = _
                    rw [decide_eq_true ⟨by omega, by omega, fun z => (by
                      first
                        | exact absurd z (by omega)
                        | exact (q37.2 F hF hW (by omega) (by omega)).mp (by omega))⟩]
                    rfl
                  exact ih2 _ _ (by omega) (by first | omega | assumption | exact fun F hF hW h0 h1 h2 => ⟨by omega, by omega, rfl⟩) (by first | omega | assumption | exact fun F hF hW h0 h1 h2 => ⟨by omega, by omega, rfl⟩)
                · skip
                  refine And.intro (by omega) ?_
                  refine And.intro rfl ?_
                  refine ⟨⟨Or.inl rfl, fun F hF hW h0 h1 h2 => ?_⟩, rfl⟩
                  obtain ⟨g1, g2, g3⟩ := g2_1 F hF hW h0 h1 h2
                  have hm := hW.1
                  have b := sd_at R_c hF hW (show 0 ≤ x3 by omega) (by omega) A9
                  have b4 := b.2.2.2.2.1
                  have b5 := b.2.2.2.2.2.1
                  have P := hW.2.2 x3.toNat (by omega)
                  unfold sd_lw at P
                  rw [g3, show (j + 1 - x3).toNat = (j + 1 - x3).toNat - 1 + 1 by omega]
                  refine (if_neg ?_).symm
                  show ¬ ((decide (F (40 + x3.toNat) = 1 ∧ F (52 + x3.toNat) ≠ 1 ∧ (x3.toNat < j.toNat → sd_py F x3.toNat)) && _) = true)
                  rw [decide_eq_false (fun z => (by
                    first
                      | omega
                      | (have y := (q37.2 F hF hW (by omega) (by omega)).mpr (z.2.2 (by omega))
                         omega)))]
                  exact Bool.false_ne_true
    refine hgo (fun p => Nat.beq p 2) 30 0 _ [] M ?_
    exact L2 _ _ _ (Nat.lt_succ_self _) (by first | omega | assumption | exact fun F hF hW h0 h1 h2 => ⟨by omega, by omega, rfl⟩) (by first | omega | assumption | exact fun F hF hW h0 h1 h2 => ⟨by omega, by omega, rfl⟩)
theorem s3_X1_canMove {fr lo i : Nat} {own : String} (h1 : 3 + 1 ≤ fr) (h2 : 8 + (5 + 11) + 64 ≤ lo) (h3 : .methodLink own i yX1_canMove ∈ lw_tbl ∨ (own = RX1 ∧ i = 35 ∧ yX1_canMove = yX11_within)) : pz_cS fr lo own i k3_X1_canMove := pz_cSk (maxL := 5) (fr' := 3) (lo' := 64) 3 h3_X1_canMove rfl ⟨by decide +kernel, by decide +kernel, by decide +kernel⟩ ⟨(pz_mt 625 (by decide +kernel)), (pz_mt 624 (by decide +kernel)), (pz_mt 7 (by decide +kernel))⟩ h1 h2 h3
def k3_X1_payForBridges : pz_C := (2, 0, fun a M => (match a with | [.inr (.inr (1, d)), .inr (.inr (0, c))] => pz_ic M | _ => False), fun a M r M' => (match a, r with | [.inr (.inr (1, d)), .inr (.inr (0, c))], none => (sd_dd M M' c (fun _ _ => True) (fun _ ls _ F => sd_p5 ls (sd_n F) 0 F)) ∧ pq_pr (pq_Pd c) M M' | _, _ => False))
abbrev ct3_X1_payForBridges : List (Bool × Nat × pz_C) := [(true, 39, k_X0_at), (true, 43, k_X5_isIn), (true, 64, k3_X3_tells), (false, 73, k_J9_max_7cf53)]
set_option maxRecDepth 100000 in
set_option maxHeartbeats 4000000 in
theorem h3_X1_payForBridges : pz_H yX1_payForBridges cX1_payForBridges 4 none k3_X1_payForBridges 4 97 := by
  refine pz_mk (own := RX1) (tb := t_X1_payForBridges) (fl := pz_flf fl_RX1) (ci := fun _ => none) (ct := pz_ctf ct3_X1_payForBridges) (rz := false) (by decide +kernel) rfl t_X1_payForBridges_ok (pz_flk fl_RX1_ok) (fun i v h => by cases h) ?_ ?_ (rfl) ?_ ?_
  · exact fun i k' h => pz_ctk (l := ct3_X1_payForBridges) (P := fun b i k => b = true → pz_cV 4 97 RX1 i k) (List.forall_mem_cons.mpr ⟨(fun _ => v_X0_at (by decide) (by decide) (pz_mt 457 (by decide +kernel))), List.forall_mem_cons.mpr ⟨(fun _ => v_X5_isIn (by decide) (by decide) (pz_mt 458 (by decide +kernel))), List.forall_mem_cons.mpr ⟨(fun _ => v3_X3_tells (by decide) (by decide) (pz_mt 482 (by decide +kernel))), List.forall_mem_cons.mpr ⟨((fun z => by cases z)), fun _ h => absurd h List.not_mem_nil⟩⟩⟩⟩) true i k' h rfl
  · exact fun i k' h => pz_ctk (l := ct3_X1_payForBridges) (P := fun b i k => b = false → (pz_cS 4 97 RX1 i k ∨ (k = pz_kac ∧ 1 ≤ 4 ∧ 60 ≤ 97 ∧ Cond.methodLink RX1 i arraycopyName ∈ pz_tbl))) (List.forall_mem_cons.mpr ⟨((fun z => by cases z)), List.forall_mem_cons.mpr ⟨((fun z => by cases z)), List.forall_mem_cons.mpr ⟨((fun z => by cases z)), List.forall_mem_cons.mpr ⟨(fun _ => Or.inl (s_J9_max_7cf53 (by decide) (by decide) (Or.inl (pz_mt 516 (by decide +kernel))))), fun _ h => absurd h List.not_mem_nil⟩⟩⟩⟩) false i k' h rfl
  · intro a M hlen hpre
    obtain ⟨d, c, rfl, hpre⟩ : ∃ d c, a = [.inr (.inr (1, d)), .inr (.inr (0, c))] ∧ (pz_ic M) := by
      have hpre : (match (generalizing := false) a with | [.inr (.inr (1, d)), .inr (.inr (0, c))] => pz_ic M | _ => False) := hpre
      split at hpre
      · exact ⟨_, _, rfl, hpre⟩
      · exact hpre.elim
    exact Nat.le_of_ble_eq_true rfl
  · intro a M hlen hcan hM hpre Ok hgo
    obtain ⟨d, c, rfl, hpre⟩ : ∃ d c, a = [.inr (.inr (1, d)), .inr (.inr (0, c))] ∧ (pz_ic M) := by
      have hpre : (match (generalizing := false) a with | [.inr (.inr (1, d)), .inr (.inr (0, c))] => pz_ic M | _ => False) := hpre
      split at hpre
      · exact ⟨_, _, rfl, hpre⟩
      · exact hpre.elim
    obtain ⟨k_d, hc_d⟩ := pz_tlm hcan
    have k_d : pz_kd d = 1 ∧ d < 231 := k_d
    have R_d := pz_kd1 k_d.1
    subst R_d
    obtain ⟨k_c, hc_c⟩ := pz_tlm hc_d
    have k_c : pz_kd c = 0 ∧ c < 231 := k_c
    have R_c := pz_kd0 k_c.1
    have hI : pz_ic M := hpre
    have hI0 := hI
    have hS : pq_pr (pq_Pd c) M M := pq_pr.rf
    have L2 : ∀ (fu : Nat) (x2 : Int) (d3 : Option pz_V) (N2 : pz_M), (12 - x2).toNat < fu → (pq_pr (pq_Pd c) M N2) → (0 ≤ x2) → (sd_lp M N2 c (fun ls _ F G => G 88 = F 88 ∧ sd_p5 ls (sd_n F - x2.toNat) x2.toNat G = sd_p5 ls (sd_n F) 0 F)) → Ok 2 [some (.inr (.inr (1, 2))), some (.inr (.inr (0, c))), some (.inl x2), d3] [] N2 := by
      intro fu
      induction fu with
      | zero => exact fun _ _ _ hn => absurd hn (Nat.not_lt_zero _)
      | succ fu ih2 =>
        intro x2 d3 N2 hn2 hS g2_1 g2_2
        have hI : pz_ic N2 := hS.1 hI0
        have L58 : ∀ (x2 : Int) (r3 : Nat) (N58 : pz_M), (pz_kd r3 = 5) → (pq_pr (pq_Pd c) M N58) → (0 ≤ x2) → (x2 < 12) → ((12 - x2).toNat < fu + 1) → (sd_lp M N58 c (fun ls _ F G => G 88 = F 88 ∧ sd_p5 ls (sd_n F - (x2.toNat + 1)) (x2.toNat + 1) G = sd_p5 ls (sd_n F) 0 F)) → Ok 58 [some (.inr (.inr (1, 2))), some (.inr (.inr (0, c))), some (.inl x2), some (.inr (.inr (5, r3)))] [] N58 := by
          intro x2 r3 N58 K_r3 hS g58_2 g58_3 g58_4 g58_5
          have R_r3 := pz_kd5 K_r3
          have hI : pz_ic N58 := hS.1 hI0
          refine hgo (fun p => Nat.beq p 2 || Nat.beq p 58) 35 58 _ _ _ ?_
          intro v58 e58 a58 b58
          rw [pz_wi (by omega) (by omega)] at e58
          have G2 : sd_lp M N58 c (fun ls _ F G => G 88 = F 88 ∧ sd_p5 ls (sd_n F - v58.toNat) v58.toNat G = sd_p5 ls (sd_n F) 0 F) := by
            rw [show v58.toNat = x2.toNat + 1 by omega]
            exact g58_4
          exact ih2 _ _ _ (by omega) hS (by first | omega | assumption | exact fun ls l1 F hT hF hP hW => ⟨F, hF, hP, hW, hT, rfl, rfl⟩) (by first | omega | assumption | exact fun ls l1 F hT hF hP hW => ⟨F, hF, hP, hW, hT, rfl, rfl⟩)
        refine hgo (fun p => Nat.beq p 2 || Nat.beq p 58) 35 2 _ _ _ ?_
        intro v4 e4 a4 b4
        have I4 := hI.1 c (by omega) (by omega)
        refine And.intro (fun h7 => ?_) (fun h7 => ?_)
        · skip
          refine And.intro rfl ?_
          refine ⟨fun ls l1 F hT hF hP hW _ => ?_, hS⟩
          obtain ⟨G, s, p, w, t, r1, r2⟩ := g2_2 ls l1 F hT hF hP hW
          have n9 := s.1
          rw [show sd_n F - x2.toNat = 0 by have := sd_n_i hW; omega] at r2
          have r2 : G = sd_p5 ls (sd_n F) 0 F := r2
          rw [← r2]
          exact ⟨s, p, w⟩
        · skip
          refine And.intro (True.intro) ?_
          intro r12 M12 k12 q12
          have R12 := pz_kd5 k12
          obtain ⟨q12, z12⟩ := q12
          subst z12
          have A12 := pz_at_lk R_c q12
          have B12 : 89 + 13 * (c - 71) ≤ r12 ∧ r12 ≤ 89 + 13 * (c - 71) + 12 := by
            rw [A12]
            exact pz_lnk_c
          intro v17 e17 a17 b17
          refine And.intro (fun h20 => ?_) (fun h20 => ?_)
          · skip
            have G58 : sd_lp M N2 c (fun ls _ F G => G 88 = F 88 ∧ sd_p5 ls (sd_n F - (x2.toNat + 1)) (x2.toNat + 1) G = sd_p5 ls (sd_n F) 0 F) := fun ls l1 F hT hF hP hW => by
              obtain ⟨G, s, p, w, t, r1, r2⟩ := g2_2 ls l1 F hT hF hP hW
              have n9 := s.1
              have b6 := (sd_at R_c s w g2_1 (by omega) A12).2.2.2.2.2.2.1
              rw [show sd_n F - x2.toNat = (sd_n F - (x2.toNat + 1)) + 1 by have := sd_n_i hW; omega] at r2
              refine ⟨G, s, p, w, t, r1, (show _ = _ from ?_)⟩
              rw [← r2]
              show _ = sd_p5 ls _ (x2.toNat + 1) (sd_s5 ls x2.toNat G)
              rw [show sd_s5 ls x2.toNat G = G from if_neg (by omega)]
            exact L58 _ _ _ (by first | assumption | rfl) hS (by first | omega | assumption) (by first | omega | assumption) (by first | omega | assumption) (by first | omega | assumption)
          · skip
            skip
            refine And.intro (True.intro) ?_
            intro v24 M24 a24 b24 q24
            obtain ⟨q24, z24⟩ := q24
            subst z24
            refine And.intro (fun h27 => ?_) (fun h27 => ?_)
            · skip
              have G58 : sd_lp M N2 c (fun ls _ F G => G 88 = F 88 ∧ sd_p5 ls (sd_n F - (x2.toNat + 1)) (x2.toNat + 1) G = sd_p5 ls (sd_n F) 0 F) := fun ls l1 F hT hF hP hW => by
                obtain ⟨G, s, p, w, t, r1, r2⟩ := g2_2 ls l1 F hT hF hP hW
                have n9 := s.1
                have b := sd_at R_c s w g2_1 (by omega) A12
                have b5 := b.2.2.2.2.2.1
                have b7 := b.2.2.2.2.2.2.2
                have P := w.2.2 x2.toNat (by omega)
                unfold sd_lw at P
                rw [b5, b7] at q24
                rw [show sd_n F - x2.toNat = (sd_n F - (x2.toNat + 1)) + 1 by have := sd_n_i hW; omega] at r2
                refine ⟨G, s, p, w, t, r1, (show _ = _ from ?_)⟩
                rw [← r2]
                show _ = sd_p5 ls _ (x2.toNat + 1) (sd_s5 ls x2.toNat G)
                rw [show sd_s5 ls x2.toNat G = G from if_neg (fun z => (by
                  have z2 := z.2
                  unfold sd_in at z2
                  split at q24 <;> omega))]
              exact L58 _ _ _ (by first | assumption | rfl) hS (by first | omega | assumption) (by first | omega | assumption) (by first | omega | assumption) (by first | omega | assumption)
            · skip
              skip
              intro v35 e35 a35 b35
              intro r39 e39 k39
              have R39 := pz_kd10 k39
              intro r42 e42 k42
              have R42 := pz_kd3 k42
              have L42 : r42 = 10 := by rw [e42, e39]; rfl
              refine And.intro (hI) ?_
              intro v48 M48 a48 b48 q48
              obtain ⟨q48, z48⟩ := q48
              have hS : pq_pr (pq_Pd c) M M48 := hS.tr z48.dw
              have hI : pz_ic M48 := hS.1 hI0
              rw [L42] at q48
              intro v51 e51 a51 b51
              refine And.intro (True.intro) ?_
              intro v52 M52 a52 b52 q52
              obtain ⟨q52, z52⟩ := q52
              subst z52
              intro M55 e55
              have hS : pq_pr (pq_Pd c) M M55 := by
                rw [e55]
                exact pq_pr_u hS (by unfold pq_Pd pq_Pw pz_lb; omega) (by unfold pz_iok; omega)
              have hI : pz_ic M55 := hS.1 hI0
              have G58 : sd_lp M M55 c (fun ls _ F G => G 88 = F 88 ∧ sd_p5 ls (sd_n F - (x2.toNat + 1)) (x2.toNat + 1) G = sd_p5 ls (sd_n F) 0 F) := fun ls l1 F hT hF hP hW => by
                obtain ⟨G, s, p, w, t, r1, r2⟩ := g2_2 ls l1 F hT hF hP hW
                have n9 := s.1
                have b := sd_at R_c s w g2_1 (by omega) A12
                have b1 := b.2.1
                have b5 := b.2.2.2.2.2.1
                have b6 := b.2.2.2.2.2.2.1
                have b7 := b.2.2.2.2.2.2.2
                have P := w.2.2 x2.toNat (by omega)
                have P1 := P.2.1
                unfold sd_lw at P
                rw [b5, b7] at q24
                have T := sd_tel3 R_c t s w g2_1 (by omega) q48.2
                have Tb := sd_co_b (ls := ls) (F := G) (i := x2.toNat)
                have s48 := sd_se_d R_c s w z48
                have p48 := sd_pg_d p z48
                have V52 : v52 = max (-9999) (G (16 + x2.toNat) - sd_co ls G x2.toNat) := by
                  rw [q52, e51, e35, b1, T, pz_wi (by omega) (by omega)]
                rw [V52] at e55
                obtain ⟨s55, p55, w55, t55⟩ := sd_put (f := 1) (i := x2) (v := max (-9999) (G (16 + x2.toNat) - sd_co ls G x2.toNat)) R_c s48 p48 w g2_1 (by omega) A12 (by decide) e55 (sd_okv_1 (by omega))
                have K : sd_s5 ls x2.toNat G = sd_u G (sd_fo 1 + x2.toNat) (max (-9999) (G (16 + x2.toNat) - sd_co ls G x2.toNat)) := if_pos ⟨by omega, by unfold sd_in; split at q24 <;> omega⟩
                rw [← K] at s55 p55 w55
                rw [show sd_n F - x2.toNat = (sd_n F - (x2.toNat + 1)) + 1 by have := sd_n_i hW; omega] at r2
                refine ⟨sd_s5 ls x2.toNat G, s55, p55, w55, sd_tx_cg t (fun b j q => ?_), (sd_s5_88 (by omega)).trans r1, r2⟩
                rw [e55, pz_una (by omega), z48.2 b j (by unfold pq_Pw; omega)]
              exact L58 _ _ _ (by first | assumption | rfl) hS (by first | omega | assumption) (by first | omega | assumption) (by first | omega | assumption) (by first | omega | assumption)
    refine hgo (fun p => Nat.beq p 2 || Nat.beq p 58) 35 0 _ [] M ?_
    exact L2 _ _ _ _ (Nat.lt_succ_self _) hS (by first | omega | assumption | exact fun ls l1 F hT hF hP hW => ⟨F, hF, hP, hW, hT, rfl, rfl⟩) (by first | omega | assumption | exact fun ls l1 F hT hF hP hW => ⟨F, hF, hP, hW, hT, rfl, rfl⟩)
theorem v3_X1_payForBridges {fr lo i : Nat} {own : String} (h1 : 4 + 1 ≤ fr) (h2 : 8 + (4 + 11) + 97 ≤ lo) (h3 : .methodLink own i yX1_payForBridges ∈ lw_tbl) : pz_cV fr lo own i k3_X1_payForBridges :=
  pz_cVk (maxL := 4) (fr' := 4) (lo' := 97) 1 1 h3_X1_payForBridges rfl ⟨by decide +kernel, by decide +kernel, by decide +kernel⟩ ⟨(pz_mt 642 (by decide +kernel)), (pz_mt 640 (by decide +kernel)), (pz_mt 641 (by decide +kernel)), (pz_mt 7 (by decide +kernel))⟩ (Or.inl ⟨TX1, 2, rfl⟩) (fun a M _ h => by
    have h : (match (generalizing := false) a with | [.inr (.inr (1, d)), .inr (.inr (0, c))] => pz_ic M | _ => False) := h
    split at h
    · exact ⟨_, _, rfl⟩
    · exact h.elim) h1 h2 h3
