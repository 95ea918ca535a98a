noncomputable def k3_X1_doPlanned : pz_C := (3, 0, fun a M => (match a with | [.inr (.inr (1, d)), .inr (.inr (0, c)), .inl i] => pz_ic M | _ => False), fun a M r M' => (match a, r with | [.inr (.inr (1, d)), .inr (.inr (0, c)), .inl i], none => (sd_dd M M' c (fun l1 _ => 0 ≤ i ∧ i < (l1.length : Int)) (fun tr ls l1 F => sd_doe tr ls F (l1.getD i.toNat []))) ∧ pq_pr (pq_Pd c) M M' | _, _ => False))
noncomputable abbrev ct3_X1_doPlanned : List (Bool × Nat × pz_C) := [(true, 103, k_X6_cell), (true, 131, k3_X1_canAsk), (true, 135, k3_X1_askFor), (true, 139, k3_X0_canBridge), (true, 142, k3_X1_putBridge), (true, 145, k3_X1_canHandOver), (true, 149, k3_X1_handOver), (true, 110, k3_X1_canGetReady), (true, 117, k3_X1_getReady)]
set_option maxRecDepth 100000 in
set_option maxHeartbeats 4000000 in
theorem h3_X1_doPlanned : pz_H yX1_doPlanned cX1_doPlanned 6 none k3_X1_doPlanned 5 122 := by
  refine pz_mk (own := RX1) (tb := t_X1_doPlanned) (fl := pz_flf fl_RX1) (ci := fun _ => none) (ct := pz_ctf ct3_X1_doPlanned) (rz := false) (pz_pfc_RX1 yX1_doPlanned rfl) rfl t_X1_doPlanned_ok (pz_flk fl_RX1_ok) (fun i v h => by cases h) ?_ ?_ (rfl) ?_ ?_
  · exact fun i k' h => pz_ctk (l := ct3_X1_doPlanned) (P := fun b i k => b = true → pz_cV 5 122 RX1 i k) (List.forall_mem_cons.mpr ⟨(fun _ => v_X6_cell (by decide) (by decide) pz_wq575), List.forall_mem_cons.mpr ⟨(fun _ => v3_X1_canAsk (by decide) (by decide) pz_wq583), List.forall_mem_cons.mpr ⟨(fun _ => v3_X1_askFor (by decide) (by decide) pz_wq584), List.forall_mem_cons.mpr ⟨(fun _ => v3_X0_canBridge (by decide) (by decide) pz_wq585), List.forall_mem_cons.mpr ⟨(fun _ => v3_X1_putBridge (by decide) (by decide) pz_wq586), List.forall_mem_cons.mpr ⟨(fun _ => v3_X1_canHandOver (by decide) (by decide) pz_wq587), List.forall_mem_cons.mpr ⟨(fun _ => v3_X1_handOver (by decide) (by decide) pz_wq588), List.forall_mem_cons.mpr ⟨(fun _ => v3_X1_canGetReady (by decide) (by decide) pz_wq589), List.forall_mem_cons.mpr ⟨(fun _ => v3_X1_getReady (by decide) (by decide) pz_wq590), fun _ h => absurd h List.not_mem_nil⟩⟩⟩⟩⟩⟩⟩⟩⟩) true i k' h rfl
  · exact fun i k' h => pz_ctk (l := ct3_X1_doPlanned) (P := fun b i k => b = false → (pz_cS 5 122 RX1 i k ∨ (k = pz_kac ∧ 1 ≤ 5 ∧ 60 ≤ 122 ∧ Cond.methodLink RX1 i arraycopyName ∈ pz_tbl))) (List.forall_mem_cons.mpr ⟨((fun z => by cases z)), List.forall_mem_cons.mpr ⟨((fun z => by cases z)), List.forall_mem_cons.mpr ⟨((fun z => by cases z)), List.forall_mem_cons.mpr ⟨((fun z => by cases z)), List.forall_mem_cons.mpr ⟨((fun z => by cases z)), List.forall_mem_cons.mpr ⟨((fun z => by cases z)), List.forall_mem_cons.mpr ⟨((fun z => by cases z)), List.forall_mem_cons.mpr ⟨((fun z => by cases z)), List.forall_mem_cons.mpr ⟨((fun z => by cases z)), fun _ h => absurd h List.not_mem_nil⟩⟩⟩⟩⟩⟩⟩⟩⟩) false i k' h rfl
  · intro a M hlen hpre
    obtain ⟨d, c, i, rfl, hpre⟩ : ∃ d c i, a = [.inr (.inr (1, d)), .inr (.inr (0, c)), .inl i] ∧ (pz_ic M) := by
      have hpre : (match (generalizing := false) a with | [.inr (.inr (1, d)), .inr (.inr (0, c)), .inl i] => pz_ic M | _ => False) := hpre
      split at hpre
      · exact ⟨_, _, _, rfl, hpre⟩
      · exact hpre.elim
    exact Nat.le_of_ble_eq_true rfl
  · intro a M hlen hcan hM hpre Ok hgo
    obtain ⟨d, c, i, rfl, hpre⟩ : ∃ d c i, a = [.inr (.inr (1, d)), .inr (.inr (0, c)), .inl i] ∧ (pz_ic M) := by
      have hpre : (match (generalizing := false) a with | [.inr (.inr (1, d)), .inr (.inr (0, c)), .inl i] => pz_ic M | _ => False) := hpre
      split at hpre
      · exact ⟨_, _, _, rfl, hpre⟩
      · exact hpre.elim
    obtain ⟨k_d, hc_d⟩ := pz_tlm hcan
    have k_d : pz_kd d = 1 ∧ d < 231 := k_d
    have R_d := pz_kd1 k_d.1
    subst R_d
    obtain ⟨k_c, hc_c⟩ := pz_tlm hc_d
    have k_c : pz_kd c = 0 ∧ c < 231 := k_c
    have R_c := pz_kd0 k_c.1
    obtain ⟨k_i, hc_i⟩ := pz_tlm hc_c
    have l_i : -2147483648 ≤ i := k_i.1
    have u_i : i ≤ 2147483647 := k_i.2
    have hI : pz_ic M := hpre
    have hI0 := hI
    have hS : pq_pr (pq_Pd c) M M := pq_pr.rf
    refine hgo (fun _ => false) 76 0 _ [] M ?_
    intro r1 e1 k1
    have R1 := pz_kd10 k1
    intro r4 e4 k4
    have R4 := pz_kd6 k4
    have L4 : r4 = 13 := by rw [e4, e1]; rfl
    refine And.intro (hI) ?_
    intro v9 M9 a9 b9 q9
    obtain ⟨q9, z9⟩ := q9
    subst z9
    rw [L4] at q9
    intro r14 e14 k14
    have R14 := pz_kd10 k14
    intro r17 e17 k17
    have R17 := pz_kd6 k17
    have L17 : r17 = 13 := by rw [e17, e14]; rfl
    refine And.intro (hI) ?_
    intro v22 M22 a22 b22 q22
    obtain ⟨q22, z22⟩ := q22
    subst z22
    rw [L17] at q22
    intro r28 e28 k28
    have R28 := pz_kd10 k28
    intro r31 e31 k31
    have R31 := pz_kd6 k31
    have L31 : r31 = 13 := by rw [e31, e28]; rfl
    refine And.intro (hI) ?_
    intro v36 M36 a36 b36 q36
    obtain ⟨q36, z36⟩ := q36
    subst z36
    rw [L31] at q36
    intro r42 e42 k42
    have R42 := pz_kd10 k42
    intro r45 e45 k45
    have R45 := pz_kd6 k45
    have L45 : r45 = 13 := by rw [e45, e42]; rfl
    refine And.intro (hI) ?_
    intro v50 M50 a50 b50 q50
    obtain ⟨q50, z50⟩ := q50
    subst z50
    rw [L45] at q50
    refine And.intro ?_ ?_
    · skip
      refine And.intro (fun h53 => ?_) ?_
      · skip
        refine And.intro (hI) ?_
        intro v85 M85 a85 b85 q85
        obtain ⟨q85, z85⟩ := q85
        subst z85
        refine And.intro (fun h88 => ?_) (fun h88 => ?_)
        · skip
          refine And.intro rfl ?_
          refine ⟨fun ls l1 F hT hF hP hW hp => ?_, hS⟩
          have C9 := sd_cel hT hp ⟨by decide, by decide⟩ q9
          have C22 := sd_cel hT hp ⟨by decide, by decide⟩ q22
          have C36 := sd_cel hT hp ⟨by decide, by decide⟩ q36
          have C50 := sd_cel hT hp ⟨by decide, by decide⟩ q50
          obtain ⟨R0, R1, R2, R3, R4, R5⟩ := sd_row (r := i.toNat) hT (by first | decide | omega)
          have C9 : v9 = (l1.getD i.toNat []).getD 2 0 := C9
          have C22 : v22 = (l1.getD i.toNat []).getD 3 0 := C22
          have C36 : v36 = (l1.getD i.toNat []).getD 4 0 := C36
          have C50 : v50 = (l1.getD i.toNat []).getD 1 0 := C50
          dsimp only
          unfold sd_doe
          rw [← C9, ← C22, ← C36, ← C50]
          rw [← C9] at R2
          rw [← C22] at R3
          rw [← C36] at R4 R5
          rw [← C50] at R1 R5
          first
            | (rw [if_pos (by first | decide | omega)]
               have a := q85.2 F hF hW
               first
                 | (have a := a.mp (by first | decide | omega)
                    rw [if_pos a.2.2]
                    have z := q96 ls l1 F hT hF hP hW a
                    exact ⟨z.2.1, z.2.2.1, z.2.2.2⟩)
                 | (rw [if_neg (fun y => absurd (a.mpr ⟨R2, ⟨R5 (by first | decide | omega), R4.2⟩, y⟩) (by first | decide | omega))]
                    exact ⟨hF, hP, hW⟩))
            | (rw [if_neg (by first | decide | omega), if_pos (by first | decide | omega)]
               have a := q105.2 F hF hW
               first
                 | (have a := a.mp (by first | decide | omega)
                    rw [if_pos a.2]
                    exact q114 ls l1 F hT hF hP hW a)
                 | (rw [if_neg (fun y => absurd (a.mpr ⟨R2, y⟩) (by first | decide | omega))]
                    exact ⟨hF, hP, hW⟩))
            | (rw [if_neg (by first | decide | omega), if_neg (by first | decide | omega), if_pos (by first | decide | omega)]
               have a := q127.2 F hF hW
               first
                 | (have a := a.mp (by first | decide | omega)
                    rw [if_pos a.2.2.2]
                    exact q140 ls l1 F hT hF hP hW a)
                 | (rw [if_neg (fun y => absurd (a.mpr ⟨R2, R3, ⟨R5 (by first | decide | omega), R4.2⟩, y⟩) (by first | decide | omega))]
                    exact ⟨hF, hP, hW⟩))
            | (rw [if_neg (by first | decide | omega), if_neg (by first | decide | omega), if_neg (by first | decide | omega)]
               have a := q149.2 F hF hW
               first
                 | (have a := a.mp (by first | decide | omega)
                    rw [if_pos a.2]
                    exact q158 ls l1 F hT hF hP hW ⟨R2, by have := a.2.1; omega⟩)
                 | (rw [if_neg (fun y => absurd (a.mpr ⟨R2, y⟩) (by first | decide | omega))]
                    exact ⟨hF, hP, hW⟩))
        · skip
          refine And.intro (hI) ?_
          intro v96 M96 a96 b96 q96
          obtain ⟨q96, z96⟩ := q96
          have hS : pq_pr (pq_Pd c) M M96 := hS.tr z96
          have hI : pz_ic M96 := hS.1 hI0
          refine And.intro rfl ?_
          refine ⟨fun ls l1 F hT hF hP hW hp => ?_, hS⟩
          have C9 := sd_cel hT hp ⟨by decide, by decide⟩ q9
          have C22 := sd_cel hT hp ⟨by decide, by decide⟩ q22
          have C36 := sd_cel hT hp ⟨by decide, by decide⟩ q36
          have C50 := sd_cel hT hp ⟨by decide, by decide⟩ q50
          obtain ⟨R0, R1, R2, R3, R4, R5⟩ := sd_row (r := i.toNat) hT (by first | decide | omega)
          have C9 : v9 = (l1.getD i.toNat []).getD 2 0 := C9
          have C22 : v22 = (l1.getD i.toNat []).getD 3 0 := C22
          have C36 : v36 = (l1.getD i.toNat []).getD 4 0 := C36
          have C50 : v50 = (l1.getD i.toNat []).getD 1 0 := C50
          dsimp only
          unfold sd_doe
          rw [← C9, ← C22, ← C36, ← C50]
          rw [← C9] at R2
          rw [← C22] at R3
          rw [← C36] at R4 R5
          rw [← C50] at R1 R5
          first
            | (rw [if_pos (by first | decide | omega)]
               have a := q85.2 F hF hW
               first
                 | (have a := a.mp (by first | decide | omega)
                    rw [if_pos a.2.2]
                    have z := q96 ls l1 F hT hF hP hW a
                    exact ⟨z.2.1, z.2.2.1, z.2.2.2⟩)
                 | (rw [if_neg (fun y => absurd (a.mpr ⟨R2, ⟨R5 (by first | decide | omega), R4.2⟩, y⟩) (by first | decide | omega))]
                    exact ⟨hF, hP, hW⟩))
            | (rw [if_neg (by first | decide | omega), if_pos (by first | decide | omega)]
               have a := q105.2 F hF hW
               first
                 | (have a := a.mp (by first | decide | omega)
                    rw [if_pos a.2]
                    exact q114 ls l1 F hT hF hP hW a)
                 | (rw [if_neg (fun y => absurd (a.mpr ⟨R2, y⟩) (by first | decide | omega))]
                    exact ⟨hF, hP, hW⟩))
            | (rw [if_neg (by first | decide | omega), if_neg (by first | decide | omega), if_pos (by first | decide | omega)]
               have a := q127.2 F hF hW
               first
                 | (have a := a.mp (by first | decide | omega)
                    rw [if_pos a.2.2.2]
                    exact q140 ls l1 F hT hF hP hW a)
                 | (rw [if_neg (fun y => absurd (a.mpr ⟨R2, R3, ⟨R5 (by first | decide | omega), R4.2⟩, y⟩) (by first | decide | omega))]
                    exact ⟨hF, hP, hW⟩))
            | (rw [if_neg (by first | decide | omega), if_neg (by first | decide | omega), if_neg (by first | decide | omega)]
               have a := q149.2 F hF hW
               first
                 | (have a := a.mp (by first | decide | omega)
                    rw [if_pos a.2]
                    exact q158 ls l1 F hT hF hP hW ⟨R2, by have := a.2.1; omega⟩)
                 | (rw [if_neg (fun y => absurd (a.mpr ⟨R2, y⟩) (by first | decide | omega))]
                    exact ⟨hF, hP, hW⟩))
      refine And.intro (fun h53 => ?_) ?_
      · skip
        refine And.intro (hI) ?_
        intro v105 M105 a105 b105 q105
        obtain ⟨q105, z105⟩ := q105
        subst z105
        refine And.intro (fun h108 => ?_) (fun h108 => ?_)
        · skip
          refine And.intro rfl ?_
          refine ⟨fun ls l1 F hT hF hP hW hp => ?_, hS⟩
          have C9 := sd_cel hT hp ⟨by decide, by decide⟩ q9
          have C22 := sd_cel hT hp ⟨by decide, by decide⟩ q22
          have C36 := sd_cel hT hp ⟨by decide, by decide⟩ q36
          have C50 := sd_cel hT hp ⟨by decide, by decide⟩ q50
          obtain ⟨R0, R1, R2, R3, R4, R5⟩ := sd_row (r := i.toNat) hT (by first | decide | omega)
          have C9 : v9 = (l1.getD i.toNat []).getD 2 0 := C9
          have C22 : v22 = (l1.getD i.toNat []).getD 3 0 := C22
          have C36 : v36 = (l1.getD i.toNat []).getD 4 0 := C36
          have C50 : v50 = (l1.getD i.toNat []).getD 1 0 := C50
          dsimp only
          unfold sd_doe
          rw [← C9, ← C22, ← C36, ← C50]
          rw [← C9] at R2
          rw [← C22] at R3
          rw [← C36] at R4 R5
          rw [← C50] at R1 R5
          first
            | (rw [if_pos (by first | decide | omega)]
               have a := q85.2 F hF hW
               first
                 | (have a := a.mp (by first | decide | omega)
                    rw [if_pos a.2.2]
                    have z := q96 ls l1 F hT hF hP hW a
                    exact ⟨z.2.1, z.2.2.1, z.2.2.2⟩)
                 | (rw [if_neg (fun y => absurd (a.mpr ⟨R2, ⟨R5 (by first | decide | omega), R4.2⟩, y⟩) (by first | decide | omega))]
                    exact ⟨hF, hP, hW⟩))
            | (rw [if_neg (by first | decide | omega), if_pos (by first | decide | omega)]
               have a := q105.2 F hF hW
               first
                 | (have a := a.mp (by first | decide | omega)
                    rw [if_pos a.2]
                    exact q114 ls l1 F hT hF hP hW a)
                 | (rw [if_neg (fun y => absurd (a.mpr ⟨R2, y⟩) (by first | decide | omega))]
                    exact ⟨hF, hP, hW⟩))
            | (rw [if_neg (by first | decide | omega), if_neg (by first | decide | omega), if_pos (by first | decide | omega)]
               have a := q127.2 F hF hW
               first
                 | (have a := a.mp (by first | decide | omega)
                    rw [if_pos a.2.2.2]
                    exact q140 ls l1 F hT hF hP hW a)
                 | (rw [if_neg (fun y => absurd (a.mpr ⟨R2, R3, ⟨R5 (by first | decide | omega), R4.2⟩, y⟩) (by first | decide | omega))]
                    exact ⟨hF, hP, hW⟩))
            | (rw [if_neg (by first | decide | omega), if_neg (by first | decide | omega), if_neg (by first | decide | omega)]
               have a := q149.2 F hF hW
               first
                 | (have a := a.mp (by first | decide | omega)
                    rw [if_pos a.2]
                    exact q158 ls l1 F hT hF hP hW ⟨R2, by have := a.2.1; omega⟩)
                 | (rw [if_neg (fun y => absurd (a.mpr ⟨R2, y⟩) (by first | decide | omega))]
                    exact ⟨hF, hP, hW⟩))
        · skip
          refine And.intro (hI) ?_
          intro M114 q114
          obtain ⟨q114, z114⟩ := q114
          have hS : pq_pr (pq_Pd c) M M114 := hS.tr z114
          have hI : pz_ic M114 := hS.1 hI0
          refine And.intro rfl ?_
          refine ⟨fun ls l1 F hT hF hP hW hp => ?_, hS⟩
          have C9 := sd_cel hT hp ⟨by decide, by decide⟩ q9
          have C22 := sd_cel hT hp ⟨by decide, by decide⟩ q22
          have C36 := sd_cel hT hp ⟨by decide, by decide⟩ q36
          have C50 := sd_cel hT hp ⟨by decide, by decide⟩ q50
          obtain ⟨R0, R1, R2, R3, R4, R5⟩ := sd_row (r := i.toNat) hT (by first | decide | omega)
          have C9 : v9 = (l1.getD i.toNat []).getD 2 0 := C9
          have C22 : v22 = (l1.getD i.toNat []).getD 3 0 := C22
          have C36 : v36 = (l1.getD i.toNat []).getD 4 0 := C36
          have C50 : v50 = (l1.getD i.toNat []).getD 1 0 := C50
          dsimp only
          unfold sd_doe
          rw [← C9, ← C22, ← C36, ← C50]
          rw [← C9] at R2
          rw [← C22] at R3
          rw [← C36] at R4 R5
          rw [← C50] at R1 R5
          first
            | (rw [if_pos (by first | decide | omega)]
               have a := q85.2 F hF hW
               first
                 | (have a := a.mp (by first | decide | omega)
                    rw [if_pos a.2.2]
                    have z := q96 ls l1 F hT hF hP hW a
                    exact ⟨z.2.1, z.2.2.1, z.2.2.2⟩)
                 | (rw [if_neg (fun y => absurd (a.mpr ⟨R2, ⟨R5 (by first | decide | omega), R4.2⟩, y⟩) (by first | decide | omega))]
                    exact ⟨hF, hP, hW⟩))
            | (rw [if_neg (by first | decide | omega), if_pos (by first | decide | omega)]
               have a := q105.2 F hF hW
               first
                 | (have a := a.mp (by first | decide | omega)
                    rw [if_pos a.2]
                    exact q114 ls l1 F hT hF hP hW a)
                 | (rw [if_neg (fun y => absurd (a.mpr ⟨R2, y⟩) (by first | decide | omega))]
                    exact ⟨hF, hP, hW⟩))
            | (rw [if_neg (by first | decide | omega), if_neg (by first | decide | omega), if_pos (by first | decide | omega)]
               have a := q127.2 F hF hW
               first
                 | (have a := a.mp (by first | decide | omega)
                    rw [if_pos a.2.2.2]
                    exact q140 ls l1 F hT hF hP hW a)
                 | (rw [if_neg (fun y => absurd (a.mpr ⟨R2, R3, ⟨R5 (by first | decide | omega), R4.2⟩, y⟩) (by first | decide | omega))]
                    exact ⟨hF, hP, hW⟩))
            | (rw [if_neg (by first | decide | omega), if_neg (by first | decide | omega), if_neg (by first | decide | omega)]
               have a := q149.2 F hF hW
               first
                 | (have a := a.mp (by first | decide | omega)
                    rw [if_pos a.2]
                    exact q158 ls l1 F hT hF hP hW ⟨R2, by have := a.2.1; omega⟩)
                 | (rw [if_neg (fun y => absurd (a.mpr ⟨R2, y⟩) (by first | decide | omega))]
                    exact ⟨hF, hP, hW⟩))
      refine And.intro (fun h53 => ?_) ?_
      · skip
        refine And.intro (hI) ?_
        intro v127 M127 a127 b127 q127
        obtain ⟨q127, z127⟩ := q127
        subst z127
        refine And.intro (fun h130 => ?_) (fun h130 => ?_)
        · skip
          refine And.intro rfl ?_
          refine ⟨fun ls l1 F hT hF hP hW hp => ?_, hS⟩
          have C9 := sd_cel hT hp ⟨by decide, by decide⟩ q9
          have C22 := sd_cel hT hp ⟨by decide, by decide⟩ q22
          have C36 := sd_cel hT hp ⟨by decide, by decide⟩ q36
          have C50 := sd_cel hT hp ⟨by decide, by decide⟩ q50
          obtain ⟨R0, R1, R2, R3, R4, R5⟩ := sd_row (r := i.toNat) hT (by first | decide | omega)
          have C9 : v9 = (l1.getD i.toNat []).getD 2 0 := C9
          have C22 : v22 = (l1.getD i.toNat []).getD 3 0 := C22
          have C36 : v36 = (l1.getD i.toNat []).getD 4 0 := C36
          have C50 : v50 = (l1.getD i.toNat []).getD 1 0 := C50
          dsimp only
          unfold sd_doe
          rw [← C9, ← C22, ← C36, ← C50]
          rw [← C9] at R2
          rw [← C22] at R3
          rw [← C36] at R4 R5
          rw [← C50] at R1 R5
          first
            | (rw [if_pos (by first | decide | omega)]
               have a := q85.2 F hF hW
               first
                 | (have a := a.mp (by first | decide | omega)
                    rw [if_pos a.2.2]
                    have z := q96 ls l1 F hT hF hP hW a
                    exact ⟨z.2.1, z.2.2.1, z.2.2.2⟩)
                 | (rw [if_neg (fun y => absurd (a.mpr ⟨R2, ⟨R5 (by first | decide | omega), R4.2⟩, y⟩) (by first | decide | omega))]
                    exact ⟨hF, hP, hW⟩))
            | (rw [if_neg (by first | decide | omega), if_pos (by first | decide | omega)]
               have a := q105.2 F hF hW
               first
                 | (have a := a.mp (by first | decide | omega)
                    rw [if_pos a.2]
                    exact q114 ls l1 F hT hF hP hW a)
                 | (rw [if_neg (fun y => absurd (a.mpr ⟨R2, y⟩) (by first | decide | omega))]
                    exact ⟨hF, hP, hW⟩))
            | (rw [if_neg (by first | decide | omega), if_neg (by first | decide | omega), if_pos (by first | decide | omega)]
               have a := q127.2 F hF hW
               first
                 | (have a := a.mp (by first | decide | omega)
                    rw [if_pos a.2.2.2]
                    exact q140 ls l1 F hT hF hP hW a)
                 | (rw [if_neg (fun y => absurd (a.mpr ⟨R2, R3, ⟨R5 (by first | decide | omega), R4.2⟩, y⟩) (by first | decide | omega))]
                    exact ⟨hF, hP, hW⟩))
            | (rw [if_neg (by first | decide | omega), if_neg (by first | decide | omega), if_neg (by first | decide | omega)]
               have a := q149.2 F hF hW
               first
                 | (have a := a.mp (by first | decide | omega)
                    rw [if_pos a.2]
                    exact q158 ls l1 F hT hF hP hW ⟨R2, by have := a.2.1; omega⟩)
                 | (rw [if_neg (fun y => absurd (a.mpr ⟨R2, y⟩) (by first | decide | omega))]
                    exact ⟨hF, hP, hW⟩))
        · skip
          refine And.intro (hI) ?_
          intro M140 q140
          obtain ⟨q140, z140⟩ := q140
          have hS : pq_pr (pq_Pd c) M M140 := hS.tr z140
          have hI : pz_ic M140 := hS.1 hI0
          refine And.intro rfl ?_
          refine ⟨fun ls l1 F hT hF hP hW hp => ?_, hS⟩
          have C9 := sd_cel hT hp ⟨by decide, by decide⟩ q9
          have C22 := sd_cel hT hp ⟨by decide, by decide⟩ q22
          have C36 := sd_cel hT hp ⟨by decide, by decide⟩ q36
          have C50 := sd_cel hT hp ⟨by decide, by decide⟩ q50
          obtain ⟨R0, R1, R2, R3, R4, R5⟩ := sd_row (r := i.toNat) hT (by first | decide | omega)
          have C9 : v9 = (l1.getD i.toNat []).getD 2 0 := C9
          have C22 : v22 = (l1.getD i.toNat []).getD 3 0 := C22
          have C36 : v36 = (l1.getD i.toNat []).getD 4 0 := C36
          have C50 : v50 = (l1.getD i.toNat []).getD 1 0 := C50
          dsimp only
          unfold sd_doe
          rw [← C9, ← C22, ← C36, ← C50]
          rw [← C9] at R2
          rw [← C22] at R3
          rw [← C36] at R4 R5
          rw [← C50] at R1 R5
          first
            | (rw [if_pos (by first | decide | omega)]
               have a := q85.2 F hF hW
               first
                 | (have a := a.mp (by first | decide | omega)
                    rw [if_pos a.2.2]
                    have z := q96 ls l1 F hT hF hP hW a
                    exact ⟨z.2.1, z.2.2.1, z.2.2.2⟩)
                 | (rw [if_neg (fun y => absurd (a.mpr ⟨R2, ⟨R5 (by first | decide | omega), R4.2⟩, y⟩) (by first | decide | omega))]
                    exact ⟨hF, hP, hW⟩))
            | (rw [if_neg (by first | decide | omega), if_pos (by first | decide | omega)]
               have a := q105.2 F hF hW
               first
                 | (have a := a.mp (by first | decide | omega)
                    rw [if_pos a.2]
                    exact q114 ls l1 F hT hF hP hW a)
                 | (rw [if_neg (fun y => absurd (a.mpr ⟨R2, y⟩) (by first | decide | omega))]
                    exact ⟨hF, hP, hW⟩))
            | (rw [if_neg (by first | decide | omega), if_neg (by first | decide | omega), if_pos (by first | decide | omega)]
               have a := q127.2 F hF hW
               first
                 | (have a := a.mp (by first | decide | omega)
                    rw [if_pos a.2.2.2]
                    exact q140 ls l1 F hT hF hP hW a)
                 | (rw [if_neg (fun y => absurd (a.mpr ⟨R2, R3, ⟨R5 (by first | decide | omega), R4.2⟩, y⟩) (by first | decide | omega))]
                    exact ⟨hF, hP, hW⟩))
            | (rw [if_neg (by first | decide | omega), if_neg (by first | decide | omega), if_neg (by first | decide | omega)]
               have a := q149.2 F hF hW
               first
                 | (have a := a.mp (by first | decide | omega)
                    rw [if_pos a.2]
                    exact q158 ls l1 F hT hF hP hW ⟨R2, by have := a.2.1; omega⟩)
                 | (rw [if_neg (fun y => absurd (a.mpr ⟨R2, y⟩) (by first | decide | omega))]
                    exact ⟨hF, hP, hW⟩))
      exact True.intro
    · intro h53
      refine And.intro (hI) ?_
      intro v149 M149 a149 b149 q149
      obtain ⟨q149, z149⟩ := q149
      subst z149
      refine And.intro (fun h152 => ?_) (fun h152 => ?_)
      · skip
        refine And.intro rfl ?_
        refine ⟨fun ls l1 F hT hF hP hW hp => ?_, hS⟩
        have C9 := sd_cel hT hp ⟨by decide, by decide⟩ q9
        have C22 := sd_cel hT hp ⟨by decide, by decide⟩ q22
        have C36 := sd_cel hT hp ⟨by decide, by decide⟩ q36
        have C50 := sd_cel hT hp ⟨by decide, by decide⟩ q50
        obtain ⟨R0, R1, R2, R3, R4, R5⟩ := sd_row (r := i.toNat) hT (by first | decide | omega)
        have C9 : v9 = (l1.getD i.toNat []).getD 2 0 := C9
        have C22 : v22 = (l1.getD i.toNat []).getD 3 0 := C22
        have C36 : v36 = (l1.getD i.toNat []).getD 4 0 := C36
        have C50 : v50 = (l1.getD i.toNat []).getD 1 0 := C50
        dsimp only
        unfold sd_doe
        rw [← C9, ← C22, ← C36, ← C50]
        rw [← C9] at R2
        rw [← C22] at R3
        rw [← C36] at R4 R5
        rw [← C50] at R1 R5
        first
          | (rw [if_pos (by first | decide | omega)]
             have a := q85.2 F hF hW
             first
               | (have a := a.mp (by first | decide | omega)
                  rw [if_pos a.2.2]
                  have z := q96 ls l1 F hT hF hP hW a
                  exact ⟨z.2.1, z.2.2.1, z.2.2.2⟩)
               | (rw [if_neg (fun y => absurd (a.mpr ⟨R2, ⟨R5 (by first | decide | omega), R4.2⟩, y⟩) (by first | decide | omega))]
                  exact ⟨hF, hP, hW⟩))
          | (rw [if_neg (by first | decide | omega), if_pos (by first | decide | omega)]
             have a := q105.2 F hF hW
             first
               | (have a := a.mp (by first | decide | omega)
                  rw [if_pos a.2]
                  exact q114 ls l1 F hT hF hP hW a)
               | (rw [if_neg (fun y => absurd (a.mpr ⟨R2, y⟩) (by first | decide | omega))]
                  exact ⟨hF, hP, hW⟩))
          | (rw [if_neg (by first | decide | omega), if_neg (by first | decide | omega), if_pos (by first | decide | omega)]
             have a := q127.2 F hF hW
             first
               | (have a := a.mp (by first | decide | omega)
                  rw [if_pos a.2.2.2]
                  exact q140 ls l1 F hT hF hP hW a)
               | (rw [if_neg (fun y => absurd (a.mpr ⟨R2, R3, ⟨R5 (by first | decide | omega), R4.2⟩, y⟩) (by first | decide | omega))]
                  exact ⟨hF, hP, hW⟩))
          | (rw [if_neg (by first | decide | omega), if_neg (by first | decide | omega), if_neg (by first | decide | omega)]
             have a := q149.2 F hF hW
             first
               | (have a := a.mp (by first | decide | omega)
                  rw [if_pos a.2]
                  exact q158 ls l1 F hT hF hP hW ⟨R2, by have := a.2.1; omega⟩)
               | (rw [if_neg (fun y => absurd (a.mpr ⟨R2, y⟩) (by first | decide | omega))]
                  exact ⟨hF, hP, hW⟩))
      · skip
        refine And.intro (hI) ?_
        intro M158 q158
        obtain ⟨q158, z158⟩ := q158
        have hS : pq_pr (pq_Pd c) M M158 := hS.tr z158
        have hI : pz_ic M158 := hS.1 hI0
        refine And.intro rfl ?_
        refine ⟨fun ls l1 F hT hF hP hW hp => ?_, hS⟩
        have C9 := sd_cel hT hp ⟨by decide, by decide⟩ q9
        have C22 := sd_cel hT hp ⟨by decide, by decide⟩ q22
        have C36 := sd_cel hT hp ⟨by decide, by decide⟩ q36
        have C50 := sd_cel hT hp ⟨by decide, by decide⟩ q50
        obtain ⟨R0, R1, R2, R3, R4, R5⟩ := sd_row (r := i.toNat) hT (by first | decide | omega)
        have C9 : v9 = (l1.getD i.toNat []).getD 2 0 := C9
        have C22 : v22 = (l1.getD i.toNat []).getD 3 0 := C22
        have C36 : v36 = (l1.getD i.toNat []).getD 4 0 := C36
        have C50 : v50 = (l1.getD i.toNat []).getD 1 0 := C50
        dsimp only
        unfold sd_doe
        rw [← C9, ← C22, ← C36, ← C50]
        rw [← C9] at R2
        rw [← C22] at R3
        rw [← C36] at R4 R5
        rw [← C50] at R1 R5
        first
          | (rw [if_pos (by first | decide | omega)]
             have a := q85.2 F hF hW
             first
               | (have a := a.mp (by first | decide | omega)
                  rw [if_pos a.2.2]
                  have z := q96 ls l1 F hT hF hP hW a
                  exact ⟨z.2.1, z.2.2.1, z.2.2.2⟩)
               | (rw [if_neg (fun y => absurd (a.mpr ⟨R2, ⟨R5 (by first | decide | omega), R4.2⟩, y⟩) (by first | decide | omega))]
                  exact ⟨hF, hP, hW⟩))
          | (rw [if_neg (by first | decide | omega), if_pos (by first | decide | omega)]
             have a := q105.2 F hF hW
             first
               | (have a := a.mp (by first | decide | omega)
                  rw [if_pos a.2]
                  exact q114 ls l1 F hT hF hP hW a)
               | (rw [if_neg (fun y => absurd (a.mpr ⟨R2, y⟩) (by first | decide | omega))]
                  exact ⟨hF, hP, hW⟩))
          | (rw [if_neg (by first | decide | omega), if_neg (by first | decide | omega), if_pos (by first | decide | omega)]
             have a := q127.2 F hF hW
             first
               | (have a := a.mp (by first | decide | omega)
                  rw [if_pos a.2.2.2]
                  exact q140 ls l1 F hT hF hP hW a)
               | (rw [if_neg (fun y => absurd (a.mpr ⟨R2, R3, ⟨R5 (by first | decide | omega), R4.2⟩, y⟩) (by first | decide | omega))]
                  exact ⟨hF, hP, hW⟩))
          | (rw [if_neg (by first | decide | omega), if_neg (by first | decide | omega), if_neg (by first | decide | omega)]
             have a := q149.2 F hF hW
             first
               | (have a := a.mp (by first | decide | omega)
                  rw [if_pos a.2]
                  exact q158 ls l1 F hT hF hP hW ⟨R2, by have := a.2.1; omega⟩)
               | (rw [if_neg (fun y => absurd (a.mpr ⟨R2, y⟩) (by first | decide | omega))]
                  exact ⟨hF, hP, hW⟩))
theorem v3_X1_doPlanned {fr lo i : Nat} {own : String} (h1 : 5 + 1 ≤ fr) (h2 : 8 + (6 + 11) + 122 ≤ lo) (h3 : .methodLink own i yX1_doPlanned ∈ lw_tbl) : pz_cV fr lo own i k3_X1_doPlanned :=
  pz_cVk (maxL := 6) (fr' := 5) (lo' := 122) 2 1 h3_X1_doPlanned rfl ⟨(pz_nhc_RX1 yX1_doPlanned rfl).1, (pz_nhc_RX1 yX1_doPlanned rfl).2, pz_ds34⟩ ⟨pz_wq582, pz_wq580, pz_wq581, pz_wq7⟩ (Or.inl ⟨TX1, 2, rfl⟩) (fun a M _ h => by
    have h : (match (generalizing := false) a with | [.inr (.inr (1, d)), .inr (.inr (0, c)), .inl i] => pz_ic M | _ => False) := h
    split at h
    · exact ⟨_, _, rfl⟩
    · exact h.elim) h1 h2 h3
noncomputable def k3_X1_canMove : pz_C := (3, 1, fun a M => (match a with | [.inr (.inr (0, c)), .inl i, .inl j] => pz_ic M ∧ j ≤ 1000 | _ => False), fun a M r M' => (match a, r with | [.inr (.inr (0, c)), .inl i, .inl j], some (.inl v) => ((v = 0 ∨ v = 1) ∧ sd_q M c (fun F => 0 ≤ i → i ≤ j → j < F 88 → v = if sd_cm F j.toNat (j + 1 - i).toNat i.toNat = true then 1 else 0)) ∧ M = M' | _, _ => False))
noncomputable abbrev ct3_X1_canMove : List (Bool × Nat × pz_C) := [(true, 39, k_X0_at), (true, 172, k3_X0_canPay)]
set_option maxRecDepth 100000 in
set_option maxHeartbeats 4000000 in
theorem h3_X1_canMove : pz_H yX1_canMove cX1_canMove 5 (some .boolean) k3_X1_canMove 3 64 := by
  refine pz_mk (own := RX1) (tb := t_X1_canMove) (fl := pz_flf fl_RX1) (ci := fun _ => none) (ct := pz_ctf ct3_X1_canMove) (rz := true) (pz_pfc_RX1 yX1_canMove rfl) rfl t_X1_canMove_ok (pz_flk fl_RX1_ok) (fun i v h => by cases h) ?_ ?_ (Or.inr ⟨rfl, rfl⟩) ?_ ?_
  · exact fun i k' h => pz_ctk (l := ct3_X1_canMove) (P := fun b i k => b = true → pz_cV 3 64 RX1 i k) (List.forall_mem_cons.mpr ⟨(fun _ => v_X0_at (by decide) (by decide) pz_wq457), List.forall_mem_cons.mpr ⟨(fun _ => v3_X0_canPay (by decide) (by decide) pz_wq626), fun _ h => absurd h List.not_mem_nil⟩⟩) true i k' h rfl
  · exact fun i k' h => pz_ctk (l := ct3_X1_canMove) (P := fun b i k => b = false → (pz_cS 3 64 RX1 i k ∨ (k = pz_kac ∧ 1 ≤ 3 ∧ 60 ≤ 64 ∧ Cond.methodLink RX1 i arraycopyName ∈ pz_tbl))) (List.forall_mem_cons.mpr ⟨((fun z => by cases z)), List.forall_mem_cons.mpr ⟨((fun z => by cases z)), fun _ h => absurd h List.not_mem_nil⟩⟩) false i k' h rfl
  · intro a M hlen hpre
    obtain ⟨c, i, j, rfl, hpre⟩ : ∃ c i j, a = [.inr (.inr (0, c)), .inl i, .inl j] ∧ (pz_ic M ∧ j ≤ 1000) := by
      have hpre : (match (generalizing := false) a with | [.inr (.inr (0, c)), .inl i, .inl j] => pz_ic M ∧ j ≤ 1000 | _ => False) := hpre
      split at hpre
      · exact ⟨_, _, _, rfl, hpre⟩
      · exact hpre.elim
    exact Nat.le_of_ble_eq_true rfl
  · intro a M hlen hcan hM hpre Ok hgo
    obtain ⟨c, i, j, rfl, hpre⟩ : ∃ c i j, a = [.inr (.inr (0, c)), .inl i, .inl j] ∧ (pz_ic M ∧ j ≤ 1000) := by
      have hpre : (match (generalizing := false) a with | [.inr (.inr (0, c)), .inl i, .inl j] => pz_ic M ∧ j ≤ 1000 | _ => False) := hpre
      split at hpre
      · exact ⟨_, _, _, rfl, hpre⟩
      · exact hpre.elim
    obtain ⟨k_c, hc_c⟩ := pz_tlm hcan
    have k_c : pz_kd c = 0 ∧ c < 231 := k_c
    have R_c := pz_kd0 k_c.1
    obtain ⟨k_i, hc_i⟩ := pz_tlm hc_c
    have l_i : -2147483648 ≤ i := k_i.1
    have u_i : i ≤ 2147483647 := k_i.2
    obtain ⟨k_j, hc_j⟩ := pz_tlm hc_i
    have l_j : -2147483648 ≤ j := k_j.1
    have u_j : j ≤ 2147483647 := k_j.2
    have hI : pz_ic M := hpre.1
    have L2 : ∀ (fu : Nat) (x3 : Int) (d4 : Option pz_V), (j + 1 - x3).toNat < fu → (-2147483648 ≤ x3) → (sd_q M c (fun F => 0 ≤ i → i ≤ j → j < F 88 → (i ≤ x3 ∧ x3 ≤ j + 1 ∧ sd_cm F j.toNat (j + 1 - i).toNat i.toNat = sd_cm F j.toNat (j + 1 - x3).toNat (x3).toNat))) → Ok 2 [some (.inr (.inr (0, c))), some (.inl i), some (.inl j), some (.inl x3), d4] [] M := by
      intro fu
      induction fu with
      | zero => exact fun _ _ hn => absurd hn (Nat.not_lt_zero _)
      | succ fu ih2 =>
        intro x3 d4 hn2 g2_0 g2_1
        refine hgo (fun p => Nat.beq p 2) 30 2 _ _ _ ?_
        refine And.intro (fun h4 => ?_) (fun h4 => ?_)
        · skip
          refine And.intro (by first | decide | omega) ?_
          refine And.intro rfl ?_
          refine ⟨⟨Or.inr rfl, fun F hF hW h0 h1 h2 => ?_⟩, rfl⟩
          obtain ⟨g1, g2, g3⟩ := g2_1 F hF hW h0 h1 h2
          rw [g3, show (j + 1 - x3).toNat = 0 by omega]
          exact (if_pos rfl).symm
        · skip
          refine And.intro (True.intro) ?_
          intro r9 M9 k9 q9
          have R9 := pz_kd5 k9
          obtain ⟨q9, z9⟩ := q9
          subst z9
          have A9 := pz_at_lk R_c q9
          have B9 : 89 + 13 * (c - 71) ≤ r9 ∧ r9 ≤ 89 + 13 * (c - 71) + 12 := by
            rw [A9]
            exact pz_lnk_c
          intro v16 e16 a16 b16
          refine And.intro (fun h19 => ?_) (fun h19 => ?_)
          · skip
            refine And.intro (by first | decide | omega) ?_
            refine And.intro rfl ?_
            refine ⟨⟨Or.inl rfl, fun F hF hW h0 h1 h2 => ?_⟩, rfl⟩
            obtain ⟨g1, g2, g3⟩ := g2_1 F hF hW h0 h1 h2
            have hm := hW.1
            have b := sd_at R_c hF hW (show 0 ≤ x3 by omega) (by first | decide | omega) A9
            have b4 := b.2.2.2.2.1
            have b5 := b.2.2.2.2.2.1
            have P := hW.2.2 x3.toNat (by first | decide | omega)
            unfold sd_lw at P
            rw [g3, show (j + 1 - x3).toNat = (j + 1 - x3).toNat - 1 + 1 by omega]
            refine (if_neg ?_).symm
            show ¬ ((decide (F (40 + x3.toNat) = 1 ∧ F (52 + x3.toNat) ≠ 1 ∧ (x3.toNat < j.toNat → sd_py F x3.toNat)) && _) = true)
            rw [decide_eq_false (fun z => (by
              first
                | omega
                | (have y := (q37.2 F hF hW (by first | decide | omega) (by first | decide | omega)).mpr (z.2.2 (by first | decide | omega))
                   omega)))]
            exact Bool.false_ne_true
          · skip
            intro v24 e24 a24 b24
            refine And.intro (fun h27 => ?_) (fun h27 => ?_)
            · skip
              refine And.intro (by first | decide | omega) ?_
              refine And.intro rfl ?_
              refine ⟨⟨Or.inl rfl, fun F hF hW h0 h1 h2 => ?_⟩, rfl⟩
              obtain ⟨g1, g2, g3⟩ := g2_1 F hF hW h0 h1 h2
              have hm := hW.1
              have b := sd_at R_c hF hW (show 0 ≤ x3 by omega) (by first | decide | omega) A9
              have b4 := b.2.2.2.2.1
              have b5 := b.2.2.2.2.2.1
              have P := hW.2.2 x3.toNat (by first | decide | omega)
              unfold sd_lw at P
              rw [g3, show (j + 1 - x3).toNat = (j + 1 - x3).toNat - 1 + 1 by omega]
              refine (if_neg ?_).symm
              show ¬ ((decide (F (40 + x3.toNat) = 1 ∧ F (52 + x3.toNat) ≠ 1 ∧ (x3.toNat < j.toNat → sd_py F x3.toNat)) && _) = true)
              rw [decide_eq_false (fun z => (by
                first
                  | omega
                  | (have y := (q37.2 F hF hW (by first | decide | omega) (by first | decide | omega)).mpr (z.2.2 (by first | decide | omega))
                     omega)))]
              exact Bool.false_ne_true
            · skip
              refine And.intro (fun h32 => ?_) (fun h32 => ?_)
              · skip
                intro v45 e45 a45 b45
                rw [pz_wi (by first | decide | omega) (by first | decide | omega)] at e45
                have G45 : sd_q M c (fun F => 0 ≤ i → i ≤ j → j < F 88 → (i ≤ v45 ∧ v45 ≤ j + 1 ∧ sd_cm F j.toNat (j + 1 - i).toNat i.toNat = sd_cm F j.toNat (j + 1 - v45).toNat (v45).toNat)) := fun F hF hW h0 h1 h2 => by
                  obtain ⟨g1, g2, g3⟩ := g2_1 F hF hW h0 h1 h2
                  have hm := hW.1
                  refine ⟨by omega, by omega, g3.trans ?_⟩
                  have b := sd_at R_c hF hW (show 0 ≤ x3 by omega) (by first | decide | omega) A9
                  have b4 := b.2.2.2.2.1
                  have b5 := b.2.2.2.2.2.1
                  have P := hW.2.2 x3.toNat (by first | decide | omega)
                  unfold sd_lw at P
                  rw [show (j + 1 - x3).toNat = (j + 1 - v45).toNat + 1 by omega, show v45.toNat = x3.toNat + 1 by omega]
                  show (decide (F (40 + x3.toNat) = 1 ∧ F (52 + x3.toNat) ≠ 1 ∧ (x3.toNat < j.toNat → sd_py F x3.toNat)) && _) = _
                  rw [decide_eq_true ⟨by omega, by omega, fun z => (by
                    first
                      | exact absurd z (by first | decide | omega)
                      | exact (q37.2 F hF hW (by first | decide | omega) (by first | decide | omega)).mp (by first | decide | omega))⟩]
                  rfl
                exact ih2 _ _ (by first | decide | omega) (by first | omega | assumption | exact fun F hF hW h0 h1 h2 => ⟨by omega, by omega, rfl⟩) (by first | omega | assumption | exact fun F hF hW h0 h1 h2 => ⟨by omega, by omega, rfl⟩)
              · skip
                refine And.intro (hI) ?_
                intro v37 M37 a37 b37 q37
                obtain ⟨q37, z37⟩ := q37
                subst z37
                refine And.intro (fun h40 => ?_) (fun h40 => ?_)
                · skip
                  intro v45 e45 a45 b45
                  rw [pz_wi (by first | decide | omega) (by first | decide | omega)] at e45
                  have G45 : sd_q M c (fun F => 0 ≤ i → i ≤ j → j < F 88 → (i ≤ v45 ∧ v45 ≤ j + 1 ∧ sd_cm F j.toNat (j + 1 - i).toNat i.toNat = sd_cm F j.toNat (j + 1 - v45).toNat (v45).toNat)) := fun F hF hW h0 h1 h2 => by
                    obtain ⟨g1, g2, g3⟩ := g2_1 F hF hW h0 h1 h2
                    have hm := hW.1
                    refine ⟨by omega, by omega, g3.trans ?_⟩
                    have b := sd_at R_c hF hW (show 0 ≤ x3 by omega) (by first | decide | omega) A9
                    have b4 := b.2.2.2.2.1
                    have b5 := b.2.2.2.2.2.1
                    have P := hW.2.2 x3.toNat (by first | decide | omega)
                    unfold sd_lw at P
                    rw [show (j + 1 - x3).toNat = (j + 1 - v45).toNat + 1 by omega, show v45.toNat = x3.toNat + 1 by omega]
                    show (decide (F (40 + x3.toNat) = 1 ∧ F (52 + x3.toNat) ≠ 1 ∧ (x3.toNat < j.toNat → sd_py F x3.toNat)) && _) = _
                    rw [decide_eq_true ⟨by omega, by omega, fun z => (by
                      first
                        | exact absurd z (by first | decide | omega)
                        | exact (q37.2 F hF hW (by first | decide | omega) (by first | decide | omega)).mp (by first | decide | omega))⟩]
                    rfl
                  exact ih2 _ _ (by first | decide | omega) (by first | omega | assumption | exact fun F hF hW h0 h1 h2 => ⟨by omega, by omega, rfl⟩) (by first | omega | assumption | exact fun F hF hW h0 h1 h2 => ⟨by omega, by omega, rfl⟩)
                · skip
                  refine And.intro (by first | decide | omega) ?_
                  refine And.intro rfl ?_
                  refine ⟨⟨Or.inl rfl, fun F hF hW h0 h1 h2 => ?_⟩, rfl⟩
                  obtain ⟨g1, g2, g3⟩ := g2_1 F hF hW h0 h1 h2
                  have hm := hW.1
                  have b := sd_at R_c hF hW (show 0 ≤ x3 by omega) (by first | decide | omega) A9
                  have b4 := b.2.2.2.2.1
                  have b5 := b.2.2.2.2.2.1
                  have P := hW.2.2 x3.toNat (by first | decide | omega)
                  unfold sd_lw at P
                  rw [g3, show (j + 1 - x3).toNat = (j + 1 - x3).toNat - 1 + 1 by omega]
                  refine (if_neg ?_).symm
                  show ¬ ((decide (F (40 + x3.toNat) = 1 ∧ F (52 + x3.toNat) ≠ 1 ∧ (x3.toNat < j.toNat → sd_py F x3.toNat)) && _) = true)
                  rw [decide_eq_false (fun z => (by
                    first
                      | omega
                      | (have y := (q37.2 F hF hW (by first | decide | omega) (by first | decide | omega)).mpr (z.2.2 (by first | decide | omega))
                         omega)))]
                  exact Bool.false_ne_true
    refine hgo (fun p => Nat.beq p 2) 30 0 _ [] M ?_
    exact L2 _ _ _ (Nat.lt_succ_self _) (by first | omega | assumption | exact fun F hF hW h0 h1 h2 => ⟨by omega, by omega, rfl⟩) (by first | omega | assumption | exact fun F hF hW h0 h1 h2 => ⟨by omega, by omega, rfl⟩)
theorem s3_X1_canMove {fr lo i : Nat} {own : String} (h1 : 3 + 1 ≤ fr) (h2 : 8 + (5 + 11) + 64 ≤ lo) (h3 : .methodLink own i yX1_canMove ∈ lw_tbl ∨ (own = RX1 ∧ i = 35 ∧ yX1_canMove = yX11_within)) : pz_cS fr lo own i k3_X1_canMove := pz_cSk (maxL := 5) (fr' := 3) (lo' := 64) 3 h3_X1_canMove rfl ⟨(pz_nhc_RX1 yX1_canMove rfl).1, (pz_nhc_RX1 yX1_canMove rfl).2, pz_ds37⟩ ⟨pz_wq625, pz_wq624, pz_wq7⟩ h1 h2 h3
noncomputable def k3_X1_payForBridges : pz_C := (2, 0, fun a M => (match a with | [.inr (.inr (1, d)), .inr (.inr (0, c))] => pz_ic M | _ => False), fun a M r M' => (match a, r with | [.inr (.inr (1, d)), .inr (.inr (0, c))], none => (sd_dd M M' c (fun _ _ => True) (fun _ ls _ F => sd_p5 ls (sd_n F) 0 F)) ∧ pq_pr (pq_Pd c) M M' | _, _ => False))
noncomputable abbrev ct3_X1_payForBridges : List (Bool × Nat × pz_C) := [(true, 39, k_X0_at), (true, 43, k_X5_isIn), (true, 64, k3_X3_tells), (false, 73, k_J9_max_7cf53)]
set_option maxRecDepth 100000 in
set_option maxHeartbeats 4000000 in
theorem h3_X1_payForBridges : pz_H yX1_payForBridges cX1_payForBridges 4 none k3_X1_payForBridges 4 97 := by
  refine pz_mk (own := RX1) (tb := t_X1_payForBridges) (fl := pz_flf fl_RX1) (ci := fun _ => none) (ct := pz_ctf ct3_X1_payForBridges) (rz := false) (pz_pfc_RX1 yX1_payForBridges rfl) rfl t_X1_payForBridges_ok (pz_flk fl_RX1_ok) (fun i v h => by cases h) ?_ ?_ (rfl) ?_ ?_
  · exact fun i k' h => pz_ctk (l := ct3_X1_payForBridges) (P := fun b i k => b = true → pz_cV 4 97 RX1 i k) (List.forall_mem_cons.mpr ⟨(fun _ => v_X0_at (by decide) (by decide) pz_wq457), List.forall_mem_cons.mpr ⟨(fun _ => v_X5_isIn (by decide) (by decide) pz_wq458), List.forall_mem_cons.mpr ⟨(fun _ => v3_X3_tells (by decide) (by decide) pz_wq482), List.forall_mem_cons.mpr ⟨((fun z => by cases z)), fun _ h => absurd h List.not_mem_nil⟩⟩⟩⟩) true i k' h rfl
  · exact fun i k' h => pz_ctk (l := ct3_X1_payForBridges) (P := fun b i k => b = false → (pz_cS 4 97 RX1 i k ∨ (k = pz_kac ∧ 1 ≤ 4 ∧ 60 ≤ 97 ∧ Cond.methodLink RX1 i arraycopyName ∈ pz_tbl))) (List.forall_mem_cons.mpr ⟨((fun z => by cases z)), List.forall_mem_cons.mpr ⟨((fun z => by cases z)), List.forall_mem_cons.mpr ⟨((fun z => by cases z)), List.forall_mem_cons.mpr ⟨(fun _ => Or.inl (s_J9_max_7cf53 (by decide) (by decide) (Or.inl pz_wq516))), fun _ h => absurd h List.not_mem_nil⟩⟩⟩⟩) false i k' h rfl
  · intro a M hlen hpre
    obtain ⟨d, c, rfl, hpre⟩ : ∃ d c, a = [.inr (.inr (1, d)), .inr (.inr (0, c))] ∧ (pz_ic M) := by
      have hpre : (match (generalizing := false) a with | [.inr (.inr (1, d)), .inr (.inr (0, c))] => pz_ic M | _ => False) := hpre
      split at hpre
      · exact ⟨_, _, rfl, hpre⟩
      · exact hpre.elim
    exact Nat.le_of_ble_eq_true rfl
  · intro a M hlen hcan hM hpre Ok hgo
    obtain ⟨d, c, rfl, hpre⟩ : ∃ d c, a = [.inr (.inr (1, d)), .inr (.inr (0, c))] ∧ (pz_ic M) := by
      have hpre : (match (generalizing := false) a with | [.inr (.inr (1, d)), .inr (.inr (0, c))] => pz_ic M | _ => False) := hpre
      split at hpre
      · exact ⟨_, _, rfl, hpre⟩
      · exact hpre.elim
    obtain ⟨k_d, hc_d⟩ := pz_tlm hcan
    have k_d : pz_kd d = 1 ∧ d < 231 := k_d
    have R_d := pz_kd1 k_d.1
    subst R_d
    obtain ⟨k_c, hc_c⟩ := pz_tlm hc_d
    have k_c : pz_kd c = 0 ∧ c < 231 := k_c
    have R_c := pz_kd0 k_c.1
    have hI : pz_ic M := hpre
    have hI0 := hI
    have hS : pq_pr (pq_Pd c) M M := pq_pr.rf
    have L2 : ∀ (fu : Nat) (x2 : Int) (d3 : Option pz_V) (N2 : pz_M), (12 - x2).toNat < fu → (pq_pr (pq_Pd c) M N2) → (0 ≤ x2) → (sd_lp M N2 c (fun ls _ F G => G 88 = F 88 ∧ sd_p5 ls (sd_n F - x2.toNat) x2.toNat G = sd_p5 ls (sd_n F) 0 F)) → Ok 2 [some (.inr (.inr (1, 2))), some (.inr (.inr (0, c))), some (.inl x2), d3] [] N2 := by
      intro fu
      induction fu with
      | zero => exact fun _ _ _ hn => absurd hn (Nat.not_lt_zero _)
      | succ fu ih2 =>
        intro x2 d3 N2 hn2 hS g2_1 g2_2
        have hI : pz_ic N2 := hS.1 hI0
        have L58 : ∀ (x2 : Int) (r3 : Nat) (N58 : pz_M), (pz_kd r3 = 5) → (pq_pr (pq_Pd c) M N58) → (0 ≤ x2) → (x2 < 12) → ((12 - x2).toNat < fu + 1) → (sd_lp M N58 c (fun ls _ F G => G 88 = F 88 ∧ sd_p5 ls (sd_n F - (x2.toNat + 1)) (x2.toNat + 1) G = sd_p5 ls (sd_n F) 0 F)) → Ok 58 [some (.inr (.inr (1, 2))), some (.inr (.inr (0, c))), some (.inl x2), some (.inr (.inr (5, r3)))] [] N58 := by
          intro x2 r3 N58 K_r3 hS g58_2 g58_3 g58_4 g58_5
          have R_r3 := pz_kd5 K_r3
          have hI : pz_ic N58 := hS.1 hI0
          refine hgo (fun p => Nat.beq p 2 || Nat.beq p 58) 35 58 _ _ _ ?_
          intro v58 e58 a58 b58
          rw [pz_wi (by first | decide | omega) (by first | decide | omega)] at e58
          have G2 : sd_lp M N58 c (fun ls _ F G => G 88 = F 88 ∧ sd_p5 ls (sd_n F - v58.toNat) v58.toNat G = sd_p5 ls (sd_n F) 0 F) := by
            rw [show v58.toNat = x2.toNat + 1 by omega]
            exact g58_5
          exact ih2 _ _ _ (by first | decide | omega) hS (by first | omega | assumption | exact fun ls l1 F hT hF hP hW => ⟨F, hF, hP, hW, hT, rfl, rfl⟩) (by first | omega | assumption | exact fun ls l1 F hT hF hP hW => ⟨F, hF, hP, hW, hT, rfl, rfl⟩)
        refine hgo (fun p => Nat.beq p 2 || Nat.beq p 58) 35 2 _ _ _ ?_
        intro v4 e4 a4 b4
        have I4 := hI.1 c (by first | decide | omega) (by first | decide | omega)
        refine And.intro (fun h7 => ?_) (fun h7 => ?_)
        · skip
          refine And.intro rfl ?_
          refine ⟨fun ls l1 F hT hF hP hW _ => ?_, hS⟩
          obtain ⟨G, s, p, w, t, r1, r2⟩ := g2_2 ls l1 F hT hF hP hW
          have n9 := s.1
          rw [show sd_n F - x2.toNat = 0 by have := sd_n_i hW; omega] at r2
          have r2 : G = sd_p5 ls (sd_n F) 0 F := r2
          subst r2
          exact ⟨s, p, w⟩
        · skip
          refine And.intro (True.intro) ?_
          intro r12 M12 k12 q12
          have R12 := pz_kd5 k12
          obtain ⟨q12, z12⟩ := q12
          subst z12
          have A12 := pz_at_lk R_c q12
          have B12 : 89 + 13 * (c - 71) ≤ r12 ∧ r12 ≤ 89 + 13 * (c - 71) + 12 := by
            rw [A12]
            exact pz_lnk_c
          intro v17 e17 a17 b17
          refine And.intro (fun h20 => ?_) (fun h20 => ?_)
          · skip
            have G58 : sd_lp M N2 c (fun ls _ F G => G 88 = F 88 ∧ sd_p5 ls (sd_n F - (x2.toNat + 1)) (x2.toNat + 1) G = sd_p5 ls (sd_n F) 0 F) := fun ls l1 F hT hF hP hW => by
              obtain ⟨G, s, p, w, t, r1, r2⟩ := g2_2 ls l1 F hT hF hP hW
              have n9 := s.1
              have b6 := (sd_at R_c s w g2_1 (by first | decide | omega) A12).2.2.2.2.2.2.1
              rw [show sd_n F - x2.toNat = (sd_n F - (x2.toNat + 1)) + 1 by have := sd_n_i hW; omega] at r2
              refine ⟨G, s, p, w, t, r1, (show _ = _ from ?_)⟩
              rw [← r2]
              show _ = sd_p5 ls _ (x2.toNat + 1) (sd_s5 ls x2.toNat G)
              rw [show sd_s5 ls x2.toNat G = G from if_neg (by first | decide | omega)]
            exact L58 _ _ _ (by first | assumption | rfl) hS (by first | omega | assumption) (by first | omega | assumption) (by first | omega | assumption) (by first | omega | assumption)
          · skip
            skip
            refine And.intro (True.intro) ?_
            intro v24 M24 a24 b24 q24
            obtain ⟨q24, z24⟩ := q24
            subst z24
            refine And.intro (fun h27 => ?_) (fun h27 => ?_)
            · skip
              have G58 : sd_lp M N2 c (fun ls _ F G => G 88 = F 88 ∧ sd_p5 ls (sd_n F - (x2.toNat + 1)) (x2.toNat + 1) G = sd_p5 ls (sd_n F) 0 F) := fun ls l1 F hT hF hP hW => by
                obtain ⟨G, s, p, w, t, r1, r2⟩ := g2_2 ls l1 F hT hF hP hW
                have n9 := s.1
                have b := sd_at R_c s w g2_1 (by first | decide | omega) A12
                have b5 := b.2.2.2.2.2.1
                have b7 := b.2.2.2.2.2.2.2
                have P := w.2.2 x2.toNat (by first | decide | omega)
                unfold sd_lw at P
                rw [b5, b7] at q24
                rw [show sd_n F - x2.toNat = (sd_n F - (x2.toNat + 1)) + 1 by have := sd_n_i hW; omega] at r2
                refine ⟨G, s, p, w, t, r1, (show _ = _ from ?_)⟩
                rw [← r2]
                show _ = sd_p5 ls _ (x2.toNat + 1) (sd_s5 ls x2.toNat G)
                rw [show sd_s5 ls x2.toNat G = G from if_neg (fun z => (by
                  have z2 := z.2
                  unfold sd_in at z2
                  split at q24 <;> omega))]
              exact L58 _ _ _ (by first | assumption | rfl) hS (by first | omega | assumption) (by first | omega | assumption) (by first | omega | assumption) (by first | omega | assumption)
            · skip
              skip
              intro v35 e35 a35 b35
              intro r39 e39 k39
              have R39 := pz_kd10 k39
              intro r42 e42 k42
              have R42 := pz_kd3 k42
              have L42 : r42 = 10 := by rw [e42, e39]; rfl
              refine And.intro (hI) ?_
              intro v48 M48 a48 b48 q48
              obtain ⟨q48, z48⟩ := q48
              have hS : pq_pr (pq_Pd c) M M48 := hS.tr z48.dw
              have hI : pz_ic M48 := hS.1 hI0
              rw [L42] at q48
              intro v51 e51 a51 b51
              refine And.intro (True.intro) ?_
              intro v52 M52 a52 b52 q52
              obtain ⟨q52, z52⟩ := q52
              subst z52
              intro M55 e55
              have hS : pq_pr (pq_Pd c) M M55 := by
                rw [e55]
                exact pq_pr_u hS (by unfold pq_Pd pq_Pw pz_lb; first | decide | omega) (by unfold pz_iok; first | decide | omega)
              have hI : pz_ic M55 := hS.1 hI0
              have G58 : sd_lp M M55 c (fun ls _ F G => G 88 = F 88 ∧ sd_p5 ls (sd_n F - (x2.toNat + 1)) (x2.toNat + 1) G = sd_p5 ls (sd_n F) 0 F) := fun ls l1 F hT hF hP hW => by
                obtain ⟨G, s, p, w, t, r1, r2⟩ := g2_2 ls l1 F hT hF hP hW
                have n9 := s.1
                have b := sd_at R_c s w g2_1 (by first | decide | omega) A12
                have b1 := b.2.1
                have b5 := b.2.2.2.2.2.1
                have b6 := b.2.2.2.2.2.2.1
                have b7 := b.2.2.2.2.2.2.2
                have P := w.2.2 x2.toNat (by first | decide | omega)
                have P1 := P.2.1
                unfold sd_lw at P
                rw [b5, b7] at q24
                have T := sd_tel3 R_c t s w g2_1 (by first | decide | omega) q48.2
                have Tb := sd_co_b (ls := ls) (F := G) (i := x2.toNat)
                have s48 := sd_se_d R_c s w z48
                have p48 := sd_pg_d p z48
                have V52 : v52 = max (-9999) (G (16 + x2.toNat) - sd_co ls G x2.toNat) := by
                  rw [q52, e51, e35, b1, T, pz_wi (by first | decide | omega) (by first | decide | omega)]
                rw [V52] at e55
                obtain ⟨s55, p55, w55, t55⟩ := sd_put (f := 1) (i := x2) (v := max (-9999) (G (16 + x2.toNat) - sd_co ls G x2.toNat)) R_c s48 p48 w g2_1 (by first | decide | omega) A12 (by decide) e55 (sd_okv_1 (by first | decide | omega))
                have K : sd_s5 ls x2.toNat G = sd_u G (sd_fo 1 + x2.toNat) (max (-9999) (G (16 + x2.toNat) - sd_co ls G x2.toNat)) := if_pos ⟨by omega, by unfold sd_in; split at q24 <;> omega⟩
                rw [← K] at s55 p55 w55
                rw [show sd_n F - x2.toNat = (sd_n F - (x2.toNat + 1)) + 1 by have := sd_n_i hW; omega] at r2
                refine ⟨sd_s5 ls x2.toNat G, s55, p55, w55, sd_tx_cg t (fun b j q => ?_), (sd_s5_88 (by first | decide | omega)).trans r1, r2⟩
                rw [e55, pz_una (by first | decide | omega), z48.2 b j (by unfold pq_Pw; first | decide | omega)]
              exact L58 _ _ _ (by first | assumption | rfl) hS (by first | omega | assumption) (by first | omega | assumption) (by first | omega | assumption) (by first | omega | assumption)
    refine hgo (fun p => Nat.beq p 2 || Nat.beq p 58) 35 0 _ [] M ?_
    exact L2 _ _ _ _ (Nat.lt_succ_self _) hS (by first | omega | assumption | exact fun ls l1 F hT hF hP hW => ⟨F, hF, hP, hW, hT, rfl, rfl⟩) (by first | omega | assumption | exact fun ls l1 F hT hF hP hW => ⟨F, hF, hP, hW, hT, rfl, rfl⟩)
theorem v3_X1_payForBridges {fr lo i : Nat} {own : String} (h1 : 4 + 1 ≤ fr) (h2 : 8 + (4 + 11) + 97 ≤ lo) (h3 : .methodLink own i yX1_payForBridges ∈ lw_tbl) : pz_cV fr lo own i k3_X1_payForBridges :=
  pz_cVk (maxL := 4) (fr' := 4) (lo' := 97) 1 1 h3_X1_payForBridges rfl ⟨(pz_nhc_RX1 yX1_payForBridges rfl).1, (pz_nhc_RX1 yX1_payForBridges rfl).2, pz_ds31⟩ ⟨pz_wq642, pz_wq640, pz_wq641, pz_wq7⟩ (Or.inl ⟨TX1, 2, rfl⟩) (fun a M _ h => by
    have h : (match (generalizing := false) a with | [.inr (.inr (1, d)), .inr (.inr (0, c))] => pz_ic M | _ => False) := h
    split at h
    · exact ⟨_, _, rfl⟩
    · exact h.elim) h1 h2 h3
noncomputable def k3_X0_bridgedOnes : pz_C := (1, 1, fun a M => (match a with | [.inr (.inr (0, c))] => pz_ic M | _ => False), fun a M r M' => (match a, r with | [.inr (.inr (0, c))], some (.inl v) => (sd_q M c (fun F => pz_zs v (sd_bn F))) ∧ M = M' | _, _ => False))
noncomputable abbrev ct3_X0_bridgedOnes : List (Bool × Nat × pz_C) := [(true, 48, k_X0_at)]
set_option maxRecDepth 100000 in
set_option maxHeartbeats 4000000 in
theorem h3_X0_bridgedOnes : pz_H yX0_bridgedOnes cX0_bridgedOnes 3 (some .int) k3_X0_bridgedOnes 1 21 := by
  refine pz_mk (own := RX0) (tb := t_X0_bridgedOnes) (fl := pz_flf fl_RX0) (ci := pz_cif ci_RX0) (ct := pz_ctf ct3_X0_bridgedOnes) (rz := false) (pz_pfc_RX0 yX0_bridgedOnes rfl) rfl t_X0_bridgedOnes_ok (pz_flk fl_RX0_ok) (pz_cik ci_RX0_ok) ?_ ?_ (Or.inl ⟨rfl, rfl⟩) ?_ ?_
  · exact fun i k' h => pz_ctk (l := ct3_X0_bridgedOnes) (P := fun b i k => b = true → pz_cV 1 21 RX0 i k) (List.forall_mem_cons.mpr ⟨(fun _ => v_X0_at (by decide) (by decide) pz_wq494), fun _ h => absurd h List.not_mem_nil⟩) true i k' h rfl
  · exact fun i k' h => pz_ctk (l := ct3_X0_bridgedOnes) (P := fun b i k => b = false → (pz_cS 1 21 RX0 i k ∨ (k = pz_kac ∧ 1 ≤ 1 ∧ 60 ≤ 21 ∧ Cond.methodLink RX0 i arraycopyName ∈ pz_tbl))) (List.forall_mem_cons.mpr ⟨((fun z => by cases z)), fun _ h => absurd h List.not_mem_nil⟩) false i k' h rfl
  · intro a M hlen hpre
    obtain ⟨c, rfl, hpre⟩ : ∃ c, a = [.inr (.inr (0, c))] ∧ (pz_ic M) := by
      have hpre : (match (generalizing := false) a with | [.inr (.inr (0, c))] => pz_ic M | _ => False) := hpre
      split at hpre
      · exact ⟨_, rfl, hpre⟩
      · exact hpre.elim
    exact Nat.le_of_ble_eq_true rfl
  · intro a M hlen hcan hM hpre Ok hgo
    obtain ⟨c, rfl, hpre⟩ : ∃ c, a = [.inr (.inr (0, c))] ∧ (pz_ic M) := by
      have hpre : (match (generalizing := false) a with | [.inr (.inr (0, c))] => pz_ic M | _ => False) := hpre
      split at hpre
      · exact ⟨_, rfl, hpre⟩
      · exact hpre.elim
    obtain ⟨k_c, hc_c⟩ := pz_tlm hcan
    have k_c : pz_kd c = 0 ∧ c < 231 := k_c
    have R_c := pz_kd0 k_c.1
    have hI : pz_ic M := hpre
    have L4 : ∀ (fu : Nat) (x1 : Int) (x2 : Int), (M c 3 - x2).toNat < fu → (0 ≤ x2) → (sd_q M c (fun F => x2 ≤ F 88 ∧ pz_bt x2 (sd_bn F) x1)) → Ok 4 [some (.inr (.inr (0, c))), some (.inl x1), some (.inl x2)] [] M := by
      intro fu
      induction fu with
      | zero => exact fun _ _ hn => absurd hn (Nat.not_lt_zero _)
      | succ fu ih4 =>
        intro x1 x2 hn4 g4_0 g4_1
        refine hgo (fun p => Nat.beq p 4) 27 4 _ _ _ ?_
        intro v6 e6 a6 b6
        have I6 := hI.1 c (by first | decide | omega) (by first | decide | omega)
        refine And.intro (fun h9 => ?_) (fun h9 => ?_)
        · skip
          refine And.intro rfl ?_
          refine ⟨fun F hF hW => ?_, rfl⟩
          obtain ⟨g1, g2⟩ := g4_1 F hF hW
          have hn := hF.1
          have hm := hW.1
          exact pz_bt_e g2 (sd_bn_e (by first | decide | omega) (by first | decide | omega))
        · skip
          refine And.intro (True.intro) ?_
          intro r15 M15 k15 q15
          have R15 := pz_kd5 k15
          obtain ⟨q15, z15⟩ := q15
          subst z15
          have A15 := pz_at_lk R_c q15
          have B15 : 89 + 13 * (c - 71) ≤ r15 ∧ r15 ≤ 89 + 13 * (c - 71) + 12 := by
            rw [A15]
            exact pz_lnk_c
          intro v18 e18 a18 b18
          refine And.intro (fun h21 => ?_) (fun h21 => ?_)
          · skip
            intro v31 e31 a31 b31
            intro v33 e33 a33 b33
            rw [pz_wi (by first | decide | omega) (by first | decide | omega)] at e33
            have G4 : sd_q M c (fun F => v33 ≤ F 88 ∧ pz_bt v33 (sd_bn F) v31) := fun F hF hW => by
              obtain ⟨g1, g2⟩ := g4_1 F hF hW
              have hn := hF.1
              have hm := hW.1
              have b := (sd_at R_c hF hW g4_0 (by first | decide | omega) A15).2.2.2.2.2.2.1
              have P := hW.2.2 x2.toNat (by first | decide | omega)
              unfold sd_lw at P
              refine ⟨by omega, pz_bt_s ⟨by omega, by omega⟩ e33 g2 ?_ e31⟩
              first
                | exact pz_bO_y ⟨by omega, by omega⟩ (decide_eq_true ⟨by omega, by omega⟩) e26
                | exact pz_bO_n (decide_eq_false (fun z => by omega))
            exact ih4 _ _ (by first | decide | omega) (by first | omega | assumption | exact fun F hF hW => ⟨hW.1.1, pz_bt_0⟩) (by first | omega | assumption | exact fun F hF hW => ⟨hW.1.1, pz_bt_0⟩)
          · skip
            intro v26 e26 a26 b26
            intro v31 e31 a31 b31
            intro v33 e33 a33 b33
            rw [pz_wi (by first | decide | omega) (by first | decide | omega)] at e33
            have G4 : sd_q M c (fun F => v33 ≤ F 88 ∧ pz_bt v33 (sd_bn F) v31) := fun F hF hW => by
              obtain ⟨g1, g2⟩ := g4_1 F hF hW
              have hn := hF.1
              have hm := hW.1
              have b := (sd_at R_c hF hW g4_0 (by first | decide | omega) A15).2.2.2.2.2.2.1
              have P := hW.2.2 x2.toNat (by first | decide | omega)
              unfold sd_lw at P
              refine ⟨by omega, pz_bt_s ⟨by omega, by omega⟩ e33 g2 ?_ e31⟩
              first
                | exact pz_bO_y ⟨by omega, by omega⟩ (decide_eq_true ⟨by omega, by omega⟩) e26
                | exact pz_bO_n (decide_eq_false (fun z => by omega))
            exact ih4 _ _ (by first | decide | omega) (by first | omega | assumption | exact fun F hF hW => ⟨hW.1.1, pz_bt_0⟩) (by first | omega | assumption | exact fun F hF hW => ⟨hW.1.1, pz_bt_0⟩)
    refine hgo (fun p => Nat.beq p 4) 27 0 _ [] M ?_
    exact L4 _ _ _ (Nat.lt_succ_self _) (by first | omega | assumption | exact fun F hF hW => ⟨hW.1.1, pz_bt_0⟩) (by first | omega | assumption | exact fun F hF hW => ⟨hW.1.1, pz_bt_0⟩)
theorem v3_X0_bridgedOnes {fr lo i : Nat} {own : String} (h1 : 1 + 1 ≤ fr) (h2 : 8 + (3 + 11) + 21 ≤ lo) (h3 : .methodLink own i yX0_bridgedOnes ∈ lw_tbl) : pz_cV fr lo own i k3_X0_bridgedOnes :=
  pz_cVk (maxL := 3) (fr' := 1) (lo' := 21) 0 0 h3_X0_bridgedOnes rfl ⟨(pz_nhc_RX0 yX0_bridgedOnes rfl).1, (pz_nhc_RX0 yX0_bridgedOnes rfl).2, pz_ds1⟩ ⟨pz_wq612, pz_wq610, pz_wq611, pz_wq2⟩ (Or.inl ⟨TX0, 8, rfl⟩) (fun a M _ h => by
    have h : (match (generalizing := false) a with | [.inr (.inr (0, c))] => pz_ic M | _ => False) := h
    split at h
    · exact ⟨_, _, rfl⟩
    · exact h.elim) h1 h2 h3
noncomputable def k3_X0_movedOnes : pz_C := (1, 1, fun a M => (match a with | [.inr (.inr (0, c))] => pz_ic M | _ => False), fun a M r M' => (match a, r with | [.inr (.inr (0, c))], some (.inl v) => (sd_q M c (fun F => pz_zs v (sd_vn F))) ∧ M = M' | _, _ => False))
noncomputable abbrev ct3_X0_movedOnes : List (Bool × Nat × pz_C) := [(true, 48, k_X0_at)]
set_option maxRecDepth 100000 in
set_option maxHeartbeats 4000000 in
theorem h3_X0_movedOnes : pz_H yX0_movedOnes cX0_movedOnes 3 (some .int) k3_X0_movedOnes 1 21 := by
  refine pz_mk (own := RX0) (tb := t_X0_movedOnes) (fl := pz_flf fl_RX0) (ci := pz_cif ci_RX0) (ct := pz_ctf ct3_X0_movedOnes) (rz := false) (pz_pfc_RX0 yX0_movedOnes rfl) rfl t_X0_movedOnes_ok (pz_flk fl_RX0_ok) (pz_cik ci_RX0_ok) ?_ ?_ (Or.inl ⟨rfl, rfl⟩) ?_ ?_
  · exact fun i k' h => pz_ctk (l := ct3_X0_movedOnes) (P := fun b i k => b = true → pz_cV 1 21 RX0 i k) (List.forall_mem_cons.mpr ⟨(fun _ => v_X0_at (by decide) (by decide) pz_wq494), fun _ h => absurd h List.not_mem_nil⟩) true i k' h rfl
  · exact fun i k' h => pz_ctk (l := ct3_X0_movedOnes) (P := fun b i k => b = false → (pz_cS 1 21 RX0 i k ∨ (k = pz_kac ∧ 1 ≤ 1 ∧ 60 ≤ 21 ∧ Cond.methodLink RX0 i arraycopyName ∈ pz_tbl))) (List.forall_mem_cons.mpr ⟨((fun z => by cases z)), fun _ h => absurd h List.not_mem_nil⟩) false i k' h rfl
  · intro a M hlen hpre
    obtain ⟨c, rfl, hpre⟩ : ∃ c, a = [.inr (.inr (0, c))] ∧ (pz_ic M) := by
      have hpre : (match (generalizing := false) a with | [.inr (.inr (0, c))] => pz_ic M | _ => False) := hpre
      split at hpre
      · exact ⟨_, rfl, hpre⟩
      · exact hpre.elim
    exact Nat.le_of_ble_eq_true rfl
  · intro a M hlen hcan hM hpre Ok hgo
    obtain ⟨c, rfl, hpre⟩ : ∃ c, a = [.inr (.inr (0, c))] ∧ (pz_ic M) := by
      have hpre : (match (generalizing := false) a with | [.inr (.inr (0, c))] => pz_ic M | _ => False) := hpre
      split at hpre
      · exact ⟨_, rfl, hpre⟩
      · exact hpre.elim
    obtain ⟨k_c, hc_c⟩ := pz_tlm hcan
    have k_c : pz_kd c = 0 ∧ c < 231 := k_c
    have R_c := pz_kd0 k_c.1
    have hI : pz_ic M := hpre
    have L4 : ∀ (fu : Nat) (x1 : Int) (x2 : Int), (M c 3 - x2).toNat < fu → (0 ≤ x2) → (sd_q M c (fun F => x2 ≤ F 88 ∧ pz_bt x2 (sd_vn F) x1)) → Ok 4 [some (.inr (.inr (0, c))), some (.inl x1), some (.inl x2)] [] M := by
      intro fu
      induction fu with
      | zero => exact fun _ _ hn => absurd hn (Nat.not_lt_zero _)
      | succ fu ih4 =>
        intro x1 x2 hn4 g4_0 g4_1
        refine hgo (fun p => Nat.beq p 4) 28 4 _ _ _ ?_
        intro v6 e6 a6 b6
        have I6 := hI.1 c (by first | decide | omega) (by first | decide | omega)
        refine And.intro (fun h9 => ?_) (fun h9 => ?_)
        · skip
          refine And.intro rfl ?_
          refine ⟨fun F hF hW => ?_, rfl⟩
          obtain ⟨g1, g2⟩ := g4_1 F hF hW
          have hn := hF.1
          have hm := hW.1
          exact pz_bt_e g2 (sd_vn_e (by first | decide | omega) (by first | decide | omega))
        · skip
          refine And.intro (True.intro) ?_
          intro r15 M15 k15 q15
          have R15 := pz_kd5 k15
          obtain ⟨q15, z15⟩ := q15
          subst z15
          have A15 := pz_at_lk R_c q15
          have B15 : 89 + 13 * (c - 71) ≤ r15 ∧ r15 ≤ 89 + 13 * (c - 71) + 12 := by
            rw [A15]
            exact pz_lnk_c
          intro v18 e18 a18 b18
          refine And.intro (fun h22 => ?_) (fun h22 => ?_)
          · skip
            intro v32 e32 a32 b32
            intro v34 e34 a34 b34
            rw [pz_wi (by first | decide | omega) (by first | decide | omega)] at e34
            have G4 : sd_q M c (fun F => v34 ≤ F 88 ∧ pz_bt v34 (sd_vn F) v32) := fun F hF hW => by
              obtain ⟨g1, g2⟩ := g4_1 F hF hW
              have hn := hF.1
              have hm := hW.1
              have b := (sd_at R_c hF hW g4_0 (by first | decide | omega) A15).2.2.2.2.2.2.2
              have P := hW.2.2 x2.toNat (by first | decide | omega)
              unfold sd_lw at P
              refine ⟨by omega, pz_bt_s ⟨by omega, by omega⟩ e34 g2 ?_ e32⟩
              first
                | exact pz_bO_y ⟨by omega, by omega⟩ (decide_eq_true ⟨by omega, by omega⟩) e27
                | exact pz_bO_n (decide_eq_false (fun z => by omega))
            exact ih4 _ _ (by first | decide | omega) (by first | omega | assumption | exact fun F hF hW => ⟨hW.1.1, pz_bt_0⟩) (by first | omega | assumption | exact fun F hF hW => ⟨hW.1.1, pz_bt_0⟩)
          · skip
            intro v27 e27 a27 b27
            intro v32 e32 a32 b32
            intro v34 e34 a34 b34
            rw [pz_wi (by first | decide | omega) (by first | decide | omega)] at e34
            have G4 : sd_q M c (fun F => v34 ≤ F 88 ∧ pz_bt v34 (sd_vn F) v32) := fun F hF hW => by
              obtain ⟨g1, g2⟩ := g4_1 F hF hW
              have hn := hF.1
              have hm := hW.1
              have b := (sd_at R_c hF hW g4_0 (by first | decide | omega) A15).2.2.2.2.2.2.2
              have P := hW.2.2 x2.toNat (by first | decide | omega)
              unfold sd_lw at P
              refine ⟨by omega, pz_bt_s ⟨by omega, by omega⟩ e34 g2 ?_ e32⟩
              first
                | exact pz_bO_y ⟨by omega, by omega⟩ (decide_eq_true ⟨by omega, by omega⟩) e27
                | exact pz_bO_n (decide_eq_false (fun z => by omega))
            exact ih4 _ _ (by first | decide | omega) (by first | omega | assumption | exact fun F hF hW => ⟨hW.1.1, pz_bt_0⟩) (by first | omega | assumption | exact fun F hF hW => ⟨hW.1.1, pz_bt_0⟩)
    refine hgo (fun p => Nat.beq p 4) 28 0 _ [] M ?_
    exact L4 _ _ _ (Nat.lt_succ_self _) (by first | omega | assumption | exact fun F hF hW => ⟨hW.1.1, pz_bt_0⟩) (by first | omega | assumption | exact fun F hF hW => ⟨hW.1.1, pz_bt_0⟩)
theorem v3_X0_movedOnes {fr lo i : Nat} {own : String} (h1 : 1 + 1 ≤ fr) (h2 : 8 + (3 + 11) + 21 ≤ lo) (h3 : .methodLink own i yX0_movedOnes ∈ lw_tbl) : pz_cV fr lo own i k3_X0_movedOnes :=
  pz_cVk (maxL := 3) (fr' := 1) (lo' := 21) 0 0 h3_X0_movedOnes rfl ⟨(pz_nhc_RX0 yX0_movedOnes rfl).1, (pz_nhc_RX0 yX0_movedOnes rfl).2, pz_ds1⟩ ⟨pz_wq874, pz_wq872, pz_wq873, pz_wq2⟩ (Or.inl ⟨TX0, 8, rfl⟩) (fun a M _ h => by
    have h : (match (generalizing := false) a with | [.inr (.inr (0, c))] => pz_ic M | _ => False) := h
    split at h
    · exact ⟨_, _, rfl⟩
    · exact h.elim) h1 h2 h3
noncomputable def k3_X0_parts : pz_C := (1, 1, fun a M => (match a with | [.inr (.inr (0, c))] => pz_ic M | _ => False), fun a M r M' => (match a, r with | [.inr (.inr (0, c))], some (.inl v) => (sd_q M c (fun F => v = if F 88 = 0 then 0 else 1 + pz_cnt (sd_bn F) 12)) ∧ M = M' | _, _ => False))
noncomputable abbrev ct3_X0_parts : List (Bool × Nat × pz_C) := [(true, 78, k3_X0_bridgedOnes), (false, 82, k_J6_bitCount_0f7a4)]
set_option maxRecDepth 100000 in
set_option maxHeartbeats 4000000 in
theorem h3_X0_parts : pz_H yX0_parts cX0_parts 1 (some .int) k3_X0_parts 2 43 := by
  refine pz_mk (own := RX0) (tb := t_X0_parts) (fl := pz_flf fl_RX0) (ci := pz_cif ci_RX0) (ct := pz_ctf ct3_X0_parts) (rz := false) (pz_pfc_RX0 yX0_parts rfl) rfl t_X0_parts_ok (pz_flk fl_RX0_ok) (pz_cik ci_RX0_ok) ?_ ?_ (Or.inl ⟨rfl, rfl⟩) ?_ ?_
  · exact fun i k' h => pz_ctk (l := ct3_X0_parts) (P := fun b i k => b = true → pz_cV 2 43 RX0 i k) (List.forall_mem_cons.mpr ⟨(fun _ => v3_X0_bridgedOnes (by decide) (by decide) pz_wq609), List.forall_mem_cons.mpr ⟨((fun z => by cases z)), fun _ h => absurd h List.not_mem_nil⟩⟩) true i k' h rfl
  · exact fun i k' h => pz_ctk (l := ct3_X0_parts) (P := fun b i k => b = false → (pz_cS 2 43 RX0 i k ∨ (k = pz_kac ∧ 1 ≤ 2 ∧ 60 ≤ 43 ∧ Cond.methodLink RX0 i arraycopyName ∈ pz_tbl))) (List.forall_mem_cons.mpr ⟨((fun z => by cases z)), List.forall_mem_cons.mpr ⟨(fun _ => Or.inl (s_J6_bitCount_0f7a4 (by decide) (by decide) (Or.inl pz_wq613))), fun _ h => absurd h List.not_mem_nil⟩⟩) false i k' h rfl
  · intro a M hlen hpre
    obtain ⟨c, rfl, hpre⟩ : ∃ c, a = [.inr (.inr (0, c))] ∧ (pz_ic M) := by
      have hpre : (match (generalizing := false) a with | [.inr (.inr (0, c))] => pz_ic M | _ => False) := hpre
      split at hpre
      · exact ⟨_, rfl, hpre⟩
      · exact hpre.elim
    exact Nat.le_of_ble_eq_true rfl
  · intro a M hlen hcan hM hpre Ok hgo
    obtain ⟨c, rfl, hpre⟩ : ∃ c, a = [.inr (.inr (0, c))] ∧ (pz_ic M) := by
      have hpre : (match (generalizing := false) a with | [.inr (.inr (0, c))] => pz_ic M | _ => False) := hpre
      split at hpre
      · exact ⟨_, rfl, hpre⟩
      · exact hpre.elim
    obtain ⟨k_c, hc_c⟩ := pz_tlm hcan
    have k_c : pz_kd c = 0 ∧ c < 231 := k_c
    have R_c := pz_kd0 k_c.1
    have hI : pz_ic M := hpre
    refine hgo (fun _ => false) 13 0 _ [] M ?_
    intro v1 e1 a1 b1
    have I1 := hI.1 c (by first | decide | omega) (by first | decide | omega)
    refine And.intro (fun h4 => ?_) (fun h4 => ?_)
    · skip
      refine And.intro (hI) ?_
      intro v13 M13 a13 b13 q13
      obtain ⟨q13, z13⟩ := q13
      subst z13
      refine And.intro (True.intro) ?_
      intro v16 M16 a16 b16 q16
      obtain ⟨q16, z16⟩ := q16
      subst z16
      intro v19 e19 a19 b19
      refine And.intro rfl ?_
      refine ⟨fun F hF hW => ?_, rfl⟩
      have hn := hF.1
      dsimp only
      first
        | (rw [if_pos (by first | decide | omega)])
        | (rw [if_neg (by first | decide | omega)]
           have z := q16 _ (q13 F hF hW)
           have b := pz_cnt_b (f := sd_bn F) 12
           rw [pz_wi (by first | decide | omega) (by first | decide | omega)] at e19
           omega)
    · skip
      refine And.intro rfl ?_
      refine ⟨fun F hF hW => ?_, rfl⟩
      have hn := hF.1
      dsimp only
      first
        | (rw [if_pos (by first | decide | omega)])
        | (rw [if_neg (by first | decide | omega)]
           have z := q16 _ (q13 F hF hW)
           have b := pz_cnt_b (f := sd_bn F) 12
           rw [pz_wi (by first | decide | omega) (by first | decide | omega)] at e19
           omega)
theorem v3_X0_parts {fr lo i : Nat} {own : String} (h1 : 2 + 1 ≤ fr) (h2 : 8 + (1 + 11) + 43 ≤ lo) (h3 : .methodLink own i yX0_parts ∈ lw_tbl) : pz_cV fr lo own i k3_X0_parts :=
  pz_cVk (maxL := 1) (fr' := 2) (lo' := 43) 0 0 h3_X0_parts rfl ⟨(pz_nhc_RX0 yX0_parts rfl).1, (pz_nhc_RX0 yX0_parts rfl).2, pz_ds1⟩ ⟨pz_wq608, pz_wq606, pz_wq607, pz_wq2⟩ (Or.inl ⟨TX0, 8, rfl⟩) (fun a M _ h => by
    have h : (match (generalizing := false) a with | [.inr (.inr (0, c))] => pz_ic M | _ => False) := h
    split at h
    · exact ⟨_, _, rfl⟩
    · exact h.elim) h1 h2 h3
noncomputable def k3_X0_partEnd : pz_C := (2, 1, fun a M => (match a with | [.inr (.inr (0, c)), .inl i] => pz_ic M | _ => False), fun a M r M' => (match a, r with | [.inr (.inr (0, c)), .inl i], some (.inl v) => ((i ≤ v ∧ (v = i ∨ v ≤ 11)) ∧ sd_q M c (fun F => 0 ≤ i → i < F 88 → v = (sd_end (sd_bb F) (sd_n F) i.toNat : Int))) ∧ M = M' | _, _ => False))
noncomputable abbrev ct3_X0_partEnd : List (Bool × Nat × pz_C) := [(true, 48, k_X0_at)]
set_option maxRecDepth 100000 in
set_option maxHeartbeats 4000000 in
theorem h3_X0_partEnd : pz_H yX0_partEnd cX0_partEnd 3 (some .int) k3_X0_partEnd 1 21 := by
  refine pz_mk (own := RX0) (tb := t_X0_partEnd) (fl := pz_flf fl_RX0) (ci := pz_cif ci_RX0) (ct := pz_ctf ct3_X0_partEnd) (rz := false) (pz_pfc_RX0 yX0_partEnd rfl) rfl t_X0_partEnd_ok (pz_flk fl_RX0_ok) (pz_cik ci_RX0_ok) ?_ ?_ (Or.inl ⟨rfl, rfl⟩) ?_ ?_
  · exact fun i k' h => pz_ctk (l := ct3_X0_partEnd) (P := fun b i k => b = true → pz_cV 1 21 RX0 i k) (List.forall_mem_cons.mpr ⟨(fun _ => v_X0_at (by decide) (by decide) pz_wq494), fun _ h => absurd h List.not_mem_nil⟩) true i k' h rfl
  · exact fun i k' h => pz_ctk (l := ct3_X0_partEnd) (P := fun b i k => b = false → (pz_cS 1 21 RX0 i k ∨ (k = pz_kac ∧ 1 ≤ 1 ∧ 60 ≤ 21 ∧ Cond.methodLink RX0 i arraycopyName ∈ pz_tbl))) (List.forall_mem_cons.mpr ⟨((fun z => by cases z)), fun _ h => absurd h List.not_mem_nil⟩) false i k' h rfl
  · intro a M hlen hpre
    obtain ⟨c, i, rfl, hpre⟩ : ∃ c i, a = [.inr (.inr (0, c)), .inl i] ∧ (pz_ic M) := by
      have hpre : (match (generalizing := false) a with | [.inr (.inr (0, c)), .inl i] => pz_ic M | _ => False) := hpre
      split at hpre
      · exact ⟨_, _, rfl, hpre⟩
      · exact hpre.elim
    exact Nat.le_of_ble_eq_true rfl
  · intro a M hlen hcan hM hpre Ok hgo
    obtain ⟨c, i, rfl, hpre⟩ : ∃ c i, a = [.inr (.inr (0, c)), .inl i] ∧ (pz_ic M) := by
      have hpre : (match (generalizing := false) a with | [.inr (.inr (0, c)), .inl i] => pz_ic M | _ => False) := hpre
      split at hpre
      · exact ⟨_, _, rfl, hpre⟩
      · exact hpre.elim
    obtain ⟨k_c, hc_c⟩ := pz_tlm hcan
    have k_c : pz_kd c = 0 ∧ c < 231 := k_c
    have R_c := pz_kd0 k_c.1
    obtain ⟨k_i, hc_i⟩ := pz_tlm hc_c
    have l_i : -2147483648 ≤ i := k_i.1
    have u_i : i ≤ 2147483647 := k_i.2
    have hI : pz_ic M := hpre
    have L2 : ∀ (fu : Nat) (x2 : Int), (M c 3 - x2).toNat < fu → (i ≤ x2) → (x2 = i ∨ x2 ≤ 11) → (sd_q M c (fun F => 0 ≤ i → i < F 88 → (x2 < F 88 ∧ ∀ k : Nat, i < (k : Int) → (k : Int) ≤ x2 → sd_bb F k = false))) → Ok 2 [some (.inr (.inr (0, c))), some (.inl i), some (.inl x2)] [] M := by
      intro fu
      induction fu with
      | zero => exact fun _ hn => absurd hn (Nat.not_lt_zero _)
      | succ fu ih2 =>
        intro x2 hn2 g2_0 g2_1 g2_2
        refine hgo (fun p => Nat.beq p 2) 19 2 _ _ _ ?_
        intro v4 e4 a4 b4
        have I4 := hI.1 c (by first | decide | omega) (by first | decide | omega)
        intro v8 e8 a8 b8
        try rw [pz_wi (by first | decide | omega) (by first | decide | omega)] at e8
        refine And.intro (fun h9 => ?_) (fun h9 => ?_)
        · skip
          refine And.intro rfl ?_
          first
            | (refine ⟨⟨by omega, fun F hF hW h0 h1 => ?_⟩, rfl⟩
               obtain ⟨g1, g2⟩ := g2_2 F hF hW h0 h1
               have hn := hF.1
               have hm := hW.1
               have hk := sd_n_i hW
               have b6 := (sd_at R_c hF hW (show 0 ≤ v12 by omega) (by first | decide | omega) A17).2.2.2.2.2.2.1
               have P := hW.2.2 v12.toNat (by first | decide | omega)
               unfold sd_lw at P
               rw [← sd_end_u (b := sd_bb F) (n := sd_n F) (i := i.toNat) (e := v12.toNat) (by first | decide | omega) (by first | decide | omega) (by first | decide | omega) (fun _ => by omega) (fun k a b => g2 k (by first | decide | omega) (by first | decide | omega)) (fun _ => decide_eq_true (by first | decide | omega))]
               omega)
            | (refine ⟨⟨by omega, fun F hF hW h0 h1 => ?_⟩, rfl⟩
               obtain ⟨g1, g2⟩ := g2_2 F hF hW h0 h1
               have hn := hF.1
               have hm := hW.1
               have hk := sd_n_i hW
               rw [← sd_end_u (b := sd_bb F) (n := sd_n F) (i := i.toNat) (e := x2.toNat) (by first | decide | omega) (by first | decide | omega) (by first | decide | omega) (fun _ => by omega) (fun k a b => g2 k (by first | decide | omega) (by first | decide | omega)) (fun _ => by exfalso; omega)]
               omega)
        · skip
          intro v12 e12 a12 b12
          try rw [pz_wi (by first | decide | omega) (by first | decide | omega)] at e12
          refine And.intro (True.intro) ?_
          intro r17 M17 k17 q17
          have R17 := pz_kd5 k17
          obtain ⟨q17, z17⟩ := q17
          subst z17
          have A17 := pz_at_lk R_c q17
          have B17 : 89 + 13 * (c - 71) ≤ r17 ∧ r17 ≤ 89 + 13 * (c - 71) + 12 := by
            rw [A17]
            exact pz_lnk_c
          intro v20 e20 a20 b20
          refine And.intro (fun h23 => ?_) (fun h23 => ?_)
          · skip
            have G23 : sd_q M c (fun F => 0 ≤ i → i < F 88 → (v12 < F 88 ∧ ∀ k : Nat, i < (k : Int) → (k : Int) ≤ v12 → sd_bb F k = false)) := fun F hF hW h0 h1 => by
              obtain ⟨g1, g2⟩ := g2_2 F hF hW h0 h1
              have hn := hF.1
              have hm := hW.1
              have b6 := (sd_at R_c hF hW (show 0 ≤ v12 by omega) (by first | decide | omega) A17).2.2.2.2.2.2.1
              refine ⟨by omega, fun k a b => ?_⟩
              by_cases z : (k : Int) ≤ x2
              · exact g2 k a z
              · have e : v12.toNat = k := by omega
                rw [e] at b6
                exact decide_eq_false (by first | decide | omega)
            exact ih2 _ (by first | decide | omega) (by first | omega | assumption | exact fun F hF hW h0 h1 => ⟨h1, fun k a b => absurd a (by first | decide | omega)⟩) (by first | omega | assumption | exact fun F hF hW h0 h1 => ⟨h1, fun k a b => absurd a (by first | decide | omega)⟩) (by first | omega | assumption | exact fun F hF hW h0 h1 => ⟨h1, fun k a b => absurd a (by first | decide | omega)⟩)
          · skip
            skip
            refine And.intro rfl ?_
            first
              | (refine ⟨⟨by omega, fun F hF hW h0 h1 => ?_⟩, rfl⟩
                 obtain ⟨g1, g2⟩ := g2_2 F hF hW h0 h1
                 have hn := hF.1
                 have hm := hW.1
                 have hk := sd_n_i hW
                 have b6 := (sd_at R_c hF hW (show 0 ≤ v12 by omega) (by first | decide | omega) A17).2.2.2.2.2.2.1
                 have P := hW.2.2 v12.toNat (by first | decide | omega)
                 unfold sd_lw at P
                 rw [← sd_end_u (b := sd_bb F) (n := sd_n F) (i := i.toNat) (e := v12.toNat) (by first | decide | omega) (by first | decide | omega) (by first | decide | omega) (fun _ => by omega) (fun k a b => g2 k (by first | decide | omega) (by first | decide | omega)) (fun _ => decide_eq_true (by first | decide | omega))]
                 omega)
              | (refine ⟨⟨by omega, fun F hF hW h0 h1 => ?_⟩, rfl⟩
                 obtain ⟨g1, g2⟩ := g2_2 F hF hW h0 h1
                 have hn := hF.1
                 have hm := hW.1
                 have hk := sd_n_i hW
                 rw [← sd_end_u (b := sd_bb F) (n := sd_n F) (i := i.toNat) (e := x2.toNat) (by first | decide | omega) (by first | decide | omega) (by first | decide | omega) (fun _ => by omega) (fun k a b => g2 k (by first | decide | omega) (by first | decide | omega)) (fun _ => by exfalso; omega)]
                 omega)
    refine hgo (fun p => Nat.beq p 2) 19 0 _ [] M ?_
    exact L2 _ _ (Nat.lt_succ_self _) (by first | omega | assumption | exact fun F hF hW h0 h1 => ⟨h1, fun k a b => absurd a (by first | decide | omega)⟩) (by first | omega | assumption | exact fun F hF hW h0 h1 => ⟨h1, fun k a b => absurd a (by first | decide | omega)⟩) (by first | omega | assumption | exact fun F hF hW h0 h1 => ⟨h1, fun k a b => absurd a (by first | decide | omega)⟩)
theorem v3_X0_partEnd {fr lo i : Nat} {own : String} (h1 : 1 + 1 ≤ fr) (h2 : 8 + (3 + 11) + 21 ≤ lo) (h3 : .methodLink own i yX0_partEnd ∈ lw_tbl) : pz_cV fr lo own i k3_X0_partEnd :=
  pz_cVk (maxL := 3) (fr' := 1) (lo' := 21) 1 0 h3_X0_partEnd rfl ⟨(pz_nhc_RX0 yX0_partEnd rfl).1, (pz_nhc_RX0 yX0_partEnd rfl).2, pz_ds5⟩ ⟨pz_wq622, pz_wq620, pz_wq621, pz_wq2⟩ (Or.inl ⟨TX0, 8, rfl⟩) (fun a M _ h => by
    have h : (match (generalizing := false) a with | [.inr (.inr (0, c)), .inl i] => pz_ic M | _ => False) := h
    split at h
    · exact ⟨_, _, rfl⟩
    · exact h.elim) h1 h2 h3
noncomputable def k3_X1_movePart : pz_C := (4, 1, fun a M => (match a with | [.inr (.inr (1, d)), .inr (.inr (0, c)), .inl i, .inl j] => pz_ic M ∧ j ≤ 1000 ∧ -1000 ≤ i | _ => False), fun a M r M' => (match a, r with | [.inr (.inr (1, d)), .inr (.inr (0, c)), .inl i, .inl j], some (.inl v) => (sd_mpp M M' c i j v) ∧ pq_pr (pq_Pd c) M M' | _, _ => False))
noncomputable abbrev ct3_X1_movePart : List (Bool × Nat × pz_C) := [(true, 39, k_X0_at), (true, 76, k3_X1_write)]
set_option maxRecDepth 100000 in
set_option maxHeartbeats 4000000 in
theorem h3_X1_movePart : pz_H yX1_movePart cX1_movePart 7 (some .int) k3_X1_movePart 1 25 := by
  refine pz_mk (own := RX1) (tb := t_X1_movePart) (fl := pz_flf fl_RX1) (ci := fun _ => none) (ct := pz_ctf ct3_X1_movePart) (rz := false) (pz_pfc_RX1 yX1_movePart rfl) rfl t_X1_movePart_ok (pz_flk fl_RX1_ok) (fun i v h => by cases h) ?_ ?_ (Or.inl ⟨rfl, rfl⟩) ?_ ?_
  · exact fun i k' h => pz_ctk (l := ct3_X1_movePart) (P := fun b i k => b = true → pz_cV 1 25 RX1 i k) (List.forall_mem_cons.mpr ⟨(fun _ => v_X0_at (by decide) (by decide) pz_wq457), List.forall_mem_cons.mpr ⟨(fun _ => v3_X1_write (by decide) (by decide) pz_wq517), fun _ h => absurd h List.not_mem_nil⟩⟩) true i k' h rfl
  · exact fun i k' h => pz_ctk (l := ct3_X1_movePart) (P := fun b i k => b = false → (pz_cS 1 25 RX1 i k ∨ (k = pz_kac ∧ 1 ≤ 1 ∧ 60 ≤ 25 ∧ Cond.methodLink RX1 i arraycopyName ∈ pz_tbl))) (List.forall_mem_cons.mpr ⟨((fun z => by cases z)), List.forall_mem_cons.mpr ⟨((fun z => by cases z)), fun _ h => absurd h List.not_mem_nil⟩⟩) false i k' h rfl
  · intro a M hlen hpre
    obtain ⟨d, c, i, j, rfl, hpre⟩ : ∃ d c i j, a = [.inr (.inr (1, d)), .inr (.inr (0, c)), .inl i, .inl j] ∧ (pz_ic M ∧ j ≤ 1000 ∧ -1000 ≤ i) := by
      have hpre : (match (generalizing := false) a with | [.inr (.inr (1, d)), .inr (.inr (0, c)), .inl i, .inl j] => pz_ic M ∧ j ≤ 1000 ∧ -1000 ≤ i | _ => False) := hpre
      split at hpre
      · exact ⟨_, _, _, _, rfl, hpre⟩
      · exact hpre.elim
    exact Nat.le_of_ble_eq_true rfl
  · intro a M hlen hcan hM hpre Ok hgo
    obtain ⟨d, c, i, j, rfl, hpre⟩ : ∃ d c i j, a = [.inr (.inr (1, d)), .inr (.inr (0, c)), .inl i, .inl j] ∧ (pz_ic M ∧ j ≤ 1000 ∧ -1000 ≤ i) := by
      have hpre : (match (generalizing := false) a with | [.inr (.inr (1, d)), .inr (.inr (0, c)), .inl i, .inl j] => pz_ic M ∧ j ≤ 1000 ∧ -1000 ≤ i | _ => False) := hpre
      split at hpre
      · exact ⟨_, _, _, _, rfl, hpre⟩
      · exact hpre.elim
    obtain ⟨k_d, hc_d⟩ := pz_tlm hcan
    have k_d : pz_kd d = 1 ∧ d < 231 := k_d
    have R_d := pz_kd1 k_d.1
    subst R_d
    obtain ⟨k_c, hc_c⟩ := pz_tlm hc_d
    have k_c : pz_kd c = 0 ∧ c < 231 := k_c
    have R_c := pz_kd0 k_c.1
    obtain ⟨k_i, hc_i⟩ := pz_tlm hc_c
    have l_i : -2147483648 ≤ i := k_i.1
    have u_i : i ≤ 2147483647 := k_i.2
    obtain ⟨k_j, hc_j⟩ := pz_tlm hc_i
    have l_j : -2147483648 ≤ j := k_j.1
    have u_j : j ≤ 2147483647 := k_j.2
    have hI : pz_ic M := hpre.1
    have hI0 := hI
    have hS : pq_pr (pq_Pd c) M M := pq_pr.rf
    have L6 : ∀ (fu : Nat) (x4 : Int) (x5 : Int) (d6 : Option pz_V) (N6 : pz_M), (j + 1 - x5).toNat < fu → (pq_pr (pq_Pd c) M N6) → (-1000 ≤ x5) → (sd_lq M N6 c (sd_pj i j) (fun _ _ F G => sd_mR (decide (M c 0 = 0)) i j x5 x4 F G)) → Ok 6 [some (.inr (.inr (1, 2))), some (.inr (.inr (0, c))), some (.inl i), some (.inl j), some (.inl x4), some (.inl x5), d6] [] N6 := by
      intro fu
      induction fu with
      | zero => exact fun _ _ _ _ hn => absurd hn (Nat.not_lt_zero _)
      | succ fu ih6 =>
        intro x4 x5 d6 N6 hn6 hS g6_1 g6_2
        have hI : pz_ic N6 := hS.1 hI0
        have hS6 := hS
        have L64 : ∀ (x4 : Int) (x5 : Int) (r6 : Nat) (N64 : pz_M), (pz_kd r6 = 5) → (pq_pr (pq_Pd c) M N64) → (-1000 ≤ x5) → (x5 ≤ j) → ((j + 1 - x5).toNat < fu + 1) → (sd_lq M N64 c (sd_pj i j) (fun _ _ F G => sd_mR (decide (M c 0 = 0)) i j (x5 + 1) x4 F G)) → Ok 64 [some (.inr (.inr (1, 2))), some (.inr (.inr (0, c))), some (.inl i), some (.inl j), some (.inl x4), some (.inl x5), some (.inr (.inr (5, r6)))] [] N64 := by
          intro x4 x5 r6 N64 K_r6 hS g64_2 g64_3 g64_4 g64_5
          have R_r6 := pz_kd5 K_r6
          have hI : pz_ic N64 := hS.1 hI0
          refine hgo (fun p => Nat.beq p 6 || Nat.beq p 64) 38 64 _ _ _ ?_
          intro v64 e64 a64 b64
          rw [pz_wi (by first | decide | omega) (by first | decide | omega)] at e64
          have G6 : sd_lq M N64 c (sd_pj i j) (fun _ _ F G => sd_mR (decide (M c 0 = 0)) i j v64 x4 F G) := by
            rw [e64]
            exact g64_5
          exact ih6 _ _ _ _ (by first | decide | omega) hS (by first | omega | assumption | exact fun ls l1 F hT hF hP hW hp => ⟨F, hF, hP, hW, hT, by have := hp.1; have := hp.2.1; exact ⟨by omega, by omega, rfl, fun _ _ => rfl, rfl⟩⟩) (by first | omega | assumption | exact fun ls l1 F hT hF hP hW hp => ⟨F, hF, hP, hW, hT, by have := hp.1; have := hp.2.1; exact ⟨by omega, by omega, rfl, fun _ _ => rfl, rfl⟩⟩)
        refine hgo (fun p => Nat.beq p 6 || Nat.beq p 64) 38 6 _ _ _ ?_
        refine And.intro (fun h9 => ?_) (fun h9 => ?_)
        · skip
          refine And.intro rfl ?_
          refine ⟨fun ls l1 F hT hF hP hW h0 h1 h2 h3 => ?_, hS⟩
          obtain ⟨G, s, p, w, t, r0, r9, r1, r2, r3⟩ := g6_2 ls l1 F hT hF hP hW ⟨h0, h1, h2, h3⟩
          rw [show (j + 1 - x5).toNat = 0 by omega] at r3
          have r3 : (G, x4) = _ := r3
          rw [← r3]
          exact ⟨rfl, s, p, w⟩
        · skip
          refine And.intro (True.intro) ?_
          intro r15 M15 k15 q15
          have R15 := pz_kd5 k15
          obtain ⟨q15, z15⟩ := q15
          subst z15
          have A15 := pz_at_lk R_c q15
          have B15 : 89 + 13 * (c - 71) ≤ r15 ∧ r15 ≤ 89 + 13 * (c - 71) + 12 := by
            rw [A15]
            exact pz_lnk_c
          intro v22 e22 a22 b22
          refine And.intro (fun h26 => ?_) (fun h26 => ?_)
          · skip
            have G64 : sd_lq M N6 c (sd_pj i j) (fun _ _ F G => sd_mR (decide (M c 0 = 0)) i j (x5 + 1) x4 F G) := fun ls l1 F hT hF hP hW hp => by
              obtain ⟨G, s, p, w, t, r⟩ := g6_2 ls l1 F hT hF hP hW hp
              obtain ⟨h0, h1, h2, h3⟩ := hp
              obtain ⟨r0, r9, r1, r2, -⟩ := id r
              have n9 := s.1
              have hm := hW.1
              have hk := sd_n_i hW
              have t0 : N6 c 0 = M c 0 := hS6.2 c 0 (by unfold pq_Pd pq_Pw pz_lb; first | decide | omega)
              have b := sd_at R_c s w (show 0 ≤ x5 by omega) (by first | decide | omega) A15
              have b6 := b.2.2.2.2.2.2.1
              have b7 := b.2.2.2.2.2.2.2
              have P := w.2.2 x5.toNat (by first | decide | omega)
              have PJ := hW.2.2 j.toNat (by first | decide | omega)
              have RJ := r2 x5.toNat (by first | decide | omega)
              unfold sd_lw at P PJ
              refine ⟨G, s, p, w, t, sd_mR_n r h0 (by first | decide | omega) rfl (fun z => ?_)⟩
              obtain ⟨z1, z2⟩ := z
              omega
            exact L64 _ _ _ _ (by first | assumption | rfl) hS (by first | omega | assumption) (by first | omega | assumption) (by first | omega | assumption) (by first | omega | assumption)
          · skip
            skip
            refine And.intro (fun h32 => ?_) (fun h32 => ?_)
            · skip
              intro v46 e46 a46 b46
              intro M49 e49
              have hS : pq_pr (pq_Pd c) M M49 := by
                rw [e49]
                exact pq_pr_u hS (by unfold pq_Pd pq_Pw pz_lb; first | decide | omega) (by unfold pz_iok; first | decide | omega)
              have hI : pz_ic M49 := hS.1 hI0
              refine And.intro (hI) ?_
              intro M58 q58
              obtain ⟨q58, z58⟩ := q58
              have hS : pq_pr (pq_Pd c) M M58 := hS.tr z58
              have hI : pz_ic M58 := hS.1 hI0
              intro v61 e61 a61 b61
              have G64 : sd_lq M M58 c (sd_pj i j) (fun _ _ F G => sd_mR (decide (M c 0 = 0)) i j (x5 + 1) v61 F G) := fun ls l1 F hT hF hP hW hp => by
                obtain ⟨G, s, p, w, t, r⟩ := g6_2 ls l1 F hT hF hP hW hp
                obtain ⟨h0, h1, h2, h3⟩ := hp
                obtain ⟨r0, r9, r1, r2, -⟩ := id r
                have n9 := s.1
                have hm := hW.1
                have hk := sd_n_i hW
                have t0 : N6 c 0 = M c 0 := hS6.2 c 0 (by unfold pq_Pd pq_Pw pz_lb; first | decide | omega)
                have b := sd_at R_c s w (show 0 ≤ x5 by omega) (by first | decide | omega) A15
                have b6 := b.2.2.2.2.2.2.1
                have b7 := b.2.2.2.2.2.2.2
                have P := w.2.2 x5.toNat (by first | decide | omega)
                have PJ := hW.2.2 j.toNat (by first | decide | omega)
                have RJ := r2 x5.toNat (by first | decide | omega)
                unfold sd_lw at P PJ
                have e49 := e49
                rw [e46, s.2.1] at e49
                obtain ⟨s49, p49, w49, t49⟩ := sd_put (f := 7) (i := x5) (v := G 0) R_c s p w (by first | decide | omega) (by first | decide | omega) A15 (by decide) e49 sd_okv_7
                have q9 : sd_wr M49 M58 c 5 ((x5.toNat : Nat) : Int) 0 := by
                  rw [show ((x5.toNat : Nat) : Int) = x5 by omega]
                  exact q58
                have q := q9 _ s49 p49 w49
                rw [t49, t0] at q
                exact ⟨sd_note (decide (M c 0 = 0)) (sd_u G (76 + x5.toNat) (G 0)) 5 x5.toNat 0, q.1, q.2, sd_note_wf w49, sd_tx_cg t (fun b j q => (z58.2 b j (by unfold pq_Pd pq_Pw pz_lb; first | decide | omega)).trans (by rw [e49]; exact pz_una (by first | decide | omega))), sd_mR_y r h0 (by first | decide | omega) (by first | decide | omega) rfl e61 ⟨by omega, fun z => decide_eq_true (by
                  have RK := RJ
                  have bK := b6
                  rw [z] at RK bK
                  omega)⟩⟩
              exact L64 _ _ _ _ (by first | assumption | rfl) hS (by first | omega | assumption) (by first | omega | assumption) (by first | omega | assumption) (by first | omega | assumption)
            · skip
              intro v37 e37 a37 b37
              refine And.intro (fun h40 => ?_) (fun h40 => ?_)
              · skip
                have G64 : sd_lq M N6 c (sd_pj i j) (fun _ _ F G => sd_mR (decide (M c 0 = 0)) i j (x5 + 1) x4 F G) := fun ls l1 F hT hF hP hW hp => by
                  obtain ⟨G, s, p, w, t, r⟩ := g6_2 ls l1 F hT hF hP hW hp
                  obtain ⟨h0, h1, h2, h3⟩ := hp
                  obtain ⟨r0, r9, r1, r2, -⟩ := id r
                  have n9 := s.1
                  have hm := hW.1
                  have hk := sd_n_i hW
                  have t0 : N6 c 0 = M c 0 := hS6.2 c 0 (by unfold pq_Pd pq_Pw pz_lb; first | decide | omega)
                  have b := sd_at R_c s w (show 0 ≤ x5 by omega) (by first | decide | omega) A15
                  have b6 := b.2.2.2.2.2.2.1
                  have b7 := b.2.2.2.2.2.2.2
                  have P := w.2.2 x5.toNat (by first | decide | omega)
                  have PJ := hW.2.2 j.toNat (by first | decide | omega)
                  have RJ := r2 x5.toNat (by first | decide | omega)
                  unfold sd_lw at P PJ
                  refine ⟨G, s, p, w, t, sd_mR_n r h0 (by first | decide | omega) rfl (fun z => ?_)⟩
                  obtain ⟨z1, z2⟩ := z
                  have z3 := of_decide_eq_true (z2 (by first | decide | omega))
                  omega
                exact L64 _ _ _ _ (by first | assumption | rfl) hS (by first | omega | assumption) (by first | omega | assumption) (by first | omega | assumption) (by first | omega | assumption)
              · skip
                skip
                intro v46 e46 a46 b46
                intro M49 e49
                have hS : pq_pr (pq_Pd c) M M49 := by
                  rw [e49]
                  exact pq_pr_u hS (by unfold pq_Pd pq_Pw pz_lb; first | decide | omega) (by unfold pz_iok; first | decide | omega)
                have hI : pz_ic M49 := hS.1 hI0
                refine And.intro (hI) ?_
                intro M58 q58
                obtain ⟨q58, z58⟩ := q58
                have hS : pq_pr (pq_Pd c) M M58 := hS.tr z58
                have hI : pz_ic M58 := hS.1 hI0
                intro v61 e61 a61 b61
                have G64 : sd_lq M M58 c (sd_pj i j) (fun _ _ F G => sd_mR (decide (M c 0 = 0)) i j (x5 + 1) v61 F G) := fun ls l1 F hT hF hP hW hp => by
                  obtain ⟨G, s, p, w, t, r⟩ := g6_2 ls l1 F hT hF hP hW hp
                  obtain ⟨h0, h1, h2, h3⟩ := hp
                  obtain ⟨r0, r9, r1, r2, -⟩ := id r
                  have n9 := s.1
                  have hm := hW.1
                  have hk := sd_n_i hW
                  have t0 : N6 c 0 = M c 0 := hS6.2 c 0 (by unfold pq_Pd pq_Pw pz_lb; first | decide | omega)
                  have b := sd_at R_c s w (show 0 ≤ x5 by omega) (by first | decide | omega) A15
                  have b6 := b.2.2.2.2.2.2.1
                  have b7 := b.2.2.2.2.2.2.2
                  have P := w.2.2 x5.toNat (by first | decide | omega)
                  have PJ := hW.2.2 j.toNat (by first | decide | omega)
                  have RJ := r2 x5.toNat (by first | decide | omega)
                  unfold sd_lw at P PJ
                  have e49 := e49
                  rw [e46, s.2.1] at e49
                  obtain ⟨s49, p49, w49, t49⟩ := sd_put (f := 7) (i := x5) (v := G 0) R_c s p w (by first | decide | omega) (by first | decide | omega) A15 (by decide) e49 sd_okv_7
                  have q9 : sd_wr M49 M58 c 5 ((x5.toNat : Nat) : Int) 0 := by
                    rw [show ((x5.toNat : Nat) : Int) = x5 by omega]
                    exact q58
                  have q := q9 _ s49 p49 w49
                  rw [t49, t0] at q
                  exact ⟨sd_note (decide (M c 0 = 0)) (sd_u G (76 + x5.toNat) (G 0)) 5 x5.toNat 0, q.1, q.2, sd_note_wf w49, sd_tx_cg t (fun b j q => (z58.2 b j (by unfold pq_Pd pq_Pw pz_lb; first | decide | omega)).trans (by rw [e49]; exact pz_una (by first | decide | omega))), sd_mR_y r h0 (by first | decide | omega) (by first | decide | omega) rfl e61 ⟨by omega, fun z => decide_eq_true (by
                    have RK := RJ
                    have bK := b6
                    rw [z] at RK bK
                    omega)⟩⟩
                exact L64 _ _ _ _ (by first | assumption | rfl) hS (by first | omega | assumption) (by first | omega | assumption) (by first | omega | assumption) (by first | omega | assumption)
    refine hgo (fun p => Nat.beq p 6 || Nat.beq p 64) 38 0 _ [] M ?_
    exact L6 _ _ _ _ _ (Nat.lt_succ_self _) hS (by first | omega | assumption | exact fun ls l1 F hT hF hP hW hp => ⟨F, hF, hP, hW, hT, by have := hp.1; have := hp.2.1; exact ⟨by omega, by omega, rfl, fun _ _ => rfl, rfl⟩⟩) (by first | omega | assumption | exact fun ls l1 F hT hF hP hW hp => ⟨F, hF, hP, hW, hT, by have := hp.1; have := hp.2.1; exact ⟨by omega, by omega, rfl, fun _ _ => rfl, rfl⟩⟩)
theorem v3_X1_movePart {fr lo i : Nat} {own : String} (h1 : 1 + 1 ≤ fr) (h2 : 8 + (7 + 11) + 25 ≤ lo) (h3 : .methodLink own i yX1_movePart ∈ lw_tbl) : pz_cV fr lo own i k3_X1_movePart :=
  pz_cVk (maxL := 7) (fr' := 1) (lo' := 25) 3 1 h3_X1_movePart rfl ⟨(pz_nhc_RX1 yX1_movePart rfl).1, (pz_nhc_RX1 yX1_movePart rfl).2, pz_ds36⟩ ⟨pz_wq638, pz_wq636, pz_wq637, pz_wq7⟩ (Or.inl ⟨TX1, 2, rfl⟩) (fun a M _ h => by
    have h : (match (generalizing := false) a with | [.inr (.inr (1, d)), .inr (.inr (0, c)), .inl i, .inl j] => pz_ic M ∧ j ≤ 1000 ∧ -1000 ≤ i | _ => False) := h
    split at h
    · exact ⟨_, _, rfl⟩
    · exact h.elim) h1 h2 h3
noncomputable def k3_X1_moveParts : pz_C := (2, 1, fun a M => (match a with | [.inr (.inr (1, d)), .inr (.inr (0, c))] => pz_ic M | _ => False), fun a M r M' => (match a, r with | [.inr (.inr (1, d)), .inr (.inr (0, c))], some (.inl v) => (sd_mvp M M' c v) ∧ pq_pr (pq_Pd c) M M' | _, _ => False))
noncomputable abbrev ct3_X1_moveParts : List (Bool × Nat × pz_C) := [(true, 158, k3_X0_parts), (true, 162, k3_X0_partEnd), (false, 166, k3_X1_canMove), (true, 169, k3_X1_movePart)]
set_option maxRecDepth 100000 in
set_option maxHeartbeats 4000000 in
theorem h3_X1_moveParts : pz_H yX1_moveParts cX1_moveParts 6 (some .int) k3_X1_moveParts 4 88 := by
  refine pz_mk (own := RX1) (tb := t_X1_moveParts) (fl := pz_flf fl_RX1) (ci := fun _ => none) (ct := pz_ctf ct3_X1_moveParts) (rz := false) (pz_pfc_RX1 yX1_moveParts rfl) rfl t_X1_moveParts_ok (pz_flk fl_RX1_ok) (fun i v h => by cases h) ?_ ?_ (Or.inl ⟨rfl, rfl⟩) ?_ ?_
  · exact fun i k' h => pz_ctk (l := ct3_X1_moveParts) (P := fun b i k => b = true → pz_cV 4 88 RX1 i k) (List.forall_mem_cons.mpr ⟨(fun _ => v3_X0_parts (by decide) (by decide) pz_wq605), List.forall_mem_cons.mpr ⟨(fun _ => v3_X0_partEnd (by decide) (by decide) pz_wq619), List.forall_mem_cons.mpr ⟨((fun z => by cases z)), List.forall_mem_cons.mpr ⟨(fun _ => v3_X1_movePart (by decide) (by decide) pz_wq635), fun _ h => absurd h List.not_mem_nil⟩⟩⟩⟩) true i k' h rfl
  · exact fun i k' h => pz_ctk (l := ct3_X1_moveParts) (P := fun b i k => b = false → (pz_cS 4 88 RX1 i k ∨ (k = pz_kac ∧ 1 ≤ 4 ∧ 60 ≤ 88 ∧ Cond.methodLink RX1 i arraycopyName ∈ pz_tbl))) (List.forall_mem_cons.mpr ⟨((fun z => by cases z)), List.forall_mem_cons.mpr ⟨((fun z => by cases z)), List.forall_mem_cons.mpr ⟨(fun _ => Or.inl (s3_X1_canMove (by decide) (by decide) (Or.inl pz_wq623))), List.forall_mem_cons.mpr ⟨((fun z => by cases z)), fun _ h => absurd h List.not_mem_nil⟩⟩⟩⟩) false i k' h rfl
  · intro a M hlen hpre
    obtain ⟨d, c, rfl, hpre⟩ : ∃ d c, a = [.inr (.inr (1, d)), .inr (.inr (0, c))] ∧ (pz_ic M) := by
      have hpre : (match (generalizing := false) a with | [.inr (.inr (1, d)), .inr (.inr (0, c))] => pz_ic M | _ => False) := hpre
      split at hpre
      · exact ⟨_, _, rfl, hpre⟩
      · exact hpre.elim
    exact Nat.le_of_ble_eq_true rfl
  · intro a M hlen hcan hM hpre Ok hgo
    obtain ⟨d, c, rfl, hpre⟩ : ∃ d c, a = [.inr (.inr (1, d)), .inr (.inr (0, c))] ∧ (pz_ic M) := by
      have hpre : (match (generalizing := false) a with | [.inr (.inr (1, d)), .inr (.inr (0, c))] => pz_ic M | _ => False) := hpre
      split at hpre
      · exact ⟨_, _, rfl, hpre⟩
      · exact hpre.elim
    obtain ⟨k_d, hc_d⟩ := pz_tlm hcan
    have k_d : pz_kd d = 1 ∧ d < 231 := k_d
    have R_d := pz_kd1 k_d.1
    subst R_d
    obtain ⟨k_c, hc_c⟩ := pz_tlm hc_d
    have k_c : pz_kd c = 0 ∧ c < 231 := k_c
    have R_c := pz_kd0 k_c.1
    have hI : pz_ic M := hpre
    have hI0 := hI
    have hS : pq_pr (pq_Pd c) M M := pq_pr.rf
    have L10 : ∀ (fu : Nat) (x2 : Int) (x3 : Int) (x4 : Int) (d5 : Option pz_V) (N10 : pz_M), x4.toNat < fu → (pq_pr (pq_Pd c) M N10) → (0 ≤ x3) → (x3 ≤ 1000) → (x4 ≤ 2147483647) → (-2147483648 ≤ x2) → (x2 ≤ 2147483647) → (sd_lp M N10 c (fun _ _ F G => sd_vR (decide (M c 0 = 0)) F G x2 x3 x4)) → Ok 10 [some (.inr (.inr (1, 2))), some (.inr (.inr (0, c))), some (.inl x2), some (.inl x3), some (.inl x4), d5] [] N10 := by
      intro fu
      induction fu with
      | zero => exact fun _ _ _ _ _ hn => absurd hn (Nat.not_lt_zero _)
      | succ fu ih10 =>
        intro x2 x3 x4 d5 N10 hn10 hS g10_1 g10_2 g10_3 g10_4 g10_5 g10_6
        have hI : pz_ic N10 := hS.1 hI0
        have hS10 := hS
        refine hgo (fun p => Nat.beq p 10) 34 10 _ _ _ ?_
        refine And.intro (fun h12 => ?_) (fun h12 => ?_)
        · skip
          refine And.intro rfl ?_
          refine ⟨fun ls l1 F hT hF hP hW => ?_, hS⟩
          obtain ⟨G, s, p, w, t, r⟩ := g10_6 ls l1 F hT hF hP hW
          have z := sd_vR_z r (by first | decide | omega)
          rw [← z]
          exact ⟨rfl, s, p, w, r.1⟩
        · skip
          refine And.intro (hI) ?_
          intro v17 M17 a17 b17 q17
          obtain ⟨q17, z17⟩ := q17
          subst z17
          refine And.intro (And.intro hI (by first | decide | omega)) ?_
          intro v26 M26 a26 b26 q26
          obtain ⟨q26, z26⟩ := q26
          subst z26
          refine And.intro (fun h29 => ?_) (fun h29 => ?_)
          · skip
            intro v46 e46 a46 b46
            rw [pz_wi (by first | decide | omega) (by first | decide | omega)] at e46
            have t0 : N10 c 0 = M c 0 := hS10.2 c 0 (by unfold pq_Pd pq_Pw pz_lb; first | decide | omega)
            first
              | (have G10 : sd_lp M M38 c (fun _ _ F G => sd_vR (decide (M c 0 = 0)) F G v41 v17 v46) := fun ls l1 F hT hF hP hW => by
                   obtain ⟨G, s, p, w, t, r⟩ := g10_6 ls l1 F hT hF hP hW
                   have hm := hW.1
                   have hn := sd_n_i hW
                   have ra := sd_vR_a r (by first | decide | omega)
                   obtain ⟨r1, r2, -⟩ := id r
                   have E17 := q17.2 G s w (by first | decide | omega) (by first | decide | omega)
                   rw [sd_bb_cg hW r1 r2] at E17
                   obtain ⟨s1, s2, s3, s4, s5⟩ := sd_end_s (b := sd_bb F) ra.2
                   have E26 := q26.2 G s w (by first | decide | omega) (by first | decide | omega) (by first | decide | omega)
                   have cm : sd_cm G v17.toNat (v17 + 1 - x3).toNat x3.toNat = true := by
                     by_cases y : sd_cm G v17.toNat (v17 + 1 - x3).toNat x3.toNat = true
                     · exact y
                     · rw [if_neg y] at E26
                       omega
                   have z := q38 ls l1 G t s p w (by first | decide | omega) (by first | decide | omega) (by first | decide | omega) (by
                     by_cases y : v17 + 1 = G 88
                     · exact Or.inr y
                     · left
                       rw [r2 v17.toNat (by first | decide | omega)]
                       have b := of_decide_eq_true (s5 (by first | decide | omega))
                       rw [show sd_end (sd_bb F) (sd_n F) x3.toNat = v17.toNat by omega] at b
                       exact b)
                   have nn : sd_n G = sd_n F := by unfold sd_n; rw [r1]
                   rw [t0, nn] at z
                   obtain ⟨z1, z2, z3, z4⟩ := z
                   exact ⟨_, z2, z3, z4, sd_tx_d t (by first | decide | omega) z38, sd_vR_s hW r (by first | decide | omega) E17 e46 ⟨by omega, by omega⟩ (Or.inl ⟨cm, rfl, by rw [e41, z1]⟩)⟩)
              | (have G10 : sd_lp M N10 c (fun _ _ F G => sd_vR (decide (M c 0 = 0)) F G x2 v17 v46) := fun ls l1 F hT hF hP hW => by
                   obtain ⟨G, s, p, w, t, r⟩ := g10_6 ls l1 F hT hF hP hW
                   have hm := hW.1
                   have hn := sd_n_i hW
                   have ra := sd_vR_a r (by first | decide | omega)
                   obtain ⟨r1, r2, -⟩ := id r
                   have E17 := q17.2 G s w (by first | decide | omega) (by first | decide | omega)
                   rw [sd_bb_cg hW r1 r2] at E17
                   obtain ⟨s1, s2, s3, s4, s5⟩ := sd_end_s (b := sd_bb F) ra.2
                   have E26 := q26.2 G s w (by first | decide | omega) (by first | decide | omega) (by first | decide | omega)
                   exact ⟨G, s, p, w, t, sd_vR_s hW r (by first | decide | omega) E17 e46 ⟨by omega, by omega⟩ (Or.inr ⟨fun y => (by rw [if_pos y] at E26; omega), rfl, rfl⟩)⟩)
            exact ih10 _ _ _ _ _ (by first | decide | omega) hS (by first | omega | assumption) (by first | omega | assumption) (by first | omega | assumption) (by first | omega | assumption) (by first | omega | assumption) (by first | omega | assumption)
          · skip
            refine And.intro (And.intro hI (And.intro (by first | decide | omega) (by first | decide | omega))) ?_
            intro v38 M38 a38 b38 q38
            obtain ⟨q38, z38⟩ := q38
            have hS : pq_pr (pq_Pd c) M M38 := hS.tr z38
            have hI : pz_ic M38 := hS.1 hI0
            intro v41 e41 a41 b41
            intro v46 e46 a46 b46
            rw [pz_wi (by first | decide | omega) (by first | decide | omega)] at e46
            have t0 : N10 c 0 = M c 0 := hS10.2 c 0 (by unfold pq_Pd pq_Pw pz_lb; first | decide | omega)
            first
              | (have G10 : sd_lp M M38 c (fun _ _ F G => sd_vR (decide (M c 0 = 0)) F G v41 v17 v46) := fun ls l1 F hT hF hP hW => by
                   obtain ⟨G, s, p, w, t, r⟩ := g10_6 ls l1 F hT hF hP hW
                   have hm := hW.1
                   have hn := sd_n_i hW
                   have ra := sd_vR_a r (by first | decide | omega)
                   obtain ⟨r1, r2, -⟩ := id r
                   have E17 := q17.2 G s w (by first | decide | omega) (by first | decide | omega)
                   rw [sd_bb_cg hW r1 r2] at E17
                   obtain ⟨s1, s2, s3, s4, s5⟩ := sd_end_s (b := sd_bb F) ra.2
                   have E26 := q26.2 G s w (by first | decide | omega) (by first | decide | omega) (by first | decide | omega)
                   have cm : sd_cm G v17.toNat (v17 + 1 - x3).toNat x3.toNat = true := by
                     by_cases y : sd_cm G v17.toNat (v17 + 1 - x3).toNat x3.toNat = true
                     · exact y
                     · rw [if_neg y] at E26
                       omega
                   have z := q38 ls l1 G t s p w (by first | decide | omega) (by first | decide | omega) (by first | decide | omega) (by
                     by_cases y : v17 + 1 = G 88
                     · exact Or.inr y
                     · left
                       rw [r2 v17.toNat (by first | decide | omega)]
                       have b := of_decide_eq_true (s5 (by first | decide | omega))
                       rw [show sd_end (sd_bb F) (sd_n F) x3.toNat = v17.toNat by omega] at b
                       exact b)
                   have nn : sd_n G = sd_n F := by unfold sd_n; rw [r1]
                   rw [t0, nn] at z
                   obtain ⟨z1, z2, z3, z4⟩ := z
                   exact ⟨_, z2, z3, z4, sd_tx_d t (by first | decide | omega) z38, sd_vR_s hW r (by first | decide | omega) E17 e46 ⟨by omega, by omega⟩ (Or.inl ⟨cm, rfl, by rw [e41, z1]⟩)⟩)
              | (have G10 : sd_lp M N10 c (fun _ _ F G => sd_vR (decide (M c 0 = 0)) F G x2 v17 v46) := fun ls l1 F hT hF hP hW => by
                   obtain ⟨G, s, p, w, t, r⟩ := g10_6 ls l1 F hT hF hP hW
                   have hm := hW.1
                   have hn := sd_n_i hW
                   have ra := sd_vR_a r (by first | decide | omega)
                   obtain ⟨r1, r2, -⟩ := id r
                   have E17 := q17.2 G s w (by first | decide | omega) (by first | decide | omega)
                   rw [sd_bb_cg hW r1 r2] at E17
                   obtain ⟨s1, s2, s3, s4, s5⟩ := sd_end_s (b := sd_bb F) ra.2
                   have E26 := q26.2 G s w (by first | decide | omega) (by first | decide | omega) (by first | decide | omega)
                   exact ⟨G, s, p, w, t, sd_vR_s hW r (by first | decide | omega) E17 e46 ⟨by omega, by omega⟩ (Or.inr ⟨fun y => (by rw [if_pos y] at E26; omega), rfl, rfl⟩)⟩)
            exact ih10 _ _ _ _ _ (by first | decide | omega) hS (by first | omega | assumption) (by first | omega | assumption) (by first | omega | assumption) (by first | omega | assumption) (by first | omega | assumption) (by first | omega | assumption)
    refine hgo (fun p => Nat.beq p 10) 34 0 _ [] M ?_
    refine And.intro (hI) ?_
    intro v5 M5 a5 b5 q5
    obtain ⟨q5, z5⟩ := q5
    subst z5
    have G5 : sd_lp M M c (fun _ _ F G => sd_vR (decide (M c 0 = 0)) F G 0 0 v5) := fun ls l1 F hT hF hP hW => ⟨F, hF, hP, hW, hT, sd_vR_0 hW (q5 F hF hW)⟩
    exact L10 _ _ _ _ _ _ (Nat.lt_succ_self _) hS (by first | omega | assumption) (by first | omega | assumption) (by first | omega | assumption) (by first | omega | assumption) (by first | omega | assumption) (by first | omega | assumption)
theorem v3_X1_moveParts {fr lo i : Nat} {own : String} (h1 : 4 + 1 ≤ fr) (h2 : 8 + (6 + 11) + 88 ≤ lo) (h3 : .methodLink own i yX1_moveParts ∈ lw_tbl) : pz_cV fr lo own i k3_X1_moveParts :=
  pz_cVk (maxL := 6) (fr' := 4) (lo' := 88) 1 1 h3_X1_moveParts rfl ⟨(pz_nhc_RX1 yX1_moveParts rfl).1, (pz_nhc_RX1 yX1_moveParts rfl).2, pz_ds30⟩ ⟨pz_wq604, pz_wq602, pz_wq603, pz_wq7⟩ (Or.inl ⟨TX1, 2, rfl⟩) (fun a M _ h => by
    have h : (match (generalizing := false) a with | [.inr (.inr (1, d)), .inr (.inr (0, c))] => pz_ic M | _ => False) := h
    split at h
    · exact ⟨_, _, rfl⟩
    · exact h.elim) h1 h2 h3
