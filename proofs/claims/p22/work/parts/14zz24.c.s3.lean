section
noncomputable def k3_X11_choice : pz_C := (5, 1, fun a M => (match a with | [.inr (.inr (11, th)), .inl i, .inl n, .inl p, .inl w] => pz_ic M | _ => False), fun a M r M' => (match a, r with | [.inr (.inr (11, th)), .inl i, .inl n, .inl p, .inl w], some (.inl v) => (sd_wc M v (fun ls F => sd_chv ls F i n p w)) ∧ pq_pr pq_Pk M M' | _, _ => False))
noncomputable abbrev ct3_X11_choice : List (Bool × Nat × pz_C) := [(true, 118, k_X0_has), (false, 137, k_X11_within), (true, 107, k_X0_at), (false, 301, k_J9_max_7cf53), (false, 304, k3_J9_floorDiv_7cf53), (true, 212, k3_X3_tells)]
set_option maxRecDepth 100000 in
set_option maxHeartbeats 4000000 in
theorem h3_X11_choice : pz_H yX11_choice cX11_choice 9 (some .int) k3_X11_choice 4 97 := by
  refine pz_mk (own := RX11) (tb := t_X11_choice) (fl := pz_flf fl_RX11) (ci := pz_cif ci_RX11) (ct := pz_ctf ct3_X11_choice) (rz := false) (pz_pfc_RX11 yX11_choice rfl) rfl t_X11_choice_ok (pz_flk fl_RX11_ok) (pz_cik ci_RX11_ok) ?_ ?_ (Or.inl ⟨rfl, rfl⟩) ?_ ?_
  · exact fun i k' h => pz_ctk (l := ct3_X11_choice) (P := fun b i k => b = true → pz_cV 4 97 RX11 i k) (List.forall_mem_cons.mpr ⟨(fun _ => v_X0_has (by decide) (by decide) pz_wq444), List.forall_mem_cons.mpr ⟨((fun z => by cases z)), List.forall_mem_cons.mpr ⟨(fun _ => v_X0_at (by decide) (by decide) pz_wq428), List.forall_mem_cons.mpr ⟨((fun z => by cases z)), List.forall_mem_cons.mpr ⟨((fun z => by cases z)), List.forall_mem_cons.mpr ⟨(fun _ => v3_X3_tells (by decide) (by decide) pz_wq838), fun _ h => absurd h List.not_mem_nil⟩⟩⟩⟩⟩⟩) true i k' h rfl
  · exact fun i k' h => pz_ctk (l := ct3_X11_choice) (P := fun b i k => b = false → (pz_cS 4 97 RX11 i k ∨ (k = pz_kac ∧ 1 ≤ 4 ∧ 60 ≤ 97 ∧ Cond.methodLink RX11 i arraycopyName ∈ pz_tbl))) (List.forall_mem_cons.mpr ⟨((fun z => by cases z)), List.forall_mem_cons.mpr ⟨(fun _ => Or.inl (s_X11_within (by decide) (by decide) (Or.inl pz_wq425))), List.forall_mem_cons.mpr ⟨((fun z => by cases z)), List.forall_mem_cons.mpr ⟨(fun _ => Or.inl (s_J9_max_7cf53 (by decide) (by decide) (Or.inl pz_wq989))), List.forall_mem_cons.mpr ⟨(fun _ => Or.inl (s3_J9_floorDiv_7cf53 (by decide) (by decide) (Or.inl pz_wq990))), List.forall_mem_cons.mpr ⟨((fun z => by cases z)), fun _ h => absurd h List.not_mem_nil⟩⟩⟩⟩⟩⟩) false i k' h rfl
  · intro a M hlen hpre
    obtain ⟨th, i, n, p, w, rfl, hpre⟩ : ∃ th i n p w, a = [.inr (.inr (11, th)), .inl i, .inl n, .inl p, .inl w] ∧ (pz_ic M) := by
      have hpre : (match (generalizing := false) a with | [.inr (.inr (11, th)), .inl i, .inl n, .inl p, .inl w] => pz_ic M | _ => False) := hpre
      split at hpre
      · exact ⟨_, _, _, _, _, rfl, hpre⟩
      · exact hpre.elim
    exact Nat.le_of_ble_eq_true rfl
  · intro a M hlen hcan hM hpre Ok hgo
    obtain ⟨th, i, n, p, w, rfl, hpre⟩ : ∃ th i n p w, a = [.inr (.inr (11, th)), .inl i, .inl n, .inl p, .inl w] ∧ (pz_ic M) := by
      have hpre : (match (generalizing := false) a with | [.inr (.inr (11, th)), .inl i, .inl n, .inl p, .inl w] => pz_ic M | _ => False) := hpre
      split at hpre
      · exact ⟨_, _, _, _, _, rfl, hpre⟩
      · exact hpre.elim
    obtain ⟨k_th, hc_th⟩ := pz_tlm hcan
    have k_th : pz_kd th = 11 ∧ th < 231 := k_th
    have R_th := pz_kd11 k_th.1
    subst R_th
    obtain ⟨k_i, hc_i⟩ := pz_tlm hc_th
    have l_i : -2147483648 ≤ i := k_i.1
    have u_i : i ≤ 2147483647 := k_i.2
    obtain ⟨k_n, hc_n⟩ := pz_tlm hc_i
    have l_n : -2147483648 ≤ n := k_n.1
    have u_n : n ≤ 2147483647 := k_n.2
    obtain ⟨k_p, hc_p⟩ := pz_tlm hc_n
    have l_p : -2147483648 ≤ p := k_p.1
    have u_p : p ≤ 2147483647 := k_p.2
    obtain ⟨k_w, hc_w⟩ := pz_tlm hc_p
    have l_w : -2147483648 ≤ w := k_w.1
    have u_w : w ≤ 2147483647 := k_w.2
    have hI : pz_ic M := hpre
    have hI0 := hI
    have hS : pq_pr pq_Pk M M := pq_pr.rf
    have L137 : ∀ (x5 : Int) (x6 : Int) (x7 : Int) (x8 : Int) (N137 : pz_M), (pq_pr pq_Pk M N137) → ((0 ≤ i ∧ i < M 71 3) ∧ (0 ≤ n ∧ n ≤ 999) ∧ (0 ≤ p ∧ p ≤ 1000) ∧ 0 ≤ w ∧ w ≤ 1) → (∀ (ls : List pz_lne) (l1 : List (List Int)) (F : Nat → Int), sd_tx M ls l1 → sd_se M 71 F → sd_wf F → (x7, x6) = sd_chw ls F i.toNat n p) → Ok 137 [some (.inr (.inr (11, 0))), some (.inl i), some (.inl n), some (.inl p), some (.inl w), some (.inl x5), some (.inl x6), some (.inl x7), some (.inl x8)] [] N137 := by
      intro x5 x6 x7 x8 N137 hS g137_1 g137_2
      have hI : pz_ic N137 := hS.1 hI0
      refine hgo (fun p => Nat.beq p 126 || Nat.beq p 137) 80 137 _ _ _ ?_
      refine And.intro (fun h139 => ?_) (fun h139 => ?_)
      · skip
        refine And.intro rfl ?_
        refine ⟨fun ls l1 F hT hF hW => ?_, hS⟩
        have hn := hF.1
        have hm := hW.1
        show _ = sd_chv ls F i n p w
        have z := (by assumption : ∀ (ls : List pz_lne) (l1 : List (List Int)) (F : Nat → Int), sd_tx M ls l1 → sd_se M 71 F → sd_wf F → (x7, x6) = sd_chw ls F i.toNat n p) ls l1 F hT hF hW
        unfold sd_chv
        rw [if_pos (by first | decide | omega), ← z]
        first
          | (rw [if_pos (by first | decide | omega)]; done)
          | (rw [if_neg (by first | decide | omega)]; done)
      · skip
        refine And.intro rfl ?_
        refine ⟨fun ls l1 F hT hF hW => ?_, hS⟩
        have hn := hF.1
        have hm := hW.1
        show _ = sd_chv ls F i n p w
        have z := (by assumption : ∀ (ls : List pz_lne) (l1 : List (List Int)) (F : Nat → Int), sd_tx M ls l1 → sd_se M 71 F → sd_wf F → (x7, x6) = sd_chw ls F i.toNat n p) ls l1 F hT hF hW
        unfold sd_chv
        rw [if_pos (by first | decide | omega), ← z]
        first
          | (rw [if_pos (by first | decide | omega)]; done)
          | (rw [if_neg (by first | decide | omega)]; done)
    have L126 : ∀ (x5 : Int) (x6 : Int) (x7 : Int) (x8 : Int) (N126 : pz_M), (pq_pr pq_Pk M N126) → ((0 ≤ i ∧ i < M 71 3) ∧ (0 ≤ n ∧ n ≤ 999) ∧ (0 ≤ p ∧ p ≤ 1000) ∧ 0 ≤ w ∧ w ≤ 1) → (∀ (ls : List pz_lne) (l1 : List (List Int)) (F : Nat → Int), sd_tx M ls l1 → sd_se M 71 F → sd_wf F → (x7 = (if F (28 + i.toNat) - n < sd_chp ls F i.toNat n p then 1 else 0) ∧ x6 = (if F (28 + i.toNat) - n < sd_chp ls F i.toNat n p then sd_chp ls F i.toNat n p else F (28 + i.toNat) - n))) → Ok 126 [some (.inr (.inr (11, 0))), some (.inl i), some (.inl n), some (.inl p), some (.inl w), some (.inl x5), some (.inl x6), some (.inl x7), some (.inl x8)] [] N126 := by
      intro x5 x6 x7 x8 N126 hS g126_1 g126_2
      have hI : pz_ic N126 := hS.1 hI0
      refine hgo (fun p => Nat.beq p 126 || Nat.beq p 137) 80 126 _ _ _ ?_
      refine And.intro (fun h128 => ?_) (fun h128 => ?_)
      · skip
        have G137 : ∀ (ls : List pz_lne) (l1 : List (List Int)) (F : Nat → Int), sd_tx M ls l1 → sd_se M 71 F → sd_wf F → (x7, x6) = sd_chw ls F i.toNat n p := fun ls l1 F t s w9 => by
          obtain ⟨a, b⟩ := (by assumption : ∀ (ls : List pz_lne) (l1 : List (List Int)) (F : Nat → Int), sd_tx M ls l1 → sd_se M 71 F → sd_wf F → (x7 = (if F (28 + i.toNat) - n < sd_chp ls F i.toNat n p then 1 else 0) ∧ x6 = (if F (28 + i.toNat) - n < sd_chp ls F i.toNat n p then sd_chp ls F i.toNat n p else F (28 + i.toNat) - n))) ls l1 F t s w9
          unfold sd_chw
          rw [← b, if_neg (by first | decide | omega)]
          by_cases z : F (28 + i.toNat) - n < sd_chp ls F i.toNat n p
          · rw [if_pos z] at a b ⊢
            rw [a, b]
          · rw [if_neg z] at a b ⊢
            rw [a, b]
        exact L137 _ _ _ _ _ hS (by first | omega | assumption) (by first | omega | assumption)
      · skip
        have G137 : ∀ (ls : List pz_lne) (l1 : List (List Int)) (F : Nat → Int), sd_tx M ls l1 → sd_se M 71 F → sd_wf F → (2, 0) = sd_chw ls F i.toNat n p := fun ls l1 F t s w9 => by
          obtain ⟨a, b⟩ := (by assumption : ∀ (ls : List pz_lne) (l1 : List (List Int)) (F : Nat → Int), sd_tx M ls l1 → sd_se M 71 F → sd_wf F → (x7 = (if F (28 + i.toNat) - n < sd_chp ls F i.toNat n p then 1 else 0) ∧ x6 = (if F (28 + i.toNat) - n < sd_chp ls F i.toNat n p then sd_chp ls F i.toNat n p else F (28 + i.toNat) - n))) ls l1 F t s w9
          unfold sd_chw
          rw [← b, if_pos (by first | decide | omega)]
        exact L137 _ _ _ _ _ hS (by first | omega | assumption) (by first | omega | assumption)
    refine hgo (fun p => Nat.beq p 126 || Nat.beq p 137) 80 0 _ [] M ?_
    refine pz_nrc (c := 71) rfl ?_
    refine And.intro (True.intro) ?_
    intro v5 M5 a5 b5 q5
    obtain ⟨q5, z5⟩ := q5
    subst z5
    refine And.intro (fun h8 => ?_) (fun h8 => ?_)
    · skip
      refine And.intro rfl ?_
      refine ⟨fun ls l1 F hT hF hW => ?_, hS⟩
      have hn := hF.1
      have hm := hW.1
      show _ = sd_chv ls F i n p w
      unfold sd_chv
      rw [if_neg (fun z => by
        first
          | (split at q5 <;> omega)
          | (split at q5 <;> split at q16 <;> omega)
          | (split at q5 <;> split at q16 <;> split at q27 <;> omega)
          | (split at q5 <;> split at q16 <;> split at q27 <;> split at q37 <;> omega))]
    · skip
      refine And.intro (True.intro) ?_
      intro v16 M16 a16 b16 q16
      obtain ⟨q16, z16⟩ := q16
      subst z16
      refine And.intro (fun h19 => ?_) (fun h19 => ?_)
      · skip
        refine And.intro rfl ?_
        refine ⟨fun ls l1 F hT hF hW => ?_, hS⟩
        have hn := hF.1
        have hm := hW.1
        show _ = sd_chv ls F i n p w
        unfold sd_chv
        rw [if_neg (fun z => by
          first
            | (split at q5 <;> omega)
            | (split at q5 <;> split at q16 <;> omega)
            | (split at q5 <;> split at q16 <;> split at q27 <;> omega)
            | (split at q5 <;> split at q16 <;> split at q27 <;> split at q37 <;> omega))]
      · skip
        refine And.intro (True.intro) ?_
        intro v27 M27 a27 b27 q27
        obtain ⟨q27, z27⟩ := q27
        subst z27
        refine And.intro (fun h30 => ?_) (fun h30 => ?_)
        · skip
          refine And.intro rfl ?_
          refine ⟨fun ls l1 F hT hF hW => ?_, hS⟩
          have hn := hF.1
          have hm := hW.1
          show _ = sd_chv ls F i n p w
          unfold sd_chv
          rw [if_neg (fun z => by
            first
              | (split at q5 <;> omega)
              | (split at q5 <;> split at q16 <;> omega)
              | (split at q5 <;> split at q16 <;> split at q27 <;> omega)
              | (split at q5 <;> split at q16 <;> split at q27 <;> split at q37 <;> omega))]
        · skip
          refine And.intro (True.intro) ?_
          intro v37 M37 a37 b37 q37
          obtain ⟨q37, z37⟩ := q37
          subst z37
          refine And.intro (fun h40 => ?_) (fun h40 => ?_)
          · skip
            have GP : (0 ≤ i ∧ i < M 71 3) ∧ (0 ≤ n ∧ n ≤ 999) ∧ (0 ≤ p ∧ p ≤ 1000) ∧ 0 ≤ w ∧ w ≤ 1 := by
              split at q5 <;> split at q16 <;> split at q27 <;> split at q37 <;> omega
            refine pz_nrc (c := 71) rfl ?_
            refine And.intro (True.intro) ?_
            intro r51 M51 k51 q51
            have R51 := pz_kd5 k51
            obtain ⟨q51, z51⟩ := q51
            subst z51
            have A51 := pz_at_lk (c := 71) (⟨by decide, by decide⟩ : 71 ≤ 71 ∧ 71 < 80) q51
            intro v54 e54 a54 b54
            intro v62 e62 a62 b62
            intro v71 e71 a71 b71
            intro v76 e76 a76 b76
            intro v80 e80 a80 b80
            refine And.intro (True.intro) ?_
            intro v82 M82 a82 b82 q82
            obtain ⟨q82, z82⟩ := q82
            subst z82
            intro v85 e85 a85 b85
            intro v86 e86 a86 b86
            refine And.intro (by first | exact Or.inl rfl | exact Or.inr rfl) ?_
            intro v90 M90 a90 b90 q90
            obtain ⟨q90, z90⟩ := q90
            subst z90
            refine pz_nrc (c := 8) rfl ?_
            intro r97 e97 k97
            have R97 := pz_kd3 k97
            have L97 : r97 = 10 := by rw [e97]; rfl
            refine pz_nrc (c := 71) rfl ?_
            refine And.intro (hI) ?_
            intro v106 M106 a106 b106 q106
            obtain ⟨q106, z106⟩ := q106
            have hS : pq_pr pq_Pk M M106 := hS.tr z106.wpk
            have hI : pz_ic M106 := hS.1 hI0
            rw [L97] at q106
            intro v109 e109 a109 b109
            refine And.intro (fun h116 => ?_) (fun h116 => ?_)
            · skip
              have GW : ∀ (ls : List pz_lne) (l1 : List (List Int)) (F : Nat → Int), sd_tx M ls l1 → sd_se M 71 F → sd_wf F → (v62 = F (28 + i.toNat) - n ∧ v109 = sd_chp ls F i.toNat n p) := fun ls l1 F t s w9 => by
                have n9 := s.1
                have m9 := w9.1
                have p9 : 0 ≤ i ∧ i < F 88 := by
                  split at q5 <;> omega
                have n99 : 0 ≤ n ∧ n ≤ 999 := by
                  split at q16 <;> omega
                have b := (sd_at (⟨by decide, by decide⟩ : 71 ≤ 71 ∧ 71 < 80) s w9 p9.1 p9.2 A51).2.2.1
                have o := (w9.2.2 i.toNat (by first | decide | omega)).2.2.1
                have r := sd_tel3 (⟨by decide, by decide⟩ : 71 ≤ 71 ∧ 71 < 80) t s w9 p9.1 p9.2 q106.2
                rw [b] at e54
                have E62 : v62 = F (28 + i.toNat) - n := by
                  rw [e62, e54, pz_wi (by first | decide | omega) (by first | decide | omega)]
                have E80 : v80 = F (28 + i.toNat) - n := by
                  rw [e80, e54, pz_wi (by first | decide | omega) (by first | decide | omega)]
                have p99 : 0 ≤ p ∧ p ≤ 1000 := by
                  split at q27 <;> omega
                have E76 : v76 = 1000 - p := by
                  rw [e76, pz_wi (by first | decide | omega) (by first | decide | omega)]
                refine ⟨E62, ?_⟩
                unfold sd_chp
                rw [e109, q90, e86, e71, e85, q82, E76, E80, e54, r, show max (F (28 + i.toNat) - n) 0 = max 0 (F (28 + i.toNat) - n) by omega]
              have G126 : ∀ (ls : List pz_lne) (l1 : List (List Int)) (F : Nat → Int), sd_tx M ls l1 → sd_se M 71 F → sd_wf F → ((0 : Int) = (if F (28 + i.toNat) - n < sd_chp ls F i.toNat n p then 1 else 0) ∧ v62 = (if F (28 + i.toNat) - n < sd_chp ls F i.toNat n p then sd_chp ls F i.toNat n p else F (28 + i.toNat) - n)) := fun ls l1 F t s w9 => by
                obtain ⟨a, b⟩ := GW ls l1 F t s w9
                rw [← a, ← b, if_neg (by first | decide | omega), if_neg (by first | decide | omega)]
                exact ⟨rfl, rfl⟩
              exact L126 _ _ _ _ _ hS (by first | omega | assumption) (by first | omega | assumption)
            · skip
              have GW : ∀ (ls : List pz_lne) (l1 : List (List Int)) (F : Nat → Int), sd_tx M ls l1 → sd_se M 71 F → sd_wf F → (v62 = F (28 + i.toNat) - n ∧ v109 = sd_chp ls F i.toNat n p) := fun ls l1 F t s w9 => by
                have n9 := s.1
                have m9 := w9.1
                have p9 : 0 ≤ i ∧ i < F 88 := by
                  split at q5 <;> omega
                have n99 : 0 ≤ n ∧ n ≤ 999 := by
                  split at q16 <;> omega
                have b := (sd_at (⟨by decide, by decide⟩ : 71 ≤ 71 ∧ 71 < 80) s w9 p9.1 p9.2 A51).2.2.1
                have o := (w9.2.2 i.toNat (by first | decide | omega)).2.2.1
                have r := sd_tel3 (⟨by decide, by decide⟩ : 71 ≤ 71 ∧ 71 < 80) t s w9 p9.1 p9.2 q106.2
                rw [b] at e54
                have E62 : v62 = F (28 + i.toNat) - n := by
                  rw [e62, e54, pz_wi (by first | decide | omega) (by first | decide | omega)]
                have E80 : v80 = F (28 + i.toNat) - n := by
                  rw [e80, e54, pz_wi (by first | decide | omega) (by first | decide | omega)]
                have p99 : 0 ≤ p ∧ p ≤ 1000 := by
                  split at q27 <;> omega
                have E76 : v76 = 1000 - p := by
                  rw [e76, pz_wi (by first | decide | omega) (by first | decide | omega)]
                refine ⟨E62, ?_⟩
                unfold sd_chp
                rw [e109, q90, e86, e71, e85, q82, E76, E80, e54, r, show max (F (28 + i.toNat) - n) 0 = max 0 (F (28 + i.toNat) - n) by omega]
              have G126 : ∀ (ls : List pz_lne) (l1 : List (List Int)) (F : Nat → Int), sd_tx M ls l1 → sd_se M 71 F → sd_wf F → ((1 : Int) = (if F (28 + i.toNat) - n < sd_chp ls F i.toNat n p then 1 else 0) ∧ v109 = (if F (28 + i.toNat) - n < sd_chp ls F i.toNat n p then sd_chp ls F i.toNat n p else F (28 + i.toNat) - n)) := fun ls l1 F t s w9 => by
                obtain ⟨a, b⟩ := GW ls l1 F t s w9
                rw [← a, ← b, if_pos (by first | decide | omega), if_pos (by first | decide | omega)]
                exact ⟨rfl, rfl⟩
              exact L126 _ _ _ _ _ hS (by first | omega | assumption) (by first | omega | assumption)
          · skip
            skip
            refine And.intro rfl ?_
            refine ⟨fun ls l1 F hT hF hW => ?_, hS⟩
            have hn := hF.1
            have hm := hW.1
            show _ = sd_chv ls F i n p w
            unfold sd_chv
            rw [if_neg (fun z => by
              first
                | (split at q5 <;> omega)
                | (split at q5 <;> split at q16 <;> omega)
                | (split at q5 <;> split at q16 <;> split at q27 <;> omega)
                | (split at q5 <;> split at q16 <;> split at q27 <;> split at q37 <;> omega))]
theorem v3_X11_choice {fr lo i : Nat} {own : String} (h1 : 4 + 1 ≤ fr) (h2 : 8 + (9 + 11) + 97 ≤ lo) (h3 : .methodLink own i yX11_choice ∈ lw_tbl) : pz_cV fr lo own i k3_X11_choice :=
  pz_cVk (maxL := 9) (fr' := 4) (lo' := 97) 4 11 h3_X11_choice rfl ⟨(pz_nhc_RX11 yX11_choice rfl).1, (pz_nhc_RX11 yX11_choice rfl).2, pz_ds18⟩ ⟨pz_wq988, pz_wq986, pz_wq987, pz_wq1⟩ (Or.inl ⟨TX11, 14, rfl⟩) (fun a M _ h => by
    have h : (match (generalizing := false) a with | [.inr (.inr (11, th)), .inl i, .inl n, .inl p, .inl w] => pz_ic M | _ => False) := h
    split at h
    · exact ⟨_, _, rfl⟩
    · exact h.elim) h1 h2 h3
noncomputable def k3_X12_downwards : pz_C := (2, 1, fun a M => (match a with | [.inl x, .inl y] => y = 1000 | _ => False), fun a M r M' => (match a, r with | [.inl x, .inl y], some (.inl v) => (v = x / y) ∧ M = M' | _, _ => False))
noncomputable abbrev ct3_X12_downwards : List (Bool × Nat × pz_C) := []
set_option maxRecDepth 100000 in
set_option maxHeartbeats 4000000 in
theorem h3_X12_downwards : pz_H yX12_downwards cX12_downwards 2 (some .int) k3_X12_downwards 0 0 := by
  refine pz_mk (own := RX12) (tb := t_X12_downwards) (fl := pz_flf fl_RX12) (ci := pz_cif ci_RX12) (ct := pz_ctf ct3_X12_downwards) (rz := false) (pz_pfc_RX12 yX12_downwards rfl) rfl t_X12_downwards_ok (pz_flk fl_RX12_ok) (pz_cik ci_RX12_ok) ?_ ?_ (Or.inl ⟨rfl, rfl⟩) ?_ ?_
  · exact fun i k' h => pz_ctk (l := ct3_X12_downwards) (P := fun b i k => b = true → pz_cV 0 0 RX12 i k) (fun _ h => absurd h List.not_mem_nil) true i k' h rfl
  · exact fun i k' h => pz_ctk (l := ct3_X12_downwards) (P := fun b i k => b = false → (pz_cS 0 0 RX12 i k ∨ (k = pz_kac ∧ 1 ≤ 0 ∧ 60 ≤ 0 ∧ Cond.methodLink RX12 i arraycopyName ∈ pz_tbl))) (fun _ h => absurd h List.not_mem_nil) false i k' h rfl
  · intro a M hlen hpre
    obtain ⟨x, y, rfl, hpre⟩ : ∃ x y, a = [.inl x, .inl y] ∧ (y = 1000) := by
      have hpre : (match (generalizing := false) a with | [.inl x, .inl y] => y = 1000 | _ => False) := hpre
      split at hpre
      · exact ⟨_, _, rfl, hpre⟩
      · exact hpre.elim
    exact Nat.le_of_ble_eq_true rfl
  · intro a M hlen hcan hM hpre Ok hgo
    obtain ⟨x, y, rfl, hpre⟩ : ∃ x y, a = [.inl x, .inl y] ∧ (y = 1000) := by
      have hpre : (match (generalizing := false) a with | [.inl x, .inl y] => y = 1000 | _ => False) := hpre
      split at hpre
      · exact ⟨_, _, rfl, hpre⟩
      · exact hpre.elim
    obtain ⟨k_x, hc_x⟩ := pz_tlm hcan
    have l_x : -2147483648 ≤ x := k_x.1
    have u_x : x ≤ 2147483647 := k_x.2
    obtain ⟨k_y, hc_y⟩ := pz_tlm hc_x
    have l_y : -2147483648 ≤ y := k_y.1
    have u_y : y ≤ 2147483647 := k_y.2
    refine hgo (fun _ => false) 18 0 _ [] M ?_
    refine And.intro (fun h1 => ?_) (fun h1 => ?_)
    · skip
      refine And.intro (by first | decide | omega) ?_
      intro v12 e12 a12 b12
      skip
      refine And.intro rfl ?_
      refine ⟨?_, rfl⟩
      have hy : y = 1000 := hpre
      subst hy
      refine sd_dw ⟨by omega, by omega⟩ ?_
      first
        | exact Or.inl ⟨by omega, e12⟩
        | exact Or.inr (Or.inl ⟨by rw [← e6]; omega, e12⟩)
        | exact Or.inr (Or.inr ⟨by omega, by rw [← e6]; omega, by rw [e20, e18]⟩)
    · skip
      refine And.intro (by first | decide | omega) ?_
      intro v6 e6 a6 b6
      skip
      refine And.intro (fun h7 => ?_) (fun h7 => ?_)
      · skip
        refine And.intro (by first | decide | omega) ?_
        intro v18 e18 a18 b18
        skip
        intro v20 e20 a20 b20
        refine And.intro rfl ?_
        refine ⟨?_, rfl⟩
        have hy : y = 1000 := hpre
        subst hy
        refine sd_dw ⟨by omega, by omega⟩ ?_
        first
          | exact Or.inl ⟨by omega, e12⟩
          | exact Or.inr (Or.inl ⟨by rw [← e6]; omega, e12⟩)
          | exact Or.inr (Or.inr ⟨by omega, by rw [← e6]; omega, by rw [e20, e18]⟩)
      · skip
        refine And.intro (by first | decide | omega) ?_
        intro v12 e12 a12 b12
        skip
        refine And.intro rfl ?_
        refine ⟨?_, rfl⟩
        have hy : y = 1000 := hpre
        subst hy
        refine sd_dw ⟨by omega, by omega⟩ ?_
        first
          | exact Or.inl ⟨by omega, e12⟩
          | exact Or.inr (Or.inl ⟨by rw [← e6]; omega, e12⟩)
          | exact Or.inr (Or.inr ⟨by omega, by rw [← e6]; omega, by rw [e20, e18]⟩)
theorem s3_X12_downwards {fr lo i : Nat} {own : String} (h1 : 0 + 1 ≤ fr) (h2 : 8 + (2 + 11) + 0 ≤ lo) (h3 : .methodLink own i yX12_downwards ∈ lw_tbl ∨ (own = RX1 ∧ i = 35 ∧ yX12_downwards = yX11_within)) : pz_cS fr lo own i k3_X12_downwards := pz_cSk (maxL := 2) (fr' := 0) (lo' := 0) 2 h3_X12_downwards rfl ⟨(pz_nhc_RX12 yX12_downwards rfl).1, (pz_nhc_RX12 yX12_downwards rfl).2, pz_ds10⟩ ⟨pz_wq1695, pz_wq1694, pz_wq13⟩ h1 h2 h3
noncomputable def k3_X12_choice : pz_C := (5, 1, fun a M => (match a with | [.inr (.inr (12, th)), .inl i, .inl n, .inl p, .inl w] => pz_im M | _ => False), fun a M r M' => (match a, r with | [.inr (.inr (12, th)), .inl i, .inl n, .inl p, .inl w], some (.inl v) => (sd_wm M v (fun ls F => sd_chv ls F i n p w)) ∧ pz_rl pz_QV M M' | _, _ => False))
noncomputable abbrev ct3_X12_choice : List (Bool × Nat × pz_C) := [(true, 58, k_X12_isLink), (false, 54, k_X12_isIn), (false, 51, k_X12_greater), (false, 442, k3_X12_downwards), (true, 385, k3_X12_costOf)]
set_option maxRecDepth 100000 in
set_option maxHeartbeats 4000000 in
theorem h3_X12_choice : pz_H yX12_choice cX12_choice 9 (some .int) k3_X12_choice 5 116 := by
  refine pz_mk (own := RX12) (tb := t_X12_choice) (fl := pz_flf fl_RX12) (ci := pz_cif ci_RX12) (ct := pz_ctf ct3_X12_choice) (rz := false) (pz_pfc_RX12 yX12_choice rfl) rfl t_X12_choice_ok (pz_flk fl_RX12_ok) (pz_cik ci_RX12_ok) ?_ ?_ (Or.inl ⟨rfl, rfl⟩) ?_ ?_
  · exact fun i k' h => pz_ctk (l := ct3_X12_choice) (P := fun b i k => b = true → pz_cV 5 116 RX12 i k) (List.forall_mem_cons.mpr ⟨(fun _ => v_X12_isLink (by decide) (by decide) pz_wq1224), List.forall_mem_cons.mpr ⟨((fun z => by cases z)), List.forall_mem_cons.mpr ⟨((fun z => by cases z)), List.forall_mem_cons.mpr ⟨((fun z => by cases z)), List.forall_mem_cons.mpr ⟨(fun _ => v3_X12_costOf (by decide) (by decide) pz_wq1577), fun _ h => absurd h List.not_mem_nil⟩⟩⟩⟩⟩) true i k' h rfl
  · exact fun i k' h => pz_ctk (l := ct3_X12_choice) (P := fun b i k => b = false → (pz_cS 5 116 RX12 i k ∨ (k = pz_kac ∧ 1 ≤ 5 ∧ 60 ≤ 116 ∧ Cond.methodLink RX12 i arraycopyName ∈ pz_tbl))) (List.forall_mem_cons.mpr ⟨((fun z => by cases z)), List.forall_mem_cons.mpr ⟨(fun _ => Or.inl (s_X12_isIn (by decide) (by decide) (Or.inl pz_wq1217))), List.forall_mem_cons.mpr ⟨(fun _ => Or.inl (s_X12_greater (by decide) (by decide) (Or.inl pz_wq1447))), List.forall_mem_cons.mpr ⟨(fun _ => Or.inl (s3_X12_downwards (by decide) (by decide) (Or.inl pz_wq1693))), List.forall_mem_cons.mpr ⟨((fun z => by cases z)), fun _ h => absurd h List.not_mem_nil⟩⟩⟩⟩⟩) false i k' h rfl
  · intro a M hlen hpre
    obtain ⟨th, i, n, p, w, rfl, hpre⟩ : ∃ th i n p w, a = [.inr (.inr (12, th)), .inl i, .inl n, .inl p, .inl w] ∧ (pz_im M) := by
      have hpre : (match (generalizing := false) a with | [.inr (.inr (12, th)), .inl i, .inl n, .inl p, .inl w] => pz_im M | _ => False) := hpre
      split at hpre
      · exact ⟨_, _, _, _, _, rfl, hpre⟩
      · exact hpre.elim
    exact Nat.le_of_ble_eq_true rfl
  · intro a M hlen hcan hM hpre Ok hgo
    obtain ⟨th, i, n, p, w, rfl, hpre⟩ : ∃ th i n p w, a = [.inr (.inr (12, th)), .inl i, .inl n, .inl p, .inl w] ∧ (pz_im M) := by
      have hpre : (match (generalizing := false) a with | [.inr (.inr (12, th)), .inl i, .inl n, .inl p, .inl w] => pz_im M | _ => False) := hpre
      split at hpre
      · exact ⟨_, _, _, _, _, rfl, hpre⟩
      · exact hpre.elim
    obtain ⟨k_th, hc_th⟩ := pz_tlm hcan
    have k_th : pz_kd th = 12 ∧ th < 231 := k_th
    have R_th := pz_kd12 k_th.1
    subst R_th
    clear k_th
    obtain ⟨k_i, hc_i⟩ := pz_tlm hc_th
    have l_i : -2147483648 ≤ i := k_i.1
    have u_i : i ≤ 2147483647 := k_i.2
    obtain ⟨k_n, hc_n⟩ := pz_tlm hc_i
    have l_n : -2147483648 ≤ n := k_n.1
    have u_n : n ≤ 2147483647 := k_n.2
    obtain ⟨k_p, hc_p⟩ := pz_tlm hc_n
    have l_p : -2147483648 ≤ p := k_p.1
    have u_p : p ≤ 2147483647 := k_p.2
    obtain ⟨k_w, hc_w⟩ := pz_tlm hc_p
    have l_w : -2147483648 ≤ w := k_w.1
    have u_w : w ≤ 2147483647 := k_w.2
    have hI : pz_im M := hpre
    have hI0 := hI
    have hS : pz_rl pz_QV M M := pz_rl.rf
    have I88 := hI.1.1
    have L127 : ∀ (x5 : Int) (x6 : Int) (x7 : Int) (x8 : Int) (N127 : pz_M), (pz_rl pz_QV M N127) → (0 ≤ i ∧ i < M 60 88 ∧ (0 ≤ n ∧ n ≤ 999) ∧ (0 ≤ p ∧ p ≤ 1000) ∧ 0 ≤ w ∧ w ≤ 1) → (∀ ls : List pz_lne, pq_wlw ls (M 60) → (∀ q ∈ ls, pv_ln q) → sd_wf (M 60) → (x8, x7) = sd_chw ls (M 60) i.toNat n p) → Ok 127 [some (.inr (.inr (12, 1))), some (.inl i), some (.inl n), some (.inl p), some (.inl w), some (.inl x5), some (.inl x6), some (.inl x7), some (.inl x8)] [] N127 := by
      intro x5 x6 x7 x8 N127 hS g127_1 g127_2
      have hI : pz_im N127 := hS.1 hI0
      refine hgo (fun p => Nat.beq p 116 || Nat.beq p 127) 78 127 _ _ _ ?_
      refine And.intro (fun h129 => ?_) (fun h129 => ?_)
      · skip
        replace h129 : 1 ≤ w := by omega
        refine And.intro rfl ?_
        refine ⟨fun ls hl hq hW => ?_, hS⟩
        have hm := hW.1
        show _ = sd_chv ls (M 60) i n p w
        have z := (by assumption : ∀ ls : List pz_lne, pq_wlw ls (M 60) → (∀ q ∈ ls, pv_ln q) → sd_wf (M 60) → (x8, x7) = sd_chw ls (M 60) i.toNat n p) ls hl hq hW
        unfold sd_chv
        rw [if_pos (by first | decide | omega), ← z]
        first
          | (rw [if_pos (by first | decide | omega)]; done)
          | (rw [if_neg (by first | decide | omega)]; done)
      · skip
        refine And.intro rfl ?_
        refine ⟨fun ls hl hq hW => ?_, hS⟩
        have hm := hW.1
        show _ = sd_chv ls (M 60) i n p w
        have z := (by assumption : ∀ ls : List pz_lne, pq_wlw ls (M 60) → (∀ q ∈ ls, pv_ln q) → sd_wf (M 60) → (x8, x7) = sd_chw ls (M 60) i.toNat n p) ls hl hq hW
        unfold sd_chv
        rw [if_pos (by first | decide | omega), ← z]
        first
          | (rw [if_pos (by first | decide | omega)]; done)
          | (rw [if_neg (by first | decide | omega)]; done)
    have L116 : ∀ (x5 : Int) (x6 : Int) (x7 : Int) (x8 : Int) (N116 : pz_M), (pz_rl pz_QV M N116) → (0 ≤ i ∧ i < M 60 88 ∧ (0 ≤ n ∧ n ≤ 999) ∧ (0 ≤ p ∧ p ≤ 1000) ∧ 0 ≤ w ∧ w ≤ 1) → (∀ ls : List pz_lne, pq_wlw ls (M 60) → (∀ q ∈ ls, pv_ln q) → sd_wf (M 60) → (x8 = (if M 60 (28 + i.toNat) - n < sd_chp ls (M 60) i.toNat n p then 1 else 0) ∧ x7 = (if M 60 (28 + i.toNat) - n < sd_chp ls (M 60) i.toNat n p then sd_chp ls (M 60) i.toNat n p else M 60 (28 + i.toNat) - n))) → Ok 116 [some (.inr (.inr (12, 1))), some (.inl i), some (.inl n), some (.inl p), some (.inl w), some (.inl x5), some (.inl x6), some (.inl x7), some (.inl x8)] [] N116 := by
      intro x5 x6 x7 x8 N116 hS g116_1 g116_2
      have hI : pz_im N116 := hS.1 hI0
      refine hgo (fun p => Nat.beq p 116 || Nat.beq p 127) 78 116 _ _ _ ?_
      refine And.intro (fun h118 => ?_) (fun h118 => ?_)
      · skip
        have G127 : ∀ ls : List pz_lne, pq_wlw ls (M 60) → (∀ q ∈ ls, pv_ln q) → sd_wf (M 60) → (x8, x7) = sd_chw ls (M 60) i.toNat n p := fun ls hl hq w9 => by
          obtain ⟨a, b⟩ := (by assumption : ∀ ls : List pz_lne, pq_wlw ls (M 60) → (∀ q ∈ ls, pv_ln q) → sd_wf (M 60) → (x8 = (if M 60 (28 + i.toNat) - n < sd_chp ls (M 60) i.toNat n p then 1 else 0) ∧ x7 = (if M 60 (28 + i.toNat) - n < sd_chp ls (M 60) i.toNat n p then sd_chp ls (M 60) i.toNat n p else M 60 (28 + i.toNat) - n))) ls hl hq w9
          unfold sd_chw
          rw [← b, if_neg (by first | decide | omega)]
          by_cases z : M 60 (28 + i.toNat) - n < sd_chp ls (M 60) i.toNat n p
          · rw [if_pos z] at a b ⊢
            rw [a, b]
          · rw [if_neg z] at a b ⊢
            rw [a, b]
        exact L127 _ _ _ _ _ hS (by first | omega | assumption) (by first | omega | assumption)
      · skip
        have G127 : ∀ ls : List pz_lne, pq_wlw ls (M 60) → (∀ q ∈ ls, pv_ln q) → sd_wf (M 60) → (2, 0) = sd_chw ls (M 60) i.toNat n p := fun ls hl hq w9 => by
          obtain ⟨a, b⟩ := (by assumption : ∀ ls : List pz_lne, pq_wlw ls (M 60) → (∀ q ∈ ls, pv_ln q) → sd_wf (M 60) → (x8 = (if M 60 (28 + i.toNat) - n < sd_chp ls (M 60) i.toNat n p then 1 else 0) ∧ x7 = (if M 60 (28 + i.toNat) - n < sd_chp ls (M 60) i.toNat n p then sd_chp ls (M 60) i.toNat n p else M 60 (28 + i.toNat) - n))) ls hl hq w9
          unfold sd_chw
          rw [← b, if_pos (by first | decide | omega)]
        exact L127 _ _ _ _ _ hS (by first | omega | assumption) (by first | omega | assumption)
    refine hgo (fun p => Nat.beq p 116 || Nat.beq p 127) 78 0 _ [] M ?_
    refine And.intro (hI) ?_
    intro v2 M2 a2 b2 q2
    obtain ⟨q2, z2⟩ := q2
    subst z2
    clear a2 b2
    refine And.intro (fun h5 => ?_) (fun h5 => ?_)
    · skip
      replace q2 := q2.resolve_left (fun z => absurd (z.1.symm.trans h5) (by decide))
      clear h5
      refine And.intro rfl ?_
      refine ⟨fun ls hl hq hW => ?_, hS⟩
      have hm := hW.1
      show _ = sd_chv ls (M 60) i n p w
      unfold sd_chv
      rw [if_neg (by first | decide | omega)]
    · skip
      replace q2 := q2.resolve_right (fun z => h5 z.1)
      clear h5
      refine And.intro (True.intro) ?_
      intro v13 M13 a13 b13 q13
      obtain ⟨q13, z13⟩ := q13
      subst z13
      clear a13 b13
      refine And.intro (fun h16 => ?_) (fun h16 => ?_)
      · skip
        replace q13 := q13.resolve_left (fun z => absurd (z.1.symm.trans h16) (by decide))
        clear h16
        refine And.intro rfl ?_
        refine ⟨fun ls hl hq hW => ?_, hS⟩
        have hm := hW.1
        show _ = sd_chv ls (M 60) i n p w
        unfold sd_chv
        rw [if_neg (by first | decide | omega)]
      · skip
        replace q13 := q13.resolve_right (fun z => h16 z.1)
        clear h16
        refine And.intro (True.intro) ?_
        intro v24 M24 a24 b24 q24
        obtain ⟨q24, z24⟩ := q24
        subst z24
        clear a24 b24
        refine And.intro (fun h27 => ?_) (fun h27 => ?_)
        · skip
          replace q24 := q24.resolve_left (fun z => absurd (z.1.symm.trans h27) (by decide))
          clear h27
          refine And.intro rfl ?_
          refine ⟨fun ls hl hq hW => ?_, hS⟩
          have hm := hW.1
          show _ = sd_chv ls (M 60) i n p w
          unfold sd_chv
          rw [if_neg (by first | decide | omega)]
        · skip
          replace q24 := q24.resolve_right (fun z => h27 z.1)
          clear h27
          refine And.intro (True.intro) ?_
          intro v34 M34 a34 b34 q34
          obtain ⟨q34, z34⟩ := q34
          subst z34
          clear a34 b34
          refine And.intro (fun h37 => ?_) (fun h37 => ?_)
          · skip
            have GP : 0 ≤ i ∧ i < M 60 88 ∧ (0 ≤ n ∧ n ≤ 999) ∧ (0 ≤ p ∧ p ≤ 1000) ∧ 0 ≤ w ∧ w ≤ 1 := by omega
            replace q34 := q34.resolve_right (fun z => h37 z.1)
            clear h37
            refine pz_nrc (c := 60) rfl ?_
            intro v51 e51 a51 b51
            rw [pz_wi (by first | decide | omega) (by first | decide | omega)] at e51
            clear a51 b51
            have lo52 : (0 : Int) ≤ v51 := by omega
            have tn52 : (((v51).toNat : Nat) : Int) = v51 := Int.toNat_of_nonneg lo52
            refine And.intro (lo52) (And.intro (show _ < (1725 : Int) from by omega) ?_)
            intro v52 e52 a52 b52
            rw [show v51.toNat = 28 + i.toNat by omega] at e52
            intro v54 e54 a54 b54
            refine pz_nrc (c := 60) rfl ?_
            intro v65 e65 a65 b65
            rw [pz_wi (by first | decide | omega) (by first | decide | omega)] at e65
            clear a65 b65
            have lo66 : (0 : Int) ≤ v65 := by omega
            have tn66 : (((v65).toNat : Nat) : Int) = v65 := Int.toNat_of_nonneg lo66
            refine And.intro (lo66) (And.intro (show _ < (1725 : Int) from by omega) ?_)
            intro v66 e66 a66 b66
            rw [show v65.toNat = 28 + i.toNat by omega] at e66
            intro v67 e67 a67 b67
            intro v72 e72 a72 b72
            refine And.intro (True.intro) ?_
            intro v76 M76 a76 b76 q76
            obtain ⟨q76, z76⟩ := q76
            subst z76
            intro v79 e79 a79 b79
            intro v80 e80 a80 b80
            refine And.intro (rfl) ?_
            intro v84 M84 a84 b84 q84
            obtain ⟨q84, z84⟩ := q84
            subst z84
            refine And.intro (And.intro hI (And.intro (by first | decide | omega) (by first | decide | omega))) ?_
            intro v89 M89 a89 b89 q89
            obtain ⟨q89, z89⟩ := q89
            have hS : pz_rl pz_QV M M89 := hS.tr (pz_rl.wk pz_wk_QS_QV z89)
            have hI : pz_im M89 := hS.1 hI0
            clear a89 b89
            intro v92 e92 a92 b92
            refine And.intro (fun h106 => ?_) (fun h106 => ?_)
            · skip
              have GW : ∀ ls : List pz_lne, pq_wlw ls (M 60) → (∀ q ∈ ls, pv_ln q) → sd_wf (M 60) → (v54 = M 60 (28 + i.toNat) - n ∧ v92 = sd_chp ls (M 60) i.toNat n p) := fun ls hl hq w9 => by
                have m9 := w9.1
                have o := (w9.2.2 i.toNat (by first | decide | omega)).2.2.1
                have r := q89.1 (by first | decide | omega) ls hl hq
                have E54 : v54 = M 60 (28 + i.toNat) - n := by
                  rw [e54, e52, pz_wi (by first | decide | omega) (by first | decide | omega)]
                have E71 : v72 = 1000 - p := by
                  rw [e72, pz_wi (by first | decide | omega) (by first | decide | omega)]
                have E76 : v76 = max 0 (M 60 (28 + i.toNat) - n) := by
                  rw [← E54]
                  omega
                refine ⟨E54, ?_⟩
                unfold sd_chp
                rw [e92, q84, e80, e67, e79, E71, E76, e66, r]
              have G116 : ∀ ls : List pz_lne, pq_wlw ls (M 60) → (∀ q ∈ ls, pv_ln q) → sd_wf (M 60) → ((0 : Int) = (if M 60 (28 + i.toNat) - n < sd_chp ls (M 60) i.toNat n p then 1 else 0) ∧ v54 = (if M 60 (28 + i.toNat) - n < sd_chp ls (M 60) i.toNat n p then sd_chp ls (M 60) i.toNat n p else M 60 (28 + i.toNat) - n)) := fun ls hl hq w9 => by
                obtain ⟨a, b⟩ := GW ls hl hq w9
                rw [← a, ← b, if_neg (by first | decide | omega), if_neg (by first | decide | omega)]
                exact ⟨rfl, rfl⟩
              exact L116 _ _ _ _ _ hS (by first | omega | assumption) (by first | omega | assumption)
            · skip
              have GW : ∀ ls : List pz_lne, pq_wlw ls (M 60) → (∀ q ∈ ls, pv_ln q) → sd_wf (M 60) → (v54 = M 60 (28 + i.toNat) - n ∧ v92 = sd_chp ls (M 60) i.toNat n p) := fun ls hl hq w9 => by
                have m9 := w9.1
                have o := (w9.2.2 i.toNat (by first | decide | omega)).2.2.1
                have r := q89.1 (by first | decide | omega) ls hl hq
                have E54 : v54 = M 60 (28 + i.toNat) - n := by
                  rw [e54, e52, pz_wi (by first | decide | omega) (by first | decide | omega)]
                have E71 : v72 = 1000 - p := by
                  rw [e72, pz_wi (by first | decide | omega) (by first | decide | omega)]
                have E76 : v76 = max 0 (M 60 (28 + i.toNat) - n) := by
                  rw [← E54]
                  omega
                refine ⟨E54, ?_⟩
                unfold sd_chp
                rw [e92, q84, e80, e67, e79, E71, E76, e66, r]
              have G116 : ∀ ls : List pz_lne, pq_wlw ls (M 60) → (∀ q ∈ ls, pv_ln q) → sd_wf (M 60) → ((1 : Int) = (if M 60 (28 + i.toNat) - n < sd_chp ls (M 60) i.toNat n p then 1 else 0) ∧ v92 = (if M 60 (28 + i.toNat) - n < sd_chp ls (M 60) i.toNat n p then sd_chp ls (M 60) i.toNat n p else M 60 (28 + i.toNat) - n)) := fun ls hl hq w9 => by
                obtain ⟨a, b⟩ := GW ls hl hq w9
                rw [← a, ← b, if_pos (by first | decide | omega), if_pos (by first | decide | omega)]
                exact ⟨rfl, rfl⟩
              exact L116 _ _ _ _ _ hS (by first | omega | assumption) (by first | omega | assumption)
          · skip
            skip
            replace q34 := q34.resolve_left (fun z => absurd (z.1.symm.trans h37) (by decide))
            clear h37
            refine And.intro rfl ?_
            refine ⟨fun ls hl hq hW => ?_, hS⟩
            have hm := hW.1
            show _ = sd_chv ls (M 60) i n p w
            unfold sd_chv
            rw [if_neg (by first | decide | omega)]
theorem v3_X12_choice {fr lo i : Nat} {own : String} (h1 : 5 + 1 ≤ fr) (h2 : 8 + (9 + 11) + 116 ≤ lo) (h3 : .methodLink own i yX12_choice ∈ lw_tbl) : pz_cV fr lo own i k3_X12_choice :=
  pz_cVk (maxL := 9) (fr' := 5) (lo' := 116) 4 12 h3_X12_choice rfl ⟨(pz_nhc_RX12 yX12_choice rfl).1, (pz_nhc_RX12 yX12_choice rfl).2, pz_ds18⟩ ⟨pz_wq1692, pz_wq1690, pz_wq1691, pz_wq13⟩ (Or.inl ⟨TX12, 28, rfl⟩) (fun a M _ h => by
    have h : (match (generalizing := false) a with | [.inr (.inr (12, th)), .inl i, .inl n, .inl p, .inl w] => pz_im M | _ => False) := h
    split at h
    · exact ⟨_, _, rfl⟩
    · exact h.elim) h1 h2 h3
end
section
noncomputable def k3_X12_isRunning : pz_C := (2, 1, fun a M => (match a with | [.inr (.inr (12, th)), .inl i] => pz_im M | _ => False), fun a M r M' => (match a, r with | [.inr (.inr (12, th)), .inl i], some (.inl v) => ((v = 0 ∨ v = 1) ∧ (0 ≤ i → i < M 60 88 → (v = 1 ↔ sd_fi (M 60) i.toNat))) ∧ M = M' | _, _ => False))
noncomputable abbrev ct3_X12_isRunning : List (Bool × Nat × pz_C) := [(true, 317, k3_X12_isThere), (true, 361, k3_X12_canPay)]
set_option maxRecDepth 100000 in
set_option maxHeartbeats 4000000 in
theorem h3_X12_isRunning : pz_H yX12_isRunning cX12_isRunning 2 (some .boolean) k3_X12_isRunning 3 64 := by
  refine pz_mk (own := RX12) (tb := t_X12_isRunning) (fl := pz_flf fl_RX12) (ci := pz_cif ci_RX12) (ct := pz_ctf ct3_X12_isRunning) (rz := true) (pz_pfc_RX12 yX12_isRunning rfl) rfl t_X12_isRunning_ok (pz_flk fl_RX12_ok) (pz_cik ci_RX12_ok) ?_ ?_ (Or.inr ⟨rfl, rfl⟩) ?_ ?_
  · exact fun i k' h => pz_ctk (l := ct3_X12_isRunning) (P := fun b i k => b = true → pz_cV 3 64 RX12 i k) (List.forall_mem_cons.mpr ⟨(fun _ => v3_X12_isThere (by decide) (by decide) pz_wq1415), List.forall_mem_cons.mpr ⟨(fun _ => v3_X12_canPay (by decide) (by decide) pz_wq1573), fun _ h => absurd h List.not_mem_nil⟩⟩) true i k' h rfl
  · exact fun i k' h => pz_ctk (l := ct3_X12_isRunning) (P := fun b i k => b = false → (pz_cS 3 64 RX12 i k ∨ (k = pz_kac ∧ 1 ≤ 3 ∧ 60 ≤ 64 ∧ Cond.methodLink RX12 i arraycopyName ∈ pz_tbl))) (List.forall_mem_cons.mpr ⟨((fun z => by cases z)), List.forall_mem_cons.mpr ⟨((fun z => by cases z)), fun _ h => absurd h List.not_mem_nil⟩⟩) false i k' h rfl
  · intro a M hlen hpre
    obtain ⟨th, i, rfl, hpre⟩ : ∃ th i, a = [.inr (.inr (12, th)), .inl i] ∧ (pz_im M) := by
      have hpre : (match (generalizing := false) a with | [.inr (.inr (12, th)), .inl i] => pz_im M | _ => False) := hpre
      split at hpre
      · exact ⟨_, _, rfl, hpre⟩
      · exact hpre.elim
    exact Nat.le_of_ble_eq_true rfl
  · intro a M hlen hcan hM hpre Ok hgo
    obtain ⟨th, i, rfl, hpre⟩ : ∃ th i, a = [.inr (.inr (12, th)), .inl i] ∧ (pz_im M) := by
      have hpre : (match (generalizing := false) a with | [.inr (.inr (12, th)), .inl i] => pz_im M | _ => False) := hpre
      split at hpre
      · exact ⟨_, _, rfl, hpre⟩
      · exact hpre.elim
    obtain ⟨k_th, hc_th⟩ := pz_tlm hcan
    have k_th : pz_kd th = 12 ∧ th < 231 := k_th
    have R_th := pz_kd12 k_th.1
    subst R_th
    clear k_th
    obtain ⟨k_i, hc_i⟩ := pz_tlm hc_th
    have l_i : -2147483648 ≤ i := k_i.1
    have u_i : i ≤ 2147483647 := k_i.2
    have hI : pz_im M := hpre
    have I88 := hI.1.1
    refine hgo (fun _ => false) 14 0 _ [] M ?_
    refine And.intro (hI) ?_
    intro v2 M2 a2 b2 q2
    obtain ⟨q2, z2⟩ := q2
    subst z2
    clear a2 b2
    refine And.intro (fun h5 => ?_) (fun h5 => ?_)
    · skip
      replace q2 := q2.resolve_left (fun z => absurd (z.1.symm.trans h5) (by decide))
      refine And.intro (by first | decide | omega) ?_
      refine And.intro rfl ?_
      refine ⟨⟨by omega, fun h0 h1 => ?_⟩, rfl⟩
      rw [show (52 + i).toNat = 52 + i.toNat by omega, show (76 + i).toNat = 76 + i.toNat by omega] at q2
      unfold sd_fi
      first
        | exact ⟨fun z => by omega, fun z => by
            have z1 := z.1
            unfold sd_in at z1
            omega⟩
        | (have a := q10.2.trans (sd_py_i (F := M 60) h0)
           first
             | exact ⟨fun z => by omega, fun z => absurd (a.mpr z.2) (by first | decide | omega)⟩
             | exact ⟨fun _ => ⟨by unfold sd_in; omega, a.mp (by first | decide | omega)⟩, fun _ => by omega⟩)
    · skip
      replace q2 := q2.resolve_right (fun z => h5 z.1)
      refine And.intro (And.intro hI (And.intro (by first | decide | omega) (by first | decide | omega))) ?_
      intro v10 M10 a10 b10 q10
      obtain ⟨q10, z10⟩ := q10
      subst z10
      refine And.intro (fun h13 => ?_) (fun h13 => ?_)
      · skip
        refine And.intro (by first | decide | omega) ?_
        refine And.intro rfl ?_
        refine ⟨⟨by omega, fun h0 h1 => ?_⟩, rfl⟩
        rw [show (52 + i).toNat = 52 + i.toNat by omega, show (76 + i).toNat = 76 + i.toNat by omega] at q2
        unfold sd_fi
        first
          | exact ⟨fun z => by omega, fun z => by
              have z1 := z.1
              unfold sd_in at z1
              omega⟩
          | (have a := q10.2.trans (sd_py_i (F := M 60) h0)
             first
               | exact ⟨fun z => by omega, fun z => absurd (a.mpr z.2) (by first | decide | omega)⟩
               | exact ⟨fun _ => ⟨by unfold sd_in; omega, a.mp (by first | decide | omega)⟩, fun _ => by omega⟩)
      · skip
        refine And.intro (by first | decide | omega) ?_
        refine And.intro rfl ?_
        refine ⟨⟨by omega, fun h0 h1 => ?_⟩, rfl⟩
        rw [show (52 + i).toNat = 52 + i.toNat by omega, show (76 + i).toNat = 76 + i.toNat by omega] at q2
        unfold sd_fi
        first
          | exact ⟨fun z => by omega, fun z => by
              have z1 := z.1
              unfold sd_in at z1
              omega⟩
          | (have a := q10.2.trans (sd_py_i (F := M 60) h0)
             first
               | exact ⟨fun z => by omega, fun z => absurd (a.mpr z.2) (by first | decide | omega)⟩
               | exact ⟨fun _ => ⟨by unfold sd_in; omega, a.mp (by first | decide | omega)⟩, fun _ => by omega⟩)
theorem v3_X12_isRunning {fr lo i : Nat} {own : String} (h1 : 3 + 1 ≤ fr) (h2 : 8 + (2 + 11) + 64 ≤ lo) (h3 : .methodLink own i yX12_isRunning ∈ lw_tbl) : pz_cV fr lo own i k3_X12_isRunning :=
  pz_cVk (maxL := 2) (fr' := 3) (lo' := 64) 1 12 h3_X12_isRunning rfl ⟨(pz_nhc_RX12 yX12_isRunning rfl).1, (pz_nhc_RX12 yX12_isRunning rfl).2, pz_ds9⟩ ⟨pz_wq1711, pz_wq1710, pz_ws82, pz_wq13⟩ (Or.inl ⟨TX12, 28, rfl⟩) (fun a M _ h => by
    have h : (match (generalizing := false) a with | [.inr (.inr (12, th)), .inl i] => pz_im M | _ => False) := h
    split at h
    · exact ⟨_, _, rfl⟩
    · exact h.elim) h1 h2 h3
noncomputable def k3_X11_runs : pz_C := (2, 1, fun a M => (match a with | [.inr (.inr (11, th)), .inl w] => pz_ic M | _ => False), fun a M r M' => (match a, r with | [.inr (.inr (11, th)), .inl w], some (.inl v) => (sd_wc M v (fun _ F => sd_rnv F w)) ∧ M = M' | _, _ => False))
noncomputable abbrev ct3_X11_runs : List (Bool × Nat × pz_C) := [(true, 107, k_X0_at), (true, 297, k_X5_isIn), (true, 218, k3_X0_canPay)]
set_option maxRecDepth 100000 in
set_option maxHeartbeats 4000000 in
theorem h3_X11_runs : pz_H yX11_runs cX11_runs 9 (some .int) k3_X11_runs 3 64 := by
  refine pz_mk (own := RX11) (tb := t_X11_runs) (fl := pz_flf fl_RX11) (ci := pz_cif ci_RX11) (ct := pz_ctf ct3_X11_runs) (rz := false) (pz_pfc_RX11 yX11_runs rfl) rfl t_X11_runs_ok (pz_flk fl_RX11_ok) (pz_cik ci_RX11_ok) ?_ ?_ (Or.inl ⟨rfl, rfl⟩) ?_ ?_
  · exact fun i k' h => pz_ctk (l := ct3_X11_runs) (P := fun b i k => b = true → pz_cV 3 64 RX11 i k) (List.forall_mem_cons.mpr ⟨(fun _ => v_X0_at (by decide) (by decide) pz_wq428), List.forall_mem_cons.mpr ⟨(fun _ => v_X5_isIn (by decide) (by decide) pz_wq984), List.forall_mem_cons.mpr ⟨(fun _ => v3_X0_canPay (by decide) (by decide) pz_wq839), fun _ h => absurd h List.not_mem_nil⟩⟩⟩) true i k' h rfl
  · exact fun i k' h => pz_ctk (l := ct3_X11_runs) (P := fun b i k => b = false → (pz_cS 3 64 RX11 i k ∨ (k = pz_kac ∧ 1 ≤ 3 ∧ 60 ≤ 64 ∧ Cond.methodLink RX11 i arraycopyName ∈ pz_tbl))) (List.forall_mem_cons.mpr ⟨((fun z => by cases z)), List.forall_mem_cons.mpr ⟨((fun z => by cases z)), List.forall_mem_cons.mpr ⟨((fun z => by cases z)), fun _ h => absurd h List.not_mem_nil⟩⟩⟩) false i k' h rfl
  · intro a M hlen hpre
    obtain ⟨th, w, rfl, hpre⟩ : ∃ th w, a = [.inr (.inr (11, th)), .inl w] ∧ (pz_ic M) := by
      have hpre : (match (generalizing := false) a with | [.inr (.inr (11, th)), .inl w] => pz_ic M | _ => False) := hpre
      split at hpre
      · exact ⟨_, _, rfl, hpre⟩
      · exact hpre.elim
    exact Nat.le_of_ble_eq_true rfl
  · intro a M hlen hcan hM hpre Ok hgo
    obtain ⟨th, w, rfl, hpre⟩ : ∃ th w, a = [.inr (.inr (11, th)), .inl w] ∧ (pz_ic M) := by
      have hpre : (match (generalizing := false) a with | [.inr (.inr (11, th)), .inl w] => pz_ic M | _ => False) := hpre
      split at hpre
      · exact ⟨_, _, rfl, hpre⟩
      · exact hpre.elim
    obtain ⟨k_th, hc_th⟩ := pz_tlm hcan
    have k_th : pz_kd th = 11 ∧ th < 231 := k_th
    have R_th := pz_kd11 k_th.1
    subst R_th
    obtain ⟨k_w, hc_w⟩ := pz_tlm hc_th
    have l_w : -2147483648 ≤ w := k_w.1
    have u_w : w ≤ 2147483647 := k_w.2
    have hI : pz_ic M := hpre
    have L13 : ∀ (fu : Nat) (x2 : Int) (x3 : Int) (x4 : Int) (x5 : Int) (x6 : Int) (d7 : Option pz_V) (d8 : Option pz_V), (12 - x6).toNat < fu → (0 ≤ x6) → (0 ≤ x5) → (x5 ≤ x6) → (sd_q M 71 (fun F => sd_rnE F x5 x2 x3 x4 x6)) → Ok 13 [some (.inr (.inr (11, 0))), some (.inl w), some (.inl x2), some (.inl x3), some (.inl x4), some (.inl x5), some (.inl x6), d7, d8] [] M := by
      intro fu
      induction fu with
      | zero => exact fun _ _ _ _ _ _ _ hn => absurd hn (Nat.not_lt_zero _)
      | succ fu ih13 =>
        intro x2 x3 x4 x5 x6 d7 d8 hn13 g13_0 g13_1 g13_2 g13_3
        have L130 : ∀ (x2 : Int) (x3 : Int) (x4 : Int) (x5 : Int) (x6 : Int) (r7 : Nat) (x8 : Int), (pz_kd r7 = 5) → (0 ≤ x6) → (x6 < 12) → (0 ≤ x5) → (x5 ≤ x6 + 1) → ((12 - x6).toNat < fu + 1) → (x6 < M 71 3) → (sd_q M 71 (fun F => sd_rnE F x5 x2 x3 x4 (x6 + 1))) → Ok 130 [some (.inr (.inr (11, 0))), some (.inl w), some (.inl x2), some (.inl x3), some (.inl x4), some (.inl x5), some (.inl x6), some (.inr (.inr (5, r7))), some (.inl x8)] [] M := by
          intro x2 x3 x4 x5 x6 r7 x8 K_r7 g130_1 g130_2 g130_3 g130_4 g130_5 g130_6 g130_7
          have R_r7 := pz_kd5 K_r7
          refine hgo (fun p => Nat.beq p 13 || Nat.beq p 61 || Nat.beq p 76 || Nat.beq p 95 || Nat.beq p 130) 80 130 _ _ _ ?_
          intro v130 e130 a130 b130
          rw [pz_wi (by first | decide | omega) (by first | decide | omega)] at e130
          have G13 : sd_q M 71 (fun F => sd_rnE F x5 x2 x3 x4 v130) := by
            rw [e130]
            assumption
          exact ih13 _ _ _ _ _ _ _ (by first | decide | omega) (by first | omega | assumption | exact fun F hF hW => ⟨⟨Int.le_refl _, hW.1.1⟩, Or.inl rfl, rfl⟩) (by first | omega | assumption | exact fun F hF hW => ⟨⟨Int.le_refl _, hW.1.1⟩, Or.inl rfl, rfl⟩) (by first | omega | assumption | exact fun F hF hW => ⟨⟨Int.le_refl _, hW.1.1⟩, Or.inl rfl, rfl⟩) (by first | omega | assumption | exact fun F hF hW => ⟨⟨Int.le_refl _, hW.1.1⟩, Or.inl rfl, rfl⟩)
        have L95 : ∀ (x2 : Int) (x3 : Int) (x4 : Int) (x5 : Int) (x6 : Int) (r7 : Nat) (x8 : Int), (pz_kd r7 = 5) → (0 ≤ x6) → (x6 < 12) → (0 ≤ x5) → (x5 ≤ x6 + 1) → ((12 - x6).toNat < fu + 1) → (x6 < M 71 3) → (r7 = pz_lnk 71 x6) → (sd_q M 71 (fun F => sd_rnP F x5 x2 x3 x4 x6 ∧ x8 = (if sd_fi F x6.toNat then 1 else 0))) → Ok 95 [some (.inr (.inr (11, 0))), some (.inl w), some (.inl x2), some (.inl x3), some (.inl x4), some (.inl x5), some (.inl x6), some (.inr (.inr (5, r7))), some (.inl x8)] [] M := by
          intro x2 x3 x4 x5 x6 r7 x8 K_r7 g95_1 g95_2 g95_3 g95_4 g95_5 g95_6 g95_7 g95_8
          have R_r7 := pz_kd5 K_r7
          refine hgo (fun p => Nat.beq p 13 || Nat.beq p 61 || Nat.beq p 76 || Nat.beq p 95 || Nat.beq p 130) 80 95 _ _ _ ?_
          refine And.intro (fun h97 => ?_) (fun h97 => ?_)
          · skip
            have G130 : sd_q M 71 (fun F => sd_rnE F x5 x2 x3 x4 (x6 + 1)) := fun F hF hW => by
              obtain ⟨g, c⟩ := (by assumption : sd_q M 71 (fun F => sd_rnP F x5 x2 x3 x4 x6 ∧ x8 = (if sd_fi F x6.toNat then 1 else 0))) F hF hW
              have n9 := hF.1
              have m9 := hW.1
              have pp := (sd_rnP_p g).1
              exact sd_rnP_s g hW (by first | decide | omega) (by first | decide | omega) rfl (Or.inr ⟨fun z => by
                rw [if_pos z.1] at c
                omega, rfl⟩)
            exact L130 _ _ _ _ _ _ _ (by first | assumption | rfl) (by first | omega | assumption) (by first | omega | assumption) (by first | omega | assumption) (by first | omega | assumption) (by first | omega | assumption) (by first | omega | assumption) (by first | omega | assumption)
          · skip
            skip
            refine And.intro (fun h103 => ?_) (fun h103 => ?_)
            · skip
              have G130 : sd_q M 71 (fun F => sd_rnE F x5 x2 x3 x6 (x6 + 1)) := fun F hF hW => by
                obtain ⟨g, c⟩ := (by assumption : sd_q M 71 (fun F => sd_rnP F x5 x2 x3 x4 x6 ∧ x8 = (if sd_fi F x6.toNat then 1 else 0))) F hF hW
                have n9 := hF.1
                have m9 := hW.1
                have pp := (sd_rnP_p g).1
                exact sd_rnP_s g hW (by first | decide | omega) (by first | decide | omega) rfl (Or.inl ⟨(by
                  by_cases y : sd_fi F x6.toNat
                  · exact y
                  · rw [if_neg y] at c
                    omega), Or.inl (by first | decide | omega), rfl⟩)
              exact L130 _ _ _ _ _ _ _ (by first | assumption | rfl) (by first | omega | assumption) (by first | omega | assumption) (by first | omega | assumption) (by first | omega | assumption) (by first | omega | assumption) (by first | omega | assumption) (by first | omega | assumption)
            · skip
              skip
              intro v108 e108 a108 b108
              refine pz_nrc (c := 71) rfl ?_
              refine And.intro (True.intro) ?_
              intro r117 M117 k117 q117
              have R117 := pz_kd5 k117
              obtain ⟨q117, z117⟩ := q117
              subst z117
              have A117 := pz_at_lk (c := 71) (⟨by decide, by decide⟩ : 71 ≤ 71 ∧ 71 < 80) q117
              intro v120 e120 a120 b120
              refine And.intro (fun h123 => ?_) (fun h123 => ?_)
              · skip
                have G130 : sd_q M 71 (fun F => sd_rnE F x5 x2 x3 x4 (x6 + 1)) := fun F hF hW => by
                  obtain ⟨g, c⟩ := (by assumption : sd_q M 71 (fun F => sd_rnP F x5 x2 x3 x4 x6 ∧ x8 = (if sd_fi F x6.toNat then 1 else 0))) F hF hW
                  have n9 := hF.1
                  have m9 := hW.1
                  have pp := (sd_rnP_p g).1
                  have b1 := (sd_at (⟨by decide, by decide⟩ : 71 ≤ 71 ∧ 71 < 80) hF hW (show 0 ≤ x6 by omega) (by first | decide | omega) (by assumption)).2.1
                  have b2 := (sd_at (⟨by decide, by decide⟩ : 71 ≤ 71 ∧ 71 < 80) hF hW (show 0 ≤ x4 by omega) (by first | decide | omega) A117).2.1
                  exact sd_rnP_s g hW (by first | decide | omega) (by first | decide | omega) rfl (Or.inr ⟨fun z => by
                    have z2 := z.2
                    omega, rfl⟩)
                exact L130 _ _ _ _ _ _ _ (by first | assumption | rfl) (by first | omega | assumption) (by first | omega | assumption) (by first | omega | assumption) (by first | omega | assumption) (by first | omega | assumption) (by first | omega | assumption) (by first | omega | assumption)
              · skip
                have G130 : sd_q M 71 (fun F => sd_rnE F x5 x2 x3 x6 (x6 + 1)) := fun F hF hW => by
                  obtain ⟨g, c⟩ := (by assumption : sd_q M 71 (fun F => sd_rnP F x5 x2 x3 x4 x6 ∧ x8 = (if sd_fi F x6.toNat then 1 else 0))) F hF hW
                  have n9 := hF.1
                  have m9 := hW.1
                  have pp := (sd_rnP_p g).1
                  have b1 := (sd_at (⟨by decide, by decide⟩ : 71 ≤ 71 ∧ 71 < 80) hF hW (show 0 ≤ x6 by omega) (by first | decide | omega) (by assumption)).2.1
                  have b2 := (sd_at (⟨by decide, by decide⟩ : 71 ≤ 71 ∧ 71 < 80) hF hW (show 0 ≤ x4 by omega) (by first | decide | omega) A117).2.1
                  exact sd_rnP_s g hW (by first | decide | omega) (by first | decide | omega) rfl (Or.inl ⟨(by
                    by_cases y : sd_fi F x6.toNat
                    · exact y
                    · rw [if_neg y] at c
                      omega), Or.inr (by first | decide | omega), rfl⟩)
                exact L130 _ _ _ _ _ _ _ (by first | assumption | rfl) (by first | omega | assumption) (by first | omega | assumption) (by first | omega | assumption) (by first | omega | assumption) (by first | omega | assumption) (by first | omega | assumption) (by first | omega | assumption)
        have L76 : ∀ (x2 : Int) (x3 : Int) (x4 : Int) (x5 : Int) (x6 : Int) (r7 : Nat) (x8 : Int) (s0 : Int), (pz_kd r7 = 5) → (0 ≤ x6) → (x6 < 12) → (0 ≤ s0) → (s0 ≤ x6 + 1) → ((12 - x6).toNat < fu + 1) → (x6 < M 71 3) → (r7 = pz_lnk 71 x6) → (sd_q M 71 (fun F => sd_rnE F x5 x2 x3 x4 x6 ∧ x8 = (if sd_fi F x6.toNat then 1 else 0) ∧ s0 = if sd_fi F x6.toNat then x5 + 1 else 0)) → Ok 76 [some (.inr (.inr (11, 0))), some (.inl w), some (.inl x2), some (.inl x3), some (.inl x4), some (.inl x5), some (.inl x6), some (.inr (.inr (5, r7))), some (.inl x8)] [.inl s0] M := by
          intro x2 x3 x4 x5 x6 r7 x8 s0 K_r7 g76_1 g76_2 g76_3 g76_4 g76_5 g76_6 g76_7 g76_8
          have R_r7 := pz_kd5 K_r7
          refine hgo (fun p => Nat.beq p 13 || Nat.beq p 61 || Nat.beq p 76 || Nat.beq p 95 || Nat.beq p 130) 80 76 _ _ _ ?_
          refine And.intro (fun h81 => ?_) (fun h81 => ?_)
          · skip
            have G95 : sd_q M 71 (fun F => sd_rnP F s0 x2 x3 x4 x6 ∧ x8 = (if sd_fi F x6.toNat then 1 else 0)) := fun F hF hW => by
              obtain ⟨g, c, d⟩ := (by assumption : sd_q M 71 (fun F => sd_rnE F x5 x2 x3 x4 x6 ∧ x8 = (if sd_fi F x6.toNat then 1 else 0) ∧ s0 = if sd_fi F x6.toNat then x5 + 1 else 0)) F hF hW
              exact ⟨⟨x5, x2, x3, g, d, Or.inr ⟨by omega, rfl, rfl⟩⟩, c⟩
            exact L95 _ _ _ _ _ _ _ (by first | assumption | rfl) (by first | omega | assumption) (by first | omega | assumption) (by first | omega | assumption) (by first | omega | assumption) (by first | omega | assumption) (by first | omega | assumption) (by first | omega | assumption) (by first | omega | assumption)
          · skip
            skip
            intro v91 e91 a91 b91
            intro v93 e93 a93 b93
            rw [pz_wi (by first | decide | omega) (by first | decide | omega)] at e91
            rw [pz_wi (by first | decide | omega) (by first | decide | omega)] at e93
            have G95 : sd_q M 71 (fun F => sd_rnP F s0 s0 v93 x4 x6 ∧ x8 = (if sd_fi F x6.toNat then 1 else 0)) := fun F hF hW => by
              obtain ⟨g, c, d⟩ := (by assumption : sd_q M 71 (fun F => sd_rnE F x5 x2 x3 x4 x6 ∧ x8 = (if sd_fi F x6.toNat then 1 else 0) ∧ s0 = if sd_fi F x6.toNat then x5 + 1 else 0)) F hF hW
              exact ⟨⟨x5, x2, x3, g, d, Or.inl ⟨by omega, rfl, by omega⟩⟩, c⟩
            exact L95 _ _ _ _ _ _ _ (by first | assumption | rfl) (by first | omega | assumption) (by first | omega | assumption) (by first | omega | assumption) (by first | omega | assumption) (by first | omega | assumption) (by first | omega | assumption) (by first | omega | assumption) (by first | omega | assumption)
        have L61 : ∀ (x2 : Int) (x3 : Int) (x4 : Int) (x5 : Int) (x6 : Int) (r7 : Nat) (d8 : Option pz_V) (s0 : Int), (pz_kd r7 = 5) → (0 ≤ x6) → (x6 < 12) → (0 ≤ x5) → (x5 ≤ x6) → ((12 - x6).toNat < fu + 1) → (x6 < M 71 3) → (r7 = pz_lnk 71 x6) → (sd_q M 71 (fun F => sd_rnE F x5 x2 x3 x4 x6 ∧ s0 = (if sd_fi F x6.toNat then 1 else 0))) → Ok 61 [some (.inr (.inr (11, 0))), some (.inl w), some (.inl x2), some (.inl x3), some (.inl x4), some (.inl x5), some (.inl x6), some (.inr (.inr (5, r7))), d8] [.inl s0] M := by
          intro x2 x3 x4 x5 x6 r7 d8 s0 K_r7 g61_1 g61_2 g61_3 g61_4 g61_5 g61_6 g61_7 g61_8
          have R_r7 := pz_kd5 K_r7
          refine hgo (fun p => Nat.beq p 13 || Nat.beq p 61 || Nat.beq p 76 || Nat.beq p 95 || Nat.beq p 130) 80 61 _ _ _ ?_
          refine And.intro (fun h65 => ?_) (fun h65 => ?_)
          · skip
            have G76 : sd_q M 71 (fun F => sd_rnE F x5 x2 x3 x4 x6 ∧ s0 = (if sd_fi F x6.toNat then 1 else 0) ∧ (0 : Int) = if sd_fi F x6.toNat then x5 + 1 else 0) := fun F hF hW => by
              obtain ⟨g, c⟩ := (by assumption : sd_q M 71 (fun F => sd_rnE F x5 x2 x3 x4 x6 ∧ s0 = (if sd_fi F x6.toNat then 1 else 0))) F hF hW
              refine ⟨g, c, ?_⟩
              by_cases y : sd_fi F x6.toNat
              · rw [if_pos y] at c ⊢
                omega
              · (rw [if_neg y] at c ⊢) <;> omega
            exact L76 _ _ _ _ _ _ _ _ (by first | assumption | rfl) (by first | omega | assumption) (by first | omega | assumption) (by first | omega | assumption) (by first | omega | assumption) (by first | omega | assumption) (by first | omega | assumption) (by first | omega | assumption) (by first | omega | assumption)
          · skip
            skip
            intro v71 e71 a71 b71
            rw [pz_wi (by first | decide | omega) (by first | decide | omega)] at e71
            have G76 : sd_q M 71 (fun F => sd_rnE F x5 x2 x3 x4 x6 ∧ s0 = (if sd_fi F x6.toNat then 1 else 0) ∧ v71 = if sd_fi F x6.toNat then x5 + 1 else 0) := fun F hF hW => by
              obtain ⟨g, c⟩ := (by assumption : sd_q M 71 (fun F => sd_rnE F x5 x2 x3 x4 x6 ∧ s0 = (if sd_fi F x6.toNat then 1 else 0))) F hF hW
              refine ⟨g, c, ?_⟩
              by_cases y : sd_fi F x6.toNat
              · rw [if_pos y] at c ⊢
                omega
              · (rw [if_neg y] at c ⊢) <;> omega
            exact L76 _ _ _ _ _ _ _ _ (by first | assumption | rfl) (by first | omega | assumption) (by first | omega | assumption) (by first | omega | assumption) (by first | omega | assumption) (by first | omega | assumption) (by first | omega | assumption) (by first | omega | assumption) (by first | omega | assumption)
        refine hgo (fun p => Nat.beq p 13 || Nat.beq p 61 || Nat.beq p 76 || Nat.beq p 95 || Nat.beq p 130) 80 13 _ _ _ ?_
        refine pz_nrc (c := 71) rfl ?_
        intro v19 e19 a19 b19
        have I19 := hI.1 71 (by first | decide | omega) (by first | decide | omega)
        refine And.intro (fun h22 => ?_) (fun h22 => ?_)
        · skip
          refine And.intro ?_ ?_
          · skip
            refine And.intro (fun h137 => ?_) ?_
            · skip
              refine And.intro rfl ?_
              refine ⟨fun ls l1 F hT hF hW => ?_, rfl⟩
              have hn := hF.1
              have hm := hW.1
              show _ = sd_rnv F w
              have z := sd_rnE_z ((by assumption : sd_q M 71 (fun F => sd_rnE F x5 x2 x3 x4 x6)) F hF hW) hW (by first | decide | omega)
              unfold sd_rnv
              rw [← z]
              repeat first | rw [if_pos (by first | decide | omega)] | rw [if_neg (by first | decide | omega)]
            refine And.intro (fun h137 => ?_) ?_
            · skip
              refine And.intro rfl ?_
              refine ⟨fun ls l1 F hT hF hW => ?_, rfl⟩
              have hn := hF.1
              have hm := hW.1
              show _ = sd_rnv F w
              have z := sd_rnE_z ((by assumption : sd_q M 71 (fun F => sd_rnE F x5 x2 x3 x4 x6)) F hF hW) hW (by first | decide | omega)
              unfold sd_rnv
              rw [← z]
              repeat first | rw [if_pos (by first | decide | omega)] | rw [if_neg (by first | decide | omega)]
            refine And.intro (fun h137 => ?_) ?_
            · skip
              refine And.intro rfl ?_
              refine ⟨fun ls l1 F hT hF hW => ?_, rfl⟩
              have hn := hF.1
              have hm := hW.1
              show _ = sd_rnv F w
              have z := sd_rnE_z ((by assumption : sd_q M 71 (fun F => sd_rnE F x5 x2 x3 x4 x6)) F hF hW) hW (by first | decide | omega)
              unfold sd_rnv
              rw [← z]
              repeat first | rw [if_pos (by first | decide | omega)] | rw [if_neg (by first | decide | omega)]
            exact True.intro
          · intro h137
            refine And.intro rfl ?_
            refine ⟨fun ls l1 F hT hF hW => ?_, rfl⟩
            have hn := hF.1
            have hm := hW.1
            show _ = sd_rnv F w
            have z := sd_rnE_z ((by assumption : sd_q M 71 (fun F => sd_rnE F x5 x2 x3 x4 x6)) F hF hW) hW (by first | decide | omega)
            unfold sd_rnv
            rw [← z]
            repeat first | rw [if_pos (by first | decide | omega)] | rw [if_neg (by first | decide | omega)]
        · skip
          refine pz_nrc (c := 71) rfl ?_
          refine And.intro (True.intro) ?_
          intro r31 M31 k31 q31
          have R31 := pz_kd5 k31
          obtain ⟨q31, z31⟩ := q31
          subst z31
          have A31 := pz_at_lk (c := 71) (⟨by decide, by decide⟩ : 71 ≤ 71 ∧ 71 < 80) q31
          refine And.intro (True.intro) ?_
          intro v38 M38 a38 b38 q38
          obtain ⟨q38, z38⟩ := q38
          subst z38
          refine And.intro (fun h41 => ?_) (fun h41 => ?_)
          · skip
            have G61 : sd_q M 71 (fun F => sd_rnE F x5 x2 x3 x4 x6 ∧ (0 : Int) = (if sd_fi F x6.toNat then 1 else 0)) := fun F hF hW => by
              have g := (by assumption : sd_q M 71 (fun F => sd_rnE F x5 x2 x3 x4 x6)) F hF hW
              have n9 := hF.1
              have m9 := hW.1
              have b := sd_at (⟨by decide, by decide⟩ : 71 ≤ 71 ∧ 71 < 80) hF hW (show 0 ≤ x6 by omega) (by first | decide | omega) A31
              have b5 := b.2.2.2.2.2.1
              have b7 := b.2.2.2.2.2.2.2
              have P := hW.2.2 x6.toNat (by first | decide | omega)
              unfold sd_lw at P
              have q38 := q38
              rw [b5, b7] at q38
              refine ⟨g, ?_⟩
              exact (if_neg (fun z => by
                have z1 := z.1
                unfold sd_in at z1
                split at q38 <;> omega)).symm
            exact L61 _ _ _ _ _ _ _ _ (by first | assumption | rfl) (by first | omega | assumption) (by first | omega | assumption) (by first | omega | assumption) (by first | omega | assumption) (by first | omega | assumption) (by first | omega | assumption) (by first | omega | assumption) (by first | omega | assumption)
          · skip
            skip
            refine pz_nrc (c := 71) rfl ?_
            refine And.intro (hI) ?_
            intro v50 M50 a50 b50 q50
            obtain ⟨q50, z50⟩ := q50
            subst z50
            refine And.intro (fun h53 => ?_) (fun h53 => ?_)
            · skip
              have G61 : sd_q M 71 (fun F => sd_rnE F x5 x2 x3 x4 x6 ∧ (0 : Int) = (if sd_fi F x6.toNat then 1 else 0)) := fun F hF hW => by
                have g := (by assumption : sd_q M 71 (fun F => sd_rnE F x5 x2 x3 x4 x6)) F hF hW
                have n9 := hF.1
                have m9 := hW.1
                have b := sd_at (⟨by decide, by decide⟩ : 71 ≤ 71 ∧ 71 < 80) hF hW (show 0 ≤ x6 by omega) (by first | decide | omega) A31
                have b5 := b.2.2.2.2.2.1
                have b7 := b.2.2.2.2.2.2.2
                have P := hW.2.2 x6.toNat (by first | decide | omega)
                unfold sd_lw at P
                have q38 := q38
                rw [b5, b7] at q38
                refine ⟨g, ?_⟩
                exact (if_neg (fun z => by
                  have c := (q50.2 F hF hW (by first | decide | omega) (by first | decide | omega)).mpr z.2
                  omega)).symm
              exact L61 _ _ _ _ _ _ _ _ (by first | assumption | rfl) (by first | omega | assumption) (by first | omega | assumption) (by first | omega | assumption) (by first | omega | assumption) (by first | omega | assumption) (by first | omega | assumption) (by first | omega | assumption) (by first | omega | assumption)
            · skip
              have G61 : sd_q M 71 (fun F => sd_rnE F x5 x2 x3 x4 x6 ∧ (1 : Int) = (if sd_fi F x6.toNat then 1 else 0)) := fun F hF hW => by
                have g := (by assumption : sd_q M 71 (fun F => sd_rnE F x5 x2 x3 x4 x6)) F hF hW
                have n9 := hF.1
                have m9 := hW.1
                have b := sd_at (⟨by decide, by decide⟩ : 71 ≤ 71 ∧ 71 < 80) hF hW (show 0 ≤ x6 by omega) (by first | decide | omega) A31
                have b5 := b.2.2.2.2.2.1
                have b7 := b.2.2.2.2.2.2.2
                have P := hW.2.2 x6.toNat (by first | decide | omega)
                unfold sd_lw at P
                have q38 := q38
                rw [b5, b7] at q38
                refine ⟨g, ?_⟩
                exact (if_pos ⟨by
                  unfold sd_in
                  split at q38 <;> omega, (q50.2 F hF hW (by first | decide | omega) (by first | decide | omega)).mp (by first | decide | omega)⟩).symm
              exact L61 _ _ _ _ _ _ _ _ (by first | assumption | rfl) (by first | omega | assumption) (by first | omega | assumption) (by first | omega | assumption) (by first | omega | assumption) (by first | omega | assumption) (by first | omega | assumption) (by first | omega | assumption) (by first | omega | assumption)
    refine hgo (fun p => Nat.beq p 13 || Nat.beq p 61 || Nat.beq p 76 || Nat.beq p 95 || Nat.beq p 130) 80 0 _ [] M ?_
    exact L13 _ _ _ _ _ _ _ _ (Nat.lt_succ_self _) (by first | omega | assumption | exact fun F hF hW => ⟨⟨Int.le_refl _, hW.1.1⟩, Or.inl rfl, rfl⟩) (by first | omega | assumption | exact fun F hF hW => ⟨⟨Int.le_refl _, hW.1.1⟩, Or.inl rfl, rfl⟩) (by first | omega | assumption | exact fun F hF hW => ⟨⟨Int.le_refl _, hW.1.1⟩, Or.inl rfl, rfl⟩) (by first | omega | assumption | exact fun F hF hW => ⟨⟨Int.le_refl _, hW.1.1⟩, Or.inl rfl, rfl⟩)
theorem v3_X11_runs {fr lo i : Nat} {own : String} (h1 : 3 + 1 ≤ fr) (h2 : 8 + (9 + 11) + 64 ≤ lo) (h3 : .methodLink own i yX11_runs ∈ lw_tbl) : pz_cV fr lo own i k3_X11_runs :=
  pz_cVk (maxL := 9) (fr' := 3) (lo' := 64) 1 11 h3_X11_runs rfl ⟨(pz_nhc_RX11 yX11_runs rfl).1, (pz_nhc_RX11 yX11_runs rfl).2, pz_ds5⟩ ⟨pz_wq1089, pz_wq1087, pz_wq1088, pz_wq1⟩ (Or.inl ⟨TX11, 14, rfl⟩) (fun a M _ h => by
    have h : (match (generalizing := false) a with | [.inr (.inr (11, th)), .inl w] => pz_ic M | _ => False) := h
    split at h
    · exact ⟨_, _, rfl⟩
    · exact h.elim) h1 h2 h3
noncomputable def k3_X12_runs : pz_C := (2, 1, fun a M => (match a with | [.inr (.inr (12, th)), .inl w] => pz_im M | _ => False), fun a M r M' => (match a, r with | [.inr (.inr (12, th)), .inl w], some (.inl v) => (sd_wm M v (fun _ F => sd_rnv F w)) ∧ M = M' | _, _ => False))
noncomputable abbrev ct3_X12_runs : List (Bool × Nat × pz_C) := [(false, 54, k_X12_isIn), (true, 445, k3_X12_isRunning)]
set_option maxRecDepth 100000 in
set_option maxHeartbeats 4000000 in
theorem h3_X12_runs : pz_H yX12_runs cX12_runs 7 (some .int) k3_X12_runs 4 85 := by
  refine pz_mk (own := RX12) (tb := t_X12_runs) (fl := pz_flf fl_RX12) (ci := pz_cif ci_RX12) (ct := pz_ctf ct3_X12_runs) (rz := false) (pz_pfc_RX12 yX12_runs rfl) rfl t_X12_runs_ok (pz_flk fl_RX12_ok) (pz_cik ci_RX12_ok) ?_ ?_ (Or.inl ⟨rfl, rfl⟩) ?_ ?_
  · exact fun i k' h => pz_ctk (l := ct3_X12_runs) (P := fun b i k => b = true → pz_cV 4 85 RX12 i k) (List.forall_mem_cons.mpr ⟨((fun z => by cases z)), List.forall_mem_cons.mpr ⟨(fun _ => v3_X12_isRunning (by decide) (by decide) pz_wq1708), fun _ h => absurd h List.not_mem_nil⟩⟩) true i k' h rfl
  · exact fun i k' h => pz_ctk (l := ct3_X12_runs) (P := fun b i k => b = false → (pz_cS 4 85 RX12 i k ∨ (k = pz_kac ∧ 1 ≤ 4 ∧ 60 ≤ 85 ∧ Cond.methodLink RX12 i arraycopyName ∈ pz_tbl))) (List.forall_mem_cons.mpr ⟨(fun _ => Or.inl (s_X12_isIn (by decide) (by decide) (Or.inl pz_wq1217))), List.forall_mem_cons.mpr ⟨((fun z => by cases z)), fun _ h => absurd h List.not_mem_nil⟩⟩) false i k' h rfl
  · intro a M hlen hpre
    obtain ⟨th, w, rfl, hpre⟩ : ∃ th w, a = [.inr (.inr (12, th)), .inl w] ∧ (pz_im M) := by
      have hpre : (match (generalizing := false) a with | [.inr (.inr (12, th)), .inl w] => pz_im M | _ => False) := hpre
      split at hpre
      · exact ⟨_, _, rfl, hpre⟩
      · exact hpre.elim
    exact Nat.le_of_ble_eq_true rfl
  · intro a M hlen hcan hM hpre Ok hgo
    obtain ⟨th, w, rfl, hpre⟩ : ∃ th w, a = [.inr (.inr (12, th)), .inl w] ∧ (pz_im M) := by
      have hpre : (match (generalizing := false) a with | [.inr (.inr (12, th)), .inl w] => pz_im M | _ => False) := hpre
      split at hpre
      · exact ⟨_, _, rfl, hpre⟩
      · exact hpre.elim
    obtain ⟨k_th, hc_th⟩ := pz_tlm hcan
    have k_th : pz_kd th = 12 ∧ th < 231 := k_th
    have R_th := pz_kd12 k_th.1
    subst R_th
    clear k_th
    obtain ⟨k_w, hc_w⟩ := pz_tlm hc_th
    have l_w : -2147483648 ≤ w := k_w.1
    have u_w : w ≤ 2147483647 := k_w.2
    have hI : pz_im M := hpre
    have I88 := hI.1.1
    have L24 : ∀ (fu : Nat) (x2 : Int) (x3 : Int) (x4 : Int) (x5 : Int) (x6 : Int), (12 - x6).toNat < fu → (0 ≤ x6) → (-1 ≤ x5) → (x5 < 12) → (0 ≤ x4) → (x4 ≤ x6) → (x6 ≤ M 60 88) → (0 ≤ w) → (w ≤ 2) → (sd_wf (M 60) → sd_rnE (M 60) x4 x2 x3 x5 x6) → Ok 24 [some (.inr (.inr (12, 1))), some (.inl w), some (.inl x2), some (.inl x3), some (.inl x4), some (.inl x5), some (.inl x6)] [] M := by
      intro fu
      induction fu with
      | zero => exact fun _ _ _ _ _ hn => absurd hn (Nat.not_lt_zero _)
      | succ fu ih24 =>
        intro x2 x3 x4 x5 x6 hn24 g24_0 g24_1 g24_2 g24_3 g24_4 g24_5 g24_6 g24_7 g24_8
        have L110 : ∀ (x2 : Int) (x3 : Int) (x4 : Int) (x5 : Int) (x6 : Int), (0 ≤ x6) → (x6 < 12) → ((12 - x6).toNat < fu + 1) → (-1 ≤ x5) → (x5 < 12) → (x6 < M 60 88) → (0 ≤ x4) → (x4 ≤ x6 + 1) → (0 ≤ w) → (w ≤ 2) → (sd_wf (M 60) → sd_rnE (M 60) x4 x2 x3 x5 (x6 + 1)) → Ok 110 [some (.inr (.inr (12, 1))), some (.inl w), some (.inl x2), some (.inl x3), some (.inl x4), some (.inl x5), some (.inl x6)] [] M := by
          intro x2 x3 x4 x5 x6 g110_0 g110_1 g110_2 g110_3 g110_4 g110_5 g110_6 g110_7 g110_8 g110_9 g110_10
          refine hgo (fun p => Nat.beq p 24 || Nat.beq p 53 || Nat.beq p 72 || Nat.beq p 110) 79 110 _ _ _ ?_
          intro v110 e110 a110 b110
          rw [pz_wi (by first | decide | omega) (by first | decide | omega)] at e110
          have G24 : sd_wf (M 60) → sd_rnE (M 60) x4 x2 x3 x5 v110 := by
            rw [e110]
            assumption
          exact ih24 _ _ _ _ _ (by first | decide | omega) (by first | omega | assumption | exact fun w9 => ⟨⟨Int.le_refl _, w9.1.1⟩, Or.inl rfl, rfl⟩) (by first | omega | assumption | exact fun w9 => ⟨⟨Int.le_refl _, w9.1.1⟩, Or.inl rfl, rfl⟩) (by first | omega | assumption | exact fun w9 => ⟨⟨Int.le_refl _, w9.1.1⟩, Or.inl rfl, rfl⟩) (by first | omega | assumption | exact fun w9 => ⟨⟨Int.le_refl _, w9.1.1⟩, Or.inl rfl, rfl⟩) (by first | omega | assumption | exact fun w9 => ⟨⟨Int.le_refl _, w9.1.1⟩, Or.inl rfl, rfl⟩) (by first | omega | assumption | exact fun w9 => ⟨⟨Int.le_refl _, w9.1.1⟩, Or.inl rfl, rfl⟩) (by first | omega | assumption | exact fun w9 => ⟨⟨Int.le_refl _, w9.1.1⟩, Or.inl rfl, rfl⟩) (by first | omega | assumption | exact fun w9 => ⟨⟨Int.le_refl _, w9.1.1⟩, Or.inl rfl, rfl⟩) (by first | omega | assumption | exact fun w9 => ⟨⟨Int.le_refl _, w9.1.1⟩, Or.inl rfl, rfl⟩)
        have L72 : ∀ (x2 : Int) (x3 : Int) (x4 : Int) (x5 : Int) (x6 : Int), (0 ≤ x6) → (x6 < 12) → ((12 - x6).toNat < fu + 1) → (-1 ≤ x5) → (x5 < 12) → (x6 < M 60 88) → (0 ≤ x4) → (x4 ≤ x6 + 1) → (0 ≤ w) → (w ≤ 2) → (sd_wf (M 60) → sd_rnP (M 60) x4 x2 x3 x5 x6) → Ok 72 [some (.inr (.inr (12, 1))), some (.inl w), some (.inl x2), some (.inl x3), some (.inl x4), some (.inl x5), some (.inl x6)] [] M := by
          intro x2 x3 x4 x5 x6 g72_0 g72_1 g72_2 g72_3 g72_4 g72_5 g72_6 g72_7 g72_8 g72_9 g72_10
          refine hgo (fun p => Nat.beq p 24 || Nat.beq p 53 || Nat.beq p 72 || Nat.beq p 110) 79 72 _ _ _ ?_
          refine And.intro (fun h74 => ?_) (fun h74 => ?_)
          · skip
            have G110 : sd_wf (M 60) → sd_rnE (M 60) x4 x2 x3 x5 (x6 + 1) := fun w9 => by
              have g := (by assumption : sd_wf (M 60) → sd_rnP (M 60) x4 x2 x3 x5 x6) w9
              have pp := sd_rnP_p g
              exact sd_rnP_s g w9 (by first | decide | omega) (by first | decide | omega) rfl (Or.inr ⟨fun z => absurd (pp.2.mpr z.1) (by first | decide | omega), rfl⟩)
            exact L110 _ _ _ _ _ (by first | omega | assumption) (by first | omega | assumption) (by first | omega | assumption) (by first | omega | assumption) (by first | omega | assumption) (by first | omega | assumption) (by first | omega | assumption) (by first | omega | assumption) (by first | omega | assumption) (by first | omega | assumption) (by first | omega | assumption)
          · skip
            skip
            refine And.intro (fun h80 => ?_) (fun h80 => ?_)
            · skip
              have G110 : sd_wf (M 60) → sd_rnE (M 60) x4 x2 x3 x6 (x6 + 1) := fun w9 => by
                have g := (by assumption : sd_wf (M 60) → sd_rnP (M 60) x4 x2 x3 x5 x6) w9
                have pp := sd_rnP_p g
                exact sd_rnP_s g w9 (by first | decide | omega) (by first | decide | omega) rfl (Or.inl ⟨pp.2.mp (by first | decide | omega), Or.inl (by first | decide | omega), rfl⟩)
              exact L110 _ _ _ _ _ (by first | omega | assumption) (by first | omega | assumption) (by first | omega | assumption) (by first | omega | assumption) (by first | omega | assumption) (by first | omega | assumption) (by first | omega | assumption) (by first | omega | assumption) (by first | omega | assumption) (by first | omega | assumption) (by first | omega | assumption)
            · skip
              skip
              replace h80 : 0 ≤ x5 := by omega
              refine pz_nrc (c := 60) rfl ?_
              intro v91 e91 a91 b91
              rw [pz_wi (by first | decide | omega) (by first | decide | omega)] at e91
              clear a91 b91
              have lo92 : (0 : Int) ≤ v91 := by omega
              have tn92 : (((v91).toNat : Nat) : Int) = v91 := Int.toNat_of_nonneg lo92
              refine And.intro (lo92) (And.intro (show _ < (1725 : Int) from by omega) ?_)
              intro v92 e92 a92 b92
              rw [show v91.toNat = 16 + x6.toNat by omega] at e92
              refine pz_nrc (c := 60) rfl ?_
              intro v101 e101 a101 b101
              rw [pz_wi (by first | decide | omega) (by first | decide | omega)] at e101
              clear a101 b101
              have lo102 : (0 : Int) ≤ v101 := by omega
              have tn102 : (((v101).toNat : Nat) : Int) = v101 := Int.toNat_of_nonneg lo102
              refine And.intro (lo102) (And.intro (show _ < (1725 : Int) from by omega) ?_)
              intro v102 e102 a102 b102
              rw [show v101.toNat = 16 + x5.toNat by omega] at e102
              refine And.intro (fun h103 => ?_) (fun h103 => ?_)
              · skip
                have G110 : sd_wf (M 60) → sd_rnE (M 60) x4 x2 x3 x5 (x6 + 1) := fun w9 => by
                  have g := (by assumption : sd_wf (M 60) → sd_rnP (M 60) x4 x2 x3 x5 x6) w9
                  have pp := sd_rnP_p g
                  exact sd_rnP_s g w9 (by first | decide | omega) (by first | decide | omega) rfl (Or.inr ⟨fun z => by
                    have z2 := z.2
                    omega, rfl⟩)
                exact L110 _ _ _ _ _ (by first | omega | assumption) (by first | omega | assumption) (by first | omega | assumption) (by first | omega | assumption) (by first | omega | assumption) (by first | omega | assumption) (by first | omega | assumption) (by first | omega | assumption) (by first | omega | assumption) (by first | omega | assumption) (by first | omega | assumption)
              · skip
                have G110 : sd_wf (M 60) → sd_rnE (M 60) x4 x2 x3 x6 (x6 + 1) := fun w9 => by
                  have g := (by assumption : sd_wf (M 60) → sd_rnP (M 60) x4 x2 x3 x5 x6) w9
                  have pp := sd_rnP_p g
                  exact sd_rnP_s g w9 (by first | decide | omega) (by first | decide | omega) rfl (Or.inl ⟨pp.2.mp (by first | decide | omega), Or.inr (by first | decide | omega), rfl⟩)
                exact L110 _ _ _ _ _ (by first | omega | assumption) (by first | omega | assumption) (by first | omega | assumption) (by first | omega | assumption) (by first | omega | assumption) (by first | omega | assumption) (by first | omega | assumption) (by first | omega | assumption) (by first | omega | assumption) (by first | omega | assumption) (by first | omega | assumption)
        have L53 : ∀ (x2 : Int) (x3 : Int) (x4 : Int) (x5 : Int) (x6 : Int) (s0 : Int), (0 ≤ x6) → (x6 < 12) → ((12 - x6).toNat < fu + 1) → (-1 ≤ x5) → (x5 < 12) → (x6 < M 60 88) → (0 ≤ x4) → (x4 ≤ x6) → (0 ≤ s0) → (s0 ≤ x6 + 1) → (0 ≤ w) → (w ≤ 2) → (sd_wf (M 60) → sd_rnE (M 60) x4 x2 x3 x5 x6 ∧ s0 = if sd_fi (M 60) x6.toNat then x4 + 1 else 0) → Ok 53 [some (.inr (.inr (12, 1))), some (.inl w), some (.inl x2), some (.inl x3), some (.inl x4), some (.inl x5), some (.inl x6)] [.inl s0] M := by
          intro x2 x3 x4 x5 x6 s0 g53_0 g53_1 g53_2 g53_3 g53_4 g53_5 g53_6 g53_7 g53_8 g53_9 g53_10 g53_11 g53_12
          refine hgo (fun p => Nat.beq p 24 || Nat.beq p 53 || Nat.beq p 72 || Nat.beq p 110) 79 53 _ _ _ ?_
          refine And.intro (fun h58 => ?_) (fun h58 => ?_)
          · skip
            have G72 : sd_wf (M 60) → sd_rnP (M 60) s0 x2 x3 x5 x6 := fun w9 => by
              obtain ⟨g, d⟩ := (by assumption : sd_wf (M 60) → sd_rnE (M 60) x4 x2 x3 x5 x6 ∧ s0 = if sd_fi (M 60) x6.toNat then x4 + 1 else 0) w9
              exact ⟨x4, x2, x3, g, d, Or.inr ⟨by omega, rfl, rfl⟩⟩
            exact L72 _ _ _ _ _ (by first | omega | assumption) (by first | omega | assumption) (by first | omega | assumption) (by first | omega | assumption) (by first | omega | assumption) (by first | omega | assumption) (by first | omega | assumption) (by first | omega | assumption) (by first | omega | assumption) (by first | omega | assumption) (by first | omega | assumption)
          · skip
            skip
            intro v68 e68 a68 b68
            intro v70 e70 a70 b70
            rw [pz_wi (by first | decide | omega) (by first | decide | omega)] at e68
            rw [pz_wi (by first | decide | omega) (by first | decide | omega)] at e70
            have G72 : sd_wf (M 60) → sd_rnP (M 60) s0 s0 v70 x5 x6 := fun w9 => by
              obtain ⟨g, d⟩ := (by assumption : sd_wf (M 60) → sd_rnE (M 60) x4 x2 x3 x5 x6 ∧ s0 = if sd_fi (M 60) x6.toNat then x4 + 1 else 0) w9
              exact ⟨x4, x2, x3, g, d, Or.inl ⟨by omega, rfl, by omega⟩⟩
            exact L72 _ _ _ _ _ (by first | omega | assumption) (by first | omega | assumption) (by first | omega | assumption) (by first | omega | assumption) (by first | omega | assumption) (by first | omega | assumption) (by first | omega | assumption) (by first | omega | assumption) (by first | omega | assumption) (by first | omega | assumption) (by first | omega | assumption)
        refine hgo (fun p => Nat.beq p 24 || Nat.beq p 53 || Nat.beq p 72 || Nat.beq p 110) 79 24 _ _ _ ?_
        refine pz_nrc (c := 60) rfl ?_
        refine And.intro (by first | decide | omega) (And.intro (show _ < (1725 : Int) from by omega) ?_)
        intro v32 e32 a32 b32
        replace e32 : v32 = M 60 88 := e32
        have I32 : 0 ≤ v32 ∧ v32 ≤ 12 := by
          rw [e32]
          exact hI.1.1
        clear a32 b32
        refine And.intro (fun h33 => ?_) (fun h33 => ?_)
        · skip
          refine And.intro (fun h117 => ?_) (fun h117 => ?_)
          · skip
            replace h117 : 1 ≤ w := by omega
            refine And.intro (fun h126 => ?_) (fun h126 => ?_)
            · skip
              replace h126 : 2 ≤ w := by omega
              refine And.intro rfl ?_
              refine ⟨fun ls hl hq hW => ?_, rfl⟩
              show _ = sd_rnv (M 60) w
              have z := sd_rnE_z ((by assumption : sd_wf (M 60) → sd_rnE (M 60) x4 x2 x3 x5 x6) hW) hW (by first | decide | omega)
              unfold sd_rnv
              rw [← z]
              repeat first | rw [if_pos (by first | decide | omega)] | rw [if_neg (by first | decide | omega)]
            · skip
              refine And.intro rfl ?_
              refine ⟨fun ls hl hq hW => ?_, rfl⟩
              show _ = sd_rnv (M 60) w
              have z := sd_rnE_z ((by assumption : sd_wf (M 60) → sd_rnE (M 60) x4 x2 x3 x5 x6) hW) hW (by first | decide | omega)
              unfold sd_rnv
              rw [← z]
              repeat first | rw [if_pos (by first | decide | omega)] | rw [if_neg (by first | decide | omega)]
          · skip
            refine And.intro rfl ?_
            refine ⟨fun ls hl hq hW => ?_, rfl⟩
            show _ = sd_rnv (M 60) w
            have z := sd_rnE_z ((by assumption : sd_wf (M 60) → sd_rnE (M 60) x4 x2 x3 x5 x6) hW) hW (by first | decide | omega)
            unfold sd_rnv
            rw [← z]
            repeat first | rw [if_pos (by first | decide | omega)] | rw [if_neg (by first | decide | omega)]
        · skip
          refine And.intro (hI) ?_
          intro v39 M39 a39 b39 q39
          obtain ⟨q39, z39⟩ := q39
          subst z39
          refine And.intro (fun h42 => ?_) (fun h42 => ?_)
          · skip
            have G53 : sd_wf (M 60) → sd_rnE (M 60) x4 x2 x3 x5 x6 ∧ (0 : Int) = if sd_fi (M 60) x6.toNat then x4 + 1 else 0 := fun w9 => ⟨(by assumption : sd_wf (M 60) → sd_rnE (M 60) x4 x2 x3 x5 x6) w9, by
              have q := q39.2 (by first | decide | omega) (by first | decide | omega)
              first
                | (rw [if_pos (q.mp (by first | decide | omega))]; omega)
                | (rw [if_neg (fun z => absurd (q.mpr z) (by first | decide | omega))])⟩
            exact L53 _ _ _ _ _ _ (by first | omega | assumption) (by first | omega | assumption) (by first | omega | assumption) (by first | omega | assumption) (by first | omega | assumption) (by first | omega | assumption) (by first | omega | assumption) (by first | omega | assumption) (by first | omega | assumption) (by first | omega | assumption) (by first | omega | assumption) (by first | omega | assumption) (by first | omega | assumption)
          · skip
            skip
            intro v48 e48 a48 b48
            rw [pz_wi (by first | decide | omega) (by first | decide | omega)] at e48
            have G53 : sd_wf (M 60) → sd_rnE (M 60) x4 x2 x3 x5 x6 ∧ v48 = if sd_fi (M 60) x6.toNat then x4 + 1 else 0 := fun w9 => ⟨(by assumption : sd_wf (M 60) → sd_rnE (M 60) x4 x2 x3 x5 x6) w9, by
              have q := q39.2 (by first | decide | omega) (by first | decide | omega)
              first
                | (rw [if_pos (q.mp (by first | decide | omega))]; omega)
                | (rw [if_neg (fun z => absurd (q.mpr z) (by first | decide | omega))])⟩
            exact L53 _ _ _ _ _ _ (by first | omega | assumption) (by first | omega | assumption) (by first | omega | assumption) (by first | omega | assumption) (by first | omega | assumption) (by first | omega | assumption) (by first | omega | assumption) (by first | omega | assumption) (by first | omega | assumption) (by first | omega | assumption) (by first | omega | assumption) (by first | omega | assumption) (by first | omega | assumption)
    refine hgo (fun p => Nat.beq p 24 || Nat.beq p 53 || Nat.beq p 72 || Nat.beq p 110) 79 0 _ [] M ?_
    refine And.intro (True.intro) ?_
    intro v3 M3 a3 b3 q3
    obtain ⟨q3, z3⟩ := q3
    subst z3
    clear a3 b3
    refine And.intro (fun h6 => ?_) (fun h6 => ?_)
    · skip
      replace q3 := q3.resolve_right (fun z => h6 z.1)
      clear h6
      exact L24 _ _ _ _ _ _ (Nat.lt_succ_self _) (by first | omega | assumption | exact fun w9 => ⟨⟨Int.le_refl _, w9.1.1⟩, Or.inl rfl, rfl⟩) (by first | omega | assumption | exact fun w9 => ⟨⟨Int.le_refl _, w9.1.1⟩, Or.inl rfl, rfl⟩) (by first | omega | assumption | exact fun w9 => ⟨⟨Int.le_refl _, w9.1.1⟩, Or.inl rfl, rfl⟩) (by first | omega | assumption | exact fun w9 => ⟨⟨Int.le_refl _, w9.1.1⟩, Or.inl rfl, rfl⟩) (by first | omega | assumption | exact fun w9 => ⟨⟨Int.le_refl _, w9.1.1⟩, Or.inl rfl, rfl⟩) (by first | omega | assumption | exact fun w9 => ⟨⟨Int.le_refl _, w9.1.1⟩, Or.inl rfl, rfl⟩) (by first | omega | assumption | exact fun w9 => ⟨⟨Int.le_refl _, w9.1.1⟩, Or.inl rfl, rfl⟩) (by first | omega | assumption | exact fun w9 => ⟨⟨Int.le_refl _, w9.1.1⟩, Or.inl rfl, rfl⟩) (by first | omega | assumption | exact fun w9 => ⟨⟨Int.le_refl _, w9.1.1⟩, Or.inl rfl, rfl⟩)
    · skip
      replace q3 := q3.resolve_left (fun z => absurd (z.1.symm.trans h6) (by decide))
      clear h6
      refine And.intro rfl ?_
      refine ⟨fun ls hl hq hW => ?_, rfl⟩
      show _ = sd_rnv (M 60) w
      unfold sd_rnv
      rw [if_neg (by first | decide | omega), if_neg (by first | decide | omega), if_neg (by first | decide | omega)]
theorem v3_X12_runs {fr lo i : Nat} {own : String} (h1 : 4 + 1 ≤ fr) (h2 : 8 + (7 + 11) + 85 ≤ lo) (h3 : .methodLink own i yX12_runs ∈ lw_tbl) : pz_cV fr lo own i k3_X12_runs :=
  pz_cVk (maxL := 7) (fr' := 4) (lo' := 85) 1 12 h3_X12_runs rfl ⟨(pz_nhc_RX12 yX12_runs rfl).1, (pz_nhc_RX12 yX12_runs rfl).2, pz_ds5⟩ ⟨pz_wq1707, pz_wq1705, pz_wq1706, pz_wq13⟩ (Or.inl ⟨TX12, 28, rfl⟩) (fun a M _ h => by
    have h : (match (generalizing := false) a with | [.inr (.inr (12, th)), .inl w] => pz_im M | _ => False) := h
    split at h
    · exact ⟨_, _, rfl⟩
    · exact h.elim) h1 h2 h3
end
section
/-! ODDS -/
def sd_cn (ls : List pz_lne) (F : Nat → Int) (d i : Nat) : Int := 1000000 - pz_lf (sd_rd ls F i) d
theorem sd_cn_b {ls : List pz_lne} {F : Nat → Int} {d i : Nat} : 0 ≤ sd_cn ls F d i ∧ sd_cn ls F d i ≤ 1000000 := by
  have r := sd_rd_b (ls := ls) (F := F) (i := i)
  have b := pz_lf_b r.1 r.2 d
  unfold sd_cn
  omega
/-- a LINK's step -/
def sd_ow (ls : List pz_lne) (F : Nat → Int) (d i : Nat) (a : Int) : Int := if F (52 + i) = 1 then 0 else if F (40 + i) = 1 then a else a * sd_cn ls F d i / 1000000
theorem sd_ow_b {ls : List pz_lne} {F : Nat → Int} {d i : Nat} {a : Int} (h : 0 ≤ a ∧ a ≤ 1000000) : 0 ≤ sd_ow ls F d i a ∧ sd_ow ls F d i a ≤ 1000000 := by
  unfold sd_ow
  split
  · omega
  · split
    · exact h
    · have c := sd_cn_b (ls := ls) (F := F) (d := d) (i := i)
      have m := pz_m9 (x := a) (y := sd_cn ls F d i) (a := 1000000) (b := 1000000) h.1 h.2 c.1 c.2
      omega
def sd_oo (ls : List pz_lne) (F : Nat → Int) (d : Nat) : Nat → Nat → Int → Int
  | 0, _, a => a
  | m + 1, i, a => sd_oo ls F d m (i + 1) (sd_ow ls F d i a)
theorem sd_oo_b {ls : List pz_lne} {F : Nat → Int} {d : Nat} : ∀ (m i : Nat) (a : Int), 0 ≤ a ∧ a ≤ 1000000 → 0 ≤ sd_oo ls F d m i a ∧ sd_oo ls F d m i a ≤ 1000000 := by
  intro m
  induction m with
  | zero => exact fun i a h => h
  | succ m ih => exact fun i a h => ih _ _ (sd_ow_b h)
def sd_od9 (ls : List pz_lne) (F : Nat → Int) (d : Nat) : Int := sd_oo ls F d (sd_n F) 0 1000000
def sd_odv (ls : List pz_lne) (F : Nat → Int) (d : Int) : Int := if 1 ≤ d ∧ d ≤ 60 then sd_od9 ls F d.toNat else -1
/-- what reckon lays -/
def sd_ar (N : pz_M) (ls : List pz_lne) (F : Nat → Int) (d : Nat) (m : Int) : Prop := ∀ i : Nat, (i : Int) < m → N 52 i = pz_lf (sd_rd ls F i) d ∧ N 53 i = sd_rd ls F i ∧ N 54 i = sd_co ls F i
theorem sd_ar_cg {N N' : pz_M} {ls : List pz_lne} {F : Nat → Int} {d : Nat} {m : Int} (h : sd_ar N ls F d m) (e : ∀ b j : Nat, 52 ≤ b → b ≤ 54 → N' b j = N b j) : sd_ar N' ls F d m := fun i hi => by
  rw [e 52 i (by first | decide | omega) (by first | decide | omega), e 53 i (by first | decide | omega) (by first | decide | omega), e 54 i (by first | decide | omega) (by first | decide | omega)]
  exact h i hi
def sd_al (N : pz_M) (ls : List pz_lne) (F : Nat → Int) (d : Nat) (m : Int) : Prop := ∀ i : Nat, (i : Int) < m → N 52 i = pz_lf (sd_rd ls F i) d
theorem sd_ar.al {N : pz_M} {ls : List pz_lne} {F : Nat → Int} {d : Nat} {m : Int} (h : sd_ar N ls F d m) : sd_al N ls F d m := fun i hi => (h i hi).1
def sd_wp (M : pz_M) (P : List pz_lne → (Nat → Int) → Prop) : Prop := ∀ (ls : List pz_lne) (l1 : List (List Int)) (F : Nat → Int), sd_tx M ls l1 → sd_se M 71 F → sd_wf F → P ls F
theorem sd_ar_u {N N1 N2 N3 N4 N5 : pz_M} {ls : List pz_lne} {F : Nat → Int} {d : Nat} {x y r c l : Int} (h : sd_ar N ls F d x) (h0 : 0 ≤ x) (hy : y = x + 1) (z1 : pq_pr pq_Pw N N1) (e2 : N2 = pz_u N1 53 x.toNat r) (z3 : pq_pr pq_Pw N2 N3) (e4 : N4 = pz_u N3 54 x.toNat c) (e5 : N5 = pz_u N4 52 x.toNat l) (hr : r = sd_rd ls F x.toNat) (hc : c = sd_co ls F x.toNat) (hl : l = pz_lf r d) : sd_ar N5 ls F d y := fun i hi => by
  have p : ∀ b : Nat, 52 ≤ b → ¬ pq_Pw b i := fun b hb => by
    unfold pq_Pw
    omega
  rw [e5, e4]
  by_cases q : i = x.toNat
  · rw [q, pz_uu, pz_una (by decide), pz_una (by decide), pz_una (by decide), pz_uu, ← q, z3.2 53 i (p 53 (by decide)), e2, q, pz_uu, hl, ← hr, hc]
    exact ⟨rfl, rfl, rfl⟩
  · rw [pz_unk q, pz_una (by decide), pz_una (by decide), pz_una (by decide), pz_una (by decide), pz_unk q, z3.2 52 i (p 52 (by decide)), z3.2 53 i (p 53 (by decide)), z3.2 54 i (p 54 (by decide)), e2, pz_una (by decide), pz_unk q, pz_una (by decide), z1.2 52 i (p 52 (by decide)), z1.2 53 i (p 53 (by decide)), z1.2 54 i (p 54 (by decide))]
    exact h i (by first | decide | omega)
def sd_a2 (N : pz_M) (ls : List pz_lne) (F : Nat → Int) (d : Nat) (x m : Int) : Prop := ∀ i : Nat, (i : Int) < m → N 52 i = pz_lf (sd_rd ls F i) (if (i : Int) < x then d + 1 else d) ∧ N 53 i = sd_rd ls F i ∧ N 54 i = sd_co ls F i
theorem sd_a2_0 {N : pz_M} {ls : List pz_lne} {F : Nat → Int} {d : Nat} {m : Int} (h : sd_ar N ls F d m) : sd_a2 N ls F d 0 m := fun i hi => by
  rw [if_neg (by first | decide | omega)]
  exact h i hi
theorem sd_a2_z {N : pz_M} {ls : List pz_lne} {F : Nat → Int} {d : Nat} {x m : Int} (h : sd_a2 N ls F d x m) (hx : m ≤ x) : sd_ar N ls F (d + 1) m := fun i hi => by
  have a := h i hi
  rw [if_pos (by first | decide | omega)] at a
  exact a
theorem sd_a2_s {N N' : pz_M} {ls : List pz_lne} {F : Nat → Int} {d : Nat} {x y m l : Int} (h : sd_a2 N ls F d x m) (h0 : 0 ≤ x) (hx : x < m) (hy : y = x + 1) (e : N' = pz_u N 52 x.toNat l) (hl : l = pz_lf (sd_rd ls F x.toNat) (d + 1)) : sd_a2 N' ls F d y m := fun i hi => by
  have a := h i hi
  rw [e]
  by_cases q : i = x.toNat
  · rw [q, pz_uu, pz_una (by decide), pz_una (by decide), if_pos (by first | decide | omega), hl]
    rw [q] at a
    exact ⟨rfl, a.2⟩
  · rw [pz_unk q, pz_una (by decide), pz_una (by decide)]
    by_cases c : (i : Int) < x
    · rw [if_pos c] at a
      rw [if_pos (by first | decide | omega)]
      exact a
    · rw [if_neg c] at a
      rw [if_neg (by first | decide | omega)]
      exact a
/-- one LINK's array cell in another's stead -/
theorem sd_al_1 {N N' : pz_M} {ls : List pz_lne} {F G : Nat → Int} {d i : Nat} {m l : Int} (h : sd_ar N ls F d m) (e : ∀ j : Nat, N' 52 j = if j = i then l else N 52 j) (hl : l = pz_lf (sd_rd ls G i) d) (hg : ∀ j : Nat, (j : Int) < m → j ≠ i → sd_rd ls G j = sd_rd ls F j) : sd_al N' ls G d m := fun j hj => by
  rw [e j]
  by_cases q : j = i
  · rw [if_pos q, hl, q]
  · rw [if_neg q, hg j hj q]
    exact (h j hj).1
/-- SOON: from d on, n more -/
def sd_son (ls : List pz_lne) (F : Nat → Int) (h : Int) : Nat → Nat → Int
  | 0, _ => -1
  | n + 1, d => if h ≤ sd_od9 ls F d then (d : Int) else sd_son ls F h n (d + 1)
def sd_sov (ls : List pz_lne) (F : Nat → Int) (h : Int) : Int := if 0 ≤ h ∧ h ≤ 1000000 then sd_son ls F h 60 1 else -1
/-- slowness is one LINK's own -/
def sd_sl0 (F : Nat → Int) (i : Nat) : Nat → Int := sd_u F (93 + i) 0
theorem sd_lk_cg {F G : Nat → Int} {i : Nat} (e : ∀ k : Nat, (40 ≤ k ∧ k < 52) ∨ (64 ≤ k ∧ k < 76) ∨ k = 88 → G k = F k) (hF : F 88 ≤ 12) (hi : (i : Int) < F 88) : sd_lk G i = sd_lk F i := by
  have lo : ∀ k : Nat, k < 12 → sd_lo G k = sd_lo F k := by
    intro k
    induction k with
    | zero => exact fun _ => rfl
    | succ k ih =>
      intro hk
      show (if G (64 + (k + 1)) = 1 then k + 1 else sd_lo G k) = (if F (64 + (k + 1)) = 1 then k + 1 else sd_lo F k)
      rw [e (64 + (k + 1)) (by first | decide | omega), ih (by first | decide | omega)]
  have fr : sd_from G i = sd_from F i := lo (i - 1) (by first | decide | omega)
  have en : ∀ a : Nat, sd_end (sd_bb G) (G 88).toNat a = sd_end (sd_bb F) (F 88).toNat a := fun a => by
    rw [e 88 (by first | decide | omega)]
    exact sd_end_cg (fun k hk => by
      show decide (G (64 + k) = 1) = decide (F (64 + k) = 1)
      rw [e (64 + k) (by first | decide | omega)])
  have to : sd_to G i = sd_to F i := by
    unfold sd_to
    rw [en, e (64 + i) (by first | decide | omega), fr]
  have nr : ∀ m k : Nat, k + m ≤ 12 → sd_nr G k m = sd_nr F k m := by
    intro m
    induction m with
    | zero => exact fun k _ => rfl
    | succ m ih =>
      intro k hk
      show (if G (40 + k) = 1 then 0 else 1) + sd_nr G (k + 1) m = (if F (40 + k) = 1 then 0 else 1) + sd_nr F (k + 1) m
      rw [e (40 + k) (by first | decide | omega), ih (k + 1) (by first | decide | omega)]
  unfold sd_lk
  rw [fr, to]
  have b : sd_to F i < 12 ∧ sd_from F i ≤ 12 := by
    have l := sd_lo_le (F := F) (i - 1)
    unfold sd_to sd_from
    have z : (if F (64 + i) = 1 ∨ i = 0 then i else sd_lo F (i - 1)) < (F 88).toNat := by
      split <;> omega
    have s := sd_end_s (b := sd_bb F) z
    omega
  exact nr _ _ (by first | decide | omega)
theorem sd_rd_sl {ls : List pz_lne} {F : Nat → Int} {i j : Nat} (hl : ∀ q ∈ ls, pv_ln q) (hF : F 88 ≤ 12) (hj : (j : Int) < F 88) (hi : i < 12) (ne : j ≠ i) : sd_rd ls (sd_sl0 F i) j = sd_rd ls F j := by
  have o : ∀ k : Nat, k ≠ 93 + i → sd_sl0 F i k = F k := fun k hk => sd_un hk
  unfold sd_rd
  rw [o (93 + j) (by first | decide | omega)]
  refine pv_tell_cg (fun q q1 q2 => ?_) hl
  unfold sd_fn
  rw [o (4 + j) (by first | decide | omega), o (16 + j) (by first | decide | omega), o (28 + j) (by first | decide | omega), o (93 + j) (by first | decide | omega), o 0 (by first | decide | omega), o 88 (by first | decide | omega), o (64 + j) (by first | decide | omega), sd_lk_cg (fun k hk => o k (by first | decide | omega)) hF hj]
/-- ODDS if a LINK were not slow -/
def sd_hu (ls : List pz_lne) (F : Nat → Int) (d i : Nat) : Int := sd_od9 ls (sd_sl0 F i) d
/-- HURRY: the LINK -/
def sd_hub (ls : List pz_lne) (F : Nat → Int) (d : Nat) : Nat → Nat → Nat → Nat
  | 0, _, b => b
  | m + 1, i, b => sd_hub ls F d m (i + 1) (if sd_hu ls F d b < sd_hu ls F d i then i else b)
def sd_huv (ls : List pz_lne) (F : Nat → Int) (d w : Int) : Int := if (1 ≤ d ∧ d ≤ 60) ∧ (0 ≤ w ∧ w ≤ 1) ∧ F 88 ≠ 0 then (if w = 0 then (sd_hub ls F d.toNat (sd_n F - 1) 1 0 : Int) else sd_hu ls F d.toNat (sd_hub ls F d.toNat (sd_n F - 1) 1 0)) else -1

def sd_huE (ls : List pz_lne) (F : Nat → Int) (d : Nat) (b g x : Int) : Prop := (0 ≤ x ∧ x ≤ F 88) ∧ ((x = 0 ∧ b = -1 ∧ g = -1) ∨ (1 ≤ x ∧ 0 ≤ b ∧ b < F 88 ∧ g = sd_hu ls F d b.toNat ∧ sd_hub ls F d (sd_n F - x.toNat) x.toNat b.toNat = sd_hub ls F d (sd_n F - 1) 1 0))
theorem sd_huE_0 {ls : List pz_lne} {F : Nat → Int} {d : Nat} (w : sd_wf F) : sd_huE ls F d (-1) (-1) 0 := ⟨⟨by decide, w.1.1⟩, Or.inl ⟨rfl, rfl, rfl⟩⟩
theorem sd_hu_b {ls : List pz_lne} {F : Nat → Int} {d i : Nat} : 0 ≤ sd_hu ls F d i ∧ sd_hu ls F d i ≤ 1000000 := sd_oo_b _ _ _ ⟨by decide, by decide⟩
theorem sd_huE_y {ls : List pz_lne} {F : Nat → Int} {d : Nat} {b g x y o : Int} (h : sd_huE ls F d b g x) (w : sd_wf F) (hx : x < F 88) (hy : y = x + 1) (ho : o = sd_hu ls F d x.toNat) (hg : g < o) : sd_huE ls F d x o y := by
  obtain ⟨h1, h2⟩ := h
  have k9 := sd_n_i w
  refine ⟨⟨by omega, by omega⟩, Or.inr ⟨by omega, by omega, hx, ho, ?_⟩⟩
  rcases h2 with ⟨a, -, -⟩ | ⟨a, b0, b1, c, e⟩
  · rw [show y.toNat = 1 by omega, show x.toNat = 0 by omega]
  · rw [show sd_n F - x.toNat = (sd_n F - y.toNat) + 1 by omega] at e
    have e : sd_hub ls F d (sd_n F - y.toNat) (x.toNat + 1) (if sd_hu ls F d b.toNat < sd_hu ls F d x.toNat then x.toNat else b.toNat) = _ := e
    rw [if_pos (by first | decide | omega), show x.toNat + 1 = y.toNat by omega] at e
    exact e
theorem sd_huE_n {ls : List pz_lne} {F : Nat → Int} {d : Nat} {b g x y o : Int} (h : sd_huE ls F d b g x) (w : sd_wf F) (hx : x < F 88) (hy : y = x + 1) (ho : o = sd_hu ls F d x.toNat) (hg : ¬ g < o) : sd_huE ls F d b g y := by
  obtain ⟨h1, h2⟩ := h
  have k9 := sd_n_i w
  have hb := sd_hu_b (ls := ls) (F := F) (d := d) (i := x.toNat)
  refine ⟨⟨by omega, by omega⟩, Or.inr ?_⟩
  rcases h2 with ⟨a, b2, c⟩ | ⟨a, b0, b1, c, e⟩
  · exfalso
    omega
  · refine ⟨by omega, b0, b1, c, ?_⟩
    rw [show sd_n F - x.toNat = (sd_n F - y.toNat) + 1 by omega] at e
    have e : sd_hub ls F d (sd_n F - y.toNat) (x.toNat + 1) (if sd_hu ls F d b.toNat < sd_hu ls F d x.toNat then x.toNat else b.toNat) = _ := e
    rw [if_neg (by first | decide | omega), show x.toNat + 1 = y.toNat by omega] at e
    exact e
theorem sd_huE_z {ls : List pz_lne} {F : Nat → Int} {d : Nat} {b g x : Int} (h : sd_huE ls F d b g x) (w : sd_wf F) (hx : ¬ x < F 88) : (F 88 = 0 ∧ b = -1 ∧ g = -1) ∨ (F 88 ≠ 0 ∧ b = (sd_hub ls F d (sd_n F - 1) 1 0 : Int) ∧ g = sd_hu ls F d (sd_hub ls F d (sd_n F - 1) 1 0)) := by
  obtain ⟨h1, h2⟩ := h
  have k9 := sd_n_i w
  rcases h2 with ⟨a, b2, c⟩ | ⟨a, b0, b1, c, e⟩
  · exact Or.inl ⟨by omega, b2, c⟩
  · rw [show sd_n F - x.toNat = 0 by omega] at e
    have e : b.toNat = _ := e
    exact Or.inr ⟨by omega, by rw [← e]; omega, by rw [← e]; exact c⟩
theorem sd_lnk_i {r : Nat} {i : Int} (h : r = pz_lnk 71 i) (h0 : 0 ≤ i) (h1 : i < 12) : r = pz_lb 71 + i.toNat := h.trans (if_pos ⟨h0, h1⟩)
theorem sd_sl0_wf {F : Nat → Int} {i : Nat} (w : sd_wf F) (hi : (i : Int) < F 88) : sd_wf (sd_sl0 F i) := sd_wf_1 (f := 3) w (by decide) hi ⟨fun z => absurd z (by decide), fun z => absurd z (by decide), fun z => absurd z (by decide), fun _ => ⟨by decide, by decide⟩, fun z => absurd z (by decide), fun z => absurd z (by decide), fun z => absurd z (by decide)⟩
theorem sd_sl0_88 {F : Nat → Int} {i : Nat} : sd_sl0 F i 88 = F 88 := sd_un (by first | decide | omega)
theorem sd_wlw_cg {ls : List pz_lne} {f g : Nat → Int} (h : pq_wlw ls f) (e : ∀ j : Nat, j = 89 ∨ 841 ≤ j → g j = f j) : pq_wlw ls g := by
  obtain ⟨h1, h2, h3⟩ := h
  have k : (fun j => g (905 + j)) = fun j => f (905 + j) := funext fun j => e _ (by first | decide | omega)
  refine ⟨(e 89 (by first | decide | omega)).trans h1, fun k hk => ?_, by rw [k]; exact h3⟩
  rw [e (841 + k) (by first | decide | omega), e (857 + k) (by first | decide | omega), e (873 + k) (by first | decide | omega), e (889 + k) (by first | decide | omega)]
  exact h2 k hk
/-- the model: one LINK READY by a DAY -/
def sd_rb (ls : List pz_lne) (F : Nat → Int) (d i : Nat) : Int := if F (52 + i) = 1 then 0 else if F (40 + i) = 1 then 1000000 else sd_cn ls F d i
theorem sd_rb_b {ls : List pz_lne} {F : Nat → Int} {d i : Nat} : 0 ≤ sd_rb ls F d i ∧ sd_rb ls F d i ≤ 1000000 := by
  have c := sd_cn_b (ls := ls) (F := F) (d := d) (i := i)
  unfold sd_rb
  split
  · omega
  · split <;> omega
theorem sd_ow_r {ls : List pz_lne} {F : Nat → Int} {d i : Nat} {a r x v : Int} (h : F (40 + i) ≠ 1 ∨ F (52 + i) = 1) (ha : 0 ≤ a ∧ a ≤ 1000000) (hr : r = sd_rb ls F d i) (hx : x = pz_wl (a * r)) (hv : v = pz_wl (x.tdiv 1000000)) : v = sd_ow ls F d i a := by
  have b := sd_rb_b (ls := ls) (F := F) (d := d) (i := i)
  rw [← hr] at b
  have m := pz_m9 ha.1 ha.2 b.1 b.2
  rw [pz_wli (by first | decide | omega) (by first | decide | omega)] at hx
  rw [hx, Int.tdiv_eq_ediv_of_nonneg (by first | decide | omega), pz_wli (by first | decide | omega) (by first | decide | omega)] at hv
  rw [hv, hr]
  unfold sd_ow sd_rb
  by_cases o : F (52 + i) = 1
  · rw [if_pos o, if_pos o, Int.mul_zero]
    all_goals rfl
  · rw [if_neg o, if_neg o, if_neg (by first | decide | omega), if_neg (by first | decide | omega)]
theorem sd_oo_s {ls : List pz_lne} {F : Nat → Int} {d m k i : Nat} {a b v : Int} (h : sd_oo ls F d m i a = v) (hm : m = k + 1) (hb : b = sd_ow ls F d i a) : sd_oo ls F d k (i + 1) b = v := by
  rw [hm] at h
  rw [hb]
  exact h
theorem sd_od9_b {ls : List pz_lne} {F : Nat → Int} {d : Nat} : 0 ≤ sd_od9 ls F d ∧ sd_od9 ls F d ≤ 1000000 := sd_oo_b _ _ _ ⟨by decide, by decide⟩
/-- the model's HURRY -/
def sd_hmE (ls : List pz_lne) (F : Nat → Int) (d : Nat) (b x : Int) : Prop := (1 ≤ x ∧ x ≤ F 88) ∧ (0 ≤ b ∧ b < F 88) ∧ sd_hub ls F d (sd_n F - x.toNat) x.toNat b.toNat = sd_hub ls F d (sd_n F - 1) 1 0
theorem sd_hmE_s {ls : List pz_lne} {F : Nat → Int} {d : Nat} {b x y c : Int} (h : sd_hmE ls F d b x) (w : sd_wf F) (hx : x < F 88) (hy : y = x + 1) (hc : (sd_hu ls F d b.toNat < sd_hu ls F d x.toNat ∧ c = x) ∨ (¬ sd_hu ls F d b.toNat < sd_hu ls F d x.toNat ∧ c = b)) : sd_hmE ls F d c y := by
  obtain ⟨h1, h2, e⟩ := h
  have k9 := sd_n_i w
  rw [show sd_n F - x.toNat = (sd_n F - y.toNat) + 1 by omega] at e
  have e : sd_hub ls F d (sd_n F - y.toNat) (x.toNat + 1) (if sd_hu ls F d b.toNat < sd_hu ls F d x.toNat then x.toNat else b.toNat) = _ := e
  rw [show x.toNat + 1 = y.toNat by omega] at e
  rcases hc with ⟨q, rfl⟩ | ⟨q, rfl⟩
  · rw [if_pos q] at e
    exact ⟨⟨by omega, by omega⟩, ⟨by omega, hx⟩, e⟩
  · rw [if_neg q] at e
    exact ⟨⟨by omega, by omega⟩, h2, e⟩
theorem sd_hmE_z {ls : List pz_lne} {F : Nat → Int} {d : Nat} {b x : Int} (h : sd_hmE ls F d b x) (w : sd_wf F) (hx : ¬ x < F 88) : b = (sd_hub ls F d (sd_n F - 1) 1 0 : Int) := by
  obtain ⟨h1, h2, e⟩ := h
  have k9 := sd_n_i w
  rw [show sd_n F - x.toNat = 0 by omega] at e
  have e : b.toNat = _ := e
  rw [← e]
  omega
end
section
noncomputable def k4_X4_reckon : pz_C := (3, 0, fun a M => (match a with | [.inr (.inr (4, k)), .inr (.inr (0, c)), .inl n] => pz_ic M | _ => False), fun a M r M' => (match a, r with | [.inr (.inr (4, k)), .inr (.inr (0, c)), .inl n], none => (c = 71 → 0 ≤ n → sd_wp M (fun ls F => sd_ar M' ls F n.toNat (F 88))) ∧ pq_pr pq_Pk M M' | _, _ => False))
noncomputable abbrev ct4_X4_reckon : List (Bool × Nat × pz_C) := [(true, 44, k3_X3_tells), (false, 33, k_X4_leftAfter)]
set_option maxRecDepth 100000 in
set_option maxHeartbeats 4000000 in
theorem h4_X4_reckon : pz_H yX4_reckon cX4_reckon 4 none k4_X4_reckon 4 97 := by
  refine pz_mk (own := RX4) (tb := t_X4_reckon) (fl := pz_flf fl_RX4) (ci := pz_cif ci_RX4) (ct := pz_ctf ct4_X4_reckon) (rz := false) (pz_pfc_RX4 yX4_reckon rfl) rfl t_X4_reckon_ok (pz_flk fl_RX4_ok) (pz_cik ci_RX4_ok) ?_ ?_ (rfl) ?_ ?_
  · exact fun i k' h => pz_ctk (l := ct4_X4_reckon) (P := fun b i k => b = true → pz_cV 4 97 RX4 i k) (List.forall_mem_cons.mpr ⟨(fun _ => v3_X3_tells (by decide) (by decide) pz_wq888), List.forall_mem_cons.mpr ⟨((fun z => by cases z)), fun _ h => absurd h List.not_mem_nil⟩⟩) true i k' h rfl
  · exact fun i k' h => pz_ctk (l := ct4_X4_reckon) (P := fun b i k => b = false → (pz_cS 4 97 RX4 i k ∨ (k = pz_kac ∧ 1 ≤ 4 ∧ 60 ≤ 97 ∧ Cond.methodLink RX4 i arraycopyName ∈ pz_tbl))) (List.forall_mem_cons.mpr ⟨((fun z => by cases z)), List.forall_mem_cons.mpr ⟨(fun _ => Or.inl (s_X4_leftAfter (by decide) (by decide) (Or.inl pz_wq889))), fun _ h => absurd h List.not_mem_nil⟩⟩) false i k' h rfl
  · intro a M hlen hpre
    obtain ⟨k, c, n, rfl, hpre⟩ : ∃ k c n, a = [.inr (.inr (4, k)), .inr (.inr (0, c)), .inl n] ∧ (pz_ic M) := by
      have hpre : (match (generalizing := false) a with | [.inr (.inr (4, k)), .inr (.inr (0, c)), .inl n] => pz_ic M | _ => False) := hpre
      split at hpre
      · exact ⟨_, _, _, rfl, hpre⟩
      · exact hpre.elim
    exact Nat.le_of_ble_eq_true rfl
  · intro a M hlen hcan hM hpre Ok hgo
    obtain ⟨k, c, n, rfl, hpre⟩ : ∃ k c n, a = [.inr (.inr (4, k)), .inr (.inr (0, c)), .inl n] ∧ (pz_ic M) := by
      have hpre : (match (generalizing := false) a with | [.inr (.inr (4, k)), .inr (.inr (0, c)), .inl n] => pz_ic M | _ => False) := hpre
      split at hpre
      · exact ⟨_, _, _, rfl, hpre⟩
      · exact hpre.elim
    obtain ⟨k_k, hc_k⟩ := pz_tlm hcan
    have k_k : pz_kd k = 4 ∧ k < 231 := k_k
    have R_k := pz_kd4 k_k.1
    subst R_k
    obtain ⟨k_c, hc_c⟩ := pz_tlm hc_k
    have k_c : pz_kd c = 0 ∧ c < 231 := k_c
    have R_c := pz_kd0 k_c.1
    obtain ⟨k_n, hc_n⟩ := pz_tlm hc_c
    have l_n : -2147483648 ≤ n := k_n.1
    have u_n : n ≤ 2147483647 := k_n.2
    have hI : pz_ic M := hpre
    have hI0 := hI
    have hS : pq_pr pq_Pk M M := pq_pr.rf
    have L2 : ∀ (fu : Nat) (x3 : Int) (N2 : pz_M), (12 - x3).toNat < fu → (pq_pr pq_Pk M N2) → (0 ≤ x3) → (c = 71 → 0 ≤ n → sd_wp M (fun ls F => x3 ≤ F 88 ∧ sd_ar N2 ls F n.toNat x3)) → Ok 2 [some (.inr (.inr (4, 6))), some (.inr (.inr (0, c))), some (.inl n), some (.inl x3)] [] N2 := by
      intro fu
      induction fu with
      | zero => exact fun _ _ hn => absurd hn (Nat.not_lt_zero _)
      | succ fu ih2 =>
        intro x3 N2 hn2 hS g2_1 g2_2
        have hI : pz_ic N2 := hS.1 hI0
        have hS2 := hS
        refine hgo (fun p => Nat.beq p 2) 44 2 _ _ _ ?_
        intro v4 e4 a4 b4
        have I4 := hI.1 c (by first | decide | omega) (by first | decide | omega)
        refine And.intro (fun h7 => ?_) (fun h7 => ?_)
        · skip
          refine And.intro rfl ?_
          refine ⟨fun c9 n9 ls l1 F t s w => ?_, hS⟩
          obtain ⟨g1, g2⟩ := (by assumption : c = 71 → 0 ≤ n → sd_wp M (fun ls F => x3 ≤ F 88 ∧ sd_ar N2 ls F n.toNat x3)) c9 n9 ls l1 F t s w
          subst c9
          have n8 := (sd_se_k s w hS2).1
          have m := w.1
          have e : x3 = F 88 := by omega
          rw [e] at g2
          exact g2
        · skip
          refine And.intro (fun h13 => ?_) (fun h13 => ?_)
          · skip
            refine And.intro rfl ?_
            refine ⟨fun c9 n9 ls l1 F t s w => ?_, hS⟩
            obtain ⟨g1, g2⟩ := (by assumption : c = 71 → 0 ≤ n → sd_wp M (fun ls F => x3 ≤ F 88 ∧ sd_ar N2 ls F n.toNat x3)) c9 n9 ls l1 F t s w
            subst c9
            have n8 := (sd_se_k s w hS2).1
            have m := w.1
            have e : x3 = F 88 := by omega
            rw [e] at g2
            exact g2
          · skip
            intro r17 e17 k17
            have R17 := pz_kdA k17 (by decide) (by decide)
            have Q17 := pz_nm e17 k_k.1 (by decide) (by decide) rfl
            have W17 : r17 = 53 := e17
            intro r22 e22 k22
            have R22 := pz_kd3 k22
            have L22 : r22 = 10 := by rw [e22]; rfl
            refine And.intro (hI) ?_
            intro v28 M28 a28 b28 q28
            obtain ⟨q28, z28⟩ := q28
            have hS : pq_pr pq_Pk M M28 := hS.tr z28.wpk
            have hI : pz_ic M28 := hS.1 hI0
            rw [L22] at q28
            have lo31 : (0 : Int) ≤ x3 := by omega
            have tn31 : (((x3).toNat : Nat) : Int) = x3 := Int.toNat_of_nonneg lo31
            refine And.intro (lo31) (And.intro (show _ < (12 : Int) from by omega) ?_)
            intro M31 e31
            have hS : pq_pr pq_Pk M M31 := by
              rw [e31]
              exact pq_pr_u hS (by unfold pq_Pk pq_Pw; first | decide | omega) (by unfold pz_iok; first | decide | omega)
            have hI : pz_ic M31 := hS.1 hI0
            rw [W17] at e31
            have hS31 := hS
            intro r33 e33 k33
            have R33 := pz_kdA k33 (by decide) (by decide)
            have Q33 := pz_nm e33 k_k.1 (by decide) (by decide) rfl
            have W33 : r33 = 54 := e33
            intro r38 e38 k38
            have R38 := pz_kd3 k38
            have L38 : r38 = 10 := by rw [e38]; rfl
            refine And.intro (hI) ?_
            intro v44 M44 a44 b44 q44
            obtain ⟨q44, z44⟩ := q44
            have hS : pq_pr pq_Pk M M44 := hS.tr z44.wpk
            have hI : pz_ic M44 := hS.1 hI0
            rw [L38] at q44
            refine And.intro (lo31) (And.intro (show _ < (12 : Int) from by omega) ?_)
            intro M47 e47
            have hS : pq_pr pq_Pk M M47 := by
              rw [e47]
              exact pq_pr_u hS (by unfold pq_Pk pq_Pw; first | decide | omega) (by unfold pz_iok; first | decide | omega)
            have hI : pz_ic M47 := hS.1 hI0
            rw [W33] at e47
            intro r49 e49 k49
            have R49 := pz_kdA k49 (by decide) (by decide)
            have Q49 := pz_nm e49 k_k.1 (by decide) (by decide) rfl
            have W49 : r49 = 52 := e49
            intro r54 e54 k54
            have R54 := pz_kdA k54 (by decide) (by decide)
            have Q54 := pz_nm e54 k_k.1 (by decide) (by decide) rfl
            have W54 : r54 = 53 := e54
            refine And.intro (lo31) (And.intro (show _ < (12 : Int) from by omega) ?_)
            intro v58 e58 a58 b58
            rw [W54] at e58
            refine And.intro (True.intro) ?_
            intro v60 M60 a60 b60 q60
            obtain ⟨q60, z60⟩ := q60
            subst z60
            refine And.intro (lo31) (And.intro (show _ < (12 : Int) from by omega) ?_)
            intro M63 e63
            have hS : pq_pr pq_Pk M M63 := by
              rw [e63]
              exact pq_pr_u hS (by unfold pq_Pk pq_Pw; first | decide | omega) (by unfold pz_iok; first | decide | omega)
            have hI : pz_ic M63 := hS.1 hI0
            rw [W49] at e63
            intro v64 e64 a64 b64
            rw [pz_wi (by first | decide | omega) (by first | decide | omega)] at e64
            have G2 : c = 71 → 0 ≤ n → sd_wp M (fun ls F => v64 ≤ F 88 ∧ sd_ar M63 ls F n.toNat v64) := fun c9 n9 ls l1 F t s w => by
              obtain ⟨g1, g2⟩ := (by assumption : c = 71 → 0 ≤ n → sd_wp M (fun ls F => x3 ≤ F 88 ∧ sd_ar N2 ls F n.toNat x3)) c9 n9 ls l1 F t s w
              subst c9
              have s2 := sd_se_k s w hS2
              have n8 := s2.1
              have r := sd_tel0 (⟨by decide, by decide⟩ : 71 ≤ 71 ∧ 71 < 80) (sd_tx_k t hS2) s2 w (show 0 ≤ x3 by omega) (by first | decide | omega) q28.2
              have cc := sd_tel3 (⟨by decide, by decide⟩ : 71 ≤ 71 ∧ 71 < 80) (sd_tx_k t hS31) (sd_se_k s w hS31) w (show 0 ≤ x3 by omega) (by first | decide | omega) q44.2
              have E58 : v58 = v28 := by
                rw [e58, e47, pz_una (by decide), z44.2 53 x3.toNat (by unfold pq_Pw; first | decide | omega), e31, pz_uu]
              have l := q60 (by first | decide | omega) (by first | decide | omega) n9
              rw [E58] at l
              exact ⟨by omega, sd_ar_u g2 (by first | decide | omega) e64 z28 e31 z44 e47 e63 r cc l⟩
            exact ih2 _ _ (by first | decide | omega) hS (by first | omega | assumption | exact fun _ _ ls l1 F t s w => ⟨w.1.1, fun i hi => absurd hi (by first | decide | omega)⟩) (by first | omega | assumption | exact fun _ _ ls l1 F t s w => ⟨w.1.1, fun i hi => absurd hi (by first | decide | omega)⟩)
    refine hgo (fun p => Nat.beq p 2) 44 0 _ [] M ?_
    exact L2 _ _ _ (Nat.lt_succ_self _) hS (by first | omega | assumption | exact fun _ _ ls l1 F t s w => ⟨w.1.1, fun i hi => absurd hi (by first | decide | omega)⟩) (by first | omega | assumption | exact fun _ _ ls l1 F t s w => ⟨w.1.1, fun i hi => absurd hi (by first | decide | omega)⟩)
theorem v4_X4_reckon {fr lo i : Nat} {own : String} (h1 : 4 + 1 ≤ fr) (h2 : 8 + (4 + 11) + 97 ≤ lo) (h3 : .methodLink own i yX4_reckon ∈ lw_tbl) : pz_cV fr lo own i k4_X4_reckon :=
  pz_cVk (maxL := 4) (fr' := 4) (lo' := 97) 2 4 h4_X4_reckon rfl ⟨(pz_nhc_RX4 yX4_reckon rfl).1, (pz_nhc_RX4 yX4_reckon rfl).2, pz_ds34⟩ ⟨pz_wq887, pz_wq885, pz_wq886, pz_wq11⟩ (Or.inl ⟨TX4, 5, rfl⟩) (fun a M _ h => by
    have h : (match (generalizing := false) a with | [.inr (.inr (4, k)), .inr (.inr (0, c)), .inl n] => pz_ic M | _ => False) := h
    split at h
    · exact ⟨_, _, rfl⟩
    · exact h.elim) h1 h2 h3
noncomputable def k4_X4_oneDayMore : pz_C := (2, 0, fun a M => (match a with | [.inr (.inr (4, k)), .inr (.inr (0, c))] => pz_ic M | _ => False), fun a M r M' => (match a, r with | [.inr (.inr (4, k)), .inr (.inr (0, c))], none => (c = 71 → ∀ (ls : List pz_lne) (F : Nat → Int) (d : Nat), sd_se M 71 F → sd_wf F → sd_ar M ls F d (F 88) → sd_ar M' ls F (d + 1) (F 88)) ∧ pq_pr pq_Pk M M' | _, _ => False))
noncomputable abbrev ct4_X4_oneDayMore : List (Bool × Nat × pz_C) := [(false, 29, k_X4_leftNext)]
set_option maxRecDepth 100000 in
set_option maxHeartbeats 4000000 in
theorem h4_X4_oneDayMore : pz_H yX4_oneDayMore cX4_oneDayMore 3 none k4_X4_oneDayMore 1 21 := by
  refine pz_mk (own := RX4) (tb := t_X4_oneDayMore) (fl := pz_flf fl_RX4) (ci := pz_cif ci_RX4) (ct := pz_ctf ct4_X4_oneDayMore) (rz := false) (pz_pfc_RX4 yX4_oneDayMore rfl) rfl t_X4_oneDayMore_ok (pz_flk fl_RX4_ok) (pz_cik ci_RX4_ok) ?_ ?_ (rfl) ?_ ?_
  · exact fun i k' h => pz_ctk (l := ct4_X4_oneDayMore) (P := fun b i k => b = true → pz_cV 1 21 RX4 i k) (List.forall_mem_cons.mpr ⟨((fun z => by cases z)), fun _ h => absurd h List.not_mem_nil⟩) true i k' h rfl
  · exact fun i k' h => pz_ctk (l := ct4_X4_oneDayMore) (P := fun b i k => b = false → (pz_cS 1 21 RX4 i k ∨ (k = pz_kac ∧ 1 ≤ 1 ∧ 60 ≤ 21 ∧ Cond.methodLink RX4 i arraycopyName ∈ pz_tbl))) (List.forall_mem_cons.mpr ⟨(fun _ => Or.inl (s_X4_leftNext (by decide) (by decide) (Or.inl pz_wq893))), fun _ h => absurd h List.not_mem_nil⟩) false i k' h rfl
  · intro a M hlen hpre
    obtain ⟨k, c, rfl, hpre⟩ : ∃ k c, a = [.inr (.inr (4, k)), .inr (.inr (0, c))] ∧ (pz_ic M) := by
      have hpre : (match (generalizing := false) a with | [.inr (.inr (4, k)), .inr (.inr (0, c))] => pz_ic M | _ => False) := hpre
      split at hpre
      · exact ⟨_, _, rfl, hpre⟩
      · exact hpre.elim
    exact Nat.le_of_ble_eq_true rfl
  · intro a M hlen hcan hM hpre Ok hgo
    obtain ⟨k, c, rfl, hpre⟩ : ∃ k c, a = [.inr (.inr (4, k)), .inr (.inr (0, c))] ∧ (pz_ic M) := by
      have hpre : (match (generalizing := false) a with | [.inr (.inr (4, k)), .inr (.inr (0, c))] => pz_ic M | _ => False) := hpre
      split at hpre
      · exact ⟨_, _, rfl, hpre⟩
      · exact hpre.elim
    obtain ⟨k_k, hc_k⟩ := pz_tlm hcan
    have k_k : pz_kd k = 4 ∧ k < 231 := k_k
    have R_k := pz_kd4 k_k.1
    subst R_k
    obtain ⟨k_c, hc_c⟩ := pz_tlm hc_k
    have k_c : pz_kd c = 0 ∧ c < 231 := k_c
    have R_c := pz_kd0 k_c.1
    have hI : pz_ic M := hpre
    have hI0 := hI
    have hS : pq_pr pq_Pk M M := pq_pr.rf
    have L2 : ∀ (fu : Nat) (x2 : Int) (N2 : pz_M), (12 - x2).toNat < fu → (pq_pr pq_Pk M N2) → (0 ≤ x2) → (c = 71 → ∀ (ls : List pz_lne) (F : Nat → Int) (d : Nat), sd_se M 71 F → sd_wf F → sd_ar M ls F d (F 88) → x2 ≤ F 88 ∧ sd_a2 N2 ls F d x2 (F 88)) → Ok 2 [some (.inr (.inr (4, 6))), some (.inr (.inr (0, c))), some (.inl x2)] [] N2 := by
      intro fu
      induction fu with
      | zero => exact fun _ _ hn => absurd hn (Nat.not_lt_zero _)
      | succ fu ih2 =>
        intro x2 N2 hn2 hS g2_1 g2_2
        have hI : pz_ic N2 := hS.1 hI0
        have hS2 := hS
        refine hgo (fun p => Nat.beq p 2) 27 2 _ _ _ ?_
        intro v4 e4 a4 b4
        have I4 := hI.1 c (by first | decide | omega) (by first | decide | omega)
        refine And.intro (fun h7 => ?_) (fun h7 => ?_)
        · skip
          refine And.intro rfl ?_
          refine ⟨fun c9 ls F d s w h => ?_, hS⟩
          obtain ⟨g1, g2⟩ := (by assumption : c = 71 → ∀ (ls : List pz_lne) (F : Nat → Int) (d : Nat), sd_se M 71 F → sd_wf F → sd_ar M ls F d (F 88) → x2 ≤ F 88 ∧ sd_a2 N2 ls F d x2 (F 88)) c9 ls F d s w h
          subst c9
          have n8 := (sd_se_k s w hS2).1
          have m := w.1
          exact sd_a2_z g2 (by first | decide | omega)
        · skip
          refine And.intro (fun h13 => ?_) (fun h13 => ?_)
          · skip
            refine And.intro rfl ?_
            refine ⟨fun c9 ls F d s w h => ?_, hS⟩
            obtain ⟨g1, g2⟩ := (by assumption : c = 71 → ∀ (ls : List pz_lne) (F : Nat → Int) (d : Nat), sd_se M 71 F → sd_wf F → sd_ar M ls F d (F 88) → x2 ≤ F 88 ∧ sd_a2 N2 ls F d x2 (F 88)) c9 ls F d s w h
            subst c9
            have n8 := (sd_se_k s w hS2).1
            have m := w.1
            exact sd_a2_z g2 (by first | decide | omega)
          · skip
            intro r17 e17 k17
            have R17 := pz_kdA k17 (by decide) (by decide)
            have Q17 := pz_nm e17 k_k.1 (by decide) (by decide) rfl
            have W17 : r17 = 52 := e17
            intro r22 e22 k22
            have R22 := pz_kdA k22 (by decide) (by decide)
            have Q22 := pz_nm e22 k_k.1 (by decide) (by decide) rfl
            have W22 : r22 = 52 := e22
            have lo26 : (0 : Int) ≤ x2 := by omega
            have tn26 : (((x2).toNat : Nat) : Int) = x2 := Int.toNat_of_nonneg lo26
            refine And.intro (lo26) (And.intro (show _ < (12 : Int) from by omega) ?_)
            intro v26 e26 a26 b26
            rw [W22] at e26
            intro r28 e28 k28
            have R28 := pz_kdA k28 (by decide) (by decide)
            have Q28 := pz_nm e28 k_k.1 (by decide) (by decide) rfl
            have W28 : r28 = 53 := e28
            refine And.intro (lo26) (And.intro (show _ < (12 : Int) from by omega) ?_)
            intro v32 e32 a32 b32
            rw [W28] at e32
            refine And.intro (True.intro) ?_
            intro v33 M33 a33 b33 q33
            obtain ⟨q33, z33⟩ := q33
            subst z33
            refine And.intro (lo26) (And.intro (show _ < (12 : Int) from by omega) ?_)
            intro M36 e36
            have hS : pq_pr pq_Pk M M36 := by
              rw [e36]
              exact pq_pr_u hS (by unfold pq_Pk pq_Pw; first | decide | omega) (by unfold pz_iok; first | decide | omega)
            have hI : pz_ic M36 := hS.1 hI0
            rw [W17] at e36
            intro v37 e37 a37 b37
            rw [pz_wi (by first | decide | omega) (by first | decide | omega)] at e37
            have G2 : c = 71 → ∀ (ls : List pz_lne) (F : Nat → Int) (d : Nat), sd_se M 71 F → sd_wf F → sd_ar M ls F d (F 88) → v37 ≤ F 88 ∧ sd_a2 M36 ls F d v37 (F 88) := fun c9 ls F d s w h => by
              obtain ⟨g1, g2⟩ := (by assumption : c = 71 → ∀ (ls : List pz_lne) (F : Nat → Int) (d : Nat), sd_se M 71 F → sd_wf F → sd_ar M ls F d (F 88) → x2 ≤ F 88 ∧ sd_a2 N2 ls F d x2 (F 88)) c9 ls F d s w h
              subst c9
              have n8 := (sd_se_k s w hS2).1
              have g3 := g2 x2.toNat (by first | decide | omega)
              have b := sd_rd_b (ls := ls) (F := F) (i := x2.toNat)
              have lb := pz_lf_b b.1 b.2 d
              rw [if_neg (by first | decide | omega)] at g3
              have l := q33 (by first | decide | omega) (by first | decide | omega) (by first | decide | omega) (by first | decide | omega)
              exact ⟨by omega, sd_a2_s g2 (by first | decide | omega) (by first | decide | omega) e37 e36 (by
                rw [l, e26, e32, g3.1, g3.2.1]
                rfl)⟩
            exact ih2 _ _ (by first | decide | omega) hS (by first | omega | assumption | exact fun _ ls F d s w h => ⟨w.1.1, sd_a2_0 h⟩) (by first | omega | assumption | exact fun _ ls F d s w h => ⟨w.1.1, sd_a2_0 h⟩)
    refine hgo (fun p => Nat.beq p 2) 27 0 _ [] M ?_
    exact L2 _ _ _ (Nat.lt_succ_self _) hS (by first | omega | assumption | exact fun _ ls F d s w h => ⟨w.1.1, sd_a2_0 h⟩) (by first | omega | assumption | exact fun _ ls F d s w h => ⟨w.1.1, sd_a2_0 h⟩)
theorem v4_X4_oneDayMore {fr lo i : Nat} {own : String} (h1 : 1 + 1 ≤ fr) (h2 : 8 + (3 + 11) + 21 ≤ lo) (h3 : .methodLink own i yX4_oneDayMore ∈ lw_tbl) : pz_cV fr lo own i k4_X4_oneDayMore :=
  pz_cVk (maxL := 3) (fr' := 1) (lo' := 21) 1 4 h4_X4_oneDayMore rfl ⟨(pz_nhc_RX4 yX4_oneDayMore rfl).1, (pz_nhc_RX4 yX4_oneDayMore rfl).2, pz_ds31⟩ ⟨pz_wq1064, pz_wq1062, pz_wq1063, pz_wq11⟩ (Or.inl ⟨TX4, 5, rfl⟩) (fun a M _ h => by
    have h : (match (generalizing := false) a with | [.inr (.inr (4, k)), .inr (.inr (0, c))] => pz_ic M | _ => False) := h
    split at h
    · exact ⟨_, _, rfl⟩
    · exact h.elim) h1 h2 h3
noncomputable def k3_X4_chanceOf : pz_C := (2, 1, fun a M => (match a with | [.inr (.inr (4, k)), .inl i] => True | _ => False), fun a M r M' => (match a, r with | [.inr (.inr (4, k)), .inl i], some (.inl v) => (v = if 0 ≤ i ∧ i < 12 then pz_w (1000000 - M 52 i.toNat) else 0) ∧ M = M' | _, _ => False))
noncomputable abbrev ct3_X4_chanceOf : List (Bool × Nat × pz_C) := []
set_option maxRecDepth 100000 in
set_option maxHeartbeats 4000000 in
theorem h3_X4_chanceOf : pz_H yX4_chanceOf cX4_chanceOf 2 (some .int) k3_X4_chanceOf 0 0 := by
  refine pz_mk (own := RX4) (tb := t_X4_chanceOf) (fl := pz_flf fl_RX4) (ci := pz_cif ci_RX4) (ct := pz_ctf ct3_X4_chanceOf) (rz := false) (pz_pfc_RX4 yX4_chanceOf rfl) rfl t_X4_chanceOf_ok (pz_flk fl_RX4_ok) (pz_cik ci_RX4_ok) ?_ ?_ (Or.inl ⟨rfl, rfl⟩) ?_ ?_
  · exact fun i k' h => pz_ctk (l := ct3_X4_chanceOf) (P := fun b i k => b = true → pz_cV 0 0 RX4 i k) (fun _ h => absurd h List.not_mem_nil) true i k' h rfl
  · exact fun i k' h => pz_ctk (l := ct3_X4_chanceOf) (P := fun b i k => b = false → (pz_cS 0 0 RX4 i k ∨ (k = pz_kac ∧ 1 ≤ 0 ∧ 60 ≤ 0 ∧ Cond.methodLink RX4 i arraycopyName ∈ pz_tbl))) (fun _ h => absurd h List.not_mem_nil) false i k' h rfl
  · intro a M hlen hpre
    obtain ⟨k, i, rfl, hpre⟩ : ∃ k i, a = [.inr (.inr (4, k)), .inl i] ∧ (True) := by
      have hpre : (match (generalizing := false) a with | [.inr (.inr (4, k)), .inl i] => True | _ => False) := hpre
      split at hpre
      · exact ⟨_, _, rfl, hpre⟩
      · exact hpre.elim
    exact Nat.le_of_ble_eq_true rfl
  · intro a M hlen hcan hM hpre Ok hgo
    obtain ⟨k, i, rfl, hpre⟩ : ∃ k i, a = [.inr (.inr (4, k)), .inl i] ∧ (True) := by
      have hpre : (match (generalizing := false) a with | [.inr (.inr (4, k)), .inl i] => True | _ => False) := hpre
      split at hpre
      · exact ⟨_, _, rfl, hpre⟩
      · exact hpre.elim
    obtain ⟨k_k, hc_k⟩ := pz_tlm hcan
    have k_k : pz_kd k = 4 ∧ k < 231 := k_k
    have R_k := pz_kd4 k_k.1
    subst R_k
    obtain ⟨k_i, hc_i⟩ := pz_tlm hc_k
    have l_i : -2147483648 ≤ i := k_i.1
    have u_i : i ≤ 2147483647 := k_i.2
    refine hgo (fun _ => false) 16 0 _ [] M ?_
    refine And.intro (fun h1 => ?_) (fun h1 => ?_)
    · skip
      refine And.intro rfl ?_
      refine ⟨?_, rfl⟩
      first
        | (rw [if_pos (by first | decide | omega), e18, e17]; done)
        | (rw [if_neg (by first | decide | omega)]; done)
    · skip
      refine And.intro (fun h7 => ?_) (fun h7 => ?_)
      · skip
        refine And.intro rfl ?_
        refine ⟨?_, rfl⟩
        first
          | (rw [if_pos (by first | decide | omega), e18, e17]; done)
          | (rw [if_neg (by first | decide | omega)]; done)
      · skip
        intro r13 e13 k13
        have R13 := pz_kdA k13 (by decide) (by decide)
        have W13 : r13 = 52 := e13
        have lo17 : (0 : Int) ≤ i := by omega
        have tn17 : (((i).toNat : Nat) : Int) = i := Int.toNat_of_nonneg lo17
        refine And.intro (lo17) (And.intro (show _ < (12 : Int) from by omega) ?_)
        intro v17 e17 a17 b17
        rw [W13] at e17
        intro v18 e18 a18 b18
        refine And.intro rfl ?_
        refine ⟨?_, rfl⟩
        first
          | (rw [if_pos (by first | decide | omega), e18, e17]; done)
          | (rw [if_neg (by first | decide | omega)]; done)
theorem v3_X4_chanceOf {fr lo i : Nat} {own : String} (h1 : 0 + 1 ≤ fr) (h2 : 8 + (2 + 11) + 0 ≤ lo) (h3 : .methodLink own i yX4_chanceOf ∈ lw_tbl) : pz_cV fr lo own i k3_X4_chanceOf :=
  pz_cVk (maxL := 2) (fr' := 0) (lo' := 0) 1 4 h3_X4_chanceOf rfl ⟨(pz_nhc_RX4 yX4_chanceOf rfl).1, (pz_nhc_RX4 yX4_chanceOf rfl).2, pz_ds5⟩ ⟨pz_wq908, pz_wq906, pz_wq907, pz_wq11⟩ (Or.inl ⟨TX4, 5, rfl⟩) (fun a M _ h => by
    have h : (match (generalizing := false) a with | [.inr (.inr (4, k)), .inl i] => True | _ => False) := h
    split at h
    · exact ⟨_, _, rfl⟩
    · exact h.elim) h1 h2 h3
noncomputable def k3_X4_oddsWith : pz_C := (4, 1, fun a M => (match a with | [.inr (.inr (4, k)), .inr (.inr (0, c)), .inl o, .inl i] => True | _ => False), fun a M r M' => (match a, r with | [.inr (.inr (4, k)), .inr (.inr (0, c)), .inl o, .inl i], some (.inl v) => (c = 71 → ∀ (ls : List pz_lne) (F : Nat → Int) (d : Nat), sd_se M 71 F → sd_wf F → sd_al M ls F d (F 88) → 0 ≤ i → i < F 88 → (0 ≤ o ∧ o ≤ 1000000) → v = sd_ow ls F d i.toNat o) ∧ M = M' | _, _ => False))
noncomputable abbrev ct3_X4_oddsWith : List (Bool × Nat × pz_C) := [(true, 50, k_X0_at), (true, 61, k3_X4_chanceOf), (false, 65, k_X4_times)]
set_option maxRecDepth 100000 in
set_option maxHeartbeats 4000000 in
theorem h3_X4_oddsWith : pz_H yX4_oddsWith cX4_oddsWith 5 (some .int) k3_X4_oddsWith 1 21 := by
  refine pz_mk (own := RX4) (tb := t_X4_oddsWith) (fl := pz_flf fl_RX4) (ci := pz_cif ci_RX4) (ct := pz_ctf ct3_X4_oddsWith) (rz := false) (pz_pfc_RX4 yX4_oddsWith rfl) rfl t_X4_oddsWith_ok (pz_flk fl_RX4_ok) (pz_cik ci_RX4_ok) ?_ ?_ (Or.inl ⟨rfl, rfl⟩) ?_ ?_
  · exact fun i k' h => pz_ctk (l := ct3_X4_oddsWith) (P := fun b i k => b = true → pz_cV 1 21 RX4 i k) (List.forall_mem_cons.mpr ⟨(fun _ => v_X0_at (by decide) (by decide) pz_wq904), List.forall_mem_cons.mpr ⟨(fun _ => v3_X4_chanceOf (by decide) (by decide) pz_wq905), List.forall_mem_cons.mpr ⟨((fun z => by cases z)), fun _ h => absurd h List.not_mem_nil⟩⟩⟩) true i k' h rfl
  · exact fun i k' h => pz_ctk (l := ct3_X4_oddsWith) (P := fun b i k => b = false → (pz_cS 1 21 RX4 i k ∨ (k = pz_kac ∧ 1 ≤ 1 ∧ 60 ≤ 21 ∧ Cond.methodLink RX4 i arraycopyName ∈ pz_tbl))) (List.forall_mem_cons.mpr ⟨((fun z => by cases z)), List.forall_mem_cons.mpr ⟨((fun z => by cases z)), List.forall_mem_cons.mpr ⟨(fun _ => Or.inl (s_X4_times (by decide) (by decide) (Or.inl pz_wq909))), fun _ h => absurd h List.not_mem_nil⟩⟩⟩) false i k' h rfl
  · intro a M hlen hpre
    obtain ⟨k, c, o, i, rfl, hpre⟩ : ∃ k c o i, a = [.inr (.inr (4, k)), .inr (.inr (0, c)), .inl o, .inl i] ∧ (True) := by
      have hpre : (match (generalizing := false) a with | [.inr (.inr (4, k)), .inr (.inr (0, c)), .inl o, .inl i] => True | _ => False) := hpre
      split at hpre
      · exact ⟨_, _, _, _, rfl, hpre⟩
      · exact hpre.elim
    exact Nat.le_of_ble_eq_true rfl
  · intro a M hlen hcan hM hpre Ok hgo
    obtain ⟨k, c, o, i, rfl, hpre⟩ : ∃ k c o i, a = [.inr (.inr (4, k)), .inr (.inr (0, c)), .inl o, .inl i] ∧ (True) := by
      have hpre : (match (generalizing := false) a with | [.inr (.inr (4, k)), .inr (.inr (0, c)), .inl o, .inl i] => True | _ => False) := hpre
      split at hpre
      · exact ⟨_, _, _, _, rfl, hpre⟩
      · exact hpre.elim
    obtain ⟨k_k, hc_k⟩ := pz_tlm hcan
    have k_k : pz_kd k = 4 ∧ k < 231 := k_k
    have R_k := pz_kd4 k_k.1
    subst R_k
    obtain ⟨k_c, hc_c⟩ := pz_tlm hc_k
    have k_c : pz_kd c = 0 ∧ c < 231 := k_c
    have R_c := pz_kd0 k_c.1
    obtain ⟨k_o, hc_o⟩ := pz_tlm hc_c
    have l_o : -2147483648 ≤ o := k_o.1
    have u_o : o ≤ 2147483647 := k_o.2
    obtain ⟨k_i, hc_i⟩ := pz_tlm hc_o
    have l_i : -2147483648 ≤ i := k_i.1
    have u_i : i ≤ 2147483647 := k_i.2
    refine hgo (fun _ => false) 22 0 _ [] M ?_
    refine And.intro (True.intro) ?_
    intro r2 M2 k2 q2
    have R2 := pz_kd5 k2
    obtain ⟨q2, z2⟩ := q2
    subst z2
    have A2 := pz_at_lk R_c q2
    have B2 : 89 + 13 * (c - 71) ≤ r2 ∧ r2 ≤ 89 + 13 * (c - 71) + 12 := by
      rw [A2]
      exact pz_lnk_c
    intro v9 e9 a9 b9
    refine And.intro (fun h12 => ?_) (fun h12 => ?_)
    · skip
      intro v19 e19 a19 b19
      refine And.intro (fun h22 => ?_) (fun h22 => ?_)
      · skip
        refine And.intro (True.intro) ?_
        intro v32 M32 a32 b32 q32
        obtain ⟨q32, z32⟩ := q32
        subst z32
        refine And.intro (True.intro) ?_
        intro v35 M35 a35 b35 q35
        obtain ⟨q35, z35⟩ := q35
        subst z35
        refine And.intro rfl ?_
        refine ⟨fun c9 ls F d s w h h0 h1 ho => ?_, rfl⟩
        subst c9
        have m := w.1
        have b := sd_at (⟨by decide, by decide⟩ : 71 ≤ 71 ∧ 71 < 80) s w h0 h1 A2
        have b4 := b.2.2.2.2.1
        have b5 := b.2.2.2.2.2.1
        have P := w.2.2 i.toNat (by first | decide | omega)
        unfold sd_lw at P
        unfold sd_ow
        first
          | (rw [if_pos (by first | decide | omega)]; done)
          | (rw [if_neg (by first | decide | omega), if_pos (by first | decide | omega)]; done)
          | (have c := h i.toNat (by first | decide | omega)
             have rb := sd_rd_b (ls := ls) (F := F) (i := i.toNat)
             have lb := pz_lf_b rb.1 rb.2 d
             rw [if_pos (by first | decide | omega), c, pz_wi (by first | decide | omega) (by first | decide | omega)] at q32
             have t := q35 ho.1 ho.2 (by first | decide | omega) (by first | decide | omega)
             rw [if_neg (by first | decide | omega), if_neg (by first | decide | omega), t, q32]
             rfl)
      · skip
        refine And.intro rfl ?_
        refine ⟨fun c9 ls F d s w h h0 h1 ho => ?_, rfl⟩
        subst c9
        have m := w.1
        have b := sd_at (⟨by decide, by decide⟩ : 71 ≤ 71 ∧ 71 < 80) s w h0 h1 A2
        have b4 := b.2.2.2.2.1
        have b5 := b.2.2.2.2.2.1
        have P := w.2.2 i.toNat (by first | decide | omega)
        unfold sd_lw at P
        unfold sd_ow
        first
          | (rw [if_pos (by first | decide | omega)]; done)
          | (rw [if_neg (by first | decide | omega), if_pos (by first | decide | omega)]; done)
          | (have c := h i.toNat (by first | decide | omega)
             have rb := sd_rd_b (ls := ls) (F := F) (i := i.toNat)
             have lb := pz_lf_b rb.1 rb.2 d
             rw [if_pos (by first | decide | omega), c, pz_wi (by first | decide | omega) (by first | decide | omega)] at q32
             have t := q35 ho.1 ho.2 (by first | decide | omega) (by first | decide | omega)
             rw [if_neg (by first | decide | omega), if_neg (by first | decide | omega), t, q32]
             rfl)
    · skip
      refine And.intro rfl ?_
      refine ⟨fun c9 ls F d s w h h0 h1 ho => ?_, rfl⟩
      subst c9
      have m := w.1
      have b := sd_at (⟨by decide, by decide⟩ : 71 ≤ 71 ∧ 71 < 80) s w h0 h1 A2
      have b4 := b.2.2.2.2.1
      have b5 := b.2.2.2.2.2.1
      have P := w.2.2 i.toNat (by first | decide | omega)
      unfold sd_lw at P
      unfold sd_ow
      first
        | (rw [if_pos (by first | decide | omega)]; done)
        | (rw [if_neg (by first | decide | omega), if_pos (by first | decide | omega)]; done)
        | (have c := h i.toNat (by first | decide | omega)
           have rb := sd_rd_b (ls := ls) (F := F) (i := i.toNat)
           have lb := pz_lf_b rb.1 rb.2 d
           rw [if_pos (by first | decide | omega), c, pz_wi (by first | decide | omega) (by first | decide | omega)] at q32
           have t := q35 ho.1 ho.2 (by first | decide | omega) (by first | decide | omega)
           rw [if_neg (by first | decide | omega), if_neg (by first | decide | omega), t, q32]
           rfl)
theorem v3_X4_oddsWith {fr lo i : Nat} {own : String} (h1 : 1 + 1 ≤ fr) (h2 : 8 + (5 + 11) + 21 ≤ lo) (h3 : .methodLink own i yX4_oddsWith ∈ lw_tbl) : pz_cV fr lo own i k3_X4_oddsWith :=
  pz_cVk (maxL := 5) (fr' := 1) (lo' := 21) 3 4 h3_X4_oddsWith rfl ⟨(pz_nhc_RX4 yX4_oddsWith rfl).1, (pz_nhc_RX4 yX4_oddsWith rfl).2, pz_ds36⟩ ⟨pz_wq903, pz_wq901, pz_wq902, pz_wq11⟩ (Or.inl ⟨TX4, 5, rfl⟩) (fun a M _ h => by
    have h : (match (generalizing := false) a with | [.inr (.inr (4, k)), .inr (.inr (0, c)), .inl o, .inl i] => True | _ => False) := h
    split at h
    · exact ⟨_, _, rfl⟩
    · exact h.elim) h1 h2 h3
noncomputable def k3_X4_oddsOf : pz_C := (4, 1, fun a M => (match a with | [.inr (.inr (4, k)), .inr (.inr (0, c)), .inl i, .inl j] => pz_ic M ∧ j ≤ 1000 | _ => False), fun a M r M' => (match a, r with | [.inr (.inr (4, k)), .inr (.inr (0, c)), .inl i, .inl j], some (.inl v) => (c = 71 → ∀ (ls : List pz_lne) (F : Nat → Int) (d : Nat), sd_se M 71 F → sd_wf F → sd_al M ls F d (F 88) → i = 0 → j = F 88 - 1 → v = sd_od9 ls F d) ∧ M = M' | _, _ => False))
noncomputable abbrev ct3_X4_oddsOf : List (Bool × Nat × pz_C) := [(true, 68, k3_X4_oddsWith)]
set_option maxRecDepth 100000 in
set_option maxHeartbeats 4000000 in
theorem h3_X4_oddsOf : pz_H yX4_oddsOf cX4_oddsOf 6 (some .int) k3_X4_oddsOf 2 45 := by
  refine pz_mk (own := RX4) (tb := t_X4_oddsOf) (fl := pz_flf fl_RX4) (ci := pz_cif ci_RX4) (ct := pz_ctf ct3_X4_oddsOf) (rz := false) (pz_pfc_RX4 yX4_oddsOf rfl) rfl t_X4_oddsOf_ok (pz_flk fl_RX4_ok) (pz_cik ci_RX4_ok) ?_ ?_ (Or.inl ⟨rfl, rfl⟩) ?_ ?_
  · exact fun i k' h => pz_ctk (l := ct3_X4_oddsOf) (P := fun b i k => b = true → pz_cV 2 45 RX4 i k) (List.forall_mem_cons.mpr ⟨(fun _ => v3_X4_oddsWith (by decide) (by decide) pz_wq900), fun _ h => absurd h List.not_mem_nil⟩) true i k' h rfl
  · exact fun i k' h => pz_ctk (l := ct3_X4_oddsOf) (P := fun b i k => b = false → (pz_cS 2 45 RX4 i k ∨ (k = pz_kac ∧ 1 ≤ 2 ∧ 60 ≤ 45 ∧ Cond.methodLink RX4 i arraycopyName ∈ pz_tbl))) (List.forall_mem_cons.mpr ⟨((fun z => by cases z)), fun _ h => absurd h List.not_mem_nil⟩) false i k' h rfl
  · intro a M hlen hpre
    obtain ⟨k, c, i, j, rfl, hpre⟩ : ∃ k c i j, a = [.inr (.inr (4, k)), .inr (.inr (0, c)), .inl i, .inl j] ∧ (pz_ic M ∧ j ≤ 1000) := by
      have hpre : (match (generalizing := false) a with | [.inr (.inr (4, k)), .inr (.inr (0, c)), .inl i, .inl j] => pz_ic M ∧ j ≤ 1000 | _ => False) := hpre
      split at hpre
      · exact ⟨_, _, _, _, rfl, hpre⟩
      · exact hpre.elim
    exact Nat.le_of_ble_eq_true rfl
  · intro a M hlen hcan hM hpre Ok hgo
    obtain ⟨k, c, i, j, rfl, hpre⟩ : ∃ k c i j, a = [.inr (.inr (4, k)), .inr (.inr (0, c)), .inl i, .inl j] ∧ (pz_ic M ∧ j ≤ 1000) := by
      have hpre : (match (generalizing := false) a with | [.inr (.inr (4, k)), .inr (.inr (0, c)), .inl i, .inl j] => pz_ic M ∧ j ≤ 1000 | _ => False) := hpre
      split at hpre
      · exact ⟨_, _, _, _, rfl, hpre⟩
      · exact hpre.elim
    obtain ⟨k_k, hc_k⟩ := pz_tlm hcan
    have k_k : pz_kd k = 4 ∧ k < 231 := k_k
    have R_k := pz_kd4 k_k.1
    subst R_k
    obtain ⟨k_c, hc_c⟩ := pz_tlm hc_k
    have k_c : pz_kd c = 0 ∧ c < 231 := k_c
    have R_c := pz_kd0 k_c.1
    obtain ⟨k_i, hc_i⟩ := pz_tlm hc_c
    have l_i : -2147483648 ≤ i := k_i.1
    have u_i : i ≤ 2147483647 := k_i.2
    obtain ⟨k_j, hc_j⟩ := pz_tlm hc_i
    have l_j : -2147483648 ≤ j := k_j.1
    have u_j : j ≤ 2147483647 := k_j.2
    have hI : pz_ic M := hpre.1
    have L7 : ∀ (fu : Nat) (x4 : Int) (x5 : Int), (j + 1 - x5).toNat < fu → (-2147483648 ≤ x5) → (c = 71 → ∀ (ls : List pz_lne) (F : Nat → Int) (d : Nat), sd_se M 71 F → sd_wf F → sd_al M ls F d (F 88) → i = 0 → j = F 88 - 1 → (0 ≤ x5 ∧ x5 ≤ F 88) ∧ (0 ≤ x4 ∧ x4 ≤ 1000000) ∧ sd_oo ls F d (sd_n F - x5.toNat) x5.toNat x4 = sd_od9 ls F d) → Ok 7 [some (.inr (.inr (4, 6))), some (.inr (.inr (0, c))), some (.inl i), some (.inl j), some (.inl x4), some (.inl x5)] [] M := by
      intro fu
      induction fu with
      | zero => exact fun _ _ hn => absurd hn (Nat.not_lt_zero _)
      | succ fu ih7 =>
        intro x4 x5 hn7 g7_0 g7_1
        refine hgo (fun p => Nat.beq p 7) 19 7 _ _ _ ?_
        refine And.intro (fun h10 => ?_) (fun h10 => ?_)
        · skip
          refine And.intro rfl ?_
          refine ⟨fun c9 ls F d s w h h0 h1 => ?_, rfl⟩
          obtain ⟨g1, g2, g3⟩ := (by assumption : c = 71 → ∀ (ls : List pz_lne) (F : Nat → Int) (d : Nat), sd_se M 71 F → sd_wf F → sd_al M ls F d (F 88) → i = 0 → j = F 88 - 1 → (0 ≤ x5 ∧ x5 ≤ F 88) ∧ (0 ≤ x4 ∧ x4 ≤ 1000000) ∧ sd_oo ls F d (sd_n F - x5.toNat) x5.toNat x4 = sd_od9 ls F d) c9 ls F d s w h h0 h1
          have k9 := sd_n_i w
          rw [show sd_n F - x5.toNat = 0 by omega] at g3
          exact g3
        · skip
          refine And.intro (True.intro) ?_
          intro v19 M19 a19 b19 q19
          obtain ⟨q19, z19⟩ := q19
          subst z19
          intro v24 e24 a24 b24
          rw [pz_wi (by first | decide | omega) (by first | decide | omega)] at e24
          have G7 : c = 71 → ∀ (ls : List pz_lne) (F : Nat → Int) (d : Nat), sd_se M 71 F → sd_wf F → sd_al M ls F d (F 88) → i = 0 → j = F 88 - 1 → (0 ≤ v24 ∧ v24 ≤ F 88) ∧ (0 ≤ v19 ∧ v19 ≤ 1000000) ∧ sd_oo ls F d (sd_n F - v24.toNat) v24.toNat v19 = sd_od9 ls F d := fun c9 ls F d s w h h0 h1 => by
            obtain ⟨g1, g2, g3⟩ := (by assumption : c = 71 → ∀ (ls : List pz_lne) (F : Nat → Int) (d : Nat), sd_se M 71 F → sd_wf F → sd_al M ls F d (F 88) → i = 0 → j = F 88 - 1 → (0 ≤ x5 ∧ x5 ≤ F 88) ∧ (0 ≤ x4 ∧ x4 ≤ 1000000) ∧ sd_oo ls F d (sd_n F - x5.toNat) x5.toNat x4 = sd_od9 ls F d) c9 ls F d s w h h0 h1
            have k9 := sd_n_i w
            have t := q19 c9 ls F d s w h (by first | decide | omega) (by first | decide | omega) g2
            have g4 := sd_oo_s g3 (show sd_n F - x5.toNat = (sd_n F - v24.toNat) + 1 by omega) t
            rw [show x5.toNat + 1 = v24.toNat by omega] at g4
            exact ⟨⟨by omega, by omega⟩, by rw [t]; exact sd_ow_b g2, g4⟩
          exact ih7 _ _ (by first | decide | omega) (by first | omega | assumption | exact fun _ ls F d s w h h0 h1 => ⟨⟨by omega, by have := w.1.1; omega⟩, ⟨by decide, by decide⟩, by rw [h0]; rfl⟩) (by first | omega | assumption | exact fun _ ls F d s w h h0 h1 => ⟨⟨by omega, by have := w.1.1; omega⟩, ⟨by decide, by decide⟩, by rw [h0]; rfl⟩)
    refine hgo (fun p => Nat.beq p 7) 19 0 _ [] M ?_
    exact L7 _ _ _ (Nat.lt_succ_self _) (by first | omega | assumption | exact fun _ ls F d s w h h0 h1 => ⟨⟨by omega, by have := w.1.1; omega⟩, ⟨by decide, by decide⟩, by rw [h0]; rfl⟩) (by first | omega | assumption | exact fun _ ls F d s w h h0 h1 => ⟨⟨by omega, by have := w.1.1; omega⟩, ⟨by decide, by decide⟩, by rw [h0]; rfl⟩)
theorem v3_X4_oddsOf {fr lo i : Nat} {own : String} (h1 : 2 + 1 ≤ fr) (h2 : 8 + (6 + 11) + 45 ≤ lo) (h3 : .methodLink own i yX4_oddsOf ∈ lw_tbl) : pz_cV fr lo own i k3_X4_oddsOf :=
  pz_cVk (maxL := 6) (fr' := 2) (lo' := 45) 3 4 h3_X4_oddsOf rfl ⟨(pz_nhc_RX4 yX4_oddsOf rfl).1, (pz_nhc_RX4 yX4_oddsOf rfl).2, pz_ds36⟩ ⟨pz_wq899, pz_wq897, pz_wq898, pz_wq11⟩ (Or.inl ⟨TX4, 5, rfl⟩) (fun a M _ h => by
    have h : (match (generalizing := false) a with | [.inr (.inr (4, k)), .inr (.inr (0, c)), .inl i, .inl j] => pz_ic M ∧ j ≤ 1000 | _ => False) := h
    split at h
    · exact ⟨_, _, rfl⟩
    · exact h.elim) h1 h2 h3
noncomputable def k4_X11_odds : pz_C := (2, 1, fun a M => (match a with | [.inr (.inr (11, th)), .inl d] => pz_ic M | _ => False), fun a M r M' => (match a, r with | [.inr (.inr (11, th)), .inl d], some (.inl v) => (sd_wc M v (fun ls F => sd_odv ls F d)) ∧ pq_pr pq_Pk M M' | _, _ => False))
noncomputable abbrev ct4_X11_odds : List (Bool × Nat × pz_C) := [(false, 137, k_X11_within), (true, 255, k4_X4_reckon), (true, 258, k3_X4_oddsOf)]
set_option maxRecDepth 100000 in
set_option maxHeartbeats 4000000 in
theorem h4_X11_odds : pz_H yX11_odds cX11_odds 2 (some .int) k4_X11_odds 5 120 := by
  refine pz_mk (own := RX11) (tb := t_X11_odds) (fl := pz_flf fl_RX11) (ci := pz_cif ci_RX11) (ct := pz_ctf ct4_X11_odds) (rz := false) (pz_pfc_RX11 yX11_odds rfl) rfl t_X11_odds_ok (pz_flk fl_RX11_ok) (pz_cik ci_RX11_ok) ?_ ?_ (Or.inl ⟨rfl, rfl⟩) ?_ ?_
  · exact fun i k' h => pz_ctk (l := ct4_X11_odds) (P := fun b i k => b = true → pz_cV 5 120 RX11 i k) (List.forall_mem_cons.mpr ⟨((fun z => by cases z)), List.forall_mem_cons.mpr ⟨(fun _ => v4_X4_reckon (by decide) (by decide) pz_wq884), List.forall_mem_cons.mpr ⟨(fun _ => v3_X4_oddsOf (by decide) (by decide) pz_wq896), fun _ h => absurd h List.not_mem_nil⟩⟩⟩) true i k' h rfl
  · exact fun i k' h => pz_ctk (l := ct4_X11_odds) (P := fun b i k => b = false → (pz_cS 5 120 RX11 i k ∨ (k = pz_kac ∧ 1 ≤ 5 ∧ 60 ≤ 120 ∧ Cond.methodLink RX11 i arraycopyName ∈ pz_tbl))) (List.forall_mem_cons.mpr ⟨(fun _ => Or.inl (s_X11_within (by decide) (by decide) (Or.inl pz_wq425))), List.forall_mem_cons.mpr ⟨((fun z => by cases z)), List.forall_mem_cons.mpr ⟨((fun z => by cases z)), fun _ h => absurd h List.not_mem_nil⟩⟩⟩) false i k' h rfl
  · intro a M hlen hpre
    obtain ⟨th, d, rfl, hpre⟩ : ∃ th d, a = [.inr (.inr (11, th)), .inl d] ∧ (pz_ic M) := by
      have hpre : (match (generalizing := false) a with | [.inr (.inr (11, th)), .inl d] => pz_ic M | _ => False) := hpre
      split at hpre
      · exact ⟨_, _, rfl, hpre⟩
      · exact hpre.elim
    exact Nat.le_of_ble_eq_true rfl
  · intro a M hlen hcan hM hpre Ok hgo
    obtain ⟨th, d, rfl, hpre⟩ : ∃ th d, a = [.inr (.inr (11, th)), .inl d] ∧ (pz_ic M) := by
      have hpre : (match (generalizing := false) a with | [.inr (.inr (11, th)), .inl d] => pz_ic M | _ => False) := hpre
      split at hpre
      · exact ⟨_, _, rfl, hpre⟩
      · exact hpre.elim
    obtain ⟨k_th, hc_th⟩ := pz_tlm hcan
    have k_th : pz_kd th = 11 ∧ th < 231 := k_th
    have R_th := pz_kd11 k_th.1
    subst R_th
    obtain ⟨k_d, hc_d⟩ := pz_tlm hc_th
    have l_d : -2147483648 ≤ d := k_d.1
    have u_d : d ≤ 2147483647 := k_d.2
    have hI : pz_ic M := hpre
    have hI0 := hI
    have hS : pq_pr pq_Pk M M := pq_pr.rf
    refine hgo (fun _ => false) 27 0 _ [] M ?_
    refine And.intro (True.intro) ?_
    intro v4 M4 a4 b4 q4
    obtain ⟨q4, z4⟩ := q4
    subst z4
    refine And.intro (fun h7 => ?_) (fun h7 => ?_)
    · skip
      have GP : 1 ≤ d ∧ d ≤ 60 := by
        split at q4 <;> omega
      refine pz_nrc (c := 6) rfl ?_
      refine pz_nrc (c := 71) rfl ?_
      refine And.intro (hI) ?_
      intro M21 q21
      obtain ⟨q21, z21⟩ := q21
      have hS : pq_pr pq_Pk M M21 := hS.tr z21
      have hI : pz_ic M21 := hS.1 hI0
      refine pz_nrc (c := 6) rfl ?_
      refine pz_nrc (c := 71) rfl ?_
      refine pz_nrc (c := 71) rfl ?_
      intro v37 e37 a37 b37
      have I37 := hI.1 71 (by first | decide | omega) (by first | decide | omega)
      intro v41 e41 a41 b41
      try rw [pz_wi (by first | decide | omega) (by first | decide | omega)] at e41
      refine And.intro (And.intro hI (by first | decide | omega)) ?_
      intro v42 M42 a42 b42 q42
      obtain ⟨q42, z42⟩ := q42
      subst z42
      refine And.intro rfl ?_
      refine ⟨fun ls l1 F hT hF hW => ?_, hS⟩
      have s2 := sd_se_k hF hW hS
      have n8 := s2.1
      have a := q21 rfl (by first | decide | omega) ls l1 F hT hF hW
      show _ = sd_odv ls F d
      unfold sd_odv
      rw [if_pos (by first | decide | omega)]
      exact q42 rfl ls F d.toNat s2 hW a.al rfl (by first | decide | omega)
    · skip
      skip
      refine And.intro rfl ?_
      refine ⟨fun ls l1 F hT hF hW => ?_, hS⟩
      show _ = sd_odv ls F d
      unfold sd_odv
      rw [if_neg (fun z => by split at q4 <;> omega)]
theorem v4_X11_odds {fr lo i : Nat} {own : String} (h1 : 5 + 1 ≤ fr) (h2 : 8 + (2 + 11) + 120 ≤ lo) (h3 : .methodLink own i yX11_odds ∈ lw_tbl) : pz_cV fr lo own i k4_X11_odds :=
  pz_cVk (maxL := 2) (fr' := 5) (lo' := 120) 1 11 h4_X11_odds rfl ⟨(pz_nhc_RX11 yX11_odds rfl).1, (pz_nhc_RX11 yX11_odds rfl).2, pz_ds5⟩ ⟨pz_wq883, pz_wq881, pz_wq882, pz_wq1⟩ (Or.inl ⟨TX11, 14, rfl⟩) (fun a M _ h => by
    have h : (match (generalizing := false) a with | [.inr (.inr (11, th)), .inl d] => pz_ic M | _ => False) := h
    split at h
    · exact ⟨_, _, rfl⟩
    · exact h.elim) h1 h2 h3
end
