section
noncomputable def k3_X11_choice : pz_C := (5, 1, fun a M => (match a with | [.inr (.inr (11, th)), .inl i, .inl n, .inl p, .inl w] => pz_ic M | _ => False), fun a M r M' => (match a, r with | [.inr (.inr (11, th)), .inl i, .inl n, .inl p, .inl w], some (.inl v) => (sd_wc M v (fun ls F => sd_chv ls F i n p w)) ∧ pq_pr pq_Pk M M' | _, _ => False))
noncomputable abbrev ct3_X11_choice : List (Bool × Nat × pz_C) := [(true, 118, k_X0_has), (false, 137, k_X11_within), (true, 107, k_X0_at), (false, 301, k_J9_max_7cf53), (false, 304, k3_J9_floorDiv_7cf53), (true, 212, k3_X3_tells)]
set_option maxRecDepth 100000 in
set_option maxHeartbeats 4000000 in
theorem h3_X11_choice : pz_H yX11_choice cX11_choice 9 (some .int) k3_X11_choice 4 97 := by
  refine pz_mk (own := RX11) (tb := t_X11_choice) (fl := pz_flf fl_RX11) (ci := pz_cif ci_RX11) (ct := pz_ctf ct3_X11_choice) (rz := false) (pz_pfc_RX11 yX11_choice rfl) rfl t_X11_choice_ok (pz_flk fl_RX11_ok) (pz_cik ci_RX11_ok) ?_ ?_ (Or.inl ⟨rfl, rfl⟩) ?_ ?_
  · exact fun i k' h => pz_ctk (l := ct3_X11_choice) (P := fun b i k => b = true → pz_cV 4 97 RX11 i k) (List.forall_mem_cons.mpr ⟨(fun _ => v_X0_has (by decide) (by decide) pz_wq444), List.forall_mem_cons.mpr ⟨((fun z => by cases z)), List.forall_mem_cons.mpr ⟨(fun _ => v_X0_at (by decide) (by decide) pz_wq428), List.forall_mem_cons.mpr ⟨((fun z => by cases z)), List.forall_mem_cons.mpr ⟨((fun z => by cases z)), List.forall_mem_cons.mpr ⟨(fun _ => v3_X3_tells (by decide) (by decide) pz_wq838), fun _ h => absurd h List.not_mem_nil⟩⟩⟩⟩⟩⟩) true i k' h rfl
  · exact fun i k' h => pz_ctk (l := ct3_X11_choice) (P := fun b i k => b = false → (pz_cS 4 97 RX11 i k ∨ (k = pz_kac ∧ 1 ≤ 4 ∧ 60 ≤ 97 ∧ Cond.methodLink RX11 i arraycopyName ∈ pz_tbl))) (List.forall_mem_cons.mpr ⟨((fun z => by cases z)), List.forall_mem_cons.mpr ⟨(fun _ => Or.inl (s_X11_within (by decide) (by decide) (Or.inl pz_wq425))), List.forall_mem_cons.mpr ⟨((fun z => by cases z)), List.forall_mem_cons.mpr ⟨(fun _ => Or.inl (s_J9_max_7cf53 (by decide) (by decide) (Or.inl pz_wq989))), List.forall_mem_cons.mpr ⟨(fun _ => Or.inl (s3_J9_floorDiv_7cf53 (by decide) (by decide) (Or.inl pz_wq990))), List.forall_mem_cons.mpr ⟨((fun z => by cases z)), fun _ h => absurd h List.not_mem_nil⟩⟩⟩⟩⟩⟩) false i k' h rfl
  · intro a M hlen hpre
    obtain ⟨th, i, n, p, w, rfl, hpre⟩ : ∃ th i n p w, a = [.inr (.inr (11, th)), .inl i, .inl n, .inl p, .inl w] ∧ (pz_ic M) := by
      have hpre : (match (generalizing := false) a with | [.inr (.inr (11, th)), .inl i, .inl n, .inl p, .inl w] => pz_ic M | _ => False) := hpre
      split at hpre
      · exact ⟨_, _, _, _, _, rfl, hpre⟩
      · exact hpre.elim
    exact Nat.le_of_ble_eq_true rfl
  · intro a M hlen hcan hM hpre Ok hgo
    obtain ⟨th, i, n, p, w, rfl, hpre⟩ : ∃ th i n p w, a = [.inr (.inr (11, th)), .inl i, .inl n, .inl p, .inl w] ∧ (pz_ic M) := by
      have hpre : (match (generalizing := false) a with | [.inr (.inr (11, th)), .inl i, .inl n, .inl p, .inl w] => pz_ic M | _ => False) := hpre
      split at hpre
      · exact ⟨_, _, _, _, _, rfl, hpre⟩
      · exact hpre.elim
    obtain ⟨k_th, hc_th⟩ := pz_tlm hcan
    have k_th : pz_kd th = 11 ∧ th < 231 := k_th
    have R_th := pz_kd11 k_th.1
    subst R_th
    obtain ⟨k_i, hc_i⟩ := pz_tlm hc_th
    have l_i : -2147483648 ≤ i := k_i.1
    have u_i : i ≤ 2147483647 := k_i.2
    obtain ⟨k_n, hc_n⟩ := pz_tlm hc_i
    have l_n : -2147483648 ≤ n := k_n.1
    have u_n : n ≤ 2147483647 := k_n.2
    obtain ⟨k_p, hc_p⟩ := pz_tlm hc_n
    have l_p : -2147483648 ≤ p := k_p.1
    have u_p : p ≤ 2147483647 := k_p.2
    obtain ⟨k_w, hc_w⟩ := pz_tlm hc_p
    have l_w : -2147483648 ≤ w := k_w.1
    have u_w : w ≤ 2147483647 := k_w.2
    have hI : pz_ic M := hpre
    have hI0 := hI
    have hS : pq_pr pq_Pk M M := pq_pr.rf
    have L137 : ∀ (x5 : Int) (x6 : Int) (x7 : Int) (x8 : Int) (N137 : pz_M), (pq_pr pq_Pk M N137) → ((0 ≤ i ∧ i < M 71 3) ∧ (0 ≤ n ∧ n ≤ 999) ∧ (0 ≤ p ∧ p ≤ 1000) ∧ 0 ≤ w ∧ w ≤ 1) → (∀ (ls : List pz_lne) (l1 : List (List Int)) (F : Nat → Int), sd_tx M ls l1 → sd_se M 71 F → sd_wf F → (x7, x6) = sd_chw ls F i.toNat n p) → Ok 137 [some (.inr (.inr (11, 0))), some (.inl i), some (.inl n), some (.inl p), some (.inl w), some (.inl x5), some (.inl x6), some (.inl x7), some (.inl x8)] [] N137 := by
      intro x5 x6 x7 x8 N137 hS g137_1 g137_2
      have hI : pz_ic N137 := hS.1 hI0
      refine hgo (fun p => Nat.beq p 126 || Nat.beq p 137) 80 137 _ _ _ ?_
      refine And.intro (fun h139 => ?_) (fun h139 => ?_)
      · skip
        refine And.intro rfl ?_
        refine ⟨fun ls l1 F hT hF hW => ?_, hS⟩
        have hn := hF.1
        have hm := hW.1
        show _ = sd_chv ls F i n p w
        have z := (by assumption : ∀ (ls : List pz_lne) (l1 : List (List Int)) (F : Nat → Int), sd_tx M ls l1 → sd_se M 71 F → sd_wf F → (x7, x6) = sd_chw ls F i.toNat n p) ls l1 F hT hF hW
        unfold sd_chv
        rw [if_pos (by first | decide | omega), ← z]
        first
          | (rw [if_pos (by first | decide | omega)]; done)
          | (rw [if_neg (by first | decide | omega)]; done)
      · skip
        refine And.intro rfl ?_
        refine ⟨fun ls l1 F hT hF hW => ?_, hS⟩
        have hn := hF.1
        have hm := hW.1
        show _ = sd_chv ls F i n p w
        have z := (by assumption : ∀ (ls : List pz_lne) (l1 : List (List Int)) (F : Nat → Int), sd_tx M ls l1 → sd_se M 71 F → sd_wf F → (x7, x6) = sd_chw ls F i.toNat n p) ls l1 F hT hF hW
        unfold sd_chv
        rw [if_pos (by first | decide | omega), ← z]
        first
          | (rw [if_pos (by first | decide | omega)]; done)
          | (rw [if_neg (by first | decide | omega)]; done)
    have L126 : ∀ (x5 : Int) (x6 : Int) (x7 : Int) (x8 : Int) (N126 : pz_M), (pq_pr pq_Pk M N126) → ((0 ≤ i ∧ i < M 71 3) ∧ (0 ≤ n ∧ n ≤ 999) ∧ (0 ≤ p ∧ p ≤ 1000) ∧ 0 ≤ w ∧ w ≤ 1) → (∀ (ls : List pz_lne) (l1 : List (List Int)) (F : Nat → Int), sd_tx M ls l1 → sd_se M 71 F → sd_wf F → (x7 = (if F (28 + i.toNat) - n < sd_chp ls F i.toNat n p then 1 else 0) ∧ x6 = (if F (28 + i.toNat) - n < sd_chp ls F i.toNat n p then sd_chp ls F i.toNat n p else F (28 + i.toNat) - n))) → Ok 126 [some (.inr (.inr (11, 0))), some (.inl i), some (.inl n), some (.inl p), some (.inl w), some (.inl x5), some (.inl x6), some (.inl x7), some (.inl x8)] [] N126 := by
      intro x5 x6 x7 x8 N126 hS g126_1 g126_2
      have hI : pz_ic N126 := hS.1 hI0
      refine hgo (fun p => Nat.beq p 126 || Nat.beq p 137) 80 126 _ _ _ ?_
      refine And.intro (fun h128 => ?_) (fun h128 => ?_)
      · skip
        have G137 : ∀ (ls : List pz_lne) (l1 : List (List Int)) (F : Nat → Int), sd_tx M ls l1 → sd_se M 71 F → sd_wf F → (x7, x6) = sd_chw ls F i.toNat n p := fun ls l1 F t s w9 => by
          obtain ⟨a, b⟩ := (by assumption : ∀ (ls : List pz_lne) (l1 : List (List Int)) (F : Nat → Int), sd_tx M ls l1 → sd_se M 71 F → sd_wf F → (x7 = (if F (28 + i.toNat) - n < sd_chp ls F i.toNat n p then 1 else 0) ∧ x6 = (if F (28 + i.toNat) - n < sd_chp ls F i.toNat n p then sd_chp ls F i.toNat n p else F (28 + i.toNat) - n))) ls l1 F t s w9
          unfold sd_chw
          rw [← b, if_neg (by first | decide | omega)]
          by_cases z : F (28 + i.toNat) - n < sd_chp ls F i.toNat n p
          · rw [if_pos z] at a b ⊢
            rw [a, b]
          · rw [if_neg z] at a b ⊢
            rw [a, b]
        exact L137 _ _ _ _ _ hS (by first | omega | assumption) (by first | omega | assumption)
      · skip
        have G137 : ∀ (ls : List pz_lne) (l1 : List (List Int)) (F : Nat → Int), sd_tx M ls l1 → sd_se M 71 F → sd_wf F → (2, 0) = sd_chw ls F i.toNat n p := fun ls l1 F t s w9 => by
          obtain ⟨a, b⟩ := (by assumption : ∀ (ls : List pz_lne) (l1 : List (List Int)) (F : Nat → Int), sd_tx M ls l1 → sd_se M 71 F → sd_wf F → (x7 = (if F (28 + i.toNat) - n < sd_chp ls F i.toNat n p then 1 else 0) ∧ x6 = (if F (28 + i.toNat) - n < sd_chp ls F i.toNat n p then sd_chp ls F i.toNat n p else F (28 + i.toNat) - n))) ls l1 F t s w9
          unfold sd_chw
          rw [← b, if_pos (by first | decide | omega)]
        exact L137 _ _ _ _ _ hS (by first | omega | assumption) (by first | omega | assumption)
    refine hgo (fun p => Nat.beq p 126 || Nat.beq p 137) 80 0 _ [] M ?_
    refine pz_nrc (c := 71) rfl ?_
    refine And.intro (True.intro) ?_
    intro v5 M5 a5 b5 q5
    obtain ⟨q5, z5⟩ := q5
    subst z5
    refine And.intro (fun h8 => ?_) (fun h8 => ?_)
    · skip
      refine And.intro rfl ?_
      refine ⟨fun ls l1 F hT hF hW => ?_, hS⟩
      have hn := hF.1
      have hm := hW.1
      show _ = sd_chv ls F i n p w
      unfold sd_chv
      rw [if_neg (fun z => by
        first
          | (split at q5 <;> omega)
          | (split at q5 <;> split at q16 <;> omega)
          | (split at q5 <;> split at q16 <;> split at q27 <;> omega)
          | (split at q5 <;> split at q16 <;> split at q27 <;> split at q37 <;> omega))]
    · skip
      refine And.intro (True.intro) ?_
      intro v16 M16 a16 b16 q16
      obtain ⟨q16, z16⟩ := q16
      subst z16
      refine And.intro (fun h19 => ?_) (fun h19 => ?_)
      · skip
        refine And.intro rfl ?_
        refine ⟨fun ls l1 F hT hF hW => ?_, hS⟩
        have hn := hF.1
        have hm := hW.1
        show _ = sd_chv ls F i n p w
        unfold sd_chv
        rw [if_neg (fun z => by
          first
            | (split at q5 <;> omega)
            | (split at q5 <;> split at q16 <;> omega)
            | (split at q5 <;> split at q16 <;> split at q27 <;> omega)
            | (split at q5 <;> split at q16 <;> split at q27 <;> split at q37 <;> omega))]
      · skip
        refine And.intro (True.intro) ?_
        intro v27 M27 a27 b27 q27
        obtain ⟨q27, z27⟩ := q27
        subst z27
        refine And.intro (fun h30 => ?_) (fun h30 => ?_)
        · skip
          refine And.intro rfl ?_
          refine ⟨fun ls l1 F hT hF hW => ?_, hS⟩
          have hn := hF.1
          have hm := hW.1
          show _ = sd_chv ls F i n p w
          unfold sd_chv
          rw [if_neg (fun z => by
            first
              | (split at q5 <;> omega)
              | (split at q5 <;> split at q16 <;> omega)
              | (split at q5 <;> split at q16 <;> split at q27 <;> omega)
              | (split at q5 <;> split at q16 <;> split at q27 <;> split at q37 <;> omega))]
        · skip
          refine And.intro (True.intro) ?_
          intro v37 M37 a37 b37 q37
          obtain ⟨q37, z37⟩ := q37
          subst z37
          refine And.intro (fun h40 => ?_) (fun h40 => ?_)
          · skip
            have GP : (0 ≤ i ∧ i < M 71 3) ∧ (0 ≤ n ∧ n ≤ 999) ∧ (0 ≤ p ∧ p ≤ 1000) ∧ 0 ≤ w ∧ w ≤ 1 := by
              split at q5 <;> split at q16 <;> split at q27 <;> split at q37 <;> omega
            refine pz_nrc (c := 71) rfl ?_
            refine And.intro (True.intro) ?_
            intro r51 M51 k51 q51
            have R51 := pz_kd5 k51
            obtain ⟨q51, z51⟩ := q51
            subst z51
            have A51 := pz_at_lk (c := 71) (⟨by decide, by decide⟩ : 71 ≤ 71 ∧ 71 < 80) q51
            intro v54 e54 a54 b54
            intro v62 e62 a62 b62
            intro v71 e71 a71 b71
            intro v76 e76 a76 b76
            intro v80 e80 a80 b80
            refine And.intro (True.intro) ?_
            intro v82 M82 a82 b82 q82
            obtain ⟨q82, z82⟩ := q82
            subst z82
            intro v85 e85 a85 b85
            intro v86 e86 a86 b86
            refine And.intro (by first | exact Or.inl rfl | exact Or.inr rfl) ?_
            intro v90 M90 a90 b90 q90
            obtain ⟨q90, z90⟩ := q90
            subst z90
            refine pz_nrc (c := 8) rfl ?_
            intro r97 e97 k97
            have R97 := pz_kd3 k97
            have L97 : r97 = 10 := by rw [e97]; rfl
            refine pz_nrc (c := 71) rfl ?_
            refine And.intro (hI) ?_
            intro v106 M106 a106 b106 q106
            obtain ⟨q106, z106⟩ := q106
            have hS : pq_pr pq_Pk M M106 := hS.tr z106.wpk
            have hI : pz_ic M106 := hS.1 hI0
            rw [L97] at q106
            intro v109 e109 a109 b109
            refine And.intro (fun h116 => ?_) (fun h116 => ?_)
            · skip
              have GW : ∀ (ls : List pz_lne) (l1 : List (List Int)) (F : Nat → Int), sd_tx M ls l1 → sd_se M 71 F → sd_wf F → (v62 = F (28 + i.toNat) - n ∧ v109 = sd_chp ls F i.toNat n p) := fun ls l1 F t s w9 => by
                have n9 := s.1
                have m9 := w9.1
                have p9 : 0 ≤ i ∧ i < F 88 := by
                  split at q5 <;> omega
                have n99 : 0 ≤ n ∧ n ≤ 999 := by
                  split at q16 <;> omega
                have b := (sd_at (⟨by decide, by decide⟩ : 71 ≤ 71 ∧ 71 < 80) s w9 p9.1 p9.2 A51).2.2.1
                have o := (w9.2.2 i.toNat (by first | decide | omega)).2.2.1
                have r := sd_tel3 (⟨by decide, by decide⟩ : 71 ≤ 71 ∧ 71 < 80) t s w9 p9.1 p9.2 q106.2
                rw [b] at e54
                have E62 : v62 = F (28 + i.toNat) - n := by
                  rw [e62, e54, pz_wi (by first | decide | omega) (by first | decide | omega)]
                have E80 : v80 = F (28 + i.toNat) - n := by
                  rw [e80, e54, pz_wi (by first | decide | omega) (by first | decide | omega)]
                have p99 : 0 ≤ p ∧ p ≤ 1000 := by
                  split at q27 <;> omega
                have E76 : v76 = 1000 - p := by
                  rw [e76, pz_wi (by first | decide | omega) (by first | decide | omega)]
                refine ⟨E62, ?_⟩
                unfold sd_chp
                rw [e109, q90, e86, e71, e85, q82, E76, E80, e54, r, show max (F (28 + i.toNat) - n) 0 = max 0 (F (28 + i.toNat) - n) by omega]
              have G126 : ∀ (ls : List pz_lne) (l1 : List (List Int)) (F : Nat → Int), sd_tx M ls l1 → sd_se M 71 F → sd_wf F → ((0 : Int) = (if F (28 + i.toNat) - n < sd_chp ls F i.toNat n p then 1 else 0) ∧ v62 = (if F (28 + i.toNat) - n < sd_chp ls F i.toNat n p then sd_chp ls F i.toNat n p else F (28 + i.toNat) - n)) := fun ls l1 F t s w9 => by
                obtain ⟨a, b⟩ := GW ls l1 F t s w9
                rw [← a, ← b, if_neg (by first | decide | omega), if_neg (by first | decide | omega)]
                exact ⟨rfl, rfl⟩
              exact L126 _ _ _ _ _ hS (by first | omega | assumption) (by first | omega | assumption)
            · skip
              have GW : ∀ (ls : List pz_lne) (l1 : List (List Int)) (F : Nat → Int), sd_tx M ls l1 → sd_se M 71 F → sd_wf F → (v62 = F (28 + i.toNat) - n ∧ v109 = sd_chp ls F i.toNat n p) := fun ls l1 F t s w9 => by
                have n9 := s.1
                have m9 := w9.1
                have p9 : 0 ≤ i ∧ i < F 88 := by
                  split at q5 <;> omega
                have n99 : 0 ≤ n ∧ n ≤ 999 := by
                  split at q16 <;> omega
                have b := (sd_at (⟨by decide, by decide⟩ : 71 ≤ 71 ∧ 71 < 80) s w9 p9.1 p9.2 A51).2.2.1
                have o := (w9.2.2 i.toNat (by first | decide | omega)).2.2.1
                have r := sd_tel3 (⟨by decide, by decide⟩ : 71 ≤ 71 ∧ 71 < 80) t s w9 p9.1 p9.2 q106.2
                rw [b] at e54
                have E62 : v62 = F (28 + i.toNat) - n := by
                  rw [e62, e54, pz_wi (by first | decide | omega) (by first | decide | omega)]
                have E80 : v80 = F (28 + i.toNat) - n := by
                  rw [e80, e54, pz_wi (by first | decide | omega) (by first | decide | omega)]
                have p99 : 0 ≤ p ∧ p ≤ 1000 := by
                  split at q27 <;> omega
                have E76 : v76 = 1000 - p := by
                  rw [e76, pz_wi (by first | decide | omega) (by first | decide | omega)]
                refine ⟨E62, ?_⟩
                unfold sd_chp
                rw [e109, q90, e86, e71, e85, q82, E76, E80, e54, r, show max (F (28 + i.toNat) - n) 0 = max 0 (F (28 + i.toNat) - n) by omega]
              have G126 : ∀ (ls : List pz_lne) (l1 : List (List Int)) (F : Nat → Int), sd_tx M ls l1 → sd_se M 71 F → sd_wf F → ((1 : Int) = (if F (28 + i.toNat) - n < sd_chp ls F i.toNat n p then 1 else 0) ∧ v109 = (if F (28 + i.toNat) - n < sd_chp ls F i.toNat n p then sd_chp ls F i.toNat n p else F (28 + i.toNat) - n)) := fun ls l1 F t s w9 => by
                obtain ⟨a, b⟩ := GW ls l1 F t s w9
                rw [← a, ← b, if_pos (by first | decide | omega), if_pos (by first | decide | omega)]
                exact ⟨rfl, rfl⟩
              exact L126 _ _ _ _ _ hS (by first | omega | assumption) (by first | omega | assumption)
          · skip
            skip
            refine And.intro rfl ?_
            refine ⟨fun ls l1 F hT hF hW => ?_, hS⟩
            have hn := hF.1
            have hm := hW.1
            show _ = sd_chv ls F i n p w
            unfold sd_chv
            rw [if_neg (fun z => by
              first
                | (split at q5 <;> omega)
                | (split at q5 <;> split at q16 <;> omega)
                | (split at q5 <;> split at q16 <;> split at q27 <;> omega)
                | (split at q5 <;> split at q16 <;> split at q27 <;> split at q37 <;> omega))]
theorem v3_X11_choice {fr lo i : Nat} {own : String} (h1 : 4 + 1 ≤ fr) (h2 : 8 + (9 + 11) + 97 ≤ lo) (h3 : .methodLink own i yX11_choice ∈ lw_tbl) : pz_cV fr lo own i k3_X11_choice :=
  pz_cVk (maxL := 9) (fr' := 4) (lo' := 97) 4 11 h3_X11_choice rfl ⟨(pz_nhc_RX11 yX11_choice rfl).1, (pz_nhc_RX11 yX11_choice rfl).2, pz_ds18⟩ ⟨pz_wq988, pz_wq986, pz_wq987, pz_wq1⟩ (Or.inl ⟨TX11, 14, rfl⟩) (fun a M _ h => by
    have h : (match (generalizing := false) a with | [.inr (.inr (11, th)), .inl i, .inl n, .inl p, .inl w] => pz_ic M | _ => False) := h
    split at h
    · exact ⟨_, _, rfl⟩
    · exact h.elim) h1 h2 h3
noncomputable def k3_X12_downwards : pz_C := (2, 1, fun a M => (match a with | [.inl x, .inl y] => y = 1000 | _ => False), fun a M r M' => (match a, r with | [.inl x, .inl y], some (.inl v) => (v = x / y) ∧ M = M' | _, _ => False))
noncomputable abbrev ct3_X12_downwards : List (Bool × Nat × pz_C) := []
set_option maxRecDepth 100000 in
set_option maxHeartbeats 4000000 in
theorem h3_X12_downwards : pz_H yX12_downwards cX12_downwards 2 (some .int) k3_X12_downwards 0 0 := by
  refine pz_mk (own := RX12) (tb := t_X12_downwards) (fl := pz_flf fl_RX12) (ci := pz_cif ci_RX12) (ct := pz_ctf ct3_X12_downwards) (rz := false) (pz_pfc_RX12 yX12_downwards rfl) rfl t_X12_downwards_ok (pz_flk fl_RX12_ok) (pz_cik ci_RX12_ok) ?_ ?_ (Or.inl ⟨rfl, rfl⟩) ?_ ?_
  · exact fun i k' h => pz_ctk (l := ct3_X12_downwards) (P := fun b i k => b = true → pz_cV 0 0 RX12 i k) (fun _ h => absurd h List.not_mem_nil) true i k' h rfl
  · exact fun i k' h => pz_ctk (l := ct3_X12_downwards) (P := fun b i k => b = false → (pz_cS 0 0 RX12 i k ∨ (k = pz_kac ∧ 1 ≤ 0 ∧ 60 ≤ 0 ∧ Cond.methodLink RX12 i arraycopyName ∈ pz_tbl))) (fun _ h => absurd h List.not_mem_nil) false i k' h rfl
  · intro a M hlen hpre
    obtain ⟨x, y, rfl, hpre⟩ : ∃ x y, a = [.inl x, .inl y] ∧ (y = 1000) := by
      have hpre : (match (generalizing := false) a with | [.inl x, .inl y] => y = 1000 | _ => False) := hpre
      split at hpre
      · exact ⟨_, _, rfl, hpre⟩
      · exact hpre.elim
    exact Nat.le_of_ble_eq_true rfl
  · intro a M hlen hcan hM hpre Ok hgo
    obtain ⟨x, y, rfl, hpre⟩ : ∃ x y, a = [.inl x, .inl y] ∧ (y = 1000) := by
      have hpre : (match (generalizing := false) a with | [.inl x, .inl y] => y = 1000 | _ => False) := hpre
      split at hpre
      · exact ⟨_, _, rfl, hpre⟩
      · exact hpre.elim
    obtain ⟨k_x, hc_x⟩ := pz_tlm hcan
    have l_x : -2147483648 ≤ x := k_x.1
    have u_x : x ≤ 2147483647 := k_x.2
    obtain ⟨k_y, hc_y⟩ := pz_tlm hc_x
    have l_y : -2147483648 ≤ y := k_y.1
    have u_y : y ≤ 2147483647 := k_y.2
    refine hgo (fun _ => false) 18 0 _ [] M ?_
    refine And.intro (fun h1 => ?_) (fun h1 => ?_)
    · skip
      refine And.intro (by first | decide | omega) ?_
      intro v12 e12 a12 b12
      skip
      refine And.intro rfl ?_
      refine ⟨?_, rfl⟩
      have hy : y = 1000 := hpre
      subst hy
      refine sd_dw ⟨by omega, by omega⟩ ?_
      first
        | exact Or.inl ⟨by omega, e12⟩
        | exact Or.inr (Or.inl ⟨by rw [← e6]; omega, e12⟩)
        | exact Or.inr (Or.inr ⟨by omega, by rw [← e6]; omega, by rw [e20, e18]⟩)
    · skip
      refine And.intro (by first | decide | omega) ?_
      intro v6 e6 a6 b6
      skip
      refine And.intro (fun h7 => ?_) (fun h7 => ?_)
      · skip
        refine And.intro (by first | decide | omega) ?_
        intro v18 e18 a18 b18
        skip
        intro v20 e20 a20 b20
        refine And.intro rfl ?_
        refine ⟨?_, rfl⟩
        have hy : y = 1000 := hpre
        subst hy
        refine sd_dw ⟨by omega, by omega⟩ ?_
        first
          | exact Or.inl ⟨by omega, e12⟩
          | exact Or.inr (Or.inl ⟨by rw [← e6]; omega, e12⟩)
          | exact Or.inr (Or.inr ⟨by omega, by rw [← e6]; omega, by rw [e20, e18]⟩)
      · skip
        refine And.intro (by first | decide | omega) ?_
        intro v12 e12 a12 b12
        skip
        refine And.intro rfl ?_
        refine ⟨?_, rfl⟩
        have hy : y = 1000 := hpre
        subst hy
        refine sd_dw ⟨by omega, by omega⟩ ?_
        first
          | exact Or.inl ⟨by omega, e12⟩
          | exact Or.inr (Or.inl ⟨by rw [← e6]; omega, e12⟩)
          | exact Or.inr (Or.inr ⟨by omega, by rw [← e6]; omega, by rw [e20, e18]⟩)
theorem s3_X12_downwards {fr lo i : Nat} {own : String} (h1 : 0 + 1 ≤ fr) (h2 : 8 + (2 + 11) + 0 ≤ lo) (h3 : .methodLink own i yX12_downwards ∈ lw_tbl ∨ (own = RX1 ∧ i = 35 ∧ yX12_downwards = yX11_within)) : pz_cS fr lo own i k3_X12_downwards := pz_cSk (maxL := 2) (fr' := 0) (lo' := 0) 2 h3_X12_downwards rfl ⟨(pz_nhc_RX12 yX12_downwards rfl).1, (pz_nhc_RX12 yX12_downwards rfl).2, pz_ds10⟩ ⟨pz_wq1695, pz_wq1694, pz_wq13⟩ h1 h2 h3
noncomputable def k3_X12_choice : pz_C := (5, 1, fun a M => (match a with | [.inr (.inr (12, th)), .inl i, .inl n, .inl p, .inl w] => pz_im M | _ => False), fun a M r M' => (match a, r with | [.inr (.inr (12, th)), .inl i, .inl n, .inl p, .inl w], some (.inl v) => (sd_wm M v (fun ls F => sd_chv ls F i n p w)) ∧ pz_rl pz_QV M M' | _, _ => False))
noncomputable abbrev ct3_X12_choice : List (Bool × Nat × pz_C) := [(true, 58, k_X12_isLink), (false, 54, k_X12_isIn), (false, 51, k_X12_greater), (false, 442, k3_X12_downwards), (true, 385, k3_X12_costOf)]
set_option maxRecDepth 100000 in
set_option maxHeartbeats 4000000 in
theorem h3_X12_choice : pz_H yX12_choice cX12_choice 9 (some .int) k3_X12_choice 5 116 := by
  refine pz_mk (own := RX12) (tb := t_X12_choice) (fl := pz_flf fl_RX12) (ci := pz_cif ci_RX12) (ct := pz_ctf ct3_X12_choice) (rz := false) (pz_pfc_RX12 yX12_choice rfl) rfl t_X12_choice_ok (pz_flk fl_RX12_ok) (pz_cik ci_RX12_ok) ?_ ?_ (Or.inl ⟨rfl, rfl⟩) ?_ ?_
  · exact fun i k' h => pz_ctk (l := ct3_X12_choice) (P := fun b i k => b = true → pz_cV 5 116 RX12 i k) (List.forall_mem_cons.mpr ⟨(fun _ => v_X12_isLink (by decide) (by decide) pz_wq1224), List.forall_mem_cons.mpr ⟨((fun z => by cases z)), List.forall_mem_cons.mpr ⟨((fun z => by cases z)), List.forall_mem_cons.mpr ⟨((fun z => by cases z)), List.forall_mem_cons.mpr ⟨(fun _ => v3_X12_costOf (by decide) (by decide) pz_wq1577), fun _ h => absurd h List.not_mem_nil⟩⟩⟩⟩⟩) true i k' h rfl
  · exact fun i k' h => pz_ctk (l := ct3_X12_choice) (P := fun b i k => b = false → (pz_cS 5 116 RX12 i k ∨ (k = pz_kac ∧ 1 ≤ 5 ∧ 60 ≤ 116 ∧ Cond.methodLink RX12 i arraycopyName ∈ pz_tbl))) (List.forall_mem_cons.mpr ⟨((fun z => by cases z)), List.forall_mem_cons.mpr ⟨(fun _ => Or.inl (s_X12_isIn (by decide) (by decide) (Or.inl pz_wq1217))), List.forall_mem_cons.mpr ⟨(fun _ => Or.inl (s_X12_greater (by decide) (by decide) (Or.inl pz_wq1447))), List.forall_mem_cons.mpr ⟨(fun _ => Or.inl (s3_X12_downwards (by decide) (by decide) (Or.inl pz_wq1693))), List.forall_mem_cons.mpr ⟨((fun z => by cases z)), fun _ h => absurd h List.not_mem_nil⟩⟩⟩⟩⟩) false i k' h rfl
  · intro a M hlen hpre
    obtain ⟨th, i, n, p, w, rfl, hpre⟩ : ∃ th i n p w, a = [.inr (.inr (12, th)), .inl i, .inl n, .inl p, .inl w] ∧ (pz_im M) := by
      have hpre : (match (generalizing := false) a with | [.inr (.inr (12, th)), .inl i, .inl n, .inl p, .inl w] => pz_im M | _ => False) := hpre
      split at hpre
      · exact ⟨_, _, _, _, _, rfl, hpre⟩
      · exact hpre.elim
    exact Nat.le_of_ble_eq_true rfl
  · intro a M hlen hcan hM hpre Ok hgo
    obtain ⟨th, i, n, p, w, rfl, hpre⟩ : ∃ th i n p w, a = [.inr (.inr (12, th)), .inl i, .inl n, .inl p, .inl w] ∧ (pz_im M) := by
      have hpre : (match (generalizing := false) a with | [.inr (.inr (12, th)), .inl i, .inl n, .inl p, .inl w] => pz_im M | _ => False) := hpre
      split at hpre
      · exact ⟨_, _, _, _, _, rfl, hpre⟩
      · exact hpre.elim
    obtain ⟨k_th, hc_th⟩ := pz_tlm hcan
    have k_th : pz_kd th = 12 ∧ th < 231 := k_th
    have R_th := pz_kd12 k_th.1
    subst R_th
    clear k_th
    obtain ⟨k_i, hc_i⟩ := pz_tlm hc_th
    have l_i : -2147483648 ≤ i := k_i.1
    have u_i : i ≤ 2147483647 := k_i.2
    obtain ⟨k_n, hc_n⟩ := pz_tlm hc_i
    have l_n : -2147483648 ≤ n := k_n.1
    have u_n : n ≤ 2147483647 := k_n.2
    obtain ⟨k_p, hc_p⟩ := pz_tlm hc_n
    have l_p : -2147483648 ≤ p := k_p.1
    have u_p : p ≤ 2147483647 := k_p.2
    obtain ⟨k_w, hc_w⟩ := pz_tlm hc_p
    have l_w : -2147483648 ≤ w := k_w.1
    have u_w : w ≤ 2147483647 := k_w.2
    have hI : pz_im M := hpre
    have hI0 := hI
    have hS : pz_rl pz_QV M M := pz_rl.rf
    have I88 := hI.1.1
    have L127 : ∀ (x5 : Int) (x6 : Int) (x7 : Int) (x8 : Int) (N127 : pz_M), (pz_rl pz_QV M N127) → (0 ≤ i ∧ i < M 60 88 ∧ (0 ≤ n ∧ n ≤ 999) ∧ (0 ≤ p ∧ p ≤ 1000) ∧ 0 ≤ w ∧ w ≤ 1) → (∀ ls : List pz_lne, pq_wlw ls (M 60) → (∀ q ∈ ls, pv_ln q) → sd_wf (M 60) → (x8, x7) = sd_chw ls (M 60) i.toNat n p) → Ok 127 [some (.inr (.inr (12, 1))), some (.inl i), some (.inl n), some (.inl p), some (.inl w), some (.inl x5), some (.inl x6), some (.inl x7), some (.inl x8)] [] N127 := by
      intro x5 x6 x7 x8 N127 hS g127_1 g127_2
      have hI : pz_im N127 := hS.1 hI0
      refine hgo (fun p => Nat.beq p 116 || Nat.beq p 127) 78 127 _ _ _ ?_
      refine And.intro (fun h129 => ?_) (fun h129 => ?_)
      · skip
        replace h129 : 1 ≤ w := by omega
        refine And.intro rfl ?_
        refine ⟨fun ls hl hq hW => ?_, hS⟩
        have hm := hW.1
        show _ = sd_chv ls (M 60) i n p w
        have z := (by assumption : ∀ ls : List pz_lne, pq_wlw ls (M 60) → (∀ q ∈ ls, pv_ln q) → sd_wf (M 60) → (x8, x7) = sd_chw ls (M 60) i.toNat n p) ls hl hq hW
        unfold sd_chv
        rw [if_pos (by first | decide | omega), ← z]
        first
          | (rw [if_pos (by first | decide | omega)]; done)
          | (rw [if_neg (by first | decide | omega)]; done)
      · skip
        refine And.intro rfl ?_
        refine ⟨fun ls hl hq hW => ?_, hS⟩
        have hm := hW.1
        show _ = sd_chv ls (M 60) i n p w
        have z := (by assumption : ∀ ls : List pz_lne, pq_wlw ls (M 60) → (∀ q ∈ ls, pv_ln q) → sd_wf (M 60) → (x8, x7) = sd_chw ls (M 60) i.toNat n p) ls hl hq hW
        unfold sd_chv
        rw [if_pos (by first | decide | omega), ← z]
        first
          | (rw [if_pos (by first | decide | omega)]; done)
          | (rw [if_neg (by first | decide | omega)]; done)
    have L116 : ∀ (x5 : Int) (x6 : Int) (x7 : Int) (x8 : Int) (N116 : pz_M), (pz_rl pz_QV M N116) → (0 ≤ i ∧ i < M 60 88 ∧ (0 ≤ n ∧ n ≤ 999) ∧ (0 ≤ p ∧ p ≤ 1000) ∧ 0 ≤ w ∧ w ≤ 1) → (∀ ls : List pz_lne, pq_wlw ls (M 60) → (∀ q ∈ ls, pv_ln q) → sd_wf (M 60) → (x8 = (if M 60 (28 + i.toNat) - n < sd_chp ls (M 60) i.toNat n p then 1 else 0) ∧ x7 = (if M 60 (28 + i.toNat) - n < sd_chp ls (M 60) i.toNat n p then sd_chp ls (M 60) i.toNat n p else M 60 (28 + i.toNat) - n))) → Ok 116 [some (.inr (.inr (12, 1))), some (.inl i), some (.inl n), some (.inl p), some (.inl w), some (.inl x5), some (.inl x6), some (.inl x7), some (.inl x8)] [] N116 := by
      intro x5 x6 x7 x8 N116 hS g116_1 g116_2
      have hI : pz_im N116 := hS.1 hI0
      refine hgo (fun p => Nat.beq p 116 || Nat.beq p 127) 78 116 _ _ _ ?_
      refine And.intro (fun h118 => ?_) (fun h118 => ?_)
      · skip
        have G127 : ∀ ls : List pz_lne, pq_wlw ls (M 60) → (∀ q ∈ ls, pv_ln q) → sd_wf (M 60) → (x8, x7) = sd_chw ls (M 60) i.toNat n p := fun ls hl hq w9 => by
          obtain ⟨a, b⟩ := (by assumption : ∀ ls : List pz_lne, pq_wlw ls (M 60) → (∀ q ∈ ls, pv_ln q) → sd_wf (M 60) → (x8 = (if M 60 (28 + i.toNat) - n < sd_chp ls (M 60) i.toNat n p then 1 else 0) ∧ x7 = (if M 60 (28 + i.toNat) - n < sd_chp ls (M 60) i.toNat n p then sd_chp ls (M 60) i.toNat n p else M 60 (28 + i.toNat) - n))) ls hl hq w9
          unfold sd_chw
          rw [← b, if_neg (by first | decide | omega)]
          by_cases z : M 60 (28 + i.toNat) - n < sd_chp ls (M 60) i.toNat n p
          · rw [if_pos z] at a b ⊢
            rw [a, b]
          · rw [if_neg z] at a b ⊢
            rw [a, b]
        exact L127 _ _ _ _ _ hS (by first | omega | assumption) (by first | omega | assumption)
      · skip
        have G127 : ∀ ls : List pz_lne, pq_wlw ls (M 60) → (∀ q ∈ ls, pv_ln q) → sd_wf (M 60) → (2, 0) = sd_chw ls (M 60) i.toNat n p := fun ls hl hq w9 => by
          obtain ⟨a, b⟩ := (by assumption : ∀ ls : List pz_lne, pq_wlw ls (M 60) → (∀ q ∈ ls, pv_ln q) → sd_wf (M 60) → (x8 = (if M 60 (28 + i.toNat) - n < sd_chp ls (M 60) i.toNat n p then 1 else 0) ∧ x7 = (if M 60 (28 + i.toNat) - n < sd_chp ls (M 60) i.toNat n p then sd_chp ls (M 60) i.toNat n p else M 60 (28 + i.toNat) - n))) ls hl hq w9
          unfold sd_chw
          rw [← b, if_pos (by first | decide | omega)]
        exact L127 _ _ _ _ _ hS (by first | omega | assumption) (by first | omega | assumption)
    refine hgo (fun p => Nat.beq p 116 || Nat.beq p 127) 78 0 _ [] M ?_
    refine And.intro (hI) ?_
    intro v2 M2 a2 b2 q2
    obtain ⟨q2, z2⟩ := q2
    subst z2
    clear a2 b2
    refine And.intro (fun h5 => ?_) (fun h5 => ?_)
    · skip
      replace q2 := q2.resolve_left (fun z => absurd (z.1.symm.trans h5) (by decide))
      clear h5
      refine And.intro rfl ?_
      refine ⟨fun ls hl hq hW => ?_, hS⟩
      have hm := hW.1
      show _ = sd_chv ls (M 60) i n p w
      unfold sd_chv
      rw [if_neg (by first | decide | omega)]
    · skip
      replace q2 := q2.resolve_right (fun z => h5 z.1)
      clear h5
      refine And.intro (True.intro) ?_
      intro v13 M13 a13 b13 q13
      obtain ⟨q13, z13⟩ := q13
      subst z13
      clear a13 b13
      refine And.intro (fun h16 => ?_) (fun h16 => ?_)
      · skip
        replace q13 := q13.resolve_left (fun z => absurd (z.1.symm.trans h16) (by decide))
        clear h16
        refine And.intro rfl ?_
        refine ⟨fun ls hl hq hW => ?_, hS⟩
        have hm := hW.1
        show _ = sd_chv ls (M 60) i n p w
        unfold sd_chv
        rw [if_neg (by first | decide | omega)]
      · skip
        replace q13 := q13.resolve_right (fun z => h16 z.1)
        clear h16
        refine And.intro (True.intro) ?_
        intro v24 M24 a24 b24 q24
        obtain ⟨q24, z24⟩ := q24
        subst z24
        clear a24 b24
        refine And.intro (fun h27 => ?_) (fun h27 => ?_)
        · skip
          replace q24 := q24.resolve_left (fun z => absurd (z.1.symm.trans h27) (by decide))
          clear h27
          refine And.intro rfl ?_
          refine ⟨fun ls hl hq hW => ?_, hS⟩
          have hm := hW.1
          show _ = sd_chv ls (M 60) i n p w
          unfold sd_chv
          rw [if_neg (by first | decide | omega)]
        · skip
          replace q24 := q24.resolve_right (fun z => h27 z.1)
          clear h27
          refine And.intro (True.intro) ?_
          intro v34 M34 a34 b34 q34
          obtain ⟨q34, z34⟩ := q34
          subst z34
          clear a34 b34
          refine And.intro (fun h37 => ?_) (fun h37 => ?_)
          · skip
            have GP : 0 ≤ i ∧ i < M 60 88 ∧ (0 ≤ n ∧ n ≤ 999) ∧ (0 ≤ p ∧ p ≤ 1000) ∧ 0 ≤ w ∧ w ≤ 1 := by omega
            replace q34 := q34.resolve_right (fun z => h37 z.1)
            clear h37
            refine pz_nrc (c := 60) rfl ?_
            intro v51 e51 a51 b51
            rw [pz_wi (by first | decide | omega) (by first | decide | omega)] at e51
            clear a51 b51
            have lo52 : (0 : Int) ≤ v51 := by omega
            have tn52 : (((v51).toNat : Nat) : Int) = v51 := Int.toNat_of_nonneg lo52
            refine And.intro (lo52) (And.intro (show _ < (1725 : Int) from by omega) ?_)
            intro v52 e52 a52 b52
            rw [show v51.toNat = 28 + i.toNat by omega] at e52
            intro v54 e54 a54 b54
            refine pz_nrc (c := 60) rfl ?_
            intro v65 e65 a65 b65
            rw [pz_wi (by first | decide | omega) (by first | decide | omega)] at e65
            clear a65 b65
            have lo66 : (0 : Int) ≤ v65 := by omega
            have tn66 : (((v65).toNat : Nat) : Int) = v65 := Int.toNat_of_nonneg lo66
            refine And.intro (lo66) (And.intro (show _ < (1725 : Int) from by omega) ?_)
            intro v66 e66 a66 b66
            rw [show v65.toNat = 28 + i.toNat by omega] at e66
            intro v67 e67 a67 b67
            intro v72 e72 a72 b72
            refine And.intro (True.intro) ?_
            intro v76 M76 a76 b76 q76
            obtain ⟨q76, z76⟩ := q76
            subst z76
            intro v79 e79 a79 b79
            intro v80 e80 a80 b80
            refine And.intro (rfl) ?_
            intro v84 M84 a84 b84 q84
            obtain ⟨q84, z84⟩ := q84
            subst z84
            refine And.intro (And.intro hI (And.intro (by first | decide | omega) (by first | decide | omega))) ?_
            intro v89 M89 a89 b89 q89
            obtain ⟨q89, z89⟩ := q89
            have hS : pz_rl pz_QV M M89 := hS.tr (pz_rl.wk pz_wk_QS_QV z89)
            have hI : pz_im M89 := hS.1 hI0
            clear a89 b89
            intro v92 e92 a92 b92
            refine And.intro (fun h106 => ?_) (fun h106 => ?_)
            · skip
              have GW : ∀ ls : List pz_lne, pq_wlw ls (M 60) → (∀ q ∈ ls, pv_ln q) → sd_wf (M 60) → (v54 = M 60 (28 + i.toNat) - n ∧ v92 = sd_chp ls (M 60) i.toNat n p) := fun ls hl hq w9 => by
                have m9 := w9.1
                have o := (w9.2.2 i.toNat (by first | decide | omega)).2.2.1
                have r := q89.1 (by first | decide | omega) ls hl hq
                have E54 : v54 = M 60 (28 + i.toNat) - n := by
                  rw [e54, e52, pz_wi (by first | decide | omega) (by first | decide | omega)]
                have E71 : v72 = 1000 - p := by
                  rw [e72, pz_wi (by first | decide | omega) (by first | decide | omega)]
                have E76 : v76 = max 0 (M 60 (28 + i.toNat) - n) := by
                  rw [← E54]
                  omega
                refine ⟨E54, ?_⟩
                unfold sd_chp
                rw [e92, q84, e80, e67, e79, E71, E76, e66, r]
              have G116 : ∀ ls : List pz_lne, pq_wlw ls (M 60) → (∀ q ∈ ls, pv_ln q) → sd_wf (M 60) → ((0 : Int) = (if M 60 (28 + i.toNat) - n < sd_chp ls (M 60) i.toNat n p then 1 else 0) ∧ v54 = (if M 60 (28 + i.toNat) - n < sd_chp ls (M 60) i.toNat n p then sd_chp ls (M 60) i.toNat n p else M 60 (28 + i.toNat) - n)) := fun ls hl hq w9 => by
                obtain ⟨a, b⟩ := GW ls hl hq w9
                rw [← a, ← b, if_neg (by first | decide | omega), if_neg (by first | decide | omega)]
                exact ⟨rfl, rfl⟩
              exact L116 _ _ _ _ _ hS (by first | omega | assumption) (by first | omega | assumption)
            · skip
              have GW : ∀ ls : List pz_lne, pq_wlw ls (M 60) → (∀ q ∈ ls, pv_ln q) → sd_wf (M 60) → (v54 = M 60 (28 + i.toNat) - n ∧ v92 = sd_chp ls (M 60) i.toNat n p) := fun ls hl hq w9 => by
                have m9 := w9.1
                have o := (w9.2.2 i.toNat (by first | decide | omega)).2.2.1
                have r := q89.1 (by first | decide | omega) ls hl hq
                have E54 : v54 = M 60 (28 + i.toNat) - n := by
                  rw [e54, e52, pz_wi (by first | decide | omega) (by first | decide | omega)]
                have E71 : v72 = 1000 - p := by
                  rw [e72, pz_wi (by first | decide | omega) (by first | decide | omega)]
                have E76 : v76 = max 0 (M 60 (28 + i.toNat) - n) := by
                  rw [← E54]
                  omega
                refine ⟨E54, ?_⟩
                unfold sd_chp
                rw [e92, q84, e80, e67, e79, E71, E76, e66, r]
              have G116 : ∀ ls : List pz_lne, pq_wlw ls (M 60) → (∀ q ∈ ls, pv_ln q) → sd_wf (M 60) → ((1 : Int) = (if M 60 (28 + i.toNat) - n < sd_chp ls (M 60) i.toNat n p then 1 else 0) ∧ v92 = (if M 60 (28 + i.toNat) - n < sd_chp ls (M 60) i.toNat n p then sd_chp ls (M 60) i.toNat n p else M 60 (28 + i.toNat) - n)) := fun ls hl hq w9 => by
                obtain ⟨a, b⟩ := GW ls hl hq w9
                rw [← a, ← b, if_pos (by first | decide | omega), if_pos (by first | decide | omega)]
                exact ⟨rfl, rfl⟩
              exact L116 _ _ _ _ _ hS (by first | omega | assumption) (by first | omega | assumption)
          · skip
            skip
            replace q34 := q34.resolve_left (fun z => absurd (z.1.symm.trans h37) (by decide))
            clear h37
            refine And.intro rfl ?_
            refine ⟨fun ls hl hq hW => ?_, hS⟩
            have hm := hW.1
            show _ = sd_chv ls (M 60) i n p w
            unfold sd_chv
            rw [if_neg (by first | decide | omega)]
theorem v3_X12_choice {fr lo i : Nat} {own : String} (h1 : 5 + 1 ≤ fr) (h2 : 8 + (9 + 11) + 116 ≤ lo) (h3 : .methodLink own i yX12_choice ∈ lw_tbl) : pz_cV fr lo own i k3_X12_choice :=
  pz_cVk (maxL := 9) (fr' := 5) (lo' := 116) 4 12 h3_X12_choice rfl ⟨(pz_nhc_RX12 yX12_choice rfl).1, (pz_nhc_RX12 yX12_choice rfl).2, pz_ds18⟩ ⟨pz_wq1692, pz_wq1690, pz_wq1691, pz_wq13⟩ (Or.inl ⟨TX12, 28, rfl⟩) (fun a M _ h => by
    have h : (match (generalizing := false) a with | [.inr (.inr (12, th)), .inl i, .inl n, .inl p, .inl w] => pz_im M | _ => False) := h
    split at h
    · exact ⟨_, _, rfl⟩
    · exact h.elim) h1 h2 h3
end
section
noncomputable def k3_X12_isRunning : pz_C := (2, 1, fun a M => (match a with | [.inr (.inr (12, th)), .inl i] => pz_im M | _ => False), fun a M r M' => (match a, r with | [.inr (.inr (12, th)), .inl i], some (.inl v) => ((v = 0 ∨ v = 1) ∧ (0 ≤ i → i < M 60 88 → (v = 1 ↔ sd_fi (M 60) i.toNat))) ∧ M = M' | _, _ => False))
noncomputable abbrev ct3_X12_isRunning : List (Bool × Nat × pz_C) := [(true, 317, k3_X12_isThere), (true, 361, k3_X12_canPay)]
set_option maxRecDepth 100000 in
set_option maxHeartbeats 4000000 in
theorem h3_X12_isRunning : pz_H yX12_isRunning cX12_isRunning 2 (some .boolean) k3_X12_isRunning 3 64 := by
  refine pz_mk (own := RX12) (tb := t_X12_isRunning) (fl := pz_flf fl_RX12) (ci := pz_cif ci_RX12) (ct := pz_ctf ct3_X12_isRunning) (rz := true) (pz_pfc_RX12 yX12_isRunning rfl) rfl t_X12_isRunning_ok (pz_flk fl_RX12_ok) (pz_cik ci_RX12_ok) ?_ ?_ (Or.inr ⟨rfl, rfl⟩) ?_ ?_
  · exact fun i k' h => pz_ctk (l := ct3_X12_isRunning) (P := fun b i k => b = true → pz_cV 3 64 RX12 i k) (List.forall_mem_cons.mpr ⟨(fun _ => v3_X12_isThere (by decide) (by decide) pz_wq1415), List.forall_mem_cons.mpr ⟨(fun _ => v3_X12_canPay (by decide) (by decide) pz_wq1573), fun _ h => absurd h List.not_mem_nil⟩⟩) true i k' h rfl
  · exact fun i k' h => pz_ctk (l := ct3_X12_isRunning) (P := fun b i k => b = false → (pz_cS 3 64 RX12 i k ∨ (k = pz_kac ∧ 1 ≤ 3 ∧ 60 ≤ 64 ∧ Cond.methodLink RX12 i arraycopyName ∈ pz_tbl))) (List.forall_mem_cons.mpr ⟨((fun z => by cases z)), List.forall_mem_cons.mpr ⟨((fun z => by cases z)), fun _ h => absurd h List.not_mem_nil⟩⟩) false i k' h rfl
  · intro a M hlen hpre
    obtain ⟨th, i, rfl, hpre⟩ : ∃ th i, a = [.inr (.inr (12, th)), .inl i] ∧ (pz_im M) := by
      have hpre : (match (generalizing := false) a with | [.inr (.inr (12, th)), .inl i] => pz_im M | _ => False) := hpre
      split at hpre
      · exact ⟨_, _, rfl, hpre⟩
      · exact hpre.elim
    exact Nat.le_of_ble_eq_true rfl
  · intro a M hlen hcan hM hpre Ok hgo
    obtain ⟨th, i, rfl, hpre⟩ : ∃ th i, a = [.inr (.inr (12, th)), .inl i] ∧ (pz_im M) := by
      have hpre : (match (generalizing := false) a with | [.inr (.inr (12, th)), .inl i] => pz_im M | _ => False) := hpre
      split at hpre
      · exact ⟨_, _, rfl, hpre⟩
      · exact hpre.elim
    obtain ⟨k_th, hc_th⟩ := pz_tlm hcan
    have k_th : pz_kd th = 12 ∧ th < 231 := k_th
    have R_th := pz_kd12 k_th.1
    subst R_th
    clear k_th
    obtain ⟨k_i, hc_i⟩ := pz_tlm hc_th
    have l_i : -2147483648 ≤ i := k_i.1
    have u_i : i ≤ 2147483647 := k_i.2
    have hI : pz_im M := hpre
    have I88 := hI.1.1
    refine hgo (fun _ => false) 14 0 _ [] M ?_
    refine And.intro (hI) ?_
    intro v2 M2 a2 b2 q2
    obtain ⟨q2, z2⟩ := q2
    subst z2
    clear a2 b2
    refine And.intro (fun h5 => ?_) (fun h5 => ?_)
    · skip
      replace q2 := q2.resolve_left (fun z => absurd (z.1.symm.trans h5) (by decide))
      refine And.intro (by first | decide | omega) ?_
      refine And.intro rfl ?_
      refine ⟨⟨by omega, fun h0 h1 => ?_⟩, rfl⟩
      rw [show (52 + i).toNat = 52 + i.toNat by omega, show (76 + i).toNat = 76 + i.toNat by omega] at q2
      unfold sd_fi
      first
        | exact ⟨fun z => by omega, fun z => by
            have z1 := z.1
            unfold sd_in at z1
            omega⟩
        | (have a := q10.2.trans (sd_py_i (F := M 60) h0)
           first
             | exact ⟨fun z => by omega, fun z => absurd (a.mpr z.2) (by first | decide | omega)⟩
             | exact ⟨fun _ => ⟨by unfold sd_in; omega, a.mp (by first | decide | omega)⟩, fun _ => by omega⟩)
    · skip
      replace q2 := q2.resolve_right (fun z => h5 z.1)
      refine And.intro (And.intro hI (And.intro (by first | decide | omega) (by first | decide | omega))) ?_
      intro v10 M10 a10 b10 q10
      obtain ⟨q10, z10⟩ := q10
      subst z10
      refine And.intro (fun h13 => ?_) (fun h13 => ?_)
      · skip
        refine And.intro (by first | decide | omega) ?_
        refine And.intro rfl ?_
        refine ⟨⟨by omega, fun h0 h1 => ?_⟩, rfl⟩
        rw [show (52 + i).toNat = 52 + i.toNat by omega, show (76 + i).toNat = 76 + i.toNat by omega] at q2
        unfold sd_fi
        first
          | exact ⟨fun z => by omega, fun z => by
              have z1 := z.1
              unfold sd_in at z1
              omega⟩
          | (have a := q10.2.trans (sd_py_i (F := M 60) h0)
             first
               | exact ⟨fun z => by omega, fun z => absurd (a.mpr z.2) (by first | decide | omega)⟩
               | exact ⟨fun _ => ⟨by unfold sd_in; omega, a.mp (by first | decide | omega)⟩, fun _ => by omega⟩)
      · skip
        refine And.intro (by first | decide | omega) ?_
        refine And.intro rfl ?_
        refine ⟨⟨by omega, fun h0 h1 => ?_⟩, rfl⟩
        rw [show (52 + i).toNat = 52 + i.toNat by omega, show (76 + i).toNat = 76 + i.toNat by omega] at q2
        unfold sd_fi
        first
          | exact ⟨fun z => by omega, fun z => by
              have z1 := z.1
              unfold sd_in at z1
              omega⟩
          | (have a := q10.2.trans (sd_py_i (F := M 60) h0)
             first
               | exact ⟨fun z => by omega, fun z => absurd (a.mpr z.2) (by first | decide | omega)⟩
               | exact ⟨fun _ => ⟨by unfold sd_in; omega, a.mp (by first | decide | omega)⟩, fun _ => by omega⟩)
theorem v3_X12_isRunning {fr lo i : Nat} {own : String} (h1 : 3 + 1 ≤ fr) (h2 : 8 + (2 + 11) + 64 ≤ lo) (h3 : .methodLink own i yX12_isRunning ∈ lw_tbl) : pz_cV fr lo own i k3_X12_isRunning :=
  pz_cVk (maxL := 2) (fr' := 3) (lo' := 64) 1 12 h3_X12_isRunning rfl ⟨(pz_nhc_RX12 yX12_isRunning rfl).1, (pz_nhc_RX12 yX12_isRunning rfl).2, pz_ds9⟩ ⟨pz_wq1711, pz_wq1710, pz_ws82, pz_wq13⟩ (Or.inl ⟨TX12, 28, rfl⟩) (fun a M _ h => by
    have h : (match (generalizing := false) a with | [.inr (.inr (12, th)), .inl i] => pz_im M | _ => False) := h
    split at h
    · exact ⟨_, _, rfl⟩
    · exact h.elim) h1 h2 h3
noncomputable def k3_X11_runs : pz_C := (2, 1, fun a M => (match a with | [.inr (.inr (11, th)), .inl w] => pz_ic M | _ => False), fun a M r M' => (match a, r with | [.inr (.inr (11, th)), .inl w], some (.inl v) => (sd_wc M v (fun _ F => sd_rnv F w)) ∧ M = M' | _, _ => False))
noncomputable abbrev ct3_X11_runs : List (Bool × Nat × pz_C) := [(true, 107, k_X0_at), (true, 297, k_X5_isIn), (true, 218, k3_X0_canPay)]
set_option maxRecDepth 100000 in
set_option maxHeartbeats 4000000 in
theorem h3_X11_runs : pz_H yX11_runs cX11_runs 9 (some .int) k3_X11_runs 3 64 := by
  refine pz_mk (own := RX11) (tb := t_X11_runs) (fl := pz_flf fl_RX11) (ci := pz_cif ci_RX11) (ct := pz_ctf ct3_X11_runs) (rz := false) (pz_pfc_RX11 yX11_runs rfl) rfl t_X11_runs_ok (pz_flk fl_RX11_ok) (pz_cik ci_RX11_ok) ?_ ?_ (Or.inl ⟨rfl, rfl⟩) ?_ ?_
  · exact fun i k' h => pz_ctk (l := ct3_X11_runs) (P := fun b i k => b = true → pz_cV 3 64 RX11 i k) (List.forall_mem_cons.mpr ⟨(fun _ => v_X0_at (by decide) (by decide) pz_wq428), List.forall_mem_cons.mpr ⟨(fun _ => v_X5_isIn (by decide) (by decide) pz_wq984), List.forall_mem_cons.mpr ⟨(fun _ => v3_X0_canPay (by decide) (by decide) pz_wq839), fun _ h => absurd h List.not_mem_nil⟩⟩⟩) true i k' h rfl
  · exact fun i k' h => pz_ctk (l := ct3_X11_runs) (P := fun b i k => b = false → (pz_cS 3 64 RX11 i k ∨ (k = pz_kac ∧ 1 ≤ 3 ∧ 60 ≤ 64 ∧ Cond.methodLink RX11 i arraycopyName ∈ pz_tbl))) (List.forall_mem_cons.mpr ⟨((fun z => by cases z)), List.forall_mem_cons.mpr ⟨((fun z => by cases z)), List.forall_mem_cons.mpr ⟨((fun z => by cases z)), fun _ h => absurd h List.not_mem_nil⟩⟩⟩) false i k' h rfl
  · intro a M hlen hpre
    obtain ⟨th, w, rfl, hpre⟩ : ∃ th w, a = [.inr (.inr (11, th)), .inl w] ∧ (pz_ic M) := by
      have hpre : (match (generalizing := false) a with | [.inr (.inr (11, th)), .inl w] => pz_ic M | _ => False) := hpre
      split at hpre
      · exact ⟨_, _, rfl, hpre⟩
      · exact hpre.elim
    exact Nat.le_of_ble_eq_true rfl
  · intro a M hlen hcan hM hpre Ok hgo
    obtain ⟨th, w, rfl, hpre⟩ : ∃ th w, a = [.inr (.inr (11, th)), .inl w] ∧ (pz_ic M) := by
      have hpre : (match (generalizing := false) a with | [.inr (.inr (11, th)), .inl w] => pz_ic M | _ => False) := hpre
      split at hpre
      · exact ⟨_, _, rfl, hpre⟩
      · exact hpre.elim
    obtain ⟨k_th, hc_th⟩ := pz_tlm hcan
    have k_th : pz_kd th = 11 ∧ th < 231 := k_th
    have R_th := pz_kd11 k_th.1
    subst R_th
    obtain ⟨k_w, hc_w⟩ := pz_tlm hc_th
    have l_w : -2147483648 ≤ w := k_w.1
    have u_w : w ≤ 2147483647 := k_w.2
    have hI : pz_ic M := hpre
    have L13 : ∀ (fu : Nat) (x2 : Int) (x3 : Int) (x4 : Int) (x5 : Int) (x6 : Int) (d7 : Option pz_V) (d8 : Option pz_V), (12 - x6).toNat < fu → (0 ≤ x6) → (0 ≤ x5) → (x5 ≤ x6) → (sd_q M 71 (fun F => sd_rnE F x5 x2 x3 x4 x6)) → Ok 13 [some (.inr (.inr (11, 0))), some (.inl w), some (.inl x2), some (.inl x3), some (.inl x4), some (.inl x5), some (.inl x6), d7, d8] [] M := by
      intro fu
      induction fu with
      | zero => exact fun _ _ _ _ _ _ _ hn => absurd hn (Nat.not_lt_zero _)
      | succ fu ih13 =>
        intro x2 x3 x4 x5 x6 d7 d8 hn13 g13_0 g13_1 g13_2 g13_3
        have L130 : ∀ (x2 : Int) (x3 : Int) (x4 : Int) (x5 : Int) (x6 : Int) (r7 : Nat) (x8 : Int), (pz_kd r7 = 5) → (0 ≤ x6) → (x6 < 12) → (0 ≤ x5) → (x5 ≤ x6 + 1) → ((12 - x6).toNat < fu + 1) → (x6 < M 71 3) → (sd_q M 71 (fun F => sd_rnE F x5 x2 x3 x4 (x6 + 1))) → Ok 130 [some (.inr (.inr (11, 0))), some (.inl w), some (.inl x2), some (.inl x3), some (.inl x4), some (.inl x5), some (.inl x6), some (.inr (.inr (5, r7))), some (.inl x8)] [] M := by
          intro x2 x3 x4 x5 x6 r7 x8 K_r7 g130_1 g130_2 g130_3 g130_4 g130_5 g130_6 g130_7
          have R_r7 := pz_kd5 K_r7
          refine hgo (fun p => Nat.beq p 13 || Nat.beq p 61 || Nat.beq p 76 || Nat.beq p 95 || Nat.beq p 130) 80 130 _ _ _ ?_
          intro v130 e130 a130 b130
          rw [pz_wi (by first | decide | omega) (by first | decide | omega)] at e130
          have G13 : sd_q M 71 (fun F => sd_rnE F x5 x2 x3 x4 v130) := by
            rw [e130]
            assumption
          exact ih13 _ _ _ _ _ _ _ (by first | decide | omega) (by first | omega | assumption | exact fun F hF hW => ⟨⟨Int.le_refl _, hW.1.1⟩, Or.inl rfl, rfl⟩) (by first | omega | assumption | exact fun F hF hW => ⟨⟨Int.le_refl _, hW.1.1⟩, Or.inl rfl, rfl⟩) (by first | omega | assumption | exact fun F hF hW => ⟨⟨Int.le_refl _, hW.1.1⟩, Or.inl rfl, rfl⟩) (by first | omega | assumption | exact fun F hF hW => ⟨⟨Int.le_refl _, hW.1.1⟩, Or.inl rfl, rfl⟩)
        have L95 : ∀ (x2 : Int) (x3 : Int) (x4 : Int) (x5 : Int) (x6 : Int) (r7 : Nat) (x8 : Int), (pz_kd r7 = 5) → (0 ≤ x6) → (x6 < 12) → (0 ≤ x5) → (x5 ≤ x6 + 1) → ((12 - x6).toNat < fu + 1) → (x6 < M 71 3) → (r7 = pz_lnk 71 x6) → (sd_q M 71 (fun F => sd_rnP F x5 x2 x3 x4 x6 ∧ x8 = (if sd_fi F x6.toNat then 1 else 0))) → Ok 95 [some (.inr (.inr (11, 0))), some (.inl w), some (.inl x2), some (.inl x3), some (.inl x4), some (.inl x5), some (.inl x6), some (.inr (.inr (5, r7))), some (.inl x8)] [] M := by
          intro x2 x3 x4 x5 x6 r7 x8 K_r7 g95_1 g95_2 g95_3 g95_4 g95_5 g95_6 g95_7 g95_8
          have R_r7 := pz_kd5 K_r7
          refine hgo (fun p => Nat.beq p 13 || Nat.beq p 61 || Nat.beq p 76 || Nat.beq p 95 || Nat.beq p 130) 80 95 _ _ _ ?_
          refine And.intro (fun h97 => ?_) (fun h97 => ?_)
          · skip
            have G130 : sd_q M 71 (fun F => sd_rnE F x5 x2 x3 x4 (x6 + 1)) := fun F hF hW => by
              obtain ⟨g, c⟩ := (by assumption : sd_q M 71 (fun F => sd_rnP F x5 x2 x3 x4 x6 ∧ x8 = (if sd_fi F x6.toNat then 1 else 0))) F hF hW
              have n9 := hF.1
              have m9 := hW.1
              have pp := (sd_rnP_p g).1
              exact sd_rnP_s g hW (by first | decide | omega) (by first | decide | omega) rfl (Or.inr ⟨fun z => by
                rw [if_pos z.1] at c
                omega, rfl⟩)
            exact L130 _ _ _ _ _ _ _ (by first | assumption | rfl) (by first | omega | assumption) (by first | omega | assumption) (by first | omega | assumption) (by first | omega | assumption) (by first | omega | assumption) (by first | omega | assumption) (by first | omega | assumption)
          · skip
            skip
            refine And.intro (fun h103 => ?_) (fun h103 => ?_)
            · skip
              have G130 : sd_q M 71 (fun F => sd_rnE F x5 x2 x3 x6 (x6 + 1)) := fun F hF hW => by
                obtain ⟨g, c⟩ := (by assumption : sd_q M 71 (fun F => sd_rnP F x5 x2 x3 x4 x6 ∧ x8 = (if sd_fi F x6.toNat then 1 else 0))) F hF hW
                have n9 := hF.1
                have m9 := hW.1
                have pp := (sd_rnP_p g).1
                exact sd_rnP_s g hW (by first | decide | omega) (by first | decide | omega) rfl (Or.inl ⟨(by
                  by_cases y : sd_fi F x6.toNat
                  · exact y
                  · rw [if_neg y] at c
                    omega), Or.inl (by first | decide | omega), rfl⟩)
              exact L130 _ _ _ _ _ _ _ (by first | assumption | rfl) (by first | omega | assumption) (by first | omega | assumption) (by first | omega | assumption) (by first | omega | assumption) (by first | omega | assumption) (by first | omega | assumption) (by first | omega | assumption)
            · skip
              skip
              intro v108 e108 a108 b108
              refine pz_nrc (c := 71) rfl ?_
              refine And.intro (True.intro) ?_
              intro r117 M117 k117 q117
              have R117 := pz_kd5 k117
              obtain ⟨q117, z117⟩ := q117
              subst z117
              have A117 := pz_at_lk (c := 71) (⟨by decide, by decide⟩ : 71 ≤ 71 ∧ 71 < 80) q117
              intro v120 e120 a120 b120
              refine And.intro (fun h123 => ?_) (fun h123 => ?_)
              · skip
                have G130 : sd_q M 71 (fun F => sd_rnE F x5 x2 x3 x4 (x6 + 1)) := fun F hF hW => by
                  obtain ⟨g, c⟩ := (by assumption : sd_q M 71 (fun F => sd_rnP F x5 x2 x3 x4 x6 ∧ x8 = (if sd_fi F x6.toNat then 1 else 0))) F hF hW
                  have n9 := hF.1
                  have m9 := hW.1
                  have pp := (sd_rnP_p g).1
                  have b1 := (sd_at (⟨by decide, by decide⟩ : 71 ≤ 71 ∧ 71 < 80) hF hW (show 0 ≤ x6 by omega) (by first | decide | omega) (by assumption)).2.1
                  have b2 := (sd_at (⟨by decide, by decide⟩ : 71 ≤ 71 ∧ 71 < 80) hF hW (show 0 ≤ x4 by omega) (by first | decide | omega) A117).2.1
                  exact sd_rnP_s g hW (by first | decide | omega) (by first | decide | omega) rfl (Or.inr ⟨fun z => by
                    have z2 := z.2
                    omega, rfl⟩)
                exact L130 _ _ _ _ _ _ _ (by first | assumption | rfl) (by first | omega | assumption) (by first | omega | assumption) (by first | omega | assumption) (by first | omega | assumption) (by first | omega | assumption) (by first | omega | assumption) (by first | omega | assumption)
              · skip
                have G130 : sd_q M 71 (fun F => sd_rnE F x5 x2 x3 x6 (x6 + 1)) := fun F hF hW => by
                  obtain ⟨g, c⟩ := (by assumption : sd_q M 71 (fun F => sd_rnP F x5 x2 x3 x4 x6 ∧ x8 = (if sd_fi F x6.toNat then 1 else 0))) F hF hW
                  have n9 := hF.1
                  have m9 := hW.1
                  have pp := (sd_rnP_p g).1
                  have b1 := (sd_at (⟨by decide, by decide⟩ : 71 ≤ 71 ∧ 71 < 80) hF hW (show 0 ≤ x6 by omega) (by first | decide | omega) (by assumption)).2.1
                  have b2 := (sd_at (⟨by decide, by decide⟩ : 71 ≤ 71 ∧ 71 < 80) hF hW (show 0 ≤ x4 by omega) (by first | decide | omega) A117).2.1
                  exact sd_rnP_s g hW (by first | decide | omega) (by first | decide | omega) rfl (Or.inl ⟨(by
                    by_cases y : sd_fi F x6.toNat
                    · exact y
                    · rw [if_neg y] at c
                      omega), Or.inr (by first | decide | omega), rfl⟩)
                exact L130 _ _ _ _ _ _ _ (by first | assumption | rfl) (by first | omega | assumption) (by first | omega | assumption) (by first | omega | assumption) (by first | omega | assumption) (by first | omega | assumption) (by first | omega | assumption) (by first | omega | assumption)
        have L76 : ∀ (x2 : Int) (x3 : Int) (x4 : Int) (x5 : Int) (x6 : Int) (r7 : Nat) (x8 : Int) (s0 : Int), (pz_kd r7 = 5) → (0 ≤ x6) → (x6 < 12) → (0 ≤ s0) → (s0 ≤ x6 + 1) → ((12 - x6).toNat < fu + 1) → (x6 < M 71 3) → (r7 = pz_lnk 71 x6) → (sd_q M 71 (fun F => sd_rnE F x5 x2 x3 x4 x6 ∧ x8 = (if sd_fi F x6.toNat then 1 else 0) ∧ s0 = if sd_fi F x6.toNat then x5 + 1 else 0)) → Ok 76 [some (.inr (.inr (11, 0))), some (.inl w), some (.inl x2), some (.inl x3), some (.inl x4), some (.inl x5), some (.inl x6), some (.inr (.inr (5, r7))), some (.inl x8)] [.inl s0] M := by
          intro x2 x3 x4 x5 x6 r7 x8 s0 K_r7 g76_1 g76_2 g76_3 g76_4 g76_5 g76_6 g76_7 g76_8
          have R_r7 := pz_kd5 K_r7
          refine hgo (fun p => Nat.beq p 13 || Nat.beq p 61 || Nat.beq p 76 || Nat.beq p 95 || Nat.beq p 130) 80 76 _ _ _ ?_
          refine And.intro (fun h81 => ?_) (fun h81 => ?_)
          · skip
            have G95 : sd_q M 71 (fun F => sd_rnP F s0 x2 x3 x4 x6 ∧ x8 = (if sd_fi F x6.toNat then 1 else 0)) := fun F hF hW => by
              obtain ⟨g, c, d⟩ := (by assumption : sd_q M 71 (fun F => sd_rnE F x5 x2 x3 x4 x6 ∧ x8 = (if sd_fi F x6.toNat then 1 else 0) ∧ s0 = if sd_fi F x6.toNat then x5 + 1 else 0)) F hF hW
              exact ⟨⟨x5, x2, x3, g, d, Or.inr ⟨by omega, rfl, rfl⟩⟩, c⟩
            exact L95 _ _ _ _ _ _ _ (by first | assumption | rfl) (by first | omega | assumption) (by first | omega | assumption) (by first | omega | assumption) (by first | omega | assumption) (by first | omega | assumption) (by first | omega | assumption) (by first | omega | assumption) (by first | omega | assumption)
          · skip
            skip
            intro v91 e91 a91 b91
            intro v93 e93 a93 b93
            rw [pz_wi (by first | decide | omega) (by first | decide | omega)] at e91
            rw [pz_wi (by first | decide | omega) (by first | decide | omega)] at e93
            have G95 : sd_q M 71 (fun F => sd_rnP F s0 s0 v93 x4 x6 ∧ x8 = (if sd_fi F x6.toNat then 1 else 0)) := fun F hF hW => by
              obtain ⟨g, c, d⟩ := (by assumption : sd_q M 71 (fun F => sd_rnE F x5 x2 x3 x4 x6 ∧ x8 = (if sd_fi F x6.toNat then 1 else 0) ∧ s0 = if sd_fi F x6.toNat then x5 + 1 else 0)) F hF hW
              exact ⟨⟨x5, x2, x3, g, d, Or.inl ⟨by omega, rfl, by omega⟩⟩, c⟩
            exact L95 _ _ _ _ _ _ _ (by first | assumption | rfl) (by first | omega | assumption) (by first | omega | assumption) (by first | omega | assumption) (by first | omega | assumption) (by first | omega | assumption) (by first | omega | assumption) (by first | omega | assumption) (by first | omega | assumption)
        have L61 : ∀ (x2 : Int) (x3 : Int) (x4 : Int) (x5 : Int) (x6 : Int) (r7 : Nat) (d8 : Option pz_V) (s0 : Int), (pz_kd r7 = 5) → (0 ≤ x6) → (x6 < 12) → (0 ≤ x5) → (x5 ≤ x6) → ((12 - x6).toNat < fu + 1) → (x6 < M 71 3) → (r7 = pz_lnk 71 x6) → (sd_q M 71 (fun F => sd_rnE F x5 x2 x3 x4 x6 ∧ s0 = (if sd_fi F x6.toNat then 1 else 0))) → Ok 61 [some (.inr (.inr (11, 0))), some (.inl w), some (.inl x2), some (.inl x3), some (.inl x4), some (.inl x5), some (.inl x6), some (.inr (.inr (5, r7))), d8] [.inl s0] M := by
          intro x2 x3 x4 x5 x6 r7 d8 s0 K_r7 g61_1 g61_2 g61_3 g61_4 g61_5 g61_6 g61_7 g61_8
          have R_r7 := pz_kd5 K_r7
          refine hgo (fun p => Nat.beq p 13 || Nat.beq p 61 || Nat.beq p 76 || Nat.beq p 95 || Nat.beq p 130) 80 61 _ _ _ ?_
          refine And.intro (fun h65 => ?_) (fun h65 => ?_)
          · skip
            have G76 : sd_q M 71 (fun F => sd_rnE F x5 x2 x3 x4 x6 ∧ s0 = (if sd_fi F x6.toNat then 1 else 0) ∧ (0 : Int) = if sd_fi F x6.toNat then x5 + 1 else 0) := fun F hF hW => by
              obtain ⟨g, c⟩ := (by assumption : sd_q M 71 (fun F => sd_rnE F x5 x2 x3 x4 x6 ∧ s0 = (if sd_fi F x6.toNat then 1 else 0))) F hF hW
              refine ⟨g, c, ?_⟩
              by_cases y : sd_fi F x6.toNat
              · rw [if_pos y] at c ⊢
                omega
              · (rw [if_neg y] at c ⊢) <;> omega
            exact L76 _ _ _ _ _ _ _ _ (by first | assumption | rfl) (by first | omega | assumption) (by first | omega | assumption) (by first | omega | assumption) (by first | omega | assumption) (by first | omega | assumption) (by first | omega | assumption) (by first | omega | assumption) (by first | omega | assumption)
          · skip
            skip
            intro v71 e71 a71 b71
            rw [pz_wi (by first | decide | omega) (by first | decide | omega)] at e71
            have G76 : sd_q M 71 (fun F => sd_rnE F x5 x2 x3 x4 x6 ∧ s0 = (if sd_fi F x6.toNat then 1 else 0) ∧ v71 = if sd_fi F x6.toNat then x5 + 1 else 0) := fun F hF hW => by
              obtain ⟨g, c⟩ := (by assumption : sd_q M 71 (fun F => sd_rnE F x5 x2 x3 x4 x6 ∧ s0 = (if sd_fi F x6.toNat then 1 else 0))) F hF hW
              refine ⟨g, c, ?_⟩
              by_cases y : sd_fi F x6.toNat
              · rw [if_pos y] at c ⊢
                omega
              · (rw [if_neg y] at c ⊢) <;> omega
            exact L76 _ _ _ _ _ _ _ _ (by first | assumption | rfl) (by first | omega | assumption) (by first | omega | assumption) (by first | omega | assumption) (by first | omega | assumption) (by first | omega | assumption) (by first | omega | assumption) (by first | omega | assumption) (by first | omega | assumption)
        refine hgo (fun p => Nat.beq p 13 || Nat.beq p 61 || Nat.beq p 76 || Nat.beq p 95 || Nat.beq p 130) 80 13 _ _ _ ?_
        refine pz_nrc (c := 71) rfl ?_
        intro v19 e19 a19 b19
        have I19 := hI.1 71 (by first | decide | omega) (by first | decide | omega)
        refine And.intro (fun h22 => ?_) (fun h22 => ?_)
        · skip
          refine And.intro ?_ ?_
          · skip
            refine And.intro (fun h137 => ?_) ?_
            · skip
              refine And.intro rfl ?_
              refine ⟨fun ls l1 F hT hF hW => ?_, rfl⟩
              have hn := hF.1
              have hm := hW.1
              show _ = sd_rnv F w
              have z := sd_rnE_z ((by assumption : sd_q M 71 (fun F => sd_rnE F x5 x2 x3 x4 x6)) F hF hW) hW (by first | decide | omega)
              unfold sd_rnv
              rw [← z]
              repeat first | rw [if_pos (by first | decide | omega)] | rw [if_neg (by first | decide | omega)]
            refine And.intro (fun h137 => ?_) ?_
            · skip
              refine And.intro rfl ?_
              refine ⟨fun ls l1 F hT hF hW => ?_, rfl⟩
              have hn := hF.1
              have hm := hW.1
              show _ = sd_rnv F w
              have z := sd_rnE_z ((by assumption : sd_q M 71 (fun F => sd_rnE F x5 x2 x3 x4 x6)) F hF hW) hW (by first | decide | omega)
              unfold sd_rnv
              rw [← z]
              repeat first | rw [if_pos (by first | decide | omega)] | rw [if_neg (by first | decide | omega)]
            refine And.intro (fun h137 => ?_) ?_
            · skip
              refine And.intro rfl ?_
              refine ⟨fun ls l1 F hT hF hW => ?_, rfl⟩
              have hn := hF.1
              have hm := hW.1
              show _ = sd_rnv F w
              have z := sd_rnE_z ((by assumption : sd_q M 71 (fun F => sd_rnE F x5 x2 x3 x4 x6)) F hF hW) hW (by first | decide | omega)
              unfold sd_rnv
              rw [← z]
              repeat first | rw [if_pos (by first | decide | omega)] | rw [if_neg (by first | decide | omega)]
            exact True.intro
          · intro h137
            refine And.intro rfl ?_
            refine ⟨fun ls l1 F hT hF hW => ?_, rfl⟩
            have hn := hF.1
            have hm := hW.1
            show _ = sd_rnv F w
            have z := sd_rnE_z ((by assumption : sd_q M 71 (fun F => sd_rnE F x5 x2 x3 x4 x6)) F hF hW) hW (by first | decide | omega)
            unfold sd_rnv
            rw [← z]
            repeat first | rw [if_pos (by first | decide | omega)] | rw [if_neg (by first | decide | omega)]
        · skip
          refine pz_nrc (c := 71) rfl ?_
          refine And.intro (True.intro) ?_
          intro r31 M31 k31 q31
          have R31 := pz_kd5 k31
          obtain ⟨q31, z31⟩ := q31
          subst z31
          have A31 := pz_at_lk (c := 71) (⟨by decide, by decide⟩ : 71 ≤ 71 ∧ 71 < 80) q31
          refine And.intro (True.intro) ?_
          intro v38 M38 a38 b38 q38
          obtain ⟨q38, z38⟩ := q38
          subst z38
          refine And.intro (fun h41 => ?_) (fun h41 => ?_)
          · skip
            have G61 : sd_q M 71 (fun F => sd_rnE F x5 x2 x3 x4 x6 ∧ (0 : Int) = (if sd_fi F x6.toNat then 1 else 0)) := fun F hF hW => by
              have g := (by assumption : sd_q M 71 (fun F => sd_rnE F x5 x2 x3 x4 x6)) F hF hW
              have n9 := hF.1
              have m9 := hW.1
              have b := sd_at (⟨by decide, by decide⟩ : 71 ≤ 71 ∧ 71 < 80) hF hW (show 0 ≤ x6 by omega) (by first | decide | omega) A31
              have b5 := b.2.2.2.2.2.1
              have b7 := b.2.2.2.2.2.2.2
              have P := hW.2.2 x6.toNat (by first | decide | omega)
              unfold sd_lw at P
              have q38 := q38
              rw [b5, b7] at q38
              refine ⟨g, ?_⟩
              exact (if_neg (fun z => by
                have z1 := z.1
                unfold sd_in at z1
                split at q38 <;> omega)).symm
            exact L61 _ _ _ _ _ _ _ _ (by first | assumption | rfl) (by first | omega | assumption) (by first | omega | assumption) (by first | omega | assumption) (by first | omega | assumption) (by first | omega | assumption) (by first | omega | assumption) (by first | omega | assumption) (by first | omega | assumption)
          · skip
            skip
            refine pz_nrc (c := 71) rfl ?_
            refine And.intro (hI) ?_
            intro v50 M50 a50 b50 q50
            obtain ⟨q50, z50⟩ := q50
            subst z50
            refine And.intro (fun h53 => ?_) (fun h53 => ?_)
            · skip
              have G61 : sd_q M 71 (fun F => sd_rnE F x5 x2 x3 x4 x6 ∧ (0 : Int) = (if sd_fi F x6.toNat then 1 else 0)) := fun F hF hW => by
                have g := (by assumption : sd_q M 71 (fun F => sd_rnE F x5 x2 x3 x4 x6)) F hF hW
                have n9 := hF.1
                have m9 := hW.1
                have b := sd_at (⟨by decide, by decide⟩ : 71 ≤ 71 ∧ 71 < 80) hF hW (show 0 ≤ x6 by omega) (by first | decide | omega) A31
                have b5 := b.2.2.2.2.2.1
                have b7 := b.2.2.2.2.2.2.2
                have P := hW.2.2 x6.toNat (by first | decide | omega)
                unfold sd_lw at P
                have q38 := q38
                rw [b5, b7] at q38
                refine ⟨g, ?_⟩
                exact (if_neg (fun z => by
                  have c := (q50.2 F hF hW (by first | decide | omega) (by first | decide | omega)).mpr z.2
                  omega)).symm
              exact L61 _ _ _ _ _ _ _ _ (by first | assumption | rfl) (by first | omega | assumption) (by first | omega | assumption) (by first | omega | assumption) (by first | omega | assumption) (by first | omega | assumption) (by first | omega | assumption) (by first | omega | assumption) (by first | omega | assumption)
            · skip
              have G61 : sd_q M 71 (fun F => sd_rnE F x5 x2 x3 x4 x6 ∧ (1 : Int) = (if sd_fi F x6.toNat then 1 else 0)) := fun F hF hW => by
                have g := (by assumption : sd_q M 71 (fun F => sd_rnE F x5 x2 x3 x4 x6)) F hF hW
                have n9 := hF.1
                have m9 := hW.1
                have b := sd_at (⟨by decide, by decide⟩ : 71 ≤ 71 ∧ 71 < 80) hF hW (show 0 ≤ x6 by omega) (by first | decide | omega) A31
                have b5 := b.2.2.2.2.2.1
                have b7 := b.2.2.2.2.2.2.2
                have P := hW.2.2 x6.toNat (by first | decide | omega)
                unfold sd_lw at P
                have q38 := q38
                rw [b5, b7] at q38
                refine ⟨g, ?_⟩
                exact (if_pos ⟨by
                  unfold sd_in
                  split at q38 <;> omega, (q50.2 F hF hW (by first | decide | omega) (by first | decide | omega)).mp (by first | decide | omega)⟩).symm
              exact L61 _ _ _ _ _ _ _ _ (by first | assumption | rfl) (by first | omega | assumption) (by first | omega | assumption) (by first | omega | assumption) (by first | omega | assumption) (by first | omega | assumption) (by first | omega | assumption) (by first | omega | assumption) (by first | omega | assumption)
    refine hgo (fun p => Nat.beq p 13 || Nat.beq p 61 || Nat.beq p 76 || Nat.beq p 95 || Nat.beq p 130) 80 0 _ [] M ?_
    exact L13 _ _ _ _ _ _ _ _ (Nat.lt_succ_self _) (by first | omega | assumption | exact fun F hF hW => ⟨⟨Int.le_refl _, hW.1.1⟩, Or.inl rfl, rfl⟩) (by first | omega | assumption | exact fun F hF hW => ⟨⟨Int.le_refl _, hW.1.1⟩, Or.inl rfl, rfl⟩) (by first | omega | assumption | exact fun F hF hW => ⟨⟨Int.le_refl _, hW.1.1⟩, Or.inl rfl, rfl⟩) (by first | omega | assumption | exact fun F hF hW => ⟨⟨Int.le_refl _, hW.1.1⟩, Or.inl rfl, rfl⟩)
theorem v3_X11_runs {fr lo i : Nat} {own : String} (h1 : 3 + 1 ≤ fr) (h2 : 8 + (9 + 11) + 64 ≤ lo) (h3 : .methodLink own i yX11_runs ∈ lw_tbl) : pz_cV fr lo own i k3_X11_runs :=
  pz_cVk (maxL := 9) (fr' := 3) (lo' := 64) 1 11 h3_X11_runs rfl ⟨(pz_nhc_RX11 yX11_runs rfl).1, (pz_nhc_RX11 yX11_runs rfl).2, pz_ds5⟩ ⟨pz_wq1089, pz_wq1087, pz_wq1088, pz_wq1⟩ (Or.inl ⟨TX11, 14, rfl⟩) (fun a M _ h => by
    have h : (match (generalizing := false) a with | [.inr (.inr (11, th)), .inl w] => pz_ic M | _ => False) := h
    split at h
    · exact ⟨_, _, rfl⟩
    · exact h.elim) h1 h2 h3
noncomputable def k3_X12_runs : pz_C := (2, 1, fun a M => (match a with | [.inr (.inr (12, th)), .inl w] => pz_im M | _ => False), fun a M r M' => (match a, r with | [.inr (.inr (12, th)), .inl w], some (.inl v) => (sd_wm M v (fun _ F => sd_rnv F w)) ∧ M = M' | _, _ => False))
noncomputable abbrev ct3_X12_runs : List (Bool × Nat × pz_C) := [(false, 54, k_X12_isIn), (true, 445, k3_X12_isRunning)]
set_option maxRecDepth 100000 in
set_option maxHeartbeats 4000000 in
theorem h3_X12_runs : pz_H yX12_runs cX12_runs 7 (some .int) k3_X12_runs 4 85 := by
  refine pz_mk (own := RX12) (tb := t_X12_runs) (fl := pz_flf fl_RX12) (ci := pz_cif ci_RX12) (ct := pz_ctf ct3_X12_runs) (rz := false) (pz_pfc_RX12 yX12_runs rfl) rfl t_X12_runs_ok (pz_flk fl_RX12_ok) (pz_cik ci_RX12_ok) ?_ ?_ (Or.inl ⟨rfl, rfl⟩) ?_ ?_
  · exact fun i k' h => pz_ctk (l := ct3_X12_runs) (P := fun b i k => b = true → pz_cV 4 85 RX12 i k) (List.forall_mem_cons.mpr ⟨((fun z => by cases z)), List.forall_mem_cons.mpr ⟨(fun _ => v3_X12_isRunning (by decide) (by decide) pz_wq1708), fun _ h => absurd h List.not_mem_nil⟩⟩) true i k' h rfl
  · exact fun i k' h => pz_ctk (l := ct3_X12_runs) (P := fun b i k => b = false → (pz_cS 4 85 RX12 i k ∨ (k = pz_kac ∧ 1 ≤ 4 ∧ 60 ≤ 85 ∧ Cond.methodLink RX12 i arraycopyName ∈ pz_tbl))) (List.forall_mem_cons.mpr ⟨(fun _ => Or.inl (s_X12_isIn (by decide) (by decide) (Or.inl pz_wq1217))), List.forall_mem_cons.mpr ⟨((fun z => by cases z)), fun _ h => absurd h List.not_mem_nil⟩⟩) false i k' h rfl
  · intro a M hlen hpre
    obtain ⟨th, w, rfl, hpre⟩ : ∃ th w, a = [.inr (.inr (12, th)), .inl w] ∧ (pz_im M) := by
      have hpre : (match (generalizing := false) a with | [.inr (.inr (12, th)), .inl w] => pz_im M | _ => False) := hpre
      split at hpre
      · exact ⟨_, _, rfl, hpre⟩
      · exact hpre.elim
    exact Nat.le_of_ble_eq_true rfl
  · intro a M hlen hcan hM hpre Ok hgo
    obtain ⟨th, w, rfl, hpre⟩ : ∃ th w, a = [.inr (.inr (12, th)), .inl w] ∧ (pz_im M) := by
      have hpre : (match (generalizing := false) a with | [.inr (.inr (12, th)), .inl w] => pz_im M | _ => False) := hpre
      split at hpre
      · exact ⟨_, _, rfl, hpre⟩
      · exact hpre.elim
    obtain ⟨k_th, hc_th⟩ := pz_tlm hcan
    have k_th : pz_kd th = 12 ∧ th < 231 := k_th
    have R_th := pz_kd12 k_th.1
    subst R_th
    clear k_th
    obtain ⟨k_w, hc_w⟩ := pz_tlm hc_th
    have l_w : -2147483648 ≤ w := k_w.1
    have u_w : w ≤ 2147483647 := k_w.2
    have hI : pz_im M := hpre
    have I88 := hI.1.1
    have L24 : ∀ (fu : Nat) (x2 : Int) (x3 : Int) (x4 : Int) (x5 : Int) (x6 : Int), (12 - x6).toNat < fu → (0 ≤ x6) → (-1 ≤ x5) → (x5 < 12) → (0 ≤ x4) → (x4 ≤ x6) → (x6 ≤ M 60 88) → (0 ≤ w) → (w ≤ 2) → (sd_wf (M 60) → sd_rnE (M 60) x4 x2 x3 x5 x6) → Ok 24 [some (.inr (.inr (12, 1))), some (.inl w), some (.inl x2), some (.inl x3), some (.inl x4), some (.inl x5), some (.inl x6)] [] M := by
      intro fu
      induction fu with
      | zero => exact fun _ _ _ _ _ hn => absurd hn (Nat.not_lt_zero _)
      | succ fu ih24 =>
        intro x2 x3 x4 x5 x6 hn24 g24_0 g24_1 g24_2 g24_3 g24_4 g24_5 g24_6 g24_7 g24_8
        have L110 : ∀ (x2 : Int) (x3 : Int) (x4 : Int) (x5 : Int) (x6 : Int), (0 ≤ x6) → (x6 < 12) → ((12 - x6).toNat < fu + 1) → (-1 ≤ x5) → (x5 < 12) → (x6 < M 60 88) → (0 ≤ x4) → (x4 ≤ x6 + 1) → (0 ≤ w) → (w ≤ 2) → (sd_wf (M 60) → sd_rnE (M 60) x4 x2 x3 x5 (x6 + 1)) → Ok 110 [some (.inr (.inr (12, 1))), some (.inl w), some (.inl x2), some (.inl x3), some (.inl x4), some (.inl x5), some (.inl x6)] [] M := by
          intro x2 x3 x4 x5 x6 g110_0 g110_1 g110_2 g110_3 g110_4 g110_5 g110_6 g110_7 g110_8 g110_9 g110_10
          refine hgo (fun p => Nat.beq p 24 || Nat.beq p 53 || Nat.beq p 72 || Nat.beq p 110) 79 110 _ _ _ ?_
          intro v110 e110 a110 b110
          rw [pz_wi (by first | decide | omega) (by first | decide | omega)] at e110
          have G24 : sd_wf (M 60) → sd_rnE (M 60) x4 x2 x3 x5 v110 := by
            rw [e110]
            assumption
          exact ih24 _ _ _ _ _ (by first | decide | omega) (by first | omega | assumption | exact fun w9 => ⟨⟨Int.le_refl _, w9.1.1⟩, Or.inl rfl, rfl⟩) (by first | omega | assumption | exact fun w9 => ⟨⟨Int.le_refl _, w9.1.1⟩, Or.inl rfl, rfl⟩) (by first | omega | assumption | exact fun w9 => ⟨⟨Int.le_refl _, w9.1.1⟩, Or.inl rfl, rfl⟩) (by first | omega | assumption | exact fun w9 => ⟨⟨Int.le_refl _, w9.1.1⟩, Or.inl rfl, rfl⟩) (by first | omega | assumption | exact fun w9 => ⟨⟨Int.le_refl _, w9.1.1⟩, Or.inl rfl, rfl⟩) (by first | omega | assumption | exact fun w9 => ⟨⟨Int.le_refl _, w9.1.1⟩, Or.inl rfl, rfl⟩) (by first | omega | assumption | exact fun w9 => ⟨⟨Int.le_refl _, w9.1.1⟩, Or.inl rfl, rfl⟩) (by first | omega | assumption | exact fun w9 => ⟨⟨Int.le_refl _, w9.1.1⟩, Or.inl rfl, rfl⟩) (by first | omega | assumption | exact fun w9 => ⟨⟨Int.le_refl _, w9.1.1⟩, Or.inl rfl, rfl⟩)
        have L72 : ∀ (x2 : Int) (x3 : Int) (x4 : Int) (x5 : Int) (x6 : Int), (0 ≤ x6) → (x6 < 12) → ((12 - x6).toNat < fu + 1) → (-1 ≤ x5) → (x5 < 12) → (x6 < M 60 88) → (0 ≤ x4) → (x4 ≤ x6 + 1) → (0 ≤ w) → (w ≤ 2) → (sd_wf (M 60) → sd_rnP (M 60) x4 x2 x3 x5 x6) → Ok 72 [some (.inr (.inr (12, 1))), some (.inl w), some (.inl x2), some (.inl x3), some (.inl x4), some (.inl x5), some (.inl x6)] [] M := by
          intro x2 x3 x4 x5 x6 g72_0 g72_1 g72_2 g72_3 g72_4 g72_5 g72_6 g72_7 g72_8 g72_9 g72_10
          refine hgo (fun p => Nat.beq p 24 || Nat.beq p 53 || Nat.beq p 72 || Nat.beq p 110) 79 72 _ _ _ ?_
          refine And.intro (fun h74 => ?_) (fun h74 => ?_)
          · skip
            have G110 : sd_wf (M 60) → sd_rnE (M 60) x4 x2 x3 x5 (x6 + 1) := fun w9 => by
              have g := (by assumption : sd_wf (M 60) → sd_rnP (M 60) x4 x2 x3 x5 x6) w9
              have pp := sd_rnP_p g
              exact sd_rnP_s g w9 (by first | decide | omega) (by first | decide | omega) rfl (Or.inr ⟨fun z => absurd (pp.2.mpr z.1) (by first | decide | omega), rfl⟩)
            exact L110 _ _ _ _ _ (by first | omega | assumption) (by first | omega | assumption) (by first | omega | assumption) (by first | omega | assumption) (by first | omega | assumption) (by first | omega | assumption) (by first | omega | assumption) (by first | omega | assumption) (by first | omega | assumption) (by first | omega | assumption) (by first | omega | assumption)
          · skip
            skip
            refine And.intro (fun h80 => ?_) (fun h80 => ?_)
            · skip
              have G110 : sd_wf (M 60) → sd_rnE (M 60) x4 x2 x3 x6 (x6 + 1) := fun w9 => by
                have g := (by assumption : sd_wf (M 60) → sd_rnP (M 60) x4 x2 x3 x5 x6) w9
                have pp := sd_rnP_p g
                exact sd_rnP_s g w9 (by first | decide | omega) (by first | decide | omega) rfl (Or.inl ⟨pp.2.mp (by first | decide | omega), Or.inl (by first | decide | omega), rfl⟩)
              exact L110 _ _ _ _ _ (by first | omega | assumption) (by first | omega | assumption) (by first | omega | assumption) (by first | omega | assumption) (by first | omega | assumption) (by first | omega | assumption) (by first | omega | assumption) (by first | omega | assumption) (by first | omega | assumption) (by first | omega | assumption) (by first | omega | assumption)
            · skip
              skip
              replace h80 : 0 ≤ x5 := by omega
              refine pz_nrc (c := 60) rfl ?_
              intro v91 e91 a91 b91
              rw [pz_wi (by first | decide | omega) (by first | decide | omega)] at e91
              clear a91 b91
              have lo92 : (0 : Int) ≤ v91 := by omega
              have tn92 : (((v91).toNat : Nat) : Int) = v91 := Int.toNat_of_nonneg lo92
              refine And.intro (lo92) (And.intro (show _ < (1725 : Int) from by omega) ?_)
              intro v92 e92 a92 b92
              rw [show v91.toNat = 16 + x6.toNat by omega] at e92
              refine pz_nrc (c := 60) rfl ?_
              intro v101 e101 a101 b101
              rw [pz_wi (by first | decide | omega) (by first | decide | omega)] at e101
              clear a101 b101
              have lo102 : (0 : Int) ≤ v101 := by omega
              have tn102 : (((v101).toNat : Nat) : Int) = v101 := Int.toNat_of_nonneg lo102
              refine And.intro (lo102) (And.intro (show _ < (1725 : Int) from by omega) ?_)
              intro v102 e102 a102 b102
              rw [show v101.toNat = 16 + x5.toNat by omega] at e102
              refine And.intro (fun h103 => ?_) (fun h103 => ?_)
              · skip
                have G110 : sd_wf (M 60) → sd_rnE (M 60) x4 x2 x3 x5 (x6 + 1) := fun w9 => by
                  have g := (by assumption : sd_wf (M 60) → sd_rnP (M 60) x4 x2 x3 x5 x6) w9
                  have pp := sd_rnP_p g
                  exact sd_rnP_s g w9 (by first | decide | omega) (by first | decide | omega) rfl (Or.inr ⟨fun z => by
                    have z2 := z.2
                    omega, rfl⟩)
                exact L110 _ _ _ _ _ (by first | omega | assumption) (by first | omega | assumption) (by first | omega | assumption) (by first | omega | assumption) (by first | omega | assumption) (by first | omega | assumption) (by first | omega | assumption) (by first | omega | assumption) (by first | omega | assumption) (by first | omega | assumption) (by first | omega | assumption)
              · skip
                have G110 : sd_wf (M 60) → sd_rnE (M 60) x4 x2 x3 x6 (x6 + 1) := fun w9 => by
                  have g := (by assumption : sd_wf (M 60) → sd_rnP (M 60) x4 x2 x3 x5 x6) w9
                  have pp := sd_rnP_p g
                  exact sd_rnP_s g w9 (by first | decide | omega) (by first | decide | omega) rfl (Or.inl ⟨pp.2.mp (by first | decide | omega), Or.inr (by first | decide | omega), rfl⟩)
                exact L110 _ _ _ _ _ (by first | omega | assumption) (by first | omega | assumption) (by first | omega | assumption) (by first | omega | assumption) (by first | omega | assumption) (by first | omega | assumption) (by first | omega | assumption) (by first | omega | assumption) (by first | omega | assumption) (by first | omega | assumption) (by first | omega | assumption)
        have L53 : ∀ (x2 : Int) (x3 : Int) (x4 : Int) (x5 : Int) (x6 : Int) (s0 : Int), (0 ≤ x6) → (x6 < 12) → ((12 - x6).toNat < fu + 1) → (-1 ≤ x5) → (x5 < 12) → (x6 < M 60 88) → (0 ≤ x4) → (x4 ≤ x6) → (0 ≤ s0) → (s0 ≤ x6 + 1) → (0 ≤ w) → (w ≤ 2) → (sd_wf (M 60) → sd_rnE (M 60) x4 x2 x3 x5 x6 ∧ s0 = if sd_fi (M 60) x6.toNat then x4 + 1 else 0) → Ok 53 [some (.inr (.inr (12, 1))), some (.inl w), some (.inl x2), some (.inl x3), some (.inl x4), some (.inl x5), some (.inl x6)] [.inl s0] M := by
          intro x2 x3 x4 x5 x6 s0 g53_0 g53_1 g53_2 g53_3 g53_4 g53_5 g53_6 g53_7 g53_8 g53_9 g53_10 g53_11 g53_12
          refine hgo (fun p => Nat.beq p 24 || Nat.beq p 53 || Nat.beq p 72 || Nat.beq p 110) 79 53 _ _ _ ?_
          refine And.intro (fun h58 => ?_) (fun h58 => ?_)
          · skip
            have G72 : sd_wf (M 60) → sd_rnP (M 60) s0 x2 x3 x5 x6 := fun w9 => by
              obtain ⟨g, d⟩ := (by assumption : sd_wf (M 60) → sd_rnE (M 60) x4 x2 x3 x5 x6 ∧ s0 = if sd_fi (M 60) x6.toNat then x4 + 1 else 0) w9
              exact ⟨x4, x2, x3, g, d, Or.inr ⟨by omega, rfl, rfl⟩⟩
            exact L72 _ _ _ _ _ (by first | omega | assumption) (by first | omega | assumption) (by first | omega | assumption) (by first | omega | assumption) (by first | omega | assumption) (by first | omega | assumption) (by first | omega | assumption) (by first | omega | assumption) (by first | omega | assumption) (by first | omega | assumption) (by first | omega | assumption)
          · skip
            skip
            intro v68 e68 a68 b68
            intro v70 e70 a70 b70
            rw [pz_wi (by first | decide | omega) (by first | decide | omega)] at e68
            rw [pz_wi (by first | decide | omega) (by first | decide | omega)] at e70
            have G72 : sd_wf (M 60) → sd_rnP (M 60) s0 s0 v70 x5 x6 := fun w9 => by
              obtain ⟨g, d⟩ := (by assumption : sd_wf (M 60) → sd_rnE (M 60) x4 x2 x3 x5 x6 ∧ s0 = if sd_fi (M 60) x6.toNat then x4 + 1 else 0) w9
              exact ⟨x4, x2, x3, g, d, Or.inl ⟨by omega, rfl, by omega⟩⟩
            exact L72 _ _ _ _ _ (by first | omega | assumption) (by first | omega | assumption) (by first | omega | assumption) (by first | omega | assumption) (by first | omega | assumption) (by first | omega | assumption) (by first | omega | assumption) (by first | omega | assumption) (by first | omega | assumption) (by first | omega | assumption) (by first | omega | assumption)
        refine hgo (fun p => Nat.beq p 24 || Nat.beq p 53 || Nat.beq p 72 || Nat.beq p 110) 79 24 _ _ _ ?_
        refine pz_nrc (c := 60) rfl ?_
        refine And.intro (by first | decide | omega) (And.intro (show _ < (1725 : Int) from by omega) ?_)
        intro v32 e32 a32 b32
        replace e32 : v32 = M 60 88 := e32
        have I32 : 0 ≤ v32 ∧ v32 ≤ 12 := by
          rw [e32]
          exact hI.1.1
        clear a32 b32
        refine And.intro (fun h33 => ?_) (fun h33 => ?_)
        · skip
          refine And.intro (fun h117 => ?_) (fun h117 => ?_)
          · skip
            replace h117 : 1 ≤ w := by omega
            refine And.intro (fun h126 => ?_) (fun h126 => ?_)
            · skip
              replace h126 : 2 ≤ w := by omega
              refine And.intro rfl ?_
              refine ⟨fun ls hl hq hW => ?_, rfl⟩
              show _ = sd_rnv (M 60) w
              have z := sd_rnE_z ((by assumption : sd_wf (M 60) → sd_rnE (M 60) x4 x2 x3 x5 x6) hW) hW (by first | decide | omega)
              unfold sd_rnv
              rw [← z]
              repeat first | rw [if_pos (by first | decide | omega)] | rw [if_neg (by first | decide | omega)]
            · skip
              refine And.intro rfl ?_
              refine ⟨fun ls hl hq hW => ?_, rfl⟩
              show _ = sd_rnv (M 60) w
              have z := sd_rnE_z ((by assumption : sd_wf (M 60) → sd_rnE (M 60) x4 x2 x3 x5 x6) hW) hW (by first | decide | omega)
              unfold sd_rnv
              rw [← z]
              repeat first | rw [if_pos (by first | decide | omega)] | rw [if_neg (by first | decide | omega)]
          · skip
            refine And.intro rfl ?_
            refine ⟨fun ls hl hq hW => ?_, rfl⟩
            show _ = sd_rnv (M 60) w
            have z := sd_rnE_z ((by assumption : sd_wf (M 60) → sd_rnE (M 60) x4 x2 x3 x5 x6) hW) hW (by first | decide | omega)
            unfold sd_rnv
            rw [← z]
            repeat first | rw [if_pos (by first | decide | omega)] | rw [if_neg (by first | decide | omega)]
        · skip
          refine And.intro (hI) ?_
          intro v39 M39 a39 b39 q39
          obtain ⟨q39, z39⟩ := q39
          subst z39
          refine And.intro (fun h42 => ?_) (fun h42 => ?_)
          · skip
            have G53 : sd_wf (M 60) → sd_rnE (M 60) x4 x2 x3 x5 x6 ∧ (0 : Int) = if sd_fi (M 60) x6.toNat then x4 + 1 else 0 := fun w9 => ⟨(by assumption : sd_wf (M 60) → sd_rnE (M 60) x4 x2 x3 x5 x6) w9, by
              have q := q39.2 (by first | decide | omega) (by first | decide | omega)
              first
                | (rw [if_pos (q.mp (by first | decide | omega))]; omega)
                | (rw [if_neg (fun z => absurd (q.mpr z) (by first | decide | omega))])⟩
            exact L53 _ _ _ _ _ _ (by first | omega | assumption) (by first | omega | assumption) (by first | omega | assumption) (by first | omega | assumption) (by first | omega | assumption) (by first | omega | assumption) (by first | omega | assumption) (by first | omega | assumption) (by first | omega | assumption) (by first | omega | assumption) (by first | omega | assumption) (by first | omega | assumption) (by first | omega | assumption)
          · skip
            skip
            intro v48 e48 a48 b48
            rw [pz_wi (by first | decide | omega) (by first | decide | omega)] at e48
            have G53 : sd_wf (M 60) → sd_rnE (M 60) x4 x2 x3 x5 x6 ∧ v48 = if sd_fi (M 60) x6.toNat then x4 + 1 else 0 := fun w9 => ⟨(by assumption : sd_wf (M 60) → sd_rnE (M 60) x4 x2 x3 x5 x6) w9, by
              have q := q39.2 (by first | decide | omega) (by first | decide | omega)
              first
                | (rw [if_pos (q.mp (by first | decide | omega))]; omega)
                | (rw [if_neg (fun z => absurd (q.mpr z) (by first | decide | omega))])⟩
            exact L53 _ _ _ _ _ _ (by first | omega | assumption) (by first | omega | assumption) (by first | omega | assumption) (by first | omega | assumption) (by first | omega | assumption) (by first | omega | assumption) (by first | omega | assumption) (by first | omega | assumption) (by first | omega | assumption) (by first | omega | assumption) (by first | omega | assumption) (by first | omega | assumption) (by first | omega | assumption)
    refine hgo (fun p => Nat.beq p 24 || Nat.beq p 53 || Nat.beq p 72 || Nat.beq p 110) 79 0 _ [] M ?_
    refine And.intro (True.intro) ?_
    intro v3 M3 a3 b3 q3
    obtain ⟨q3, z3⟩ := q3
    subst z3
    clear a3 b3
    refine And.intro (fun h6 => ?_) (fun h6 => ?_)
    · skip
      replace q3 := q3.resolve_right (fun z => h6 z.1)
      clear h6
      exact L24 _ _ _ _ _ _ (Nat.lt_succ_self _) (by first | omega | assumption | exact fun w9 => ⟨⟨Int.le_refl _, w9.1.1⟩, Or.inl rfl, rfl⟩) (by first | omega | assumption | exact fun w9 => ⟨⟨Int.le_refl _, w9.1.1⟩, Or.inl rfl, rfl⟩) (by first | omega | assumption | exact fun w9 => ⟨⟨Int.le_refl _, w9.1.1⟩, Or.inl rfl, rfl⟩) (by first | omega | assumption | exact fun w9 => ⟨⟨Int.le_refl _, w9.1.1⟩, Or.inl rfl, rfl⟩) (by first | omega | assumption | exact fun w9 => ⟨⟨Int.le_refl _, w9.1.1⟩, Or.inl rfl, rfl⟩) (by first | omega | assumption | exact fun w9 => ⟨⟨Int.le_refl _, w9.1.1⟩, Or.inl rfl, rfl⟩) (by first | omega | assumption | exact fun w9 => ⟨⟨Int.le_refl _, w9.1.1⟩, Or.inl rfl, rfl⟩) (by first | omega | assumption | exact fun w9 => ⟨⟨Int.le_refl _, w9.1.1⟩, Or.inl rfl, rfl⟩) (by first | omega | assumption | exact fun w9 => ⟨⟨Int.le_refl _, w9.1.1⟩, Or.inl rfl, rfl⟩)
    · skip
      replace q3 := q3.resolve_left (fun z => absurd (z.1.symm.trans h6) (by decide))
      clear h6
      refine And.intro rfl ?_
      refine ⟨fun ls hl hq hW => ?_, rfl⟩
      show _ = sd_rnv (M 60) w
      unfold sd_rnv
      rw [if_neg (by first | decide | omega), if_neg (by first | decide | omega), if_neg (by first | decide | omega)]
theorem v3_X12_runs {fr lo i : Nat} {own : String} (h1 : 4 + 1 ≤ fr) (h2 : 8 + (7 + 11) + 85 ≤ lo) (h3 : .methodLink own i yX12_runs ∈ lw_tbl) : pz_cV fr lo own i k3_X12_runs :=
  pz_cVk (maxL := 7) (fr' := 4) (lo' := 85) 1 12 h3_X12_runs rfl ⟨(pz_nhc_RX12 yX12_runs rfl).1, (pz_nhc_RX12 yX12_runs rfl).2, pz_ds5⟩ ⟨pz_wq1707, pz_wq1705, pz_wq1706, pz_wq13⟩ (Or.inl ⟨TX12, 28, rfl⟩) (fun a M _ h => by
    have h : (match (generalizing := false) a with | [.inr (.inr (12, th)), .inl w] => pz_im M | _ => False) := h
    split at h
    · exact ⟨_, _, rfl⟩
    · exact h.elim) h1 h2 h3
end
section
/-! GAME -/
def sd_hep (F : Nat → Int) (i : Nat) : Int := if F (76 + i) = -1 then F (93 + i) else 0
def sd_x (x y : Int) : Int := (Int32.ofInt x ^^^ Int32.ofInt y).toInt
theorem sd_hp_b {F : Nat → Int} {i : Nat} (w : sd_wf F) (hi : (i : Int) < F 88) : 0 ≤ sd_hep F i ∧ sd_hep F i ≤ 9 := by
  have p := (w.2.2 i hi).2.2.2.1
  unfold sd_hep
  split <;> omega
theorem sd_a3 {h : Int} (h0 : 0 ≤ h) (h9 : h ≤ 9) : (Int32.ofInt h &&& Int32.ofInt 3).toInt = h.tmod 4 := by
  have q : h = 0 ∨ h = 1 ∨ h = 2 ∨ h = 3 ∨ h = 4 ∨ h = 5 ∨ h = 6 ∨ h = 7 ∨ h = 8 ∨ h = 9 := by omega
  rcases q with rfl | rfl | rfl | rfl | rfl | rfl | rfl | rfl | rfl | rfl <;> decide +kernel
theorem sd_x4 {x y : Int} (hx : 0 ≤ x ∧ x ≤ 3) (hy : 0 ≤ y ∧ y ≤ 3) : 0 ≤ sd_x x y ∧ sd_x x y ≤ 3 := by
  have qx : x = 0 ∨ x = 1 ∨ x = 2 ∨ x = 3 := by omega
  have qy : y = 0 ∨ y = 1 ∨ y = 2 ∨ y = 3 := by omega
  rcases qx with rfl | rfl | rfl | rfl <;> rcases qy with rfl | rfl | rfl | rfl <;> decide +kernel
theorem sd_x0 {x y : Int} (hx : 0 ≤ x ∧ x ≤ 3) (hy : 0 ≤ y ∧ y ≤ 3) : sd_x x y = 0 ↔ x = y := by
  have qx : x = 0 ∨ x = 1 ∨ x = 2 ∨ x = 3 := by omega
  have qy : y = 0 ∨ y = 1 ∨ y = 2 ∨ y = 3 := by omega
  rcases qx with rfl | rfl | rfl | rfl <;> rcases qy with rfl | rfl | rfl | rfl <;> decide +kernel
theorem sd_m4 {h : Int} (h0 : 0 ≤ h) : 0 ≤ h.tmod 4 ∧ h.tmod 4 ≤ 3 := by
  rw [Int.tmod_eq_emod_of_nonneg h0]
  omega
def sd_gmx (F : Nat → Int) : Nat → Nat → Int → Int
  | 0, _, a => a
  | m + 1, i, a => sd_gmx F m (i + 1) (sd_x a ((sd_hep F i).tmod 4))
def sd_gmW (F : Nat → Int) : Int := sd_gmx F (sd_n F) 0 0
abbrev sd_gk (F : Nat → Int) (W : Int) (i : Nat) (k : Int) : Prop := k ≤ 3 ∧ k ≤ sd_hep F i ∧ sd_x W ((sd_hep F i).tmod 4) = (sd_hep F i - k).tmod 4
def sd_gms (F : Nat → Int) (W : Int) : Nat → Nat → Int × Int
  | 0, _ => (-1, -1)
  | m + 1, i => if sd_gk F W i 1 then ((i : Int), 1) else if sd_gk F W i 2 then ((i : Int), 2) else if sd_gk F W i 3 then ((i : Int), 3) else sd_gms F W m (i + 1)
def sd_gmv (F : Nat → Int) (w : Int) : Int := if 0 ≤ w ∧ w ≤ 1 then (if w = 0 then (sd_gms F (sd_gmW F) (sd_n F) 0).1 else (sd_gms F (sd_gmW F) (sd_n F) 0).2) else -1
def sd_gmE (F : Nat → Int) (a x : Int) : Prop := x ≤ F 88 ∧ (0 ≤ a ∧ a ≤ 3) ∧ sd_gmx F (sd_n F - x.toNat) x.toNat a = sd_gmW F
theorem sd_gmE_0 {F : Nat → Int} (w : sd_wf F) : sd_gmE F 0 0 := ⟨w.1.1, ⟨by decide, by decide⟩, rfl⟩
theorem sd_gmE_s {F : Nat → Int} {a x y a' : Int} (h : sd_gmE F a x) (w : sd_wf F) (h0 : 0 ≤ x) (hx : x < F 88) (hy : y = x + 1) (ha : a' = sd_x a ((sd_hep F x.toNat).tmod 4)) : sd_gmE F a' y := by
  obtain ⟨h1, h2, h3⟩ := h
  have k9 := sd_n_i w
  have b := sd_hp_b (i := x.toNat) w (by first | decide | omega)
  have c := sd_x4 h2 (sd_m4 b.1)
  rw [show sd_n F - x.toNat = (sd_n F - y.toNat) + 1 by omega] at h3
  have h3 : sd_gmx F (sd_n F - y.toNat) (x.toNat + 1) (sd_x a ((sd_hep F x.toNat).tmod 4)) = _ := h3
  rw [show x.toNat + 1 = y.toNat by omega, ← ha] at h3
  rw [← ha] at c
  exact ⟨by omega, c, h3⟩
theorem sd_gmE_z {F : Nat → Int} {a x : Int} (h : sd_gmE F a x) (w : sd_wf F) (hx : ¬ x < F 88) : a = sd_gmW F ∧ 0 ≤ a ∧ a ≤ 3 := by
  obtain ⟨h1, h2, h3⟩ := h
  have k9 := sd_n_i w
  rw [show sd_n F - x.toNat = 0 by omega] at h3
  exact ⟨h3, h2⟩
def sd_gmS (F : Nat → Int) (a x k : Int) : Prop := (a = sd_gmW F ∧ 0 ≤ a ∧ a ≤ 3) ∧ (x ≤ F 88 ∧ 1 ≤ k ∧ k ≤ 4) ∧ (∀ j : Int, 1 ≤ j → j < k → ¬ sd_gk F (sd_gmW F) x.toNat j) ∧ sd_gms F (sd_gmW F) (sd_n F - x.toNat) x.toNat = sd_gms F (sd_gmW F) (sd_n F) 0
theorem sd_gmS_0 {F : Nat → Int} {a : Int} (w : sd_wf F) (h : a = sd_gmW F ∧ 0 ≤ a ∧ a ≤ 3) : sd_gmS F a 0 1 := ⟨h, ⟨w.1.1, by decide, by decide⟩, fun j h1 h2 => absurd h1 (by first | decide | omega), rfl⟩
theorem sd_gmS_k {F : Nat → Int} {a x k y : Int} (h : sd_gmS F a x k) (n : ¬ sd_gk F (sd_gmW F) x.toNat k) (hk : k ≤ 3) (hy : y = k + 1) : sd_gmS F a x y := by
  obtain ⟨h0, h1, h2, h3⟩ := h
  refine ⟨h0, ⟨h1.1, by omega, by omega⟩, fun j j1 j2 => ?_, h3⟩
  by_cases q : j = k
  · rw [q]
    exact n
  · exact h2 j j1 (by first | decide | omega)
theorem sd_gmS_i {F : Nat → Int} {a x k y : Int} (h : sd_gmS F a x k) (w : sd_wf F) (n : ¬ (k ≤ 3 ∧ k ≤ sd_hep F x.toNat)) (h0 : 0 ≤ x) (hx : x < F 88) (hy : y = x + 1) : sd_gmS F a y 1 := by
  obtain ⟨ha, h1, h2, h3⟩ := h
  have k9 := sd_n_i w
  have g : ∀ j : Int, 1 ≤ j → ¬ sd_gk F (sd_gmW F) x.toNat j := fun j j1 z => by
    by_cases q : j < k
    · exact h2 j j1 q z
    · have z1 := z.1
      have z2 := z.2.1
      omega
  rw [show sd_n F - x.toNat = (sd_n F - y.toNat) + 1 by omega] at h3
  have h3 : (if sd_gk F (sd_gmW F) x.toNat 1 then ((x.toNat : Int), (1 : Int)) else if sd_gk F (sd_gmW F) x.toNat 2 then ((x.toNat : Int), 2) else if sd_gk F (sd_gmW F) x.toNat 3 then ((x.toNat : Int), 3) else sd_gms F (sd_gmW F) (sd_n F - y.toNat) (x.toNat + 1)) = _ := h3
  rw [if_neg (g 1 (by decide)), if_neg (g 2 (by decide)), if_neg (g 3 (by decide)), show x.toNat + 1 = y.toNat by omega] at h3
  exact ⟨ha, ⟨by omega, by decide, by decide⟩, fun j j1 j2 => absurd j1 (by first | decide | omega), h3⟩
theorem sd_gmS_y {F : Nat → Int} {a x k : Int} (h : sd_gmS F a x k) (w : sd_wf F) (n : sd_gk F (sd_gmW F) x.toNat k) (h0 : 0 ≤ x) (hx : x < F 88) : sd_gms F (sd_gmW F) (sd_n F) 0 = (x, k) := by
  obtain ⟨ha, h1, h2, h3⟩ := h
  have k9 := sd_n_i w
  have n1 := n.1
  rw [show sd_n F - x.toNat = (sd_n F - x.toNat - 1) + 1 by omega] at h3
  have h3 : (if sd_gk F (sd_gmW F) x.toNat 1 then ((x.toNat : Int), (1 : Int)) else if sd_gk F (sd_gmW F) x.toNat 2 then ((x.toNat : Int), 2) else if sd_gk F (sd_gmW F) x.toNat 3 then ((x.toNat : Int), 3) else sd_gms F (sd_gmW F) (sd_n F - x.toNat - 1) (x.toNat + 1)) = _ := h3
  rw [show ((x.toNat : Nat) : Int) = x by omega] at h3
  rw [← h3]
  have q : k = 1 ∨ k = 2 ∨ k = 3 := by omega
  rcases q with rfl | rfl | rfl
  · rw [if_pos n]
  · rw [if_neg (h2 1 (by decide) (by decide)), if_pos n]
  · rw [if_neg (h2 1 (by decide) (by decide)), if_neg (h2 2 (by decide) (by decide)), if_pos n]
theorem sd_gmS_z {F : Nat → Int} {a x k : Int} (h : sd_gmS F a x k) (w : sd_wf F) (hx : ¬ x < F 88) : sd_gms F (sd_gmW F) (sd_n F) 0 = (-1, -1) := by
  obtain ⟨ha, h1, h2, h3⟩ := h
  have k9 := sd_n_i w
  rw [show sd_n F - x.toNat = 0 by omega] at h3
  exact h3.symm
/-! SHARE -/
def sd_cg (F : Nat → Int) (i : Nat) : Int := if sd_in F i then max 0 (F (28 + i)) else 0
theorem sd_cg_b {F : Nat → Int} {i : Nat} (w : sd_wf F) (hi : (i : Int) < F 88) : 0 ≤ sd_cg F i ∧ sd_cg F i ≤ 999 := by
  have p := (w.2.2 i hi).2.2.1
  unfold sd_cg
  split <;> omega
def sd_gts (F : Nat → Int) (l : Int) : Nat → Nat → Int
  | 0, _ => 0
  | m + 1, i => min l (sd_cg F i) + sd_gts F l m (i + 1)
def sd_g (F : Nat → Int) (l : Int) : Int := sd_gts F l (sd_n F) 0
def sd_gtE (F : Nat → Int) (l a x : Int) : Prop := (x ≤ F 88 ∧ 0 ≤ a ∧ a ≤ 999 * x) ∧ a + sd_gts F l (sd_n F - x.toNat) x.toNat = sd_g F l
theorem sd_gtE_0 {F : Nat → Int} {l : Int} (w : sd_wf F) : sd_gtE F l 0 0 := ⟨⟨w.1.1, by decide, by decide⟩, Int.zero_add _⟩
theorem sd_gtE_s {F : Nat → Int} {l a x y a' g : Int} (h : sd_gtE F l a x) (w : sd_wf F) (hl : 0 ≤ l) (h0 : 0 ≤ x) (hx : x < F 88) (hy : y = x + 1) (hg : g = min l (sd_cg F x.toNat)) (ha : a' = pz_w (a + g)) : sd_gtE F l a' y := by
  obtain ⟨h1, h3⟩ := h
  have k9 := sd_n_i w
  have m := w.1
  have b := sd_cg_b (i := x.toNat) w (by first | decide | omega)
  rw [pz_wi (by first | decide | omega) (by first | decide | omega)] at ha
  rw [show sd_n F - x.toNat = (sd_n F - y.toNat) + 1 by omega] at h3
  have h3 : a + (min l (sd_cg F x.toNat) + sd_gts F l (sd_n F - y.toNat) (x.toNat + 1)) = _ := h3
  rw [show x.toNat + 1 = y.toNat by omega, ← hg] at h3
  exact ⟨⟨by omega, by omega, by omega⟩, by omega⟩
theorem sd_gtE_z {F : Nat → Int} {l a x : Int} (h : sd_gtE F l a x) (w : sd_wf F) (hx : ¬ x < F 88) : a = sd_g F l := by
  obtain ⟨h1, h3⟩ := h
  have k9 := sd_n_i w
  rw [show sd_n F - x.toNat = 0 by omega] at h3
  have h3 : a + 0 = _ := h3
  omega
theorem sd_gt_m {F : Nat → Int} {l k : Int} (h : l ≤ k) : ∀ m i : Nat, sd_gts F l m i ≤ sd_gts F k m i := by
  intro m
  induction m with
  | zero => exact fun i => Int.le_refl _
  | succ m ih =>
    intro i
    have a := ih (i + 1)
    show min l (sd_cg F i) + sd_gts F l m (i + 1) ≤ min k (sd_cg F i) + sd_gts F k m (i + 1)
    omega
theorem sd_gt_b {F : Nat → Int} {l : Int} (w : sd_wf F) (hl : 0 ≤ l) : ∀ m i : Nat, i + m ≤ sd_n F → 0 ≤ sd_gts F l m i ∧ sd_gts F l m i ≤ 999 * (m : Int) := by
  intro m
  have k9 := sd_n_i w
  induction m with
  | zero => exact fun i _ => ⟨Int.le_refl _, Int.le_refl _⟩
  | succ m ih =>
    intro i hi
    have a := ih (i + 1) (by first | decide | omega)
    have b := sd_cg_b (i := i) w (by first | decide | omega)
    show 0 ≤ min l (sd_cg F i) + sd_gts F l m (i + 1) ∧ min l (sd_cg F i) + sd_gts F l m (i + 1) ≤ 999 * ((m + 1 : Nat) : Int)
    omega
theorem sd_g_b {F : Nat → Int} {l : Int} (w : sd_wf F) (hl : 0 ≤ l) : 0 ≤ sd_g F l ∧ sd_g F l ≤ 11988 := by
  have b := sd_gt_b w hl (sd_n F) 0 (by first | decide | omega)
  have k9 := sd_n_i w
  have m := w.1
  unfold sd_g
  omega
theorem sd_g_0 {F : Nat → Int} (w : sd_wf F) : sd_g F 0 = 0 := by
  have h : ∀ m i : Nat, i + m ≤ sd_n F → sd_gts F 0 m i = 0 := by
    intro m
    have k9 := sd_n_i w
    induction m with
    | zero => exact fun i _ => rfl
    | succ m ih =>
      intro i hi
      have a := ih (i + 1) (by first | decide | omega)
      have b := sd_cg_b (i := i) w (by first | decide | omega)
      show min 0 (sd_cg F i) + sd_gts F 0 m (i + 1) = 0
      omega
  exact h _ _ (by first | decide | omega)
def sd_lvl (F : Nat → Int) (n L : Int) : Prop := (0 ≤ L ∧ L ≤ 999) ∧ sd_g F L ≤ n ∧ (L = 999 ∨ n < sd_g F (L + 1))
theorem sd_lvl_u {F : Nat → Int} {n L K : Int} (h : sd_lvl F n L) (h' : sd_lvl F n K) : L = K := by
  obtain ⟨h1, h2, h3⟩ := h
  obtain ⟨k1, k2, k3⟩ := h'
  by_cases q : L < K
  · have a := sd_gt_m (F := F) (show L + 1 ≤ K by omega) (sd_n F) 0
    unfold sd_g at *
    omega
  · by_cases q2 : K < L
    · have a := sd_gt_m (F := F) (show K + 1 ≤ L by omega) (sd_n F) 0
      unfold sd_g at *
      omega
    · omega
def sd_lvf (F : Nat → Int) (n : Int) : Nat → Int → Int
  | 0, l => l
  | m + 1, l => if sd_g F (l + 1) ≤ n then sd_lvf F n m (l + 1) else l
theorem sd_lev_l {F : Nat → Int} {n : Int} : ∀ (m : Nat) (l : Int), 0 ≤ l → l + m = 999 → sd_g F l ≤ n → sd_lvl F n (sd_lvf F n m l) := by
  intro m
  induction m with
  | zero => exact fun l h0 h1 h2 => ⟨⟨h0, by show l ≤ 999; omega⟩, h2, Or.inl (by show l = 999; omega)⟩
  | succ m ih =>
    intro l h0 h1 h2
    show sd_lvl F n (if sd_g F (l + 1) ≤ n then sd_lvf F n m (l + 1) else l)
    by_cases q : sd_g F (l + 1) ≤ n
    · rw [if_pos q]
      exact ih (l + 1) (by first | decide | omega) (by first | decide | omega) q
    · rw [if_neg q]
      exact ⟨⟨h0, by omega⟩, h2, Or.inr (by first | decide | omega)⟩
theorem sd_lev_u {F : Nat → Int} {n L : Int} (w : sd_wf F) (hn : 0 ≤ n) (h : sd_lvl F n L) : L = sd_lvf F n 999 0 := sd_lvl_u h (sd_lev_l 999 0 (by decide) (by decide) (by rw [sd_g_0 w]; exact hn))
def sd_lvE (F : Nat → Int) (n x : Int) : Prop := (0 ≤ x ∧ x ≤ 999) ∧ sd_g F x ≤ n
theorem sd_lvE_0 {F : Nat → Int} {n : Int} (w : sd_wf F) (hn : 0 ≤ n) : sd_lvE F n 0 := ⟨⟨by decide, by decide⟩, by rw [sd_g_0 w]; exact hn⟩
def sd_gr (F : Nat → Int) (L : Int) : Nat → Int
  | 0 => 0
  | k + 1 => sd_gr F L k + (if L < sd_cg F k then 1 else 0)
theorem sd_gr_b {F : Nat → Int} {L : Int} : ∀ k : Nat, 0 ≤ sd_gr F L k ∧ sd_gr F L k ≤ k := by
  intro k
  induction k with
  | zero => exact ⟨Int.le_refl _, Int.le_refl _⟩
  | succ k ih =>
    show 0 ≤ sd_gr F L k + (if L < sd_cg F k then 1 else 0) ∧ sd_gr F L k + (if L < sd_cg F k then 1 else 0) ≤ ((k + 1 : Nat) : Int)
    split <;> omega
def sd_shL (F : Nat → Int) (n L a x : Int) : Prop := (0 ≤ x ∧ x ≤ F 88) ∧ sd_lvl F n L ∧ a = n - sd_g F L - sd_gr F L x.toNat
theorem sd_shL_0 {F : Nat → Int} {n L a g : Int} (w : sd_wf F) (hn : 0 ≤ n ∧ n ≤ 9999) (h : sd_lvl F n L) (hg : g = sd_g F L) (ha : a = pz_w (n - g)) : sd_shL F n L a 0 := by
  have b := sd_g_b w h.1.1
  rw [pz_wi (by first | decide | omega) (by first | decide | omega)] at ha
  refine ⟨⟨by decide, w.1.1⟩, h, ?_⟩
  show a = n - sd_g F L - 0
  omega
theorem sd_shL_s {F : Nat → Int} {n L a x y d a' : Int} (h : sd_shL F n L a x) (w : sd_wf F) (hn : 0 ≤ n ∧ n ≤ 9999) (hx : x < F 88) (hy : y = x + 1) (hd : d = if L < sd_cg F x.toNat then 1 else 0) (ha : a' = pz_w (a - d)) : sd_shL F n L a' y := by
  obtain ⟨h1, h2, h3⟩ := h
  have b := sd_g_b w h2.1.1
  have c := sd_gr_b (F := F) (L := L) x.toNat
  have m := w.1
  have d9 : 0 ≤ d ∧ d ≤ 1 := by
    rw [hd]
    split <;> omega
  rw [pz_wi (by first | decide | omega) (by first | decide | omega)] at ha
  refine ⟨⟨by omega, by omega⟩, h2, ?_⟩
  rw [show y.toNat = x.toNat + 1 by omega]
  show a' = n - sd_g F L - (sd_gr F L x.toNat + (if L < sd_cg F x.toNat then 1 else 0))
  rw [← hd]
  omega
theorem sd_shL_n {F : Nat → Int} {n L a x y : Int} (h : sd_shL F n L a x) (w : sd_wf F) (hx : x < F 88) (hy : y = x + 1) (hd : ¬ L < sd_cg F x.toNat) : sd_shL F n L a y := by
  obtain ⟨h1, h2, h3⟩ := h
  refine ⟨⟨by omega, by omega⟩, h2, ?_⟩
  rw [show y.toNat = x.toNat + 1 by omega]
  show a = n - sd_g F L - (sd_gr F L x.toNat + (if L < sd_cg F x.toNat then 1 else 0))
  rw [if_neg hd]
  omega
def sd_shw (F : Nat → Int) (i : Nat) (n L : Int) : Int := if L < sd_cg F i ∧ 0 < n - sd_g F L - sd_gr F L i then L + 1 else min L (sd_cg F i)
def sd_shv (F : Nat → Int) (n i : Int) : Int := if (0 ≤ n ∧ n ≤ 9999) ∧ (0 ≤ i ∧ i < F 88) ∧ n ≤ sd_g F 999 then sd_shw F i.toNat n (sd_lvf F n 999 0) else -1
end
section
noncomputable def k3_X11_heap : pz_C := (2, 1, fun a M => (match a with | [.inr (.inr (11, th)), .inl i] => pz_ic M | _ => False), fun a M r M' => (match a, r with | [.inr (.inr (11, th)), .inl i], some (.inl v) => (sd_q M 71 (fun F => 0 ≤ i → i < F 88 → v = sd_hep F i.toNat)) ∧ M = M' | _, _ => False))
noncomputable abbrev ct3_X11_heap : List (Bool × Nat × pz_C) := [(true, 107, k_X0_at)]
set_option maxRecDepth 100000 in
set_option maxHeartbeats 4000000 in
theorem h3_X11_heap : pz_H yX11_heap cX11_heap 3 (some .int) k3_X11_heap 1 21 := by
  refine pz_mk (own := RX11) (tb := t_X11_heap) (fl := pz_flf fl_RX11) (ci := pz_cif ci_RX11) (ct := pz_ctf ct3_X11_heap) (rz := false) (pz_pfc_RX11 yX11_heap rfl) rfl t_X11_heap_ok (pz_flk fl_RX11_ok) (pz_cik ci_RX11_ok) ?_ ?_ (Or.inl ⟨rfl, rfl⟩) ?_ ?_
  · exact fun i k' h => pz_ctk (l := ct3_X11_heap) (P := fun b i k => b = true → pz_cV 1 21 RX11 i k) (List.forall_mem_cons.mpr ⟨(fun _ => v_X0_at (by decide) (by decide) pz_wq428), fun _ h => absurd h List.not_mem_nil⟩) true i k' h rfl
  · exact fun i k' h => pz_ctk (l := ct3_X11_heap) (P := fun b i k => b = false → (pz_cS 1 21 RX11 i k ∨ (k = pz_kac ∧ 1 ≤ 1 ∧ 60 ≤ 21 ∧ Cond.methodLink RX11 i arraycopyName ∈ pz_tbl))) (List.forall_mem_cons.mpr ⟨((fun z => by cases z)), fun _ h => absurd h List.not_mem_nil⟩) false i k' h rfl
  · intro a M hlen hpre
    obtain ⟨th, i, rfl, hpre⟩ : ∃ th i, a = [.inr (.inr (11, th)), .inl i] ∧ (pz_ic M) := by
      have hpre : (match (generalizing := false) a with | [.inr (.inr (11, th)), .inl i] => pz_ic M | _ => False) := hpre
      split at hpre
      · exact ⟨_, _, rfl, hpre⟩
      · exact hpre.elim
    exact Nat.le_of_ble_eq_true rfl
  · intro a M hlen hcan hM hpre Ok hgo
    obtain ⟨th, i, rfl, hpre⟩ : ∃ th i, a = [.inr (.inr (11, th)), .inl i] ∧ (pz_ic M) := by
      have hpre : (match (generalizing := false) a with | [.inr (.inr (11, th)), .inl i] => pz_ic M | _ => False) := hpre
      split at hpre
      · exact ⟨_, _, rfl, hpre⟩
      · exact hpre.elim
    obtain ⟨k_th, hc_th⟩ := pz_tlm hcan
    have k_th : pz_kd th = 11 ∧ th < 231 := k_th
    have R_th := pz_kd11 k_th.1
    subst R_th
    obtain ⟨k_i, hc_i⟩ := pz_tlm hc_th
    have l_i : -2147483648 ≤ i := k_i.1
    have u_i : i ≤ 2147483647 := k_i.2
    have hI : pz_ic M := hpre
    refine hgo (fun _ => false) 16 0 _ [] M ?_
    refine pz_nrc (c := 71) rfl ?_
    refine And.intro (True.intro) ?_
    intro r5 M5 k5 q5
    have R5 := pz_kd5 k5
    obtain ⟨q5, z5⟩ := q5
    subst z5
    have A5 := pz_at_lk (c := 71) (⟨by decide, by decide⟩ : 71 ≤ 71 ∧ 71 < 80) q5
    intro v10 e10 a10 b10
    refine And.intro (fun h14 => ?_) (fun h14 => ?_)
    · skip
      refine And.intro rfl ?_
      refine ⟨fun F hF hW h0 h1 => ?_, rfl⟩
      have b := sd_at (⟨by decide, by decide⟩ : 71 ≤ 71 ∧ 71 < 80) hF hW h0 h1 A5
      have b3 := b.2.2.2.1
      have b7 := b.2.2.2.2.2.2.2
      have hm := hW.1
      unfold sd_hep
      first
        | (rw [if_pos (by first | decide | omega)]
           omega)
        | (rw [if_neg (by first | decide | omega)]; done)
    · skip
      intro v18 e18 a18 b18
      refine And.intro rfl ?_
      refine ⟨fun F hF hW h0 h1 => ?_, rfl⟩
      have b := sd_at (⟨by decide, by decide⟩ : 71 ≤ 71 ∧ 71 < 80) hF hW h0 h1 A5
      have b3 := b.2.2.2.1
      have b7 := b.2.2.2.2.2.2.2
      have hm := hW.1
      unfold sd_hep
      first
        | (rw [if_pos (by first | decide | omega)]
           omega)
        | (rw [if_neg (by first | decide | omega)]; done)
theorem v3_X11_heap {fr lo i : Nat} {own : String} (h1 : 1 + 1 ≤ fr) (h2 : 8 + (3 + 11) + 21 ≤ lo) (h3 : .methodLink own i yX11_heap ∈ lw_tbl) : pz_cV fr lo own i k3_X11_heap :=
  pz_cVk (maxL := 3) (fr' := 1) (lo' := 21) 1 11 h3_X11_heap rfl ⟨(pz_nhc_RX11 yX11_heap rfl).1, (pz_nhc_RX11 yX11_heap rfl).2, pz_ds5⟩ ⟨pz_wq1056, pz_wq1055, pz_ws3, pz_wq1⟩ (Or.inl ⟨TX11, 14, rfl⟩) (fun a M _ h => by
    have h : (match (generalizing := false) a with | [.inr (.inr (11, th)), .inl i] => pz_ic M | _ => False) := h
    split at h
    · exact ⟨_, _, rfl⟩
    · exact h.elim) h1 h2 h3
noncomputable def k3_X11_game : pz_C := (2, 1, fun a M => (match a with | [.inr (.inr (11, th)), .inl w] => pz_ic M | _ => False), fun a M r M' => (match a, r with | [.inr (.inr (11, th)), .inl w], some (.inl v) => (sd_wc M v (fun _ F => sd_gmv F w)) ∧ M = M' | _, _ => False))
noncomputable abbrev ct3_X11_game : List (Bool × Nat × pz_C) := [(false, 137, k_X11_within), (true, 328, k3_X11_heap), (false, 292, k_J9_min_7cf53)]
set_option maxRecDepth 100000 in
set_option maxHeartbeats 4000000 in
theorem h3_X11_game : pz_H yX11_game cX11_game 5 (some .int) k3_X11_game 2 43 := by
  refine pz_mk (own := RX11) (tb := t_X11_game) (fl := pz_flf fl_RX11) (ci := pz_cif ci_RX11) (ct := pz_ctf ct3_X11_game) (rz := false) (pz_pfc_RX11 yX11_game rfl) rfl t_X11_game_ok (pz_flk fl_RX11_ok) (pz_cik ci_RX11_ok) ?_ ?_ (Or.inl ⟨rfl, rfl⟩) ?_ ?_
  · exact fun i k' h => pz_ctk (l := ct3_X11_game) (P := fun b i k => b = true → pz_cV 2 43 RX11 i k) (List.forall_mem_cons.mpr ⟨((fun z => by cases z)), List.forall_mem_cons.mpr ⟨(fun _ => v3_X11_heap (by decide) (by decide) pz_wq1053), List.forall_mem_cons.mpr ⟨((fun z => by cases z)), fun _ h => absurd h List.not_mem_nil⟩⟩⟩) true i k' h rfl
  · exact fun i k' h => pz_ctk (l := ct3_X11_game) (P := fun b i k => b = false → (pz_cS 2 43 RX11 i k ∨ (k = pz_kac ∧ 1 ≤ 2 ∧ 60 ≤ 43 ∧ Cond.methodLink RX11 i arraycopyName ∈ pz_tbl))) (List.forall_mem_cons.mpr ⟨(fun _ => Or.inl (s_X11_within (by decide) (by decide) (Or.inl pz_wq425))), List.forall_mem_cons.mpr ⟨((fun z => by cases z)), List.forall_mem_cons.mpr ⟨(fun _ => Or.inl (s_J9_min_7cf53 (by decide) (by decide) (Or.inl pz_wq979))), fun _ h => absurd h List.not_mem_nil⟩⟩⟩) false i k' h rfl
  · intro a M hlen hpre
    obtain ⟨th, w, rfl, hpre⟩ : ∃ th w, a = [.inr (.inr (11, th)), .inl w] ∧ (pz_ic M) := by
      have hpre : (match (generalizing := false) a with | [.inr (.inr (11, th)), .inl w] => pz_ic M | _ => False) := hpre
      split at hpre
      · exact ⟨_, _, rfl, hpre⟩
      · exact hpre.elim
    exact Nat.le_of_ble_eq_true rfl
  · intro a M hlen hcan hM hpre Ok hgo
    obtain ⟨th, w, rfl, hpre⟩ : ∃ th w, a = [.inr (.inr (11, th)), .inl w] ∧ (pz_ic M) := by
      have hpre : (match (generalizing := false) a with | [.inr (.inr (11, th)), .inl w] => pz_ic M | _ => False) := hpre
      split at hpre
      · exact ⟨_, _, rfl, hpre⟩
      · exact hpre.elim
    obtain ⟨k_th, hc_th⟩ := pz_tlm hcan
    have k_th : pz_kd th = 11 ∧ th < 231 := k_th
    have R_th := pz_kd11 k_th.1
    subst R_th
    obtain ⟨k_w, hc_w⟩ := pz_tlm hc_th
    have l_w : -2147483648 ≤ w := k_w.1
    have u_w : w ≤ 2147483647 := k_w.2
    have hI : pz_ic M := hpre
    have L44 : ∀ (fo : Nat) (x2 : Int) (x3 : Int) (d4 : Option pz_V), (12 - x3).toNat < fo → (0 ≤ x3) → (0 ≤ w ∧ w ≤ 1) → (sd_q M 71 (fun F => sd_gmS F x2 x3 1)) → Ok 44 [some (.inr (.inr (11, 0))), some (.inl w), some (.inl x2), some (.inl x3), d4] [] M := by
      intro fo
      induction fo with
      | zero => exact fun _ _ _ hn => absurd hn (Nat.not_lt_zero _)
      | succ fo ih44 =>
        intro x2 x3 d4 hn44 g44_0 g44_1 g44_2
        have L58 : ∀ (fu : Nat) (x2 : Int) (x3 : Int) (x4 : Int), (4 - x4).toNat < fu → (0 ≤ x4) → (0 ≤ x3) → (x3 < 12) → ((12 - x3).toNat < fo + 1) → (0 ≤ w ∧ w ≤ 1) → (x3 < M 71 3) → (1 ≤ x4 ∧ x4 ≤ 4) → (sd_q M 71 (fun F => sd_gmS F x2 x3 x4)) → Ok 58 [some (.inr (.inr (11, 0))), some (.inl w), some (.inl x2), some (.inl x3), some (.inl x4)] [] M := by
          intro fu
          induction fu with
          | zero => exact fun _ _ _ hn => absurd hn (Nat.not_lt_zero _)
          | succ fu ih58 =>
            intro x2 x3 x4 hn58 g58_0 g58_1 g58_2 g58_3 g58_4 g58_5 g58_6 g58_7
            refine hgo (fun p => Nat.beq p 15 || Nat.beq p 44 || Nat.beq p 58) 72 58 _ _ _ ?_
            refine And.intro (hI) ?_
            intro v63 M63 a63 b63 q63
            obtain ⟨q63, z63⟩ := q63
            subst z63
            refine And.intro (True.intro) ?_
            intro v66 M66 a66 b66 q66
            obtain ⟨q66, z66⟩ := q66
            subst z66
            refine And.intro (fun h69 => ?_) (fun h69 => ?_)
            · skip
              intro v112 e112 a112 b112
              rw [pz_wi (by first | decide | omega) (by first | decide | omega)] at e112
              have G44 : sd_q M 71 (fun F => sd_gmS F x2 v112 1) := fun F hF hW => by
                have hn := hF.1
                have b6 := q63 F hF hW (by first | decide | omega) (by first | decide | omega)
                exact sd_gmS_i ((by assumption : sd_q M 71 (fun F => sd_gmS F x2 x3 x4)) F hF hW) hW (by first | decide | omega) (by first | decide | omega) (by first | decide | omega) e112
              exact ih44 _ _ _ (by first | decide | omega) (by first | omega | assumption) (by first | omega | assumption) (by first | omega | assumption)
            · skip
              refine And.intro (hI) ?_
              intro v75 M75 a75 b75 q75
              obtain ⟨q75, z75⟩ := q75
              subst z75
              intro v79 e79 a79 b79
              intro v80 e80 a80 b80
              refine And.intro (hI) ?_
              intro v83 M83 a83 b83 q83
              obtain ⟨q83, z83⟩ := q83
              subst z83
              intro v88 e88 a88 b88
              intro v90 e90 a90 b90
              intro v91 e91 a91 b91
              refine And.intro (fun h92 => ?_) (fun h92 => ?_)
              · skip
                have G92 : sd_q M 71 (fun F => sd_gmS F x2 x3 (x4 + 1)) := fun F hF hW => by
                  have hn := hF.1
                  have hb := sd_hp_b (i := x3.toNat) hW (by first | decide | omega)
                  have b1 := q75 F hF hW (by first | decide | omega) (by first | decide | omega)
                  have b2 := q83 F hF hW (by first | decide | omega) (by first | decide | omega)
                  have b6 := q63 F hF hW (by first | decide | omega) (by first | decide | omega)
                  have g := (by assumption : sd_q M 71 (fun F => sd_gmS F x2 x3 x4)) F hF hW
                  have g0 := g.1
                  have x4b := g.2.1
                  have z80 : v80 = sd_x x2 ((sd_hep F x3.toNat).tmod 4) := by
                    rw [e80, e79, b1, sd_a3 hb.1 hb.2]
                    rfl
                  have z88 : v88 = sd_hep F x3.toNat - x4 := by
                    rw [e88, b2, pz_wi (by first | decide | omega) (by first | decide | omega)]
                  have z90 : v90 = (sd_hep F x3.toNat - x4).tmod 4 := by
                    rw [e90, z88, sd_a3 (by first | decide | omega) (by first | decide | omega)]
                  have m1 := sd_m4 hb.1
                  have m2 := sd_m4 (h := sd_hep F x3.toNat - x4) (by first | decide | omega)
                  have y := sd_x4 g0.2 m1
                  have z91 : v91 = sd_x v80 v90 := e91
                  have w := sd_x0 y m2
                  rw [← z80, ← z90, ← z91] at w
                  rw [g0.1] at z80
                  exact sd_gmS_k g (fun z => by
                    have z3 := z.2.2
                    omega) (by first | decide | omega) rfl
                intro v106 e106 a106 b106
                rw [pz_wi (by first | decide | omega) (by first | decide | omega)] at e106
                have G58 : sd_q M 71 (fun F => sd_gmS F x2 x3 v106) := by
                  rw [e106]
                  assumption
                exact ih58 _ _ _ (by first | decide | omega) (by first | omega | assumption) (by first | omega | assumption) (by first | omega | assumption) (by first | omega | assumption) (by first | omega | assumption) (by first | omega | assumption) (by first | omega | assumption) (by first | omega | assumption)
              · skip
                have G92 : sd_q M 71 (fun F => sd_gms F (sd_gmW F) (sd_n F) 0 = (x3, x4)) := fun F hF hW => by
                  have hn := hF.1
                  have hb := sd_hp_b (i := x3.toNat) hW (by first | decide | omega)
                  have b1 := q75 F hF hW (by first | decide | omega) (by first | decide | omega)
                  have b2 := q83 F hF hW (by first | decide | omega) (by first | decide | omega)
                  have b6 := q63 F hF hW (by first | decide | omega) (by first | decide | omega)
                  have g := (by assumption : sd_q M 71 (fun F => sd_gmS F x2 x3 x4)) F hF hW
                  have g0 := g.1
                  have x4b := g.2.1
                  have z80 : v80 = sd_x x2 ((sd_hep F x3.toNat).tmod 4) := by
                    rw [e80, e79, b1, sd_a3 hb.1 hb.2]
                    rfl
                  have z88 : v88 = sd_hep F x3.toNat - x4 := by
                    rw [e88, b2, pz_wi (by first | decide | omega) (by first | decide | omega)]
                  have z90 : v90 = (sd_hep F x3.toNat - x4).tmod 4 := by
                    rw [e90, z88, sd_a3 (by first | decide | omega) (by first | decide | omega)]
                  have m1 := sd_m4 hb.1
                  have m2 := sd_m4 (h := sd_hep F x3.toNat - x4) (by first | decide | omega)
                  have y := sd_x4 g0.2 m1
                  have z91 : v91 = sd_x v80 v90 := e91
                  have w := sd_x0 y m2
                  rw [← z80, ← z90, ← z91] at w
                  rw [g0.1] at z80
                  exact sd_gmS_y g hW ⟨by omega, by omega, by omega⟩ (by first | decide | omega) (by first | decide | omega)
                refine And.intro (fun h96 => ?_) (fun h96 => ?_)
                · skip
                  refine And.intro rfl ?_
                  refine ⟨fun ls l1 F hT hF hW => ?_, rfl⟩
                  have hn := hF.1
                  have hm := hW.1
                  show _ = sd_gmv F w
                  have z := (by assumption : sd_q M 71 (fun F => sd_gms F (sd_gmW F) (sd_n F) 0 = (x3, x4))) F hF hW
                  unfold sd_gmv
                  rw [if_pos (by first | decide | omega), z]
                  first
                    | (rw [if_pos (by first | decide | omega)]; done)
                    | (rw [if_neg (by first | decide | omega)]; done)
                · skip
                  refine And.intro rfl ?_
                  refine ⟨fun ls l1 F hT hF hW => ?_, rfl⟩
                  have hn := hF.1
                  have hm := hW.1
                  show _ = sd_gmv F w
                  have z := (by assumption : sd_q M 71 (fun F => sd_gms F (sd_gmW F) (sd_n F) 0 = (x3, x4))) F hF hW
                  unfold sd_gmv
                  rw [if_pos (by first | decide | omega), z]
                  first
                    | (rw [if_pos (by first | decide | omega)]; done)
                    | (rw [if_neg (by first | decide | omega)]; done)
        refine hgo (fun p => Nat.beq p 15 || Nat.beq p 44 || Nat.beq p 58) 72 44 _ _ _ ?_
        refine pz_nrc (c := 71) rfl ?_
        intro v49 e49 a49 b49
        have I49 := hI.1 71 (by first | decide | omega) (by first | decide | omega)
        refine And.intro (fun h52 => ?_) (fun h52 => ?_)
        · skip
          refine And.intro rfl ?_
          refine ⟨fun ls l1 F hT hF hW => ?_, rfl⟩
          have hn := hF.1
          have hm := hW.1
          show _ = sd_gmv F w
          unfold sd_gmv
          rw [if_pos (by first | decide | omega), sd_gmS_z ((by assumption : sd_q M 71 (fun F => sd_gmS F x2 x3 1)) F hF hW) hW (by first | decide | omega)]
          split <;> rfl
        · skip
          exact L58 _ _ _ _ (Nat.lt_succ_self _) (by first | omega | assumption) (by first | omega | assumption) (by first | omega | assumption) (by first | omega | assumption) (by first | omega | assumption) (by first | omega | assumption) (by first | omega | assumption) (by first | omega | assumption)
    have L15 : ∀ (fu : Nat) (x2 : Int) (x3 : Int) (d4 : Option pz_V), (12 - x3).toNat < fu → (0 ≤ x3) → (0 ≤ w ∧ w ≤ 1) → (sd_q M 71 (fun F => sd_gmE F x2 x3)) → Ok 15 [some (.inr (.inr (11, 0))), some (.inl w), some (.inl x2), some (.inl x3), d4] [] M := by
      intro fu
      induction fu with
      | zero => exact fun _ _ _ hn => absurd hn (Nat.not_lt_zero _)
      | succ fu ih15 =>
        intro x2 x3 d4 hn15 g15_0 g15_1 g15_2
        refine hgo (fun p => Nat.beq p 15 || Nat.beq p 44 || Nat.beq p 58) 72 15 _ _ _ ?_
        refine pz_nrc (c := 71) rfl ?_
        intro v20 e20 a20 b20
        have I20 := hI.1 71 (by first | decide | omega) (by first | decide | omega)
        refine And.intro (fun h23 => ?_) (fun h23 => ?_)
        · skip
          have G44 : sd_q M 71 (fun F => sd_gmS F x2 0 1) := fun F hF hW => by
            have hn := hF.1
            exact sd_gmS_0 hW (sd_gmE_z ((by assumption : sd_q M 71 (fun F => sd_gmE F x2 x3)) F hF hW) hW (by first | decide | omega))
          exact L44 _ _ _ _ (Nat.lt_succ_self _) (by first | omega | assumption) (by first | omega | assumption) (by first | omega | assumption)
        · skip
          skip
          refine And.intro (hI) ?_
          intro v29 M29 a29 b29 q29
          obtain ⟨q29, z29⟩ := q29
          subst z29
          intro v33 e33 a33 b33
          intro v34 e34 a34 b34
          intro v36 e36 a36 b36
          rw [pz_wi (by first | decide | omega) (by first | decide | omega)] at e36
          have G15 : sd_q M 71 (fun F => sd_gmE F v34 v36) := fun F hF hW => by
            have hn := hF.1
            have hb := sd_hp_b (i := x3.toNat) hW (by first | decide | omega)
            exact sd_gmE_s ((by assumption : sd_q M 71 (fun F => sd_gmE F x2 x3)) F hF hW) hW (by first | decide | omega) (by first | decide | omega) e36 (by
              rw [e34, e33, q29 F hF hW (by first | decide | omega) (by first | decide | omega), sd_a3 hb.1 hb.2]
              rfl)
          exact ih15 _ _ _ (by first | decide | omega) (by first | omega | assumption | exact fun F hF hW => sd_gmE_0 hW) (by first | omega | assumption | exact fun F hF hW => sd_gmE_0 hW) (by first | omega | assumption | exact fun F hF hW => sd_gmE_0 hW)
    refine hgo (fun p => Nat.beq p 15 || Nat.beq p 44 || Nat.beq p 58) 72 0 _ [] M ?_
    refine And.intro (True.intro) ?_
    intro v3 M3 a3 b3 q3
    obtain ⟨q3, z3⟩ := q3
    subst z3
    refine And.intro (fun h6 => ?_) (fun h6 => ?_)
    · skip
      have GP : 0 ≤ w ∧ w ≤ 1 := by
        split at q3 <;> omega
      exact L15 _ _ _ _ (Nat.lt_succ_self _) (by first | omega | assumption | exact fun F hF hW => sd_gmE_0 hW) (by first | omega | assumption | exact fun F hF hW => sd_gmE_0 hW) (by first | omega | assumption | exact fun F hF hW => sd_gmE_0 hW)
    · skip
      skip
      refine And.intro rfl ?_
      refine ⟨fun ls l1 F hT hF hW => ?_, rfl⟩
      have hn := hF.1
      have hm := hW.1
      show _ = sd_gmv F w
      unfold sd_gmv
      rw [if_neg (fun z => by split at q3 <;> omega)]
theorem v3_X11_game {fr lo i : Nat} {own : String} (h1 : 2 + 1 ≤ fr) (h2 : 8 + (5 + 11) + 43 ≤ lo) (h3 : .methodLink own i yX11_game ∈ lw_tbl) : pz_cV fr lo own i k3_X11_game :=
  pz_cVk (maxL := 5) (fr' := 2) (lo' := 43) 1 11 h3_X11_game rfl ⟨(pz_nhc_RX11 yX11_game rfl).1, (pz_nhc_RX11 yX11_game rfl).2, pz_ds5⟩ ⟨pz_wq1052, pz_wq1050, pz_wq1051, pz_wq1⟩ (Or.inl ⟨TX11, 14, rfl⟩) (fun a M _ h => by
    have h : (match (generalizing := false) a with | [.inr (.inr (11, th)), .inl w] => pz_ic M | _ => False) := h
    split at h
    · exact ⟨_, _, rfl⟩
    · exact h.elim) h1 h2 h3
noncomputable def k3_X12_heapOf : pz_C := (2, 1, fun a M => (match a with | [.inr (.inr (12, th)), .inl i] => pz_im M ∧ 0 ≤ i ∧ i < 12 | _ => False), fun a M r M' => (match a, r with | [.inr (.inr (12, th)), .inl i], some (.inl v) => (v = sd_hep (M 60) i.toNat) ∧ M = M' | _, _ => False))
noncomputable abbrev ct3_X12_heapOf : List (Bool × Nat × pz_C) := [(true, 65, k3_X12_hasMoved)]
set_option maxRecDepth 100000 in
set_option maxHeartbeats 4000000 in
theorem h3_X12_heapOf : pz_H yX12_heapOf cX12_heapOf 2 (some .int) k3_X12_heapOf 1 21 := by
  refine pz_mk (own := RX12) (tb := t_X12_heapOf) (fl := pz_flf fl_RX12) (ci := pz_cif ci_RX12) (ct := pz_ctf ct3_X12_heapOf) (rz := false) (pz_pfc_RX12 yX12_heapOf rfl) rfl t_X12_heapOf_ok (pz_flk fl_RX12_ok) (pz_cik ci_RX12_ok) ?_ ?_ (Or.inl ⟨rfl, rfl⟩) ?_ ?_
  · exact fun i k' h => pz_ctk (l := ct3_X12_heapOf) (P := fun b i k => b = true → pz_cV 1 21 RX12 i k) (List.forall_mem_cons.mpr ⟨(fun _ => v3_X12_hasMoved (by decide) (by decide) pz_wq1423), fun _ h => absurd h List.not_mem_nil⟩) true i k' h rfl
  · exact fun i k' h => pz_ctk (l := ct3_X12_heapOf) (P := fun b i k => b = false → (pz_cS 1 21 RX12 i k ∨ (k = pz_kac ∧ 1 ≤ 1 ∧ 60 ≤ 21 ∧ Cond.methodLink RX12 i arraycopyName ∈ pz_tbl))) (List.forall_mem_cons.mpr ⟨((fun z => by cases z)), fun _ h => absurd h List.not_mem_nil⟩) false i k' h rfl
  · intro a M hlen hpre
    obtain ⟨th, i, rfl, hpre⟩ : ∃ th i, a = [.inr (.inr (12, th)), .inl i] ∧ (pz_im M ∧ 0 ≤ i ∧ i < 12) := by
      have hpre : (match (generalizing := false) a with | [.inr (.inr (12, th)), .inl i] => pz_im M ∧ 0 ≤ i ∧ i < 12 | _ => False) := hpre
      split at hpre
      · exact ⟨_, _, rfl, hpre⟩
      · exact hpre.elim
    exact Nat.le_of_ble_eq_true rfl
  · intro a M hlen hcan hM hpre Ok hgo
    obtain ⟨th, i, rfl, hpre⟩ : ∃ th i, a = [.inr (.inr (12, th)), .inl i] ∧ (pz_im M ∧ 0 ≤ i ∧ i < 12) := by
      have hpre : (match (generalizing := false) a with | [.inr (.inr (12, th)), .inl i] => pz_im M ∧ 0 ≤ i ∧ i < 12 | _ => False) := hpre
      split at hpre
      · exact ⟨_, _, rfl, hpre⟩
      · exact hpre.elim
    obtain ⟨k_th, hc_th⟩ := pz_tlm hcan
    have k_th : pz_kd th = 12 ∧ th < 231 := k_th
    have R_th := pz_kd12 k_th.1
    subst R_th
    clear k_th
    obtain ⟨k_i, hc_i⟩ := pz_tlm hc_th
    have l_i : -2147483648 ≤ i := k_i.1
    have u_i : i ≤ 2147483647 := k_i.2
    have hI : pz_im M := hpre.1
    refine hgo (fun _ => false) 15 0 _ [] M ?_
    refine And.intro (And.intro hI (And.intro (by first | decide | omega) (by first | decide | omega))) ?_
    intro v2 M2 a2 b2 q2
    obtain ⟨q2, z2⟩ := q2
    subst z2
    clear a2 b2
    refine And.intro (fun h5 => ?_) (fun h5 => ?_)
    · skip
      replace q2 := q2.resolve_left (fun z => absurd (z.1.symm.trans h5) (by decide))
      refine pz_nrc (c := 60) rfl ?_
      intro v19 e19 a19 b19
      rw [pz_wi (by first | decide | omega) (by first | decide | omega)] at e19
      clear a19 b19
      have lo20 : (0 : Int) ≤ v19 := by omega
      have tn20 : (((v19).toNat : Nat) : Int) = v19 := Int.toNat_of_nonneg lo20
      refine And.intro (lo20) (And.intro (show _ < (1725 : Int) from by omega) ?_)
      intro v20 e20 a20 b20
      rw [show v19.toNat = 93 + i.toNat by omega] at e20
      refine And.intro rfl ?_
      refine ⟨?_, rfl⟩
      rw [show (76 + i).toNat = 76 + i.toNat by omega] at q2
      unfold sd_hep
      first
        | (rw [if_pos (by first | decide | omega)]
           exact e20)
        | (rw [if_neg (by first | decide | omega)]; done)
    · skip
      replace q2 := q2.resolve_right (fun z => h5 z.1)
      refine And.intro rfl ?_
      refine ⟨?_, rfl⟩
      rw [show (76 + i).toNat = 76 + i.toNat by omega] at q2
      unfold sd_hep
      first
        | (rw [if_pos (by first | decide | omega)]
           exact e20)
        | (rw [if_neg (by first | decide | omega)]; done)
theorem v3_X12_heapOf {fr lo i : Nat} {own : String} (h1 : 1 + 1 ≤ fr) (h2 : 8 + (2 + 11) + 21 ≤ lo) (h3 : .methodLink own i yX12_heapOf ∈ lw_tbl) : pz_cV fr lo own i k3_X12_heapOf :=
  pz_cVk (maxL := 2) (fr' := 1) (lo' := 21) 1 12 h3_X12_heapOf rfl ⟨(pz_nhc_RX12 yX12_heapOf rfl).1, (pz_nhc_RX12 yX12_heapOf rfl).2, pz_ds5⟩ ⟨pz_wq1756, pz_wq1755, pz_ws87, pz_wq13⟩ (Or.inl ⟨TX12, 28, rfl⟩) (fun a M _ h => by
    have h : (match (generalizing := false) a with | [.inr (.inr (12, th)), .inl i] => pz_im M ∧ 0 ≤ i ∧ i < 12 | _ => False) := h
    split at h
    · exact ⟨_, _, rfl⟩
    · exact h.elim) h1 h2 h3
noncomputable def k3_X12_game : pz_C := (2, 1, fun a M => (match a with | [.inr (.inr (12, th)), .inl w] => pz_im M | _ => False), fun a M r M' => (match a, r with | [.inr (.inr (12, th)), .inl w], some (.inl v) => (sd_wm M v (fun _ F => sd_gmv F w)) ∧ M = M' | _, _ => False))
noncomputable abbrev ct3_X12_game : List (Bool × Nat × pz_C) := [(false, 54, k_X12_isIn), (true, 461, k3_X12_heapOf), (false, 47, k_X12_lesser)]
set_option maxRecDepth 100000 in
set_option maxHeartbeats 4000000 in
theorem h3_X12_game : pz_H yX12_game cX12_game 5 (some .int) k3_X12_game 2 42 := by
  refine pz_mk (own := RX12) (tb := t_X12_game) (fl := pz_flf fl_RX12) (ci := pz_cif ci_RX12) (ct := pz_ctf ct3_X12_game) (rz := false) (pz_pfc_RX12 yX12_game rfl) rfl t_X12_game_ok (pz_flk fl_RX12_ok) (pz_cik ci_RX12_ok) ?_ ?_ (Or.inl ⟨rfl, rfl⟩) ?_ ?_
  · exact fun i k' h => pz_ctk (l := ct3_X12_game) (P := fun b i k => b = true → pz_cV 2 42 RX12 i k) (List.forall_mem_cons.mpr ⟨((fun z => by cases z)), List.forall_mem_cons.mpr ⟨(fun _ => v3_X12_heapOf (by decide) (by decide) pz_wq1753), List.forall_mem_cons.mpr ⟨((fun z => by cases z)), fun _ h => absurd h List.not_mem_nil⟩⟩⟩) true i k' h rfl
  · exact fun i k' h => pz_ctk (l := ct3_X12_game) (P := fun b i k => b = false → (pz_cS 2 42 RX12 i k ∨ (k = pz_kac ∧ 1 ≤ 2 ∧ 60 ≤ 42 ∧ Cond.methodLink RX12 i arraycopyName ∈ pz_tbl))) (List.forall_mem_cons.mpr ⟨(fun _ => Or.inl (s_X12_isIn (by decide) (by decide) (Or.inl pz_wq1217))), List.forall_mem_cons.mpr ⟨((fun z => by cases z)), List.forall_mem_cons.mpr ⟨(fun _ => Or.inl (s_X12_lesser (by decide) (by decide) (Or.inl pz_wq1462))), fun _ h => absurd h List.not_mem_nil⟩⟩⟩) false i k' h rfl
  · intro a M hlen hpre
    obtain ⟨th, w, rfl, hpre⟩ : ∃ th w, a = [.inr (.inr (12, th)), .inl w] ∧ (pz_im M) := by
      have hpre : (match (generalizing := false) a with | [.inr (.inr (12, th)), .inl w] => pz_im M | _ => False) := hpre
      split at hpre
      · exact ⟨_, _, rfl, hpre⟩
      · exact hpre.elim
    exact Nat.le_of_ble_eq_true rfl
  · intro a M hlen hcan hM hpre Ok hgo
    obtain ⟨th, w, rfl, hpre⟩ : ∃ th w, a = [.inr (.inr (12, th)), .inl w] ∧ (pz_im M) := by
      have hpre : (match (generalizing := false) a with | [.inr (.inr (12, th)), .inl w] => pz_im M | _ => False) := hpre
      split at hpre
      · exact ⟨_, _, rfl, hpre⟩
      · exact hpre.elim
    obtain ⟨k_th, hc_th⟩ := pz_tlm hcan
    have k_th : pz_kd th = 12 ∧ th < 231 := k_th
    have R_th := pz_kd12 k_th.1
    subst R_th
    clear k_th
    obtain ⟨k_w, hc_w⟩ := pz_tlm hc_th
    have l_w : -2147483648 ≤ w := k_w.1
    have u_w : w ≤ 2147483647 := k_w.2
    have hI : pz_im M := hpre
    have I88 := hI.1.1
    have L44 : ∀ (fo : Nat) (x2 : Int) (x3 : Int) (d4 : Option pz_V), (12 - x3).toNat < fo → (0 ≤ x3) → (0 ≤ w ∧ w ≤ 1) → (sd_wf (M 60) → sd_gmS (M 60) x2 x3 1) → Ok 44 [some (.inr (.inr (12, 1))), some (.inl w), some (.inl x2), some (.inl x3), d4] [] M := by
      intro fo
      induction fo with
      | zero => exact fun _ _ _ hn => absurd hn (Nat.not_lt_zero _)
      | succ fo ih44 =>
        intro x2 x3 d4 hn44 g44_0 g44_1 g44_2
        have L58 : ∀ (fu : Nat) (x2 : Int) (x3 : Int) (x4 : Int), (4 - x4).toNat < fu → (0 ≤ x4) → (0 ≤ x3) → (x3 < 12) → ((12 - x3).toNat < fo + 1) → (0 ≤ w ∧ w ≤ 1) → (x3 < M 60 88) → (1 ≤ x4 ∧ x4 ≤ 4) → (sd_wf (M 60) → sd_gmS (M 60) x2 x3 x4) → Ok 58 [some (.inr (.inr (12, 1))), some (.inl w), some (.inl x2), some (.inl x3), some (.inl x4)] [] M := by
          intro fu
          induction fu with
          | zero => exact fun _ _ _ hn => absurd hn (Nat.not_lt_zero _)
          | succ fu ih58 =>
            intro x2 x3 x4 hn58 g58_0 g58_1 g58_2 g58_3 g58_4 g58_5 g58_6 g58_7
            refine hgo (fun p => Nat.beq p 15 || Nat.beq p 44 || Nat.beq p 58) 73 58 _ _ _ ?_
            refine And.intro (And.intro hI (And.intro (by first | decide | omega) (by first | decide | omega))) ?_
            intro v63 M63 a63 b63 q63
            obtain ⟨q63, z63⟩ := q63
            subst z63
            refine And.intro (True.intro) ?_
            intro v66 M66 a66 b66 q66
            obtain ⟨q66, z66⟩ := q66
            subst z66
            refine And.intro (fun h69 => ?_) (fun h69 => ?_)
            · skip
              intro v111 e111 a111 b111
              rw [pz_wi (by first | decide | omega) (by first | decide | omega)] at e111
              have G44 : sd_wf (M 60) → sd_gmS (M 60) x2 v111 1 := fun hW => sd_gmS_i ((by assumption : sd_wf (M 60) → sd_gmS (M 60) x2 x3 x4) hW) hW (by first | decide | omega) (by first | decide | omega) (by first | decide | omega) e111
              exact ih44 _ _ _ (by first | decide | omega) (by first | omega | assumption) (by first | omega | assumption) (by first | omega | assumption)
            · skip
              refine And.intro (And.intro hI (And.intro (by first | decide | omega) (by first | decide | omega))) ?_
              intro v75 M75 a75 b75 q75
              obtain ⟨q75, z75⟩ := q75
              subst z75
              refine And.intro (by first | decide | omega) ?_
              intro v79 e79 a79 b79
              intro v80 e80 a80 b80
              refine And.intro (And.intro hI (And.intro (by first | decide | omega) (by first | decide | omega))) ?_
              intro v83 M83 a83 b83 q83
              obtain ⟨q83, z83⟩ := q83
              subst z83
              intro v88 e88 a88 b88
              refine And.intro (by first | decide | omega) ?_
              intro v90 e90 a90 b90
              refine And.intro (fun h91 => ?_) (fun h91 => ?_)
              · skip
                have G91 : sd_wf (M 60) → sd_gmS (M 60) x2 x3 (x4 + 1) := fun hW => by
                  have hb := sd_hp_b (i := x3.toNat) hW (by first | decide | omega)
                  have g := (by assumption : sd_wf (M 60) → sd_gmS (M 60) x2 x3 x4) hW
                  have g0 := g.1
                  have x4b := g.2.1
                  have m1 := sd_m4 hb.1
                  have z80 : v80 = sd_x x2 ((sd_hep (M 60) x3.toNat).tmod 4) := by
                    rw [e80, e79, q75, pz_wi (by first | decide | omega) (by first | decide | omega)]
                    rfl
                  have z88 : v88 = sd_hep (M 60) x3.toNat - x4 := by
                    rw [e88, q83, pz_wi (by first | decide | omega) (by first | decide | omega)]
                  have m2 := sd_m4 (h := sd_hep (M 60) x3.toNat - x4) (by first | decide | omega)
                  have z90 : v90 = (sd_hep (M 60) x3.toNat - x4).tmod 4 := by
                    rw [e90, z88, pz_wi (by first | decide | omega) (by first | decide | omega)]
                  rw [g0.1] at z80
                  exact sd_gmS_k g (fun z => by
                    have z3 := z.2.2
                    omega) (by first | decide | omega) rfl
                intro v105 e105 a105 b105
                rw [pz_wi (by first | decide | omega) (by first | decide | omega)] at e105
                have G58 : sd_wf (M 60) → sd_gmS (M 60) x2 x3 v105 := by
                  rw [e105]
                  assumption
                exact ih58 _ _ _ (by first | decide | omega) (by first | omega | assumption) (by first | omega | assumption) (by first | omega | assumption) (by first | omega | assumption) (by first | omega | assumption) (by first | omega | assumption) (by first | omega | assumption) (by first | omega | assumption)
              · skip
                have G91 : sd_wf (M 60) → sd_gms (M 60) (sd_gmW (M 60)) (sd_n (M 60)) 0 = (x3, x4) := fun hW => by
                  have hb := sd_hp_b (i := x3.toNat) hW (by first | decide | omega)
                  have g := (by assumption : sd_wf (M 60) → sd_gmS (M 60) x2 x3 x4) hW
                  have g0 := g.1
                  have x4b := g.2.1
                  have m1 := sd_m4 hb.1
                  have z80 : v80 = sd_x x2 ((sd_hep (M 60) x3.toNat).tmod 4) := by
                    rw [e80, e79, q75, pz_wi (by first | decide | omega) (by first | decide | omega)]
                    rfl
                  have z88 : v88 = sd_hep (M 60) x3.toNat - x4 := by
                    rw [e88, q83, pz_wi (by first | decide | omega) (by first | decide | omega)]
                  have m2 := sd_m4 (h := sd_hep (M 60) x3.toNat - x4) (by first | decide | omega)
                  have z90 : v90 = (sd_hep (M 60) x3.toNat - x4).tmod 4 := by
                    rw [e90, z88, pz_wi (by first | decide | omega) (by first | decide | omega)]
                  rw [g0.1] at z80
                  exact sd_gmS_y g hW ⟨by omega, by omega, by omega⟩ (by first | decide | omega) (by first | decide | omega)
                refine And.intro (fun h95 => ?_) (fun h95 => ?_)
                · skip
                  replace h95 : 1 ≤ w := by omega
                  refine And.intro rfl ?_
                  refine ⟨fun ls hl hq hW => ?_, rfl⟩
                  have hm := hW.1
                  show _ = sd_gmv (M 60) w
                  have z := (by assumption : sd_wf (M 60) → sd_gms (M 60) (sd_gmW (M 60)) (sd_n (M 60)) 0 = (x3, x4)) hW
                  unfold sd_gmv
                  rw [if_pos (by first | decide | omega), z]
                  first
                    | (rw [if_pos (by first | decide | omega)]; done)
                    | (rw [if_neg (by first | decide | omega)]; done)
                · skip
                  refine And.intro rfl ?_
                  refine ⟨fun ls hl hq hW => ?_, rfl⟩
                  have hm := hW.1
                  show _ = sd_gmv (M 60) w
                  have z := (by assumption : sd_wf (M 60) → sd_gms (M 60) (sd_gmW (M 60)) (sd_n (M 60)) 0 = (x3, x4)) hW
                  unfold sd_gmv
                  rw [if_pos (by first | decide | omega), z]
                  first
                    | (rw [if_pos (by first | decide | omega)]; done)
                    | (rw [if_neg (by first | decide | omega)]; done)
        refine hgo (fun p => Nat.beq p 15 || Nat.beq p 44 || Nat.beq p 58) 73 44 _ _ _ ?_
        refine pz_nrc (c := 60) rfl ?_
        refine And.intro (by first | decide | omega) (And.intro (show _ < (1725 : Int) from by omega) ?_)
        intro v51 e51 a51 b51
        replace e51 : v51 = M 60 88 := e51
        have I51 : 0 ≤ v51 ∧ v51 ≤ 12 := by
          rw [e51]
          exact hI.1.1
        clear a51 b51
        refine And.intro (fun h52 => ?_) (fun h52 => ?_)
        · skip
          refine And.intro rfl ?_
          refine ⟨fun ls hl hq hW => ?_, rfl⟩
          have hm := hW.1
          show _ = sd_gmv (M 60) w
          unfold sd_gmv
          rw [if_pos (by first | decide | omega), sd_gmS_z ((by assumption : sd_wf (M 60) → sd_gmS (M 60) x2 x3 1) hW) hW (by first | decide | omega)]
          split <;> rfl
        · skip
          exact L58 _ _ _ _ (Nat.lt_succ_self _) (by first | omega | assumption) (by first | omega | assumption) (by first | omega | assumption) (by first | omega | assumption) (by first | omega | assumption) (by first | omega | assumption) (by first | omega | assumption) (by first | omega | assumption)
    have L15 : ∀ (fu : Nat) (x2 : Int) (x3 : Int) (d4 : Option pz_V), (12 - x3).toNat < fu → (0 ≤ x3) → (0 ≤ w ∧ w ≤ 1) → (sd_wf (M 60) → sd_gmE (M 60) x2 x3) → Ok 15 [some (.inr (.inr (12, 1))), some (.inl w), some (.inl x2), some (.inl x3), d4] [] M := by
      intro fu
      induction fu with
      | zero => exact fun _ _ _ hn => absurd hn (Nat.not_lt_zero _)
      | succ fu ih15 =>
        intro x2 x3 d4 hn15 g15_0 g15_1 g15_2
        refine hgo (fun p => Nat.beq p 15 || Nat.beq p 44 || Nat.beq p 58) 73 15 _ _ _ ?_
        refine pz_nrc (c := 60) rfl ?_
        refine And.intro (by first | decide | omega) (And.intro (show _ < (1725 : Int) from by omega) ?_)
        intro v22 e22 a22 b22
        replace e22 : v22 = M 60 88 := e22
        have I22 : 0 ≤ v22 ∧ v22 ≤ 12 := by
          rw [e22]
          exact hI.1.1
        clear a22 b22
        refine And.intro (fun h23 => ?_) (fun h23 => ?_)
        · skip
          have G44 : sd_wf (M 60) → sd_gmS (M 60) x2 0 1 := fun hW => sd_gmS_0 hW (sd_gmE_z ((by assumption : sd_wf (M 60) → sd_gmE (M 60) x2 x3) hW) hW (by first | decide | omega))
          exact L44 _ _ _ _ (Nat.lt_succ_self _) (by first | omega | assumption) (by first | omega | assumption) (by first | omega | assumption)
        · skip
          skip
          refine And.intro (And.intro hI (And.intro (by first | decide | omega) (by first | decide | omega))) ?_
          intro v29 M29 a29 b29 q29
          obtain ⟨q29, z29⟩ := q29
          subst z29
          refine And.intro (by first | decide | omega) ?_
          intro v33 e33 a33 b33
          intro v34 e34 a34 b34
          intro v36 e36 a36 b36
          rw [pz_wi (by first | decide | omega) (by first | decide | omega)] at e36
          have G15 : sd_wf (M 60) → sd_gmE (M 60) v34 v36 := fun hW => by
            have hb := sd_hp_b (i := x3.toNat) hW (by first | decide | omega)
            have m1 := sd_m4 hb.1
            exact sd_gmE_s ((by assumption : sd_wf (M 60) → sd_gmE (M 60) x2 x3) hW) hW (by first | decide | omega) (by first | decide | omega) e36 (by
              rw [e34, e33, q29, pz_wi (by first | decide | omega) (by first | decide | omega)]
              rfl)
          exact ih15 _ _ _ (by first | decide | omega) (by first | omega | assumption | exact fun hW => sd_gmE_0 hW) (by first | omega | assumption | exact fun hW => sd_gmE_0 hW) (by first | omega | assumption | exact fun hW => sd_gmE_0 hW)
    refine hgo (fun p => Nat.beq p 15 || Nat.beq p 44 || Nat.beq p 58) 73 0 _ [] M ?_
    refine And.intro (True.intro) ?_
    intro v3 M3 a3 b3 q3
    obtain ⟨q3, z3⟩ := q3
    subst z3
    clear a3 b3
    refine And.intro (fun h6 => ?_) (fun h6 => ?_)
    · skip
      have GP : 0 ≤ w ∧ w ≤ 1 := by omega
      replace q3 := q3.resolve_right (fun z => h6 z.1)
      clear h6
      exact L15 _ _ _ _ (Nat.lt_succ_self _) (by first | omega | assumption | exact fun hW => sd_gmE_0 hW) (by first | omega | assumption | exact fun hW => sd_gmE_0 hW) (by first | omega | assumption | exact fun hW => sd_gmE_0 hW)
    · skip
      skip
      replace q3 := q3.resolve_left (fun z => absurd (z.1.symm.trans h6) (by decide))
      clear h6
      refine And.intro rfl ?_
      refine ⟨fun ls hl hq hW => ?_, rfl⟩
      have hm := hW.1
      show _ = sd_gmv (M 60) w
      unfold sd_gmv
      rw [if_neg (by first | decide | omega)]
theorem v3_X12_game {fr lo i : Nat} {own : String} (h1 : 2 + 1 ≤ fr) (h2 : 8 + (5 + 11) + 42 ≤ lo) (h3 : .methodLink own i yX12_game ∈ lw_tbl) : pz_cV fr lo own i k3_X12_game :=
  pz_cVk (maxL := 5) (fr' := 2) (lo' := 42) 1 12 h3_X12_game rfl ⟨(pz_nhc_RX12 yX12_game rfl).1, (pz_nhc_RX12 yX12_game rfl).2, pz_ds5⟩ ⟨pz_wq1752, pz_wq1750, pz_wq1751, pz_wq13⟩ (Or.inl ⟨TX12, 28, rfl⟩) (fun a M _ h => by
    have h : (match (generalizing := false) a with | [.inr (.inr (12, th)), .inl w] => pz_im M | _ => False) := h
    split at h
    · exact ⟨_, _, rfl⟩
    · exact h.elim) h1 h2 h3
end
