noncomputable def k3_X8_findOrder : pz_C := (1, 0, fun a M => (match a with | [.inr (.inr (8, th))] => pz_ic M | _ => False), fun a M r M' => (match a, r with | [.inr (.inr (8, th))], none => (∀ f g : Nat → Int, sg_fg f g (M 7 3) → sg_ph M f g (M 7 3) → 0 ≤ M 7 1 → M 7 1 ≤ 240 → sg_TL f g (M 7 1) M (sg_2 (M 7 3)) → sg_fe f g (M 7 1) 0 (sg_S (M 7 3).toNat) → sg_oq f g (M 7 3).toNat (M 7 1) (sg_on M') (M 7 3).toNat ∧ ∀ q : Nat, (q : Int) < M 7 3 → 0 ≤ M' 58 q) ∧ pq_pr sg_PC M M' | _, _ => False))
noncomputable abbrev ct3_X8_findOrder : List (Bool × Nat × pz_C) := [(false, 62, k_J9_max_7cf53), (false, 28, k_J9_min_7cf53)]
set_option maxRecDepth 100000 in
set_option maxHeartbeats 4000000 in
theorem h3_X8_findOrder : pz_H yX8_findOrder cX8_findOrder 7 none k3_X8_findOrder 1 21 := by
  refine pz_mk (own := RX8) (tb := t_X8_findOrder) (fl := pz_flf fl_RX8) (ci := fun _ => none) (ct := pz_ctf ct3_X8_findOrder) (rz := false) (by decide +kernel) rfl t_X8_findOrder_ok (pz_flk fl_RX8_ok) (fun i v h => by cases h) ?_ ?_ (rfl) ?_ ?_
  · exact fun i k' h => pz_ctk (l := ct3_X8_findOrder) (P := fun b i k => b = true → pz_cV 1 21 RX8 i k) (List.forall_mem_cons.mpr ⟨((fun z => by cases z)), List.forall_mem_cons.mpr ⟨((fun z => by cases z)), fun _ h => absurd h List.not_mem_nil⟩⟩) true i k' h rfl
  · exact fun i k' h => pz_ctk (l := ct3_X8_findOrder) (P := fun b i k => b = false → (pz_cS 1 21 RX8 i k ∨ (k = pz_kac ∧ 1 ≤ 1 ∧ 60 ≤ 21 ∧ Cond.methodLink RX8 i arraycopyName ∈ pz_tbl))) (List.forall_mem_cons.mpr ⟨(fun _ => Or.inl (s_J9_max_7cf53 (by decide) (by decide) (Or.inl (pz_mt 1011 (by decide +kernel))))), List.forall_mem_cons.mpr ⟨(fun _ => Or.inl (s_J9_min_7cf53 (by decide) (by decide) (Or.inl (pz_mt 1004 (by decide +kernel))))), fun _ h => absurd h List.not_mem_nil⟩⟩) false i k' h rfl
  · intro a M hlen hpre
    obtain ⟨th, rfl, hpre⟩ : ∃ th, a = [.inr (.inr (8, th))] ∧ (pz_ic M) := by
      have hpre : (match (generalizing := false) a with | [.inr (.inr (8, th))] => pz_ic M | _ => False) := hpre
      split at hpre
      · exact ⟨_, rfl, hpre⟩
      · exact hpre.elim
    exact Nat.le_of_ble_eq_true rfl
  · intro a M hlen hcan hM hpre Ok hgo
    obtain ⟨th, rfl, hpre⟩ : ∃ th, a = [.inr (.inr (8, th))] ∧ (pz_ic M) := by
      have hpre : (match (generalizing := false) a with | [.inr (.inr (8, th))] => pz_ic M | _ => False) := hpre
      split at hpre
      · exact ⟨_, rfl, hpre⟩
      · exact hpre.elim
    obtain ⟨k_th, hc_th⟩ := pz_tlm hcan
    have k_th : pz_kd th = 8 ∧ th < 231 := k_th
    have R_th := pz_kd8 k_th.1
    subst R_th
    have hI : pz_ic M := hpre
    have hI0 := hI
    have hS : pq_pr sg_PC M M := pq_pr.rf
    have I73 := hI.2.2.2.2.2
    have B2 := sg_2_b I73.2
    have L13 : ∀ (fo : Nat) (x1 : Int) (x2 : Int) (x3 : Int) (d4 : Option pz_V) (d5 : Option pz_V) (d6 : Option pz_V) (N13 : pz_M), (12 - x3).toNat < fo → (pq_pr sg_PC M N13) → (0 ≤ x3) → (0 ≤ x2) → (x2 < 4096) → (x3 ≤ M 7 3) → (∀ f g : Nat → Int, sg_fg f g (M 7 3) → sg_ph M f g (M 7 3) → 0 ≤ M 7 1 → M 7 1 ≤ 240 → sg_TL f g (M 7 1) M (sg_2 (M 7 3)) → sg_fe f g (M 7 1) 0 (sg_S (M 7 3).toNat) → sg_W f g (M 7 3) (M 7 1) N13 x3 x1 x2) → Ok 13 [some (.inr (.inr (8, 7))), some (.inl x1), some (.inl x2), some (.inl x3), d4, d5, d6] [] N13 := by
      intro fo
      induction fo with
      | zero => exact fun _ _ _ _ _ _ _ hn => absurd hn (Nat.not_lt_zero _)
      | succ fo ih13 =>
        intro x1 x2 x3 d4 d5 d6 N13 hn13 hS g13_1 g13_2 g13_3 g13_4 g13_5
        have hI : pz_ic N13 := hS.1 hI0
        have L125 : ∀ (x1 : Int) (x2 : Int) (x3 : Int) (x4 : Int) (d5 : Option pz_V) (d6 : Option pz_V) (N125 : pz_M), (pq_pr sg_PC M N125) → (0 ≤ x3) → (x3 < 12) → ((12 - x3).toNat < fo + 1) → (0 ≤ x2) → (x2 < 4096) → (x3 < M 7 3) → (∀ f g : Nat → Int, sg_fg f g (M 7 3) → sg_ph M f g (M 7 3) → 0 ≤ M 7 1 → M 7 1 ≤ 240 → sg_TL f g (M 7 1) M (sg_2 (M 7 3)) → sg_fe f g (M 7 1) 0 (sg_S (M 7 3).toNat) → sg_W f g (M 7 3) (M 7 1) N125 (x3 + 1) x1 x2) → Ok 125 [some (.inr (.inr (8, 7))), some (.inl x1), some (.inl x2), some (.inl x3), some (.inl x4), d5, d6] [] N125 := by
          intro x1 x2 x3 x4 d5 d6 N125 hS g125_1 g125_2 g125_3 g125_4 g125_5 g125_6 g125_7
          have hI : pz_ic N125 := hS.1 hI0
          refine hgo (fun p => Nat.beq p 13 || Nat.beq p 24 || Nat.beq p 57 || Nat.beq p 119 || Nat.beq p 125) 79 125 _ _ _ ?_
          intro v125 e125 a125 b125
          rw [pz_wi (by omega) (by omega)] at e125
          have G13 : ∀ f g : Nat → Int, sg_fg f g (M 7 3) → sg_ph M f g (M 7 3) → 0 ≤ M 7 1 → M 7 1 ≤ 240 → sg_TL f g (M 7 1) M (sg_2 (M 7 3)) → sg_fe f g (M 7 1) 0 (sg_S (M 7 3).toNat) → sg_W f g (M 7 3) (M 7 1) N125 v125 x1 x2 := by
            rw [e125]
            assumption
          exact ih13 _ _ _ _ _ _ _ (by omega) hS (by first | omega | assumption) (by first | omega | assumption) (by first | omega | assumption) (by first | omega | assumption) (by first | omega | assumption)
        have L24 : ∀ (fu : Nat) (x1 : Int) (x2 : Int) (x3 : Int) (x4 : Int) (d5 : Option pz_V) (d6 : Option pz_V) (N24 : pz_M), (12 - x4).toNat < fu → (pq_pr sg_PC M N24) → (0 ≤ x4) → (0 ≤ x3) → (x3 < 12) → ((12 - x3).toNat < fo + 1) → (0 ≤ x2) → (x2 < 4096) → (x3 < M 7 3) → (x4 ≤ M 7 3) → (∀ f g : Nat → Int, sg_fg f g (M 7 3) → sg_ph M f g (M 7 3) → 0 ≤ M 7 1 → M 7 1 ≤ 240 → sg_TL f g (M 7 1) M (sg_2 (M 7 3)) → sg_fe f g (M 7 1) 0 (sg_S (M 7 3).toNat) → sg_W f g (M 7 3) (M 7 1) N24 x3 x1 x2 ∧ ∀ j : Nat, (j : Int) < x4 → ¬ sg_nq f g (M 7 1) x1 (sg_bt x2.toNat) j) → Ok 24 [some (.inr (.inr (8, 7))), some (.inl x1), some (.inl x2), some (.inl x3), some (.inl x4), d5, d6] [] N24 := by
          intro fu
          induction fu with
          | zero => exact fun _ _ _ _ _ _ _ hn => absurd hn (Nat.not_lt_zero _)
          | succ fu ih24 =>
            intro x1 x2 x3 x4 d5 d6 N24 hn24 hS g24_1 g24_2 g24_3 g24_4 g24_5 g24_6 g24_7 g24_8 g24_9
            have hI : pz_ic N24 := hS.1 hI0
            have L119 : ∀ (x1 : Int) (x2 : Int) (x3 : Int) (x4 : Int) (x5 : Int) (x6 : Int) (N119 : pz_M), (pq_pr sg_PC M N119) → (0 ≤ x4) → (x4 < 12) → ((12 - x4).toNat < fu + 1) → (0 ≤ x3) → (x3 < 12) → ((12 - x3).toNat < fo + 1) → (0 ≤ x2) → (x2 < 4096) → (x3 < M 7 3) → (x4 < M 7 3) → (∀ f g : Nat → Int, sg_fg f g (M 7 3) → sg_ph M f g (M 7 3) → 0 ≤ M 7 1 → M 7 1 ≤ 240 → sg_TL f g (M 7 1) M (sg_2 (M 7 3)) → sg_fe f g (M 7 1) 0 (sg_S (M 7 3).toNat) → sg_W f g (M 7 3) (M 7 1) N119 x3 x1 x2 ∧ ∀ j : Nat, (j : Int) < (x4 + 1) → ¬ sg_nq f g (M 7 1) x1 (sg_bt x2.toNat) j) → Ok 119 [some (.inr (.inr (8, 7))), some (.inl x1), some (.inl x2), some (.inl x3), some (.inl x4), some (.inl x5), some (.inl x6)] [] N119 := by
              intro x1 x2 x3 x4 x5 x6 N119 hS g119_1 g119_2 g119_3 g119_4 g119_5 g119_6 g119_7 g119_8 g119_9 g119_10 g119_11
              have hI : pz_ic N119 := hS.1 hI0
              refine hgo (fun p => Nat.beq p 13 || Nat.beq p 24 || Nat.beq p 57 || Nat.beq p 119 || Nat.beq p 125) 79 119 _ _ _ ?_
              intro v119 e119 a119 b119
              rw [pz_wi (by omega) (by omega)] at e119
              have G24 : ∀ f g : Nat → Int, sg_fg f g (M 7 3) → sg_ph M f g (M 7 3) → 0 ≤ M 7 1 → M 7 1 ≤ 240 → sg_TL f g (M 7 1) M (sg_2 (M 7 3)) → sg_fe f g (M 7 1) 0 (sg_S (M 7 3).toNat) → sg_W f g (M 7 3) (M 7 1) N119 x3 x1 x2 ∧ ∀ j : Nat, (j : Int) < v119 → ¬ sg_nq f g (M 7 1) x1 (sg_bt x2.toNat) j := by
                rw [e119]
                assumption
              exact ih24 _ _ _ _ _ _ _ (by omega) hS (by first | omega | assumption) (by first | omega | assumption) (by first | omega | assumption) (by first | omega | assumption) (by first | omega | assumption) (by first | omega | assumption) (by first | omega | assumption) (by first | omega | assumption) (by first | omega | assumption)
            have L57 : ∀ (x1 : Int) (x2 : Int) (x3 : Int) (x4 : Int) (d5 : Option pz_V) (d6 : Option pz_V) (s0 : Int) (N57 : pz_M), (pq_pr sg_PC M N57) → (0 ≤ x4) → (x4 < 12) → ((12 - x4).toNat < fu + 1) → (0 ≤ x3) → (x3 < 12) → ((12 - x3).toNat < fo + 1) → (0 ≤ x2) → (x2 < 4096) → (x3 < M 7 3) → (x4 < M 7 3) → (∀ f g : Nat → Int, sg_fg f g (M 7 3) → sg_ph M f g (M 7 3) → 0 ≤ M 7 1 → M 7 1 ≤ 240 → sg_TL f g (M 7 1) M (sg_2 (M 7 3)) → sg_fe f g (M 7 1) 0 (sg_S (M 7 3).toNat) → sg_W f g (M 7 3) (M 7 1) N57 x3 x1 x2 ∧ ∀ j : Nat, (j : Int) < x4 → ¬ sg_nq f g (M 7 1) x1 (sg_bt x2.toNat) j) → (sg_bf (sg_V 59 M x2.toNat) (sg_bt x2.toNat) x4.toNat s0) → Ok 57 [some (.inr (.inr (8, 7))), some (.inl x1), some (.inl x2), some (.inl x3), some (.inl x4), d5, d6] [.inl s0] N57 := by
              intro x1 x2 x3 x4 d5 d6 s0 N57 hS g57_1 g57_2 g57_3 g57_4 g57_5 g57_6 g57_7 g57_8 g57_9 g57_10 g57_11 g57_12
              have hI : pz_ic N57 := hS.1 hI0
              refine hgo (fun p => Nat.beq p 13 || Nat.beq p 24 || Nat.beq p 57 || Nat.beq p 119 || Nat.beq p 125) 79 57 _ _ _ ?_
              refine pz_nrc (c := 56) rfl ?_
              refine And.intro (by omega) (And.intro (show _ < (12 : Int) from by omega) ?_)
              intro v66 e66 a66 b66
              have C66 : v66 = M 56 x4.toNat := e66.trans (hS.2 56 _ (by unfold sg_PC; omega))
              refine And.intro (True.intro) ?_
              intro v67 M67 a67 b67 q67
              obtain ⟨q67, z67⟩ := q67
              subst z67
              intro v72 e72 a72 b72
              refine And.intro (fun h78 => ?_) (fun h78 => ?_)
              · skip
                have G119 : ∀ f g : Nat → Int, sg_fg f g (M 7 3) → sg_ph M f g (M 7 3) → 0 ≤ M 7 1 → M 7 1 ≤ 240 → sg_TL f g (M 7 1) M (sg_2 (M 7 3)) → sg_fe f g (M 7 1) 0 (sg_S (M 7 3).toNat) → sg_W f g (M 7 3) (M 7 1) N57 x3 x1 x2 ∧ ∀ j : Nat, (j : Int) < (x4 + 1) → ¬ sg_nq f g (M 7 1) x1 (sg_bt x2.toNat) j := fun f g hf hp h0 h1 hT hF => by
                  obtain ⟨gW, gN⟩ := (by assumption : ∀ f g : Nat → Int, sg_fg f g (M 7 3) → sg_ph M f g (M 7 3) → 0 ≤ M 7 1 → M 7 1 ≤ 240 → sg_TL f g (M 7 1) M (sg_2 (M 7 3)) → sg_fe f g (M 7 1) 0 (sg_S (M 7 3).toNat) → sg_W f g (M 7 3) (M 7 1) N57 x3 x1 x2 ∧ ∀ j : Nat, (j : Int) < x4 → ¬ sg_nq f g (M 7 1) x1 (sg_bt x2.toNat) j) f g hf hp h0 h1 hT hF
                  have pf := hf x4.toNat (by omega)
                  have pp := hp x4.toNat (by omega)
                  have g57_b : sg_bf (sg_V 59 M x2.toNat) (sg_bt x2.toNat) x4.toNat s0 := by assumption
                  have wt := gW.2.2.2.1.2
                  have vb : v72 = sg_d f x1 x4.toNat := sg_dn q67 (C66.trans pp.1) pf.1 ⟨by omega, wt.2⟩ e72
                  have nq := sg_W_nq gW hT (by omega) g57_b hf (i := x4.toNat) (by omega) vb
                  refine ⟨gW, sg_W_n gN (by omega) (fun z => ?_)⟩
                  have z2 := nq.1.mp z
                  have z1 := z2.1
                  omega
                exact L119 _ _ _ _ _ _ _ hS (by first | omega | assumption) (by first | omega | assumption) (by first | omega | assumption) (by first | omega | assumption) (by first | omega | assumption) (by first | omega | assumption) (by first | omega | assumption) (by first | omega | assumption) (by first | omega | assumption) (by first | omega | assumption) (by first | omega | assumption)
              · skip
                skip
                refine pz_nrc (c := 57) rfl ?_
                refine And.intro (by omega) (And.intro (show _ < (12 : Int) from by omega) ?_)
                intro v91 e91 a91 b91
                have C91 : v91 = M 57 x4.toNat := e91.trans (hS.2 57 _ (by unfold sg_PC; omega))
                refine And.intro (True.intro) ?_
                intro v92 M92 a92 b92 q92
                obtain ⟨q92, z92⟩ := q92
                subst z92
                refine And.intro (fun h95 => ?_) (fun h95 => ?_)
                · skip
                  have G119 : ∀ f g : Nat → Int, sg_fg f g (M 7 3) → sg_ph M f g (M 7 3) → 0 ≤ M 7 1 → M 7 1 ≤ 240 → sg_TL f g (M 7 1) M (sg_2 (M 7 3)) → sg_fe f g (M 7 1) 0 (sg_S (M 7 3).toNat) → sg_W f g (M 7 3) (M 7 1) N57 x3 x1 x2 ∧ ∀ j : Nat, (j : Int) < (x4 + 1) → ¬ sg_nq f g (M 7 1) x1 (sg_bt x2.toNat) j := fun f g hf hp h0 h1 hT hF => by
                    obtain ⟨gW, gN⟩ := (by assumption : ∀ f g : Nat → Int, sg_fg f g (M 7 3) → sg_ph M f g (M 7 3) → 0 ≤ M 7 1 → M 7 1 ≤ 240 → sg_TL f g (M 7 1) M (sg_2 (M 7 3)) → sg_fe f g (M 7 1) 0 (sg_S (M 7 3).toNat) → sg_W f g (M 7 3) (M 7 1) N57 x3 x1 x2 ∧ ∀ j : Nat, (j : Int) < x4 → ¬ sg_nq f g (M 7 1) x1 (sg_bt x2.toNat) j) f g hf hp h0 h1 hT hF
                    have pf := hf x4.toNat (by omega)
                    have pp := hp x4.toNat (by omega)
                    have g57_b : sg_bf (sg_V 59 M x2.toNat) (sg_bt x2.toNat) x4.toNat s0 := by assumption
                    have wt := gW.2.2.2.1.2
                    have vb : v72 = sg_d f x1 x4.toNat := sg_dn q67 (C66.trans pp.1) pf.1 ⟨by omega, wt.2⟩ e72
                    have nq := sg_W_nq gW hT (by omega) g57_b hf (i := x4.toNat) (by omega) vb
                    refine ⟨gW, sg_W_n gN (by omega) (fun z => ?_)⟩
                    have z2 := nq.1.mp z
                    have p2 := pp.2
                    have z3 := z2.2
                    omega
                  exact L119 _ _ _ _ _ _ _ hS (by first | omega | assumption) (by first | omega | assumption) (by first | omega | assumption) (by first | omega | assumption) (by first | omega | assumption) (by first | omega | assumption) (by first | omega | assumption) (by first | omega | assumption) (by first | omega | assumption) (by first | omega | assumption) (by first | omega | assumption)
                · skip
                  skip
                  refine pz_nrc (c := 58) rfl ?_
                  refine And.intro (by omega) (And.intro (show _ < (12 : Int) from by omega) ?_)
                  intro M105 e105
                  have hS : pq_pr sg_PC M M105 := by
                    rw [e105]
                    exact pq_pr_u hS (by unfold sg_PC; omega) (by unfold pz_iok; omega)
                  have hI : pz_ic M105 := hS.1 hI0
                  intro v113 e113 a113 b113
                  have S113 := pz_shl1 (c := x4) (by omega) (by omega)
                  rw [← e113] at S113
                  intro v114 e114 a114 b114
                  have X114 := sg_xi (x := x2) (i := x4) ⟨by omega, by omega⟩ ⟨by omega, by omega⟩ e113 e114
                  have G125 : ∀ f g : Nat → Int, sg_fg f g (M 7 3) → sg_ph M f g (M 7 3) → 0 ≤ M 7 1 → M 7 1 ≤ 240 → sg_TL f g (M 7 1) M (sg_2 (M 7 3)) → sg_fe f g (M 7 1) 0 (sg_S (M 7 3).toNat) → sg_W f g (M 7 3) (M 7 1) M105 (x3 + 1) v72 v114 := fun f g hf hp h0 h1 hT hF => by
                    obtain ⟨gW, gN⟩ := (by assumption : ∀ f g : Nat → Int, sg_fg f g (M 7 3) → sg_ph M f g (M 7 3) → 0 ≤ M 7 1 → M 7 1 ≤ 240 → sg_TL f g (M 7 1) M (sg_2 (M 7 3)) → sg_fe f g (M 7 1) 0 (sg_S (M 7 3).toNat) → sg_W f g (M 7 3) (M 7 1) N57 x3 x1 x2 ∧ ∀ j : Nat, (j : Int) < x4 → ¬ sg_nq f g (M 7 1) x1 (sg_bt x2.toNat) j) f g hf hp h0 h1 hT hF
                    have pf := hf x4.toNat (by omega)
                    have pp := hp x4.toNat (by omega)
                    have g57_b : sg_bf (sg_V 59 M x2.toNat) (sg_bt x2.toNat) x4.toNat s0 := by assumption
                    have wt := gW.2.2.2.1.2
                    have vb : v72 = sg_d f x1 x4.toNat := sg_dn q67 (C66.trans pp.1) pf.1 ⟨by omega, wt.2⟩ e72
                    have nq := sg_W_nq gW hT (by omega) g57_b hf (i := x4.toNat) (by omega) vb
                    have p2 := pp.2
                    exact sg_W_s gW I73.2 (by omega) (by omega) gN (nq.1.mpr ⟨by omega, by omega, by omega⟩) vb (by omega) e105 X114.1
                  exact L125 _ _ _ _ _ _ _ hS (by first | omega | assumption) (by first | omega | assumption) (by first | omega | assumption) (by first | omega | assumption) (by first | omega | assumption) (by first | omega | assumption) (by first | omega | assumption)
            refine hgo (fun p => Nat.beq p 13 || Nat.beq p 24 || Nat.beq p 57 || Nat.beq p 119 || Nat.beq p 125) 79 24 _ _ _ ?_
            intro v27 e27 a27 b27
            have I27 := hI.2.2.2.2.2
            have C27 : v27 = M 7 3 := e27.trans (hS.2 7 3 (by unfold sg_PC; omega))
            refine And.intro (fun h30 => ?_) (fun h30 => ?_)
            · skip
              have G125 : ∀ f g : Nat → Int, sg_fg f g (M 7 3) → sg_ph M f g (M 7 3) → 0 ≤ M 7 1 → M 7 1 ≤ 240 → sg_TL f g (M 7 1) M (sg_2 (M 7 3)) → sg_fe f g (M 7 1) 0 (sg_S (M 7 3).toNat) → sg_W f g (M 7 3) (M 7 1) N24 (x3 + 1) x1 x2 := fun f g hf hp h0 h1 hT hF => by
                obtain ⟨gW, gN⟩ := (by assumption : ∀ f g : Nat → Int, sg_fg f g (M 7 3) → sg_ph M f g (M 7 3) → 0 ≤ M 7 1 → M 7 1 ≤ 240 → sg_TL f g (M 7 1) M (sg_2 (M 7 3)) → sg_fe f g (M 7 1) 0 (sg_S (M 7 3).toNat) → sg_W f g (M 7 3) (M 7 1) N24 x3 x1 x2 ∧ ∀ j : Nat, (j : Int) < x4 → ¬ sg_nq f g (M 7 1) x1 (sg_bt x2.toNat) j) f g hf hp h0 h1 hT hF
                exact (sg_W_x gW (by omega) (show M 7 3 ≤ x4 by omega) gN).elim
              exact L125 _ _ _ _ _ _ _ hS (by first | omega | assumption) (by first | omega | assumption) (by first | omega | assumption) (by first | omega | assumption) (by first | omega | assumption) (by first | omega | assumption) (by first | omega | assumption)
            · skip
              skip
              intro v36 e36 a36 b36
              intro v38 e38 a38 b38
              have B38 := pz_sb_at (sg_zs (x := x2) (by omega) (by omega)) (show 0 ≤ x4 by omega) (by omega) e36 e38
              refine And.intro (fun h39 => ?_) (fun h39 => ?_)
              · skip
                have F39 : sg_bt x2.toNat x4.toNat = false := sg_at_n B38 (by omega)
                have G57 : sg_bf (sg_V 59 M x2.toNat) (sg_bt x2.toNat) x4.toNat (-1) := Or.inr ⟨F39, rfl⟩
                exact L57 _ _ _ _ _ _ _ _ hS (by first | omega | assumption) (by first | omega | assumption) (by first | omega | assumption) (by first | omega | assumption) (by first | omega | assumption) (by first | omega | assumption) (by first | omega | assumption) (by first | omega | assumption) (by first | omega | assumption) (by first | omega | assumption) (by first | omega | assumption) (by first | omega | assumption)
              · skip
                have F39 : sg_bt x2.toNat x4.toNat = true := sg_at_y B38 (by omega)
                refine pz_nrc (c := 59) rfl ?_
                intro v50 e50 a50 b50
                have S50 := pz_shl1 (c := x4) (by omega) (by omega)
                rw [← e50] at S50
                intro v51 e51 a51 b51
                have X51 := sg_xi (x := x2) (i := x4) ⟨by omega, by omega⟩ ⟨by omega, by omega⟩ e50 e51
                refine And.intro (by omega) (And.intro (show _ < (4096 : Int) from by omega) ?_)
                intro v52 e52 a52 b52
                rw [X51.1] at e52
                have G57 : sg_bf (sg_V 59 M x2.toNat) (sg_bt x2.toNat) x4.toNat v52 := Or.inl ⟨F39, e52.trans (hS.2 59 _ (by unfold sg_PC; omega))⟩
                exact L57 _ _ _ _ _ _ _ _ hS (by first | omega | assumption) (by first | omega | assumption) (by first | omega | assumption) (by first | omega | assumption) (by first | omega | assumption) (by first | omega | assumption) (by first | omega | assumption) (by first | omega | assumption) (by first | omega | assumption) (by first | omega | assumption) (by first | omega | assumption) (by first | omega | assumption)
        refine hgo (fun p => Nat.beq p 13 || Nat.beq p 24 || Nat.beq p 57 || Nat.beq p 119 || Nat.beq p 125) 79 13 _ _ _ ?_
        intro v15 e15 a15 b15
        have I15 := hI.2.2.2.2.2
        have C15 : v15 = M 7 3 := e15.trans (hS.2 7 3 (by unfold sg_PC; omega))
        refine And.intro (fun h18 => ?_) (fun h18 => ?_)
        · skip
          skip
          refine And.intro rfl ?_
          refine ⟨fun f g hf hp h0 h1 hT hF => ?_, hS⟩
          have gW := (by assumption : ∀ f g : Nat → Int, sg_fg f g (M 7 3) → sg_ph M f g (M 7 3) → 0 ≤ M 7 1 → M 7 1 ≤ 240 → sg_TL f g (M 7 1) M (sg_2 (M 7 3)) → sg_fe f g (M 7 1) 0 (sg_S (M 7 3).toNat) → sg_W f g (M 7 3) (M 7 1) N13 x3 x1 x2) f g hf hp h0 h1 hT hF
          have x9 : x3 = M 7 3 := by omega
          rw [x9] at gW
          exact ⟨gW.2.2.1, gW.2.1⟩
        · skip
          have G24 : ∀ f g : Nat → Int, sg_fg f g (M 7 3) → sg_ph M f g (M 7 3) → 0 ≤ M 7 1 → M 7 1 ≤ 240 → sg_TL f g (M 7 1) M (sg_2 (M 7 3)) → sg_fe f g (M 7 1) 0 (sg_S (M 7 3).toNat) → sg_W f g (M 7 3) (M 7 1) N13 x3 x1 x2 ∧ ∀ j : Nat, (j : Int) < 0 → ¬ sg_nq f g (M 7 1) x1 (sg_bt x2.toNat) j := fun f g hf hp h0 h1 hT hF => ⟨(by assumption : ∀ f g : Nat → Int, sg_fg f g (M 7 3) → sg_ph M f g (M 7 3) → 0 ≤ M 7 1 → M 7 1 ≤ 240 → sg_TL f g (M 7 1) M (sg_2 (M 7 3)) → sg_fe f g (M 7 1) 0 (sg_S (M 7 3).toNat) → sg_W f g (M 7 3) (M 7 1) N13 x3 x1 x2) f g hf hp h0 h1 hT hF, fun j hj => absurd hj (by omega)⟩
          exact L24 _ _ _ _ _ _ _ _ (Nat.lt_succ_self _) hS (by first | omega | assumption) (by first | omega | assumption) (by first | omega | assumption) (by first | omega | assumption) (by first | omega | assumption) (by first | omega | assumption) (by first | omega | assumption) (by first | omega | assumption) (by first | omega | assumption)
    refine hgo (fun p => Nat.beq p 13 || Nat.beq p 24 || Nat.beq p 57 || Nat.beq p 119 || Nat.beq p 125) 79 0 _ [] M ?_
    intro v4 e4 a4 b4
    have I4 := hI.2.2.2.2.2
    have C4 : v4 = M 7 3 := e4
    intro v7 e7 a7 b7
    have S7 := pz_shl1 (c := v4) (by omega) (by omega)
    rw [← e7] at S7
    have P7 : v7 = sg_2 (M 7 3) := by
      rw [e7, C4]
      exact sg_2_v (by omega) (by omega)
    intro v9 e9 a9 b9
    rw [pz_wi (by omega) (by omega)] at e9
    have G13 : ∀ f g : Nat → Int, sg_fg f g (M 7 3) → sg_ph M f g (M 7 3) → 0 ≤ M 7 1 → M 7 1 ≤ 240 → sg_TL f g (M 7 1) M (sg_2 (M 7 3)) → sg_fe f g (M 7 1) 0 (sg_S (M 7 3).toNat) → sg_W f g (M 7 3) (M 7 1) M 0 0 v9 := fun f g hf hp h0 h1 hT hF => sg_W_0 I73 (by omega) hF
    exact L13 _ _ _ _ _ _ _ _ (Nat.lt_succ_self _) hS (by first | omega | assumption) (by first | omega | assumption) (by first | omega | assumption) (by first | omega | assumption) (by first | omega | assumption)
theorem v3_X8_findOrder {fr lo i : Nat} {own : String} (h1 : 1 + 1 ≤ fr) (h2 : 8 + (7 + 11) + 21 ≤ lo) (h3 : .methodLink own i yX8_findOrder ∈ lw_tbl) : pz_cV fr lo own i k3_X8_findOrder :=
  pz_cVk (maxL := 7) (fr' := 1) (lo' := 21) 0 8 h3_X8_findOrder rfl ⟨by decide +kernel, by decide +kernel, by decide +kernel⟩ ⟨(pz_mt 1020 (by decide +kernel)), (pz_mt 1018 (by decide +kernel)), (pz_mt 1019 (by decide +kernel)), (pz_mt 12 (by decide +kernel))⟩ (Or.inl ⟨TX8, 8, rfl⟩) (fun a M _ h => by
    have h : (match (generalizing := false) a with | [.inr (.inr (8, th))] => pz_ic M | _ => False) := h
    split at h
    · exact ⟨_, _, rfl⟩
    · exact h.elim) h1 h2 h3
noncomputable def k3_X8_plan : pz_C := (3, 0, fun a M => (match a with | [.inr (.inr (8, th)), .inl l, .inr (.inr (10, t))] => pz_ic M ∧ (0 ≤ l ∧ l ≤ 12) | _ => False), fun a M r M' => (match a, r with | [.inr (.inr (8, th)), .inl l, .inr (.inr (10, t))], none => (sg_cs M M' t l) ∧ pq_pr sg_PD M M' | _, _ => False))
noncomputable abbrev ct3_X8_plan : List (Bool × Nat × pz_C) := [(false, 28, k_J9_min_7cf53), (true, 38, k_X10_phoneFrom), (true, 44, k_X10_phoneTo), (true, 47, k3_X8_findEarliest), (true, 53, k3_X8_findLatest), (true, 56, k3_X8_findOrder)]
set_option maxRecDepth 100000 in
set_option maxHeartbeats 4000000 in
theorem h3_X8_plan : pz_H yX8_plan cX8_plan 4 none k3_X8_plan 3 66 := by
  refine pz_mk (own := RX8) (tb := t_X8_plan) (fl := pz_flf fl_RX8) (ci := fun _ => none) (ct := pz_ctf ct3_X8_plan) (rz := false) (by decide +kernel) rfl t_X8_plan_ok (pz_flk fl_RX8_ok) (fun i v h => by cases h) ?_ ?_ (rfl) ?_ ?_
  · exact fun i k' h => pz_ctk (l := ct3_X8_plan) (P := fun b i k => b = true → pz_cV 3 66 RX8 i k) (List.forall_mem_cons.mpr ⟨((fun z => by cases z)), List.forall_mem_cons.mpr ⟨(fun _ => v_X10_phoneFrom (by decide) (by decide) (pz_mt 1005 (by decide +kernel))), List.forall_mem_cons.mpr ⟨(fun _ => v_X10_phoneTo (by decide) (by decide) (pz_mt 1006 (by decide +kernel))), List.forall_mem_cons.mpr ⟨(fun _ => v3_X8_findEarliest (by decide) (by decide) (pz_mt 1007 (by decide +kernel))), List.forall_mem_cons.mpr ⟨(fun _ => v3_X8_findLatest (by decide) (by decide) (pz_mt 1013 (by decide +kernel))), List.forall_mem_cons.mpr ⟨(fun _ => v3_X8_findOrder (by decide) (by decide) (pz_mt 1017 (by decide +kernel))), fun _ h => absurd h List.not_mem_nil⟩⟩⟩⟩⟩⟩) true i k' h rfl
  · exact fun i k' h => pz_ctk (l := ct3_X8_plan) (P := fun b i k => b = false → (pz_cS 3 66 RX8 i k ∨ (k = pz_kac ∧ 1 ≤ 3 ∧ 60 ≤ 66 ∧ Cond.methodLink RX8 i arraycopyName ∈ pz_tbl))) (List.forall_mem_cons.mpr ⟨(fun _ => Or.inl (s_J9_min_7cf53 (by decide) (by decide) (Or.inl (pz_mt 1004 (by decide +kernel))))), List.forall_mem_cons.mpr ⟨((fun z => by cases z)), List.forall_mem_cons.mpr ⟨((fun z => by cases z)), List.forall_mem_cons.mpr ⟨((fun z => by cases z)), List.forall_mem_cons.mpr ⟨((fun z => by cases z)), List.forall_mem_cons.mpr ⟨((fun z => by cases z)), fun _ h => absurd h List.not_mem_nil⟩⟩⟩⟩⟩⟩) false i k' h rfl
  · intro a M hlen hpre
    obtain ⟨th, l, t, rfl, hpre⟩ : ∃ th l t, a = [.inr (.inr (8, th)), .inl l, .inr (.inr (10, t))] ∧ (pz_ic M ∧ (0 ≤ l ∧ l ≤ 12)) := by
      have hpre : (match (generalizing := false) a with | [.inr (.inr (8, th)), .inl l, .inr (.inr (10, t))] => pz_ic M ∧ (0 ≤ l ∧ l ≤ 12) | _ => False) := hpre
      split at hpre
      · exact ⟨_, _, _, rfl, hpre⟩
      · exact hpre.elim
    exact Nat.le_of_ble_eq_true rfl
  · intro a M hlen hcan hM hpre Ok hgo
    obtain ⟨th, l, t, rfl, hpre⟩ : ∃ th l t, a = [.inr (.inr (8, th)), .inl l, .inr (.inr (10, t))] ∧ (pz_ic M ∧ (0 ≤ l ∧ l ≤ 12)) := by
      have hpre : (match (generalizing := false) a with | [.inr (.inr (8, th)), .inl l, .inr (.inr (10, t))] => pz_ic M ∧ (0 ≤ l ∧ l ≤ 12) | _ => False) := hpre
      split at hpre
      · exact ⟨_, _, _, rfl, hpre⟩
      · exact hpre.elim
    obtain ⟨k_th, hc_th⟩ := pz_tlm hcan
    have k_th : pz_kd th = 8 ∧ th < 231 := k_th
    have R_th := pz_kd8 k_th.1
    subst R_th
    obtain ⟨k_l, hc_l⟩ := pz_tlm hc_th
    have l_l : -2147483648 ≤ l := k_l.1
    have u_l : l ≤ 2147483647 := k_l.2
    obtain ⟨k_t, hc_t⟩ := pz_tlm hc_l
    have k_t : pz_kd t = 10 ∧ t < 231 := k_t
    have R_t := pz_kd10 k_t.1
    have hI : pz_ic M := hpre.1
    have hI0 := hI
    have hS : pq_pr sg_PD M M := pq_pr.rf
    have L25 : ∀ (fu : Nat) (x3 : Int) (N25 : pz_M), (12 - x3).toNat < fu → (pq_pr sg_PD M N25) → (0 ≤ x3) → (x3 ≤ l) → (M 7 0 = 0) → (N25 7 3 = l) → (N25 7 0 = 1) → (sg_fl M t N25 x3) → Ok 25 [some (.inr (.inr (8, 7))), some (.inl l), some (.inr (.inr (10, t))), some (.inl x3)] [] N25 := by
      intro fu
      induction fu with
      | zero => exact fun _ _ hn => absurd hn (Nat.not_lt_zero _)
      | succ fu ih25 =>
        intro x3 N25 hn25 hS g25_1 g25_2 g25_3 g25_4 g25_5 g25_6
        have hI : pz_ic N25 := hS.1 hI0
        refine hgo (fun p => Nat.beq p 25) 47 25 _ _ _ ?_
        intro v27 e27 a27 b27
        have I27 := hI.2.2.2.2.2
        refine And.intro (fun h30 => ?_) (fun h30 => ?_)
        · skip
          have hS25 := hS
          have N25b : N25 7 3 = l := by assumption
          refine And.intro (hI) ?_
          intro M62 q62
          obtain ⟨q62, z62⟩ := q62
          have hS : pq_pr sg_PD M M62 := hS.tr z62.sAD
          have hI : pz_ic M62 := hS.1 hI0
          intro v66 e66 a66 b66
          refine And.intro (fun h70 => ?_) (fun h70 => ?_)
          · skip
            refine And.intro rfl ?_
            refine ⟨⟨fun y => absurd y (by omega), fun _ => ?_⟩, hS⟩
            have k9 : N25 7 0 = 1 := by assumption
            have fl : sg_fl M t N25 x3 := by assumption
            have x9 : x3 = l := by omega
            rw [x9] at fl
            have W : ∀ f g : Nat → Int, sg_fg f g l → sg_pz M t f g l → sg_fg f g (N25 7 3) ∧ sg_ph N25 f g (N25 7 3) := fun f g hf hp => by
              rw [N25b]
              exact ⟨hf, fun i hi => ⟨(fl i hi).1.trans (hp i hi).1.symm, (fl i hi).2.trans (hp i hi).2.symm⟩⟩
            have A73 : M62 7 3 = l := (z62.2 7 3 (by unfold sg_PA; omega)).trans N25b
            have A70 : M62 7 0 = 1 := (z62.2 7 0 (by unfold sg_PA; omega)).trans k9
            first
              | (refine ⟨by omega, fun f g hf hp => ?_⟩
                 obtain ⟨w1, w2⟩ := W f g hf hp
                 have a := q62 f g w1 w2
                 rw [N25b] at a
                 exact ⟨A73, a.1, a.2.2, fun y => absurd (by omega) y⟩)
              | (have B7 : ∀ j : Nat, M78 7 j = M62 7 j := fun j => (z78.2 7 j (by unfold sg_PC; omega)).trans (z74.2 7 j (by unfold sg_PB; omega))
                 have b0 := B7 0
                 have b1 := B7 1
                 have b2 := B7 2
                 have b3 := B7 3
                 refine ⟨by omega, fun f g hf hp => ?_⟩
                 obtain ⟨w1, w2⟩ := W f g hf hp
                 have a := q62 f g w1 w2
                 rw [N25b] at a
                 obtain ⟨a1, a2, a3⟩ := a
                 have c1 := a1.1
                 have P56 : sg_ph M62 f g (M62 7 3) := fun i hi => by
                   rw [z62.2 56 i (by unfold sg_PA; omega), z62.2 57 i (by unfold sg_PA; omega)]
                   exact w2 i (by omega)
                 have T := q74 f g (by rw [A73]; exact hf) P56 (by omega) a2
                 have n71 : M74 7 1 = M62 7 1 := z74.2 7 1 (by unfold sg_PB; omega)
                 have n73 : M74 7 3 = M62 7 3 := z74.2 7 3 (by unfold sg_PB; omega)
                 have O := q78 f g (by rw [n73, A73]; exact hf) (by
                   rw [n73]
                   exact fun i hi => by
                     rw [z74.2 56 i (by unfold sg_PB; omega), z74.2 57 i (by unfold sg_PB; omega)]
                     exact P56 i hi) (by omega) (by omega) (by rw [n71, n73]; exact T) (by
                   rw [n71, n73, A73]
                   exact (a1.2 _).mpr ⟨by omega, Int.le_refl _⟩)
                 rw [n71, n73, A73] at O
                 rw [← b1] at a1 O
                 rw [← b2] at a3
                 exact ⟨b3.trans A73, a1, a3, fun _ => ⟨O.2, O.1⟩⟩)
          · skip
            refine And.intro (hI) ?_
            intro M74 q74
            obtain ⟨q74, z74⟩ := q74
            have hS : pq_pr sg_PD M M74 := hS.tr z74.sBD
            have hI : pz_ic M74 := hS.1 hI0
            refine And.intro (hI) ?_
            intro M78 q78
            obtain ⟨q78, z78⟩ := q78
            have hS : pq_pr sg_PD M M78 := hS.tr z78.sCD
            have hI : pz_ic M78 := hS.1 hI0
            refine And.intro rfl ?_
            refine ⟨⟨fun y => absurd y (by omega), fun _ => ?_⟩, hS⟩
            have k9 : N25 7 0 = 1 := by assumption
            have fl : sg_fl M t N25 x3 := by assumption
            have x9 : x3 = l := by omega
            rw [x9] at fl
            have W : ∀ f g : Nat → Int, sg_fg f g l → sg_pz M t f g l → sg_fg f g (N25 7 3) ∧ sg_ph N25 f g (N25 7 3) := fun f g hf hp => by
              rw [N25b]
              exact ⟨hf, fun i hi => ⟨(fl i hi).1.trans (hp i hi).1.symm, (fl i hi).2.trans (hp i hi).2.symm⟩⟩
            have A73 : M62 7 3 = l := (z62.2 7 3 (by unfold sg_PA; omega)).trans N25b
            have A70 : M62 7 0 = 1 := (z62.2 7 0 (by unfold sg_PA; omega)).trans k9
            first
              | (refine ⟨by omega, fun f g hf hp => ?_⟩
                 obtain ⟨w1, w2⟩ := W f g hf hp
                 have a := q62 f g w1 w2
                 rw [N25b] at a
                 exact ⟨A73, a.1, a.2.2, fun y => absurd (by omega) y⟩)
              | (have B7 : ∀ j : Nat, M78 7 j = M62 7 j := fun j => (z78.2 7 j (by unfold sg_PC; omega)).trans (z74.2 7 j (by unfold sg_PB; omega))
                 have b0 := B7 0
                 have b1 := B7 1
                 have b2 := B7 2
                 have b3 := B7 3
                 refine ⟨by omega, fun f g hf hp => ?_⟩
                 obtain ⟨w1, w2⟩ := W f g hf hp
                 have a := q62 f g w1 w2
                 rw [N25b] at a
                 obtain ⟨a1, a2, a3⟩ := a
                 have c1 := a1.1
                 have P56 : sg_ph M62 f g (M62 7 3) := fun i hi => by
                   rw [z62.2 56 i (by unfold sg_PA; omega), z62.2 57 i (by unfold sg_PA; omega)]
                   exact w2 i (by omega)
                 have T := q74 f g (by rw [A73]; exact hf) P56 (by omega) a2
                 have n71 : M74 7 1 = M62 7 1 := z74.2 7 1 (by unfold sg_PB; omega)
                 have n73 : M74 7 3 = M62 7 3 := z74.2 7 3 (by unfold sg_PB; omega)
                 have O := q78 f g (by rw [n73, A73]; exact hf) (by
                   rw [n73]
                   exact fun i hi => by
                     rw [z74.2 56 i (by unfold sg_PB; omega), z74.2 57 i (by unfold sg_PB; omega)]
                     exact P56 i hi) (by omega) (by omega) (by rw [n71, n73]; exact T) (by
                   rw [n71, n73, A73]
                   exact (a1.2 _).mpr ⟨by omega, Int.le_refl _⟩)
                 rw [n71, n73, A73] at O
                 rw [← b1] at a1 O
                 rw [← b2] at a3
                 exact ⟨b3.trans A73, a1, a3, fun _ => ⟨O.2, O.1⟩⟩)
        · skip
          have gp := sg_gph (t := t) (by omega) hS
          refine pz_nrc (c := 56) rfl ?_
          refine And.intro (hI) ?_
          intro v40 M40 a40 b40 q40
          obtain ⟨q40, z40⟩ := q40
          subst z40
          rw [gp.1, gp.2] at q40
          refine And.intro (by omega) (And.intro (show _ < (12 : Int) from by omega) ?_)
          intro M43 e43
          have hS : pq_pr sg_PD M M43 := by
            rw [e43]
            exact pq_pr_u hS (by unfold sg_PD; omega) (by unfold pz_iok; omega)
          have hI : pz_ic M43 := hS.1 hI0
          refine pz_nrc (c := 57) rfl ?_
          refine And.intro (hI) ?_
          intro v51 M51 a51 b51 q51
          obtain ⟨q51, z51⟩ := q51
          subst z51
          have gq := sg_gph (t := t) (by omega) hS
          rw [gq.1, gq.2] at q51
          refine And.intro (by omega) (And.intro (show _ < (12 : Int) from by omega) ?_)
          intro M54 e54
          have hS : pq_pr sg_PD M M54 := by
            rw [e54]
            exact pq_pr_u hS (by unfold sg_PD; omega) (by unfold pz_iok; omega)
          have hI : pz_ic M54 := hS.1 hI0
          have G25 : sg_fl M t M54 (x3 + 1) := sg_fl_s (by assumption) (by omega) e43 e54 q40 q51
          have N54 : M54 7 3 = l := by
            rw [e54, pz_una (by decide), e43, pz_una (by decide)]
            assumption
          have K54 : M54 7 0 = 1 := by
            rw [e54, pz_una (by decide), e43, pz_una (by decide)]
            assumption
          intro v55 e55 a55 b55
          rw [pz_wi (by omega) (by omega)] at e55
          have G25b : sg_fl M t M54 v55 := by
            rw [e55]
            assumption
          exact ih25 _ _ (by omega) hS (by first | omega | assumption) (by first | omega | assumption) (by first | omega | assumption) (by first | omega | assumption) (by first | omega | assumption) (by first | omega | assumption)
    refine hgo (fun p => Nat.beq p 25) 47 0 _ [] M ?_
    intro v1 e1 a1 b1
    refine And.intro (fun h4 => ?_) (fun h4 => ?_)
    · skip
      refine And.intro (by omega) ?_
      intro M10 e10
      have hS : pq_pr sg_PD M M10 := by
        rw [e10]
        exact pq_pr_u hS (by unfold sg_PD; omega) (by unfold pz_iok; omega)
      have hI : pz_ic M10 := hS.1 hI0
      refine And.intro (True.intro) ?_
      intro v17 M17 a17 b17 q17
      obtain ⟨q17, z17⟩ := q17
      subst z17
      intro M20 e20
      have hS : pq_pr sg_PD M M20 := by
        rw [e20]
        exact pq_pr_u hS (by unfold sg_PD; omega) (by unfold pz_iok; omega)
      have hI : pz_ic M20 := hS.1 hI0
      have N20 : M20 7 3 = l := by
        rw [e20, pz_uu]
        omega
      have K20 : M20 7 0 = 1 := by
        rw [e20, pz_unk (by decide), e10]
        exact pz_uu
      have G25 : sg_fl M t M20 0 := fun i hi => absurd hi (by omega)
      exact L25 _ _ _ (Nat.lt_succ_self _) hS (by first | omega | assumption) (by first | omega | assumption) (by first | omega | assumption) (by first | omega | assumption) (by first | omega | assumption) (by first | omega | assumption)
    · skip
      refine And.intro rfl ?_
      exact ⟨⟨fun _ => rfl, fun y => absurd y (by omega)⟩, hS⟩
theorem v3_X8_plan {fr lo i : Nat} {own : String} (h1 : 3 + 1 ≤ fr) (h2 : 8 + (4 + 11) + 66 ≤ lo) (h3 : .methodLink own i yX8_plan ∈ lw_tbl) : pz_cV fr lo own i k3_X8_plan :=
  pz_cVk (maxL := 4) (fr' := 3) (lo' := 66) 2 8 h3_X8_plan rfl ⟨by decide +kernel, by decide +kernel, by decide +kernel⟩ ⟨(pz_mt 1003 (by decide +kernel)), (pz_mt 1001 (by decide +kernel)), (pz_mt 1002 (by decide +kernel)), (pz_mt 12 (by decide +kernel))⟩ (Or.inl ⟨TX8, 8, rfl⟩) (fun a M _ h => by
    have h : (match (generalizing := false) a with | [.inr (.inr (8, th)), .inl l, .inr (.inr (10, t))] => pz_ic M ∧ (0 ≤ l ∧ l ≤ 12) | _ => False) := h
    split at h
    · exact ⟨_, _, rfl⟩
    · exact h.elim) h1 h2 h3
noncomputable def k3_X8_signer : pz_C := (2, 1, fun a M => (match a with | [.inr (.inr (8, th)), .inl i] => pz_ic M | _ => False), fun a M r M' => (match a, r with | [.inr (.inr (8, th)), .inl i], some (.inl v) => (v = if M 7 1 ≠ -1 ∧ 0 ≤ i ∧ i < M 7 3 then M 58 i.toNat else -1) ∧ M = M' | _, _ => False))
noncomputable abbrev ct3_X8_signer : List (Bool × Nat × pz_C) := []
set_option maxRecDepth 100000 in
set_option maxHeartbeats 4000000 in
theorem h3_X8_signer : pz_H yX8_signer cX8_signer 2 (some .int) k3_X8_signer 0 0 := by
  refine pz_mk (own := RX8) (tb := t_X8_signer) (fl := pz_flf fl_RX8) (ci := fun _ => none) (ct := pz_ctf ct3_X8_signer) (rz := false) (by decide +kernel) rfl t_X8_signer_ok (pz_flk fl_RX8_ok) (fun i v h => by cases h) ?_ ?_ (Or.inl ⟨rfl, rfl⟩) ?_ ?_
  · exact fun i k' h => pz_ctk (l := ct3_X8_signer) (P := fun b i k => b = true → pz_cV 0 0 RX8 i k) (fun _ h => absurd h List.not_mem_nil) true i k' h rfl
  · exact fun i k' h => pz_ctk (l := ct3_X8_signer) (P := fun b i k => b = false → (pz_cS 0 0 RX8 i k ∨ (k = pz_kac ∧ 1 ≤ 0 ∧ 60 ≤ 0 ∧ Cond.methodLink RX8 i arraycopyName ∈ pz_tbl))) (fun _ h => absurd h List.not_mem_nil) false i k' h rfl
  · intro a M hlen hpre
    obtain ⟨th, i, rfl, hpre⟩ : ∃ th i, a = [.inr (.inr (8, th)), .inl i] ∧ (pz_ic M) := by
      have hpre : (match (generalizing := false) a with | [.inr (.inr (8, th)), .inl i] => pz_ic M | _ => False) := hpre
      split at hpre
      · exact ⟨_, _, rfl, hpre⟩
      · exact hpre.elim
    exact Nat.le_of_ble_eq_true rfl
  · intro a M hlen hcan hM hpre Ok hgo
    obtain ⟨th, i, rfl, hpre⟩ : ∃ th i, a = [.inr (.inr (8, th)), .inl i] ∧ (pz_ic M) := by
      have hpre : (match (generalizing := false) a with | [.inr (.inr (8, th)), .inl i] => pz_ic M | _ => False) := hpre
      split at hpre
      · exact ⟨_, _, rfl, hpre⟩
      · exact hpre.elim
    obtain ⟨k_th, hc_th⟩ := pz_tlm hcan
    have k_th : pz_kd th = 8 ∧ th < 231 := k_th
    have R_th := pz_kd8 k_th.1
    subst R_th
    obtain ⟨k_i, hc_i⟩ := pz_tlm hc_th
    have l_i : -2147483648 ≤ i := k_i.1
    have u_i : i ≤ 2147483647 := k_i.2
    have hI : pz_ic M := hpre
    refine hgo (fun _ => false) 19 0 _ [] M ?_
    intro v1 e1 a1 b1
    refine And.intro (fun h5 => ?_) (fun h5 => ?_)
    · skip
      refine And.intro rfl ?_
      refine ⟨?_, rfl⟩
      first
        | (rw [if_pos (by omega)]
           assumption)
        | (rw [if_neg (by omega)])
    · skip
      refine And.intro (fun h9 => ?_) (fun h9 => ?_)
      · skip
        refine And.intro rfl ?_
        refine ⟨?_, rfl⟩
        first
          | (rw [if_pos (by omega)]
             assumption)
          | (rw [if_neg (by omega)])
      · skip
        intro v14 e14 a14 b14
        have I14 := hI.2.2.2.2.2
        refine And.intro (fun h17 => ?_) (fun h17 => ?_)
        · skip
          refine And.intro rfl ?_
          refine ⟨?_, rfl⟩
          first
            | (rw [if_pos (by omega)]
               assumption)
            | (rw [if_neg (by omega)])
        · skip
          refine pz_nrc (c := 58) rfl ?_
          refine And.intro (by omega) (And.intro (show _ < (12 : Int) from by omega) ?_)
          intro v25 e25 a25 b25
          have E25 : v25 = M 58 i.toNat := e25
          refine And.intro rfl ?_
          refine ⟨?_, rfl⟩
          first
            | (rw [if_pos (by omega)]
               assumption)
            | (rw [if_neg (by omega)])
theorem v3_X8_signer {fr lo i : Nat} {own : String} (h1 : 0 + 1 ≤ fr) (h2 : 8 + (2 + 11) + 0 ≤ lo) (h3 : .methodLink own i yX8_signer ∈ lw_tbl) : pz_cV fr lo own i k3_X8_signer :=
  pz_cVk (maxL := 2) (fr' := 0) (lo' := 0) 1 8 h3_X8_signer rfl ⟨by decide +kernel, by decide +kernel, by decide +kernel⟩ ⟨(pz_mt 1024 (by decide +kernel)), (pz_mt 1022 (by decide +kernel)), (pz_mt 1023 (by decide +kernel)), (pz_mt 12 (by decide +kernel))⟩ (Or.inl ⟨TX8, 8, rfl⟩) (fun a M _ h => by
    have h : (match (generalizing := false) a with | [.inr (.inr (8, th)), .inl i] => pz_ic M | _ => False) := h
    split at h
    · exact ⟨_, _, rfl⟩
    · exact h.elim) h1 h2 h3
noncomputable def k3_X11_signs : pz_C := (2, 1, fun a M => (match a with | [.inr (.inr (11, th)), .inl w] => pz_ic M | _ => False), fun a M r M' => (match a, r with | [.inr (.inr (11, th)), .inl w], some (.inl v) => (sg_cs M M' 8 (M 71 3) ∧ sg_vw M' w v) ∧ pq_pr sg_PD M M' | _, _ => False))
noncomputable abbrev ct3_X11_signs : List (Bool × Nat × pz_C) := [(true, 309, k3_X8_plan), (false, 137, k_X11_within), (true, 319, k3_X8_signer)]
set_option maxRecDepth 100000 in
set_option maxHeartbeats 4000000 in
theorem h3_X11_signs : pz_H yX11_signs cX11_signs 2 (some .int) k3_X11_signs 4 89 := by
  refine pz_mk (own := RX11) (tb := t_X11_signs) (fl := pz_flf fl_RX11) (ci := pz_cif ci_RX11) (ct := pz_ctf ct3_X11_signs) (rz := false) (by decide +kernel) rfl t_X11_signs_ok (pz_flk fl_RX11_ok) (pz_cik ci_RX11_ok) ?_ ?_ (Or.inl ⟨rfl, rfl⟩) ?_ ?_
  · exact fun i k' h => pz_ctk (l := ct3_X11_signs) (P := fun b i k => b = true → pz_cV 4 89 RX11 i k) (List.forall_mem_cons.mpr ⟨(fun _ => v3_X8_plan (by decide) (by decide) (pz_mt 1000 (by decide +kernel))), List.forall_mem_cons.mpr ⟨((fun z => by cases z)), List.forall_mem_cons.mpr ⟨(fun _ => v3_X8_signer (by decide) (by decide) (pz_mt 1021 (by decide +kernel))), fun _ h => absurd h List.not_mem_nil⟩⟩⟩) true i k' h rfl
  · exact fun i k' h => pz_ctk (l := ct3_X11_signs) (P := fun b i k => b = false → (pz_cS 4 89 RX11 i k ∨ (k = pz_kac ∧ 1 ≤ 4 ∧ 60 ≤ 89 ∧ Cond.methodLink RX11 i arraycopyName ∈ pz_tbl))) (List.forall_mem_cons.mpr ⟨((fun z => by cases z)), List.forall_mem_cons.mpr ⟨(fun _ => Or.inl (s_X11_within (by decide) (by decide) (Or.inl (pz_mt 425 (by decide +kernel))))), List.forall_mem_cons.mpr ⟨((fun z => by cases z)), fun _ h => absurd h List.not_mem_nil⟩⟩⟩) false i k' h rfl
  · intro a M hlen hpre
    obtain ⟨th, w, rfl, hpre⟩ : ∃ th w, a = [.inr (.inr (11, th)), .inl w] ∧ (pz_ic M) := by
      have hpre : (match (generalizing := false) a with | [.inr (.inr (11, th)), .inl w] => pz_ic M | _ => False) := hpre
      split at hpre
      · exact ⟨_, _, rfl, hpre⟩
      · exact hpre.elim
    exact Nat.le_of_ble_eq_true rfl
  · intro a M hlen hcan hM hpre Ok hgo
    obtain ⟨th, w, rfl, hpre⟩ : ∃ th w, a = [.inr (.inr (11, th)), .inl w] ∧ (pz_ic M) := by
      have hpre : (match (generalizing := false) a with | [.inr (.inr (11, th)), .inl w] => pz_ic M | _ => False) := hpre
      split at hpre
      · exact ⟨_, _, rfl, hpre⟩
      · exact hpre.elim
    obtain ⟨k_th, hc_th⟩ := pz_tlm hcan
    have k_th : pz_kd th = 11 ∧ th < 231 := k_th
    have R_th := pz_kd11 k_th.1
    subst R_th
    obtain ⟨k_w, hc_w⟩ := pz_tlm hc_th
    have l_w : -2147483648 ≤ w := k_w.1
    have u_w : w ≤ 2147483647 := k_w.2
    have hI : pz_ic M := hpre
    have hI0 := hI
    have hS : pq_pr sg_PD M M := pq_pr.rf
    have I71 := hI.1 71 (by omega) (by omega)
    refine hgo (fun _ => false) 37 0 _ [] M ?_
    refine pz_nrc (c := 7) rfl ?_
    refine pz_nrc (c := 71) rfl ?_
    intro v8 e8 a8 b8
    have I8 := hI.1 71 (by omega) (by omega)
    have C8 : v8 = M 71 3 := e8
    refine pz_nrc (c := 8) rfl ?_
    refine And.intro (And.intro hI (by omega)) ?_
    intro M15 q15
    obtain ⟨q15, z15⟩ := q15
    have hS : pq_pr sg_PD M M15 := hS.tr z15
    have hI : pz_ic M15 := hS.1 hI0
    refine And.intro (fun h20 => ?_) (fun h20 => ?_)
    · skip
      refine And.intro (fun h32 => ?_) (fun h32 => ?_)
      · skip
        refine And.intro (True.intro) ?_
        intro v48 M48 a48 b48 q48
        obtain ⟨q48, z48⟩ := q48
        subst z48
        refine And.intro (fun h51 => ?_) (fun h51 => ?_)
        · skip
          refine And.intro rfl ?_
          rw [show v8 = M 71 3 from e8] at q15
          first
            | (have wq : 10 ≤ w ∧ w ≤ 21 := by
                 split at q48 <;> omega
               rw [pz_wi (by omega) (by omega)] at e61
               rw [e61] at q62
               exact ⟨⟨q15, fun y => by omega, fun y => by omega, fun _ => q62, fun y => by omega⟩, hS⟩)
            | (have wq : ¬ (10 ≤ w ∧ w ≤ 21) := by
                 split at q48 <;> omega
               exact ⟨⟨q15, fun y => by omega, fun y => by omega, fun y => absurd y wq, fun _ => rfl⟩, hS⟩)
        · skip
          refine pz_nrc (c := 7) rfl ?_
          intro v61 e61 a61 b61
          refine And.intro (hI) ?_
          intro v62 M62 a62 b62 q62
          obtain ⟨q62, z62⟩ := q62
          subst z62
          refine And.intro rfl ?_
          rw [show v8 = M 71 3 from e8] at q15
          first
            | (have wq : 10 ≤ w ∧ w ≤ 21 := by
                 split at q48 <;> omega
               rw [pz_wi (by omega) (by omega)] at e61
               rw [e61] at q62
               exact ⟨⟨q15, fun y => by omega, fun y => by omega, fun _ => q62, fun y => by omega⟩, hS⟩)
            | (have wq : ¬ (10 ≤ w ∧ w ≤ 21) := by
                 split at q48 <;> omega
               exact ⟨⟨q15, fun y => by omega, fun y => by omega, fun y => absurd y wq, fun _ => rfl⟩, hS⟩)
      · skip
        refine pz_nrc (c := 7) rfl ?_
        intro v39 e39 a39 b39
        refine And.intro rfl ?_
        refine ⟨⟨by rw [← C8]; exact q15, fun y => by omega, fun _ => by omega, fun y => by omega, fun y => by omega⟩, hS⟩
    · skip
      refine pz_nrc (c := 7) rfl ?_
      intro v27 e27 a27 b27
      refine And.intro rfl ?_
      refine ⟨⟨by rw [← C8]; exact q15, fun _ => by omega, fun y => by omega, fun y => by omega, fun y => by omega⟩, hS⟩
theorem v3_X11_signs {fr lo i : Nat} {own : String} (h1 : 4 + 1 ≤ fr) (h2 : 8 + (2 + 11) + 89 ≤ lo) (h3 : .methodLink own i yX11_signs ∈ lw_tbl) : pz_cV fr lo own i k3_X11_signs :=
  pz_cVk (maxL := 2) (fr' := 4) (lo' := 89) 1 11 h3_X11_signs rfl ⟨by decide +kernel, by decide +kernel, by decide +kernel⟩ ⟨(pz_mt 999 (by decide +kernel)), (pz_mt 997 (by decide +kernel)), (pz_mt 998 (by decide +kernel)), (pz_mt 1 (by decide +kernel))⟩ (Or.inl ⟨TX11, 14, rfl⟩) (fun a M _ h => by
    have h : (match (generalizing := false) a with | [.inr (.inr (11, th)), .inl w] => pz_ic M | _ => False) := h
    split at h
    · exact ⟨_, _, rfl⟩
    · exact h.elim) h1 h2 h3
