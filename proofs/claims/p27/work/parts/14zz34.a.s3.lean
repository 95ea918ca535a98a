noncomputable def k3_X8_findEarliest : pz_C := (1, 0, fun a M => (match a with | [.inr (.inr (8, th))] => pz_ic M | _ => False), fun a M r M' => (match a, r with | [.inr (.inr (8, th))], none => (∀ f g : Nat → Int, sg_fg f g (M 7 3) → sg_ph M f g (M 7 3) → sg_ea f g 0 (sg_S (M 7 3).toNat) (M' 7 1) ∧ M' 7 1 ≤ 240 ∧ sg_most f g (M 7 3).toNat (M' 7 2)) ∧ pq_pr sg_PA M M' | _, _ => False))
noncomputable abbrev ct3_X8_findEarliest : List (Bool × Nat × pz_C) := [(false, 62, k_J9_max_7cf53), (false, 65, k_J6_bitCount_0f7a4)]
set_option maxRecDepth 100000 in
set_option maxHeartbeats 4000000 in
theorem h3_X8_findEarliest : pz_H yX8_findEarliest cX8_findEarliest 6 none k3_X8_findEarliest 1 21 := by
  refine pz_mk (own := RX8) (tb := t_X8_findEarliest) (fl := pz_flf fl_RX8) (ci := fun _ => none) (ct := pz_ctf ct3_X8_findEarliest) (rz := false) (by decide +kernel) rfl t_X8_findEarliest_ok (pz_flk fl_RX8_ok) (fun i v h => by cases h) ?_ ?_ (rfl) ?_ ?_
  · exact fun i k' h => pz_ctk (l := ct3_X8_findEarliest) (P := fun b i k => b = true → pz_cV 1 21 RX8 i k) (List.forall_mem_cons.mpr ⟨((fun z => by cases z)), List.forall_mem_cons.mpr ⟨((fun z => by cases z)), fun _ h => absurd h List.not_mem_nil⟩⟩) true i k' h rfl
  · exact fun i k' h => pz_ctk (l := ct3_X8_findEarliest) (P := fun b i k => b = false → (pz_cS 1 21 RX8 i k ∨ (k = pz_kac ∧ 1 ≤ 1 ∧ 60 ≤ 21 ∧ Cond.methodLink RX8 i arraycopyName ∈ pz_tbl))) (List.forall_mem_cons.mpr ⟨(fun _ => Or.inl (s_J9_max_7cf53 (by decide) (by decide) (Or.inl (pz_mt 1011 (by decide +kernel))))), List.forall_mem_cons.mpr ⟨(fun _ => Or.inl (s_J6_bitCount_0f7a4 (by decide) (by decide) (Or.inl (pz_mt 1012 (by decide +kernel))))), fun _ h => absurd h List.not_mem_nil⟩⟩) false i k' h rfl
  · intro a M hlen hpre
    obtain ⟨th, rfl, hpre⟩ : ∃ th, a = [.inr (.inr (8, th))] ∧ (pz_ic M) := by
      have hpre : (match (generalizing := false) a with | [.inr (.inr (8, th))] => pz_ic M | _ => False) := hpre
      split at hpre
      · exact ⟨_, rfl, hpre⟩
      · exact hpre.elim
    exact Nat.le_of_ble_eq_true rfl
  · intro a M hlen hcan hM hpre Ok hgo
    obtain ⟨th, rfl, hpre⟩ : ∃ th, a = [.inr (.inr (8, th))] ∧ (pz_ic M) := by
      have hpre : (match (generalizing := false) a with | [.inr (.inr (8, th))] => pz_ic M | _ => False) := hpre
      split at hpre
      · exact ⟨_, rfl, hpre⟩
      · exact hpre.elim
    obtain ⟨k_th, hc_th⟩ := pz_tlm hcan
    have k_th : pz_kd th = 8 ∧ th < 231 := k_th
    have R_th := pz_kd8 k_th.1
    subst R_th
    have hI : pz_ic M := hpre
    have hI0 := hI
    have hS : pq_pr sg_PA M M := pq_pr.rf
    have I73 := hI.2.2.2.2.2
    have B2 := sg_2_b I73.2
    have L14 : ∀ (fo : Nat) (x1 : Int) (d2 : Option pz_V) (d3 : Option pz_V) (d4 : Option pz_V) (d5 : Option pz_V) (N14 : pz_M), (4096 - x1).toNat < fo → (pq_pr sg_PA M N14) → (1 ≤ x1) → (x1 ≤ 4096) → (x1 ≤ sg_2 (M 7 3)) → (∀ f g : Nat → Int, sg_fg f g (M 7 3) → sg_ph M f g (M 7 3) → sg_X f g N14 x1) → Ok 14 [some (.inr (.inr (8, 7))), some (.inl x1), d2, d3, d4, d5] [] N14 := by
      intro fo
      induction fo with
      | zero => exact fun _ _ _ _ _ _ hn => absurd hn (Nat.not_lt_zero _)
      | succ fo ih14 =>
        intro x1 d2 d3 d4 d5 N14 hn14 hS g14_1 g14_2 g14_3 g14_4
        have hI : pz_ic N14 := hS.1 hI0
        have L140 : ∀ (x1 : Int) (x2 : Int) (x3 : Int) (d4 : Option pz_V) (d5 : Option pz_V) (N140 : pz_M), (pq_pr sg_PA M N140) → (1 ≤ x1) → (x1 < 4096) → ((4096 - x1).toNat < fo + 1) → (x1 < sg_2 (M 7 3)) → (∀ f g : Nat → Int, sg_fg f g (M 7 3) → sg_ph M f g (M 7 3) → sg_X f g N140 (x1 + 1)) → Ok 140 [some (.inr (.inr (8, 7))), some (.inl x1), some (.inl x2), some (.inl x3), d4, d5] [] N140 := by
          intro x1 x2 x3 d4 d5 N140 hS g140_1 g140_2 g140_3 g140_4 g140_5
          have hI : pz_ic N140 := hS.1 hI0
          refine hgo (fun p => Nat.beq p 14 || Nat.beq p 28 || Nat.beq p 58 || Nat.beq p 107 || Nat.beq p 140) 100 140 _ _ _ ?_
          intro v140 e140 a140 b140
          rw [pz_wi (by omega) (by omega)] at e140
          have G14 : ∀ f g : Nat → Int, sg_fg f g (M 7 3) → sg_ph M f g (M 7 3) → sg_X f g N140 v140 := by
            rw [e140]
            assumption
          exact ih14 _ _ _ _ _ _ (by omega) hS (by first | omega | assumption) (by first | omega | assumption) (by first | omega | assumption) (by first | omega | assumption)
        have L28 : ∀ (fu : Nat) (x1 : Int) (x2 : Int) (x3 : Int) (d4 : Option pz_V) (d5 : Option pz_V) (N28 : pz_M), (12 - x3).toNat < fu → (pq_pr sg_PA M N28) → (0 ≤ x3) → (1 ≤ x1) → (x1 < 4096) → ((4096 - x1).toNat < fo + 1) → (x1 < sg_2 (M 7 3)) → (∀ f g : Nat → Int, sg_fg f g (M 7 3) → sg_ph M f g (M 7 3) → sg_X f g N28 x1 ∧ sg_bn f g (sg_V 59 N28 x1.toNat) (sg_bt x1.toNat) x3 x2) → (x3 ≤ M 7 3) → Ok 28 [some (.inr (.inr (8, 7))), some (.inl x1), some (.inl x2), some (.inl x3), d4, d5] [] N28 := by
          intro fu
          induction fu with
          | zero => exact fun _ _ _ _ _ _ hn => absurd hn (Nat.not_lt_zero _)
          | succ fu ih28 =>
            intro x1 x2 x3 d4 d5 N28 hn28 hS g28_1 g28_2 g28_3 g28_4 g28_5 g28_6 g28_7
            have hI : pz_ic N28 := hS.1 hI0
            have L107 : ∀ (x1 : Int) (x2 : Int) (x3 : Int) (x4 : Int) (x5 : Int) (N107 : pz_M), (pq_pr sg_PA M N107) → (0 ≤ x3) → (x3 < 12) → ((12 - x3).toNat < fu + 1) → (1 ≤ x1) → (x1 < 4096) → ((4096 - x1).toNat < fo + 1) → (x1 < sg_2 (M 7 3)) → (x3 < M 7 3) → (∀ f g : Nat → Int, sg_fg f g (M 7 3) → sg_ph M f g (M 7 3) → sg_X f g N107 x1 ∧ sg_bn f g (sg_V 59 N107 x1.toNat) (sg_bt x1.toNat) (x3 + 1) x2) → Ok 107 [some (.inr (.inr (8, 7))), some (.inl x1), some (.inl x2), some (.inl x3), some (.inl x4), some (.inl x5)] [] N107 := by
              intro x1 x2 x3 x4 x5 N107 hS g107_1 g107_2 g107_3 g107_4 g107_5 g107_6 g107_7 g107_8 g107_9
              have hI : pz_ic N107 := hS.1 hI0
              refine hgo (fun p => Nat.beq p 14 || Nat.beq p 28 || Nat.beq p 58 || Nat.beq p 107 || Nat.beq p 140) 100 107 _ _ _ ?_
              intro v107 e107 a107 b107
              rw [pz_wi (by omega) (by omega)] at e107
              have G28 : ∀ f g : Nat → Int, sg_fg f g (M 7 3) → sg_ph M f g (M 7 3) → sg_X f g N107 x1 ∧ sg_bn f g (sg_V 59 N107 x1.toNat) (sg_bt x1.toNat) v107 x2 := by
                rw [e107]
                assumption
              exact ih28 _ _ _ _ _ _ (by omega) hS (by first | omega | assumption) (by first | omega | assumption) (by first | omega | assumption) (by first | omega | assumption) (by first | omega | assumption) (by first | omega | assumption) (by first | omega | assumption)
            have L58 : ∀ (x1 : Int) (x2 : Int) (x3 : Int) (d4 : Option pz_V) (d5 : Option pz_V) (s0 : Int) (N58 : pz_M), (pq_pr sg_PA M N58) → (0 ≤ x3) → (x3 < 12) → ((12 - x3).toNat < fu + 1) → (1 ≤ x1) → (x1 < 4096) → ((4096 - x1).toNat < fo + 1) → (x1 < sg_2 (M 7 3)) → (x3 < M 7 3) → (∀ f g : Nat → Int, sg_fg f g (M 7 3) → sg_ph M f g (M 7 3) → sg_X f g N58 x1 ∧ sg_bn f g (sg_V 59 N58 x1.toNat) (sg_bt x1.toNat) x3 x2) → (sg_bf (sg_V 59 N58 x1.toNat) (sg_bt x1.toNat) x3.toNat s0) → Ok 58 [some (.inr (.inr (8, 7))), some (.inl x1), some (.inl x2), some (.inl x3), d4, d5] [.inl s0] N58 := by
              intro x1 x2 x3 d4 d5 s0 N58 hS g58_1 g58_2 g58_3 g58_4 g58_5 g58_6 g58_7 g58_8 g58_9 g58_10
              have hI : pz_ic N58 := hS.1 hI0
              refine hgo (fun p => Nat.beq p 14 || Nat.beq p 28 || Nat.beq p 58 || Nat.beq p 107 || Nat.beq p 140) 100 58 _ _ _ ?_
              refine pz_nrc (c := 56) rfl ?_
              refine And.intro (by omega) (And.intro (show _ < (12 : Int) from by omega) ?_)
              intro v67 e67 a67 b67
              have C67 : v67 = M 56 x3.toNat := e67.trans (hS.2 56 _ (by unfold sg_PA; omega))
              refine And.intro (True.intro) ?_
              intro v68 M68 a68 b68 q68
              obtain ⟨q68, z68⟩ := q68
              subst z68
              intro v73 e73 a73 b73
              refine And.intro (fun h79 => ?_) (fun h79 => ?_)
              · skip
                have G107 : ∀ f g : Nat → Int, sg_fg f g (M 7 3) → sg_ph M f g (M 7 3) → sg_X f g N58 x1 ∧ sg_bn f g (sg_V 59 N58 x1.toNat) (sg_bt x1.toNat) (x3 + 1) x2 := fun f g hf hp => by
                  obtain ⟨gX, gB⟩ := (by assumption : ∀ f g : Nat → Int, sg_fg f g (M 7 3) → sg_ph M f g (M 7 3) → sg_X f g N58 x1 ∧ sg_bn f g (sg_V 59 N58 x1.toNat) (sg_bt x1.toNat) x3 x2) f g hf hp
                  have g58_b : sg_bf (sg_V 59 N58 x1.toNat) (sg_bt x1.toNat) x3.toNat s0 := by assumption
                  exact ⟨gX, sg_bn_n gB (by omega) rfl g58_b (Or.inl (by omega))⟩
                exact L107 _ _ _ _ _ _ hS (by first | omega | assumption) (by first | omega | assumption) (by first | omega | assumption) (by first | omega | assumption) (by first | omega | assumption) (by first | omega | assumption) (by first | omega | assumption) (by first | omega | assumption) (by first | omega | assumption)
              · skip
                skip
                refine pz_nrc (c := 57) rfl ?_
                refine And.intro (by omega) (And.intro (show _ < (12 : Int) from by omega) ?_)
                intro v89 e89 a89 b89
                have C89 : v89 = M 57 x3.toNat := e89.trans (hS.2 57 _ (by unfold sg_PA; omega))
                refine And.intro (fun h90 => ?_) (fun h90 => ?_)
                · skip
                  have G107 : ∀ f g : Nat → Int, sg_fg f g (M 7 3) → sg_ph M f g (M 7 3) → sg_X f g N58 x1 ∧ sg_bn f g (sg_V 59 N58 x1.toNat) (sg_bt x1.toNat) (x3 + 1) x2 := fun f g hf hp => by
                    obtain ⟨gX, gB⟩ := (by assumption : ∀ f g : Nat → Int, sg_fg f g (M 7 3) → sg_ph M f g (M 7 3) → sg_X f g N58 x1 ∧ sg_bn f g (sg_V 59 N58 x1.toNat) (sg_bt x1.toNat) x3 x2) f g hf hp
                    have g58_b : sg_bf (sg_V 59 N58 x1.toNat) (sg_bt x1.toNat) x3.toNat s0 := by assumption
                    have pf := hf x3.toNat (by omega)
                    have pp := hp x3.toNat (by omega)
                    have vb := sg_bf_b gX.1 (by omega) g58_b
                    have dd : v73 = sg_d f s0 x3.toNat := sg_dn q68 (C67.trans pp.1) pf.1 vb e73
                    have p2 := pp.2
                    exact ⟨gX, sg_bn_n gB (by omega) rfl g58_b (Or.inr (by omega))⟩
                  exact L107 _ _ _ _ _ _ hS (by first | omega | assumption) (by first | omega | assumption) (by first | omega | assumption) (by first | omega | assumption) (by first | omega | assumption) (by first | omega | assumption) (by first | omega | assumption) (by first | omega | assumption) (by first | omega | assumption)
                · skip
                  skip
                  refine And.intro (fun h95 => ?_) (fun h95 => ?_)
                  · skip
                    have G107 : ∀ f g : Nat → Int, sg_fg f g (M 7 3) → sg_ph M f g (M 7 3) → sg_X f g N58 x1 ∧ sg_bn f g (sg_V 59 N58 x1.toNat) (sg_bt x1.toNat) (x3 + 1) v73 := fun f g hf hp => by
                      obtain ⟨gX, gB⟩ := (by assumption : ∀ f g : Nat → Int, sg_fg f g (M 7 3) → sg_ph M f g (M 7 3) → sg_X f g N58 x1 ∧ sg_bn f g (sg_V 59 N58 x1.toNat) (sg_bt x1.toNat) x3 x2) f g hf hp
                      have g58_b : sg_bf (sg_V 59 N58 x1.toNat) (sg_bt x1.toNat) x3.toNat s0 := by assumption
                      have pf := hf x3.toNat (by omega)
                      have pp := hp x3.toNat (by omega)
                      have vb := sg_bf_b gX.1 (by omega) g58_b
                      have dd : v73 = sg_d f s0 x3.toNat := sg_dn q68 (C67.trans pp.1) pf.1 vb e73
                      have p2 := pp.2
                      exact ⟨gX, sg_bn_y gB hf (by omega) rfl (by omega) g58_b (by omega) (by omega) (Or.inl ⟨dd, Or.inl (by omega)⟩)⟩
                    exact L107 _ _ _ _ _ _ hS (by first | omega | assumption) (by first | omega | assumption) (by first | omega | assumption) (by first | omega | assumption) (by first | omega | assumption) (by first | omega | assumption) (by first | omega | assumption) (by first | omega | assumption) (by first | omega | assumption)
                  · skip
                    skip
                    refine And.intro (fun h101 => ?_) (fun h101 => ?_)
                    · skip
                      have G107 : ∀ f g : Nat → Int, sg_fg f g (M 7 3) → sg_ph M f g (M 7 3) → sg_X f g N58 x1 ∧ sg_bn f g (sg_V 59 N58 x1.toNat) (sg_bt x1.toNat) (x3 + 1) x2 := fun f g hf hp => by
                        obtain ⟨gX, gB⟩ := (by assumption : ∀ f g : Nat → Int, sg_fg f g (M 7 3) → sg_ph M f g (M 7 3) → sg_X f g N58 x1 ∧ sg_bn f g (sg_V 59 N58 x1.toNat) (sg_bt x1.toNat) x3 x2) f g hf hp
                        have g58_b : sg_bf (sg_V 59 N58 x1.toNat) (sg_bt x1.toNat) x3.toNat s0 := by assumption
                        have pf := hf x3.toNat (by omega)
                        have pp := hp x3.toNat (by omega)
                        have vb := sg_bf_b gX.1 (by omega) g58_b
                        have dd : v73 = sg_d f s0 x3.toNat := sg_dn q68 (C67.trans pp.1) pf.1 vb e73
                        have p2 := pp.2
                        exact ⟨gX, sg_bn_y gB hf (by omega) rfl (by omega) g58_b (by omega) (by omega) (Or.inr ⟨rfl, by omega, by omega⟩)⟩
                      exact L107 _ _ _ _ _ _ hS (by first | omega | assumption) (by first | omega | assumption) (by first | omega | assumption) (by first | omega | assumption) (by first | omega | assumption) (by first | omega | assumption) (by first | omega | assumption) (by first | omega | assumption) (by first | omega | assumption)
                    · skip
                      have G107 : ∀ f g : Nat → Int, sg_fg f g (M 7 3) → sg_ph M f g (M 7 3) → sg_X f g N58 x1 ∧ sg_bn f g (sg_V 59 N58 x1.toNat) (sg_bt x1.toNat) (x3 + 1) v73 := fun f g hf hp => by
                        obtain ⟨gX, gB⟩ := (by assumption : ∀ f g : Nat → Int, sg_fg f g (M 7 3) → sg_ph M f g (M 7 3) → sg_X f g N58 x1 ∧ sg_bn f g (sg_V 59 N58 x1.toNat) (sg_bt x1.toNat) x3 x2) f g hf hp
                        have g58_b : sg_bf (sg_V 59 N58 x1.toNat) (sg_bt x1.toNat) x3.toNat s0 := by assumption
                        have pf := hf x3.toNat (by omega)
                        have pp := hp x3.toNat (by omega)
                        have vb := sg_bf_b gX.1 (by omega) g58_b
                        have dd : v73 = sg_d f s0 x3.toNat := sg_dn q68 (C67.trans pp.1) pf.1 vb e73
                        have p2 := pp.2
                        exact ⟨gX, sg_bn_y gB hf (by omega) rfl (by omega) g58_b (by omega) (by omega) (Or.inl ⟨dd, Or.inr (by omega)⟩)⟩
                      exact L107 _ _ _ _ _ _ hS (by first | omega | assumption) (by first | omega | assumption) (by first | omega | assumption) (by first | omega | assumption) (by first | omega | assumption) (by first | omega | assumption) (by first | omega | assumption) (by first | omega | assumption) (by first | omega | assumption)
            refine hgo (fun p => Nat.beq p 14 || Nat.beq p 28 || Nat.beq p 58 || Nat.beq p 107 || Nat.beq p 140) 100 28 _ _ _ ?_
            intro v30 e30 a30 b30
            have I30 := hI.2.2.2.2.2
            have C30 : v30 = M 7 3 := e30.trans (hS.2 7 3 (by unfold sg_PA; omega))
            refine And.intro (fun h33 => ?_) (fun h33 => ?_)
            · skip
              refine pz_nrc (c := 59) rfl ?_
              refine And.intro (by omega) (And.intro (show _ < (4096 : Int) from by omega) ?_)
              intro M119 e119
              have hS : pq_pr sg_PA M M119 := by
                rw [e119]
                exact pq_pr_u hS (by unfold sg_PA; omega) (by unfold pz_iok; omega)
              have hI : pz_ic M119 := hS.1 hI0
              refine And.intro (fun h122 => ?_) (fun h122 => ?_)
              · skip
                have G140 : ∀ f g : Nat → Int, sg_fg f g (M 7 3) → sg_ph M f g (M 7 3) → sg_X f g M119 (x1 + 1) := fun f g hf hp => by
                  obtain ⟨gX, gB⟩ := (by assumption : ∀ f g : Nat → Int, sg_fg f g (M 7 3) → sg_ph M f g (M 7 3) → sg_X f g N28 x1 ∧ sg_bn f g (sg_V 59 N28 x1.toNat) (sg_bt x1.toNat) x3 x2) f g hf hp
                  exact sg_X_n gX gB hf (by omega) (by omega) I73.1 (by omega) (by omega) e119 (by omega)
                exact L140 _ _ _ _ _ _ hS (by first | omega | assumption) (by first | omega | assumption) (by first | omega | assumption) (by first | omega | assumption) (by first | omega | assumption)
              · skip
                skip
                intro v127 e127 a127 b127
                refine And.intro (True.intro) ?_
                intro v131 M131 a131 b131 q131
                obtain ⟨q131, z131⟩ := q131
                subst z131
                refine And.intro (True.intro) ?_
                intro v134 M134 a134 b134 q134
                obtain ⟨q134, z134⟩ := q134
                subst z134
                intro M137 e137
                have hS : pq_pr sg_PA M M137 := by
                  rw [e137]
                  exact pq_pr_u hS (by unfold sg_PA; omega) (by unfold pz_iok; omega)
                have hI : pz_ic M137 := hS.1 hI0
                have G140 : ∀ f g : Nat → Int, sg_fg f g (M 7 3) → sg_ph M f g (M 7 3) → sg_X f g M137 (x1 + 1) := fun f g hf hp => by
                  obtain ⟨gX, gB⟩ := (by assumption : ∀ f g : Nat → Int, sg_fg f g (M 7 3) → sg_ph M f g (M 7 3) → sg_X f g N28 x1 ∧ sg_bn f g (sg_V 59 N28 x1.toNat) (sg_bt x1.toNat) x3 x2) f g hf hp
                  exact sg_X_y gX gB hf (by omega) (by omega) I73.1 (by omega) (by omega) e119 (by omega) (q131 _ (sg_zs (by omega) (by omega))) (by rw [q134, e127]) e137
                exact L140 _ _ _ _ _ _ hS (by first | omega | assumption) (by first | omega | assumption) (by first | omega | assumption) (by first | omega | assumption) (by first | omega | assumption)
            · skip
              intro v38 e38 a38 b38
              intro v40 e40 a40 b40
              have B40 := pz_sb_at (sg_zs (x := x1) (by omega) (by omega)) (show 0 ≤ x3 by omega) (by omega) e38 e40
              refine And.intro (fun h41 => ?_) (fun h41 => ?_)
              · skip
                have F41 : sg_bt x1.toNat x3.toNat = false := sg_at_n B40 (by omega)
                have G58 : sg_bf (sg_V 59 N28 x1.toNat) (sg_bt x1.toNat) x3.toNat (-1) := Or.inr ⟨F41, rfl⟩
                exact L58 _ _ _ _ _ _ _ hS (by first | omega | assumption) (by first | omega | assumption) (by first | omega | assumption) (by first | omega | assumption) (by first | omega | assumption) (by first | omega | assumption) (by first | omega | assumption) (by first | omega | assumption) (by first | omega | assumption) (by first | omega | assumption)
              · skip
                have F41 : sg_bt x1.toNat x3.toNat = true := sg_at_y B40 (by omega)
                refine pz_nrc (c := 59) rfl ?_
                intro v51 e51 a51 b51
                have S51 := pz_shl1 (c := x3) (by omega) (by omega)
                rw [← e51] at S51
                intro v52 e52 a52 b52
                have X52 := sg_xi (x := x1) (i := x3) ⟨by omega, by omega⟩ ⟨by omega, by omega⟩ e51 e52
                refine And.intro (by omega) (And.intro (show _ < (4096 : Int) from by omega) ?_)
                intro v53 e53 a53 b53
                rw [X52.1] at e53
                have G58 : sg_bf (sg_V 59 N28 x1.toNat) (sg_bt x1.toNat) x3.toNat v53 := Or.inl ⟨F41, e53⟩
                exact L58 _ _ _ _ _ _ _ hS (by first | omega | assumption) (by first | omega | assumption) (by first | omega | assumption) (by first | omega | assumption) (by first | omega | assumption) (by first | omega | assumption) (by first | omega | assumption) (by first | omega | assumption) (by first | omega | assumption) (by first | omega | assumption)
        refine hgo (fun p => Nat.beq p 14 || Nat.beq p 28 || Nat.beq p 58 || Nat.beq p 107 || Nat.beq p 140) 100 14 _ _ _ ?_
        intro v17 e17 a17 b17
        have I17 := hI.2.2.2.2.2
        have C17 : v17 = M 7 3 := e17.trans (hS.2 7 3 (by unfold sg_PA; omega))
        intro v20 e20 a20 b20
        have S20 := pz_shl1 (c := v17) (by omega) (by omega)
        rw [← e20] at S20
        have P20 : v20 = sg_2 (M 7 3) := by
          rw [e20, C17]
          exact sg_2_v (by omega) (by omega)
        refine And.intro (fun h21 => ?_) (fun h21 => ?_)
        · skip
          skip
          refine pz_nrc (c := 59) rfl ?_
          intro v153 e153 a153 b153
          have I153 := hI.2.2.2.2.2
          have C153 : v153 = M 7 3 := e153.trans (hS.2 7 3 (by unfold sg_PA; omega))
          intro v156 e156 a156 b156
          have S156 := pz_shl1 (c := v153) (by omega) (by omega)
          rw [← e156] at S156
          have P156 : v156 = sg_2 (M 7 3) := by
            rw [e156, C153]
            exact sg_2_v (by omega) (by omega)
          intro v158 e158 a158 b158
          rw [pz_wi (by omega) (by omega)] at e158
          refine And.intro (by omega) (And.intro (show _ < (4096 : Int) from by omega) ?_)
          intro v159 e159 a159 b159
          intro M160 e160
          have hS : pq_pr sg_PA M M160 := by
            rw [e160]
            exact pq_pr_u hS (by unfold sg_PA; omega) (by unfold pz_iok; omega)
          have hI : pz_ic M160 := hS.1 hI0
          refine And.intro rfl ?_
          refine ⟨fun f g hf hp => ?_, hS⟩
          have gX := (by assumption : ∀ f g : Nat → Int, sg_fg f g (M 7 3) → sg_ph M f g (M 7 3) → sg_X f g N14 x1) f g hf hp
          exact sg_X_z gX I73 (by omega) (show ((v158.toNat : Nat) : Int) = sg_2 (M 7 3) - 1 by omega) e159 e160
        · skip
          have G28 : ∀ f g : Nat → Int, sg_fg f g (M 7 3) → sg_ph M f g (M 7 3) → sg_X f g N14 x1 ∧ sg_bn f g (sg_V 59 N14 x1.toNat) (sg_bt x1.toNat) 0 (-1) := fun f g hf hp => ⟨(by assumption : ∀ f g : Nat → Int, sg_fg f g (M 7 3) → sg_ph M f g (M 7 3) → sg_X f g N14 x1) f g hf hp, sg_mn_0⟩
          exact L28 _ _ _ _ _ _ _ (Nat.lt_succ_self _) hS (by first | omega | assumption) (by first | omega | assumption) (by first | omega | assumption) (by first | omega | assumption) (by first | omega | assumption) (by first | omega | assumption) (by first | omega | assumption)
    refine hgo (fun p => Nat.beq p 14 || Nat.beq p 28 || Nat.beq p 58 || Nat.beq p 107 || Nat.beq p 140) 100 0 _ [] M ?_
    intro M2 e2
    have hS : pq_pr sg_PA M M2 := by
      rw [e2]
      exact pq_pr_u hS (by unfold sg_PA; omega) (by unfold pz_iok; omega)
    have hI : pz_ic M2 := hS.1 hI0
    refine pz_nrc (c := 59) rfl ?_
    refine And.intro (by omega) (And.intro (show _ < (4096 : Int) from by omega) ?_)
    intro M11 e11
    have hS : pq_pr sg_PA M M11 := by
      rw [e11]
      exact pq_pr_u hS (by unfold sg_PA; omega) (by unfold pz_iok; omega)
    have hI : pz_ic M11 := hS.1 hI0
    have G14 : ∀ f g : Nat → Int, sg_fg f g (M 7 3) → sg_ph M f g (M 7 3) → sg_X f g M11 1 := fun f g _ _ => sg_X_0 e2 e11
    exact L14 _ _ _ _ _ _ _ (Nat.lt_succ_self _) hS (by first | omega | assumption) (by first | omega | assumption) (by first | omega | assumption) (by first | omega | assumption)
theorem v3_X8_findEarliest {fr lo i : Nat} {own : String} (h1 : 1 + 1 ≤ fr) (h2 : 8 + (6 + 11) + 21 ≤ lo) (h3 : .methodLink own i yX8_findEarliest ∈ lw_tbl) : pz_cV fr lo own i k3_X8_findEarliest :=
  pz_cVk (maxL := 6) (fr' := 1) (lo' := 21) 0 8 h3_X8_findEarliest rfl ⟨by decide +kernel, by decide +kernel, by decide +kernel⟩ ⟨(pz_mt 1010 (by decide +kernel)), (pz_mt 1008 (by decide +kernel)), (pz_mt 1009 (by decide +kernel)), (pz_mt 12 (by decide +kernel))⟩ (Or.inl ⟨TX8, 8, rfl⟩) (fun a M _ h => by
    have h : (match (generalizing := false) a with | [.inr (.inr (8, th))] => pz_ic M | _ => False) := h
    split at h
    · exact ⟨_, _, rfl⟩
    · exact h.elim) h1 h2 h3
noncomputable def k3_X8_findLatest : pz_C := (1, 0, fun a M => (match a with | [.inr (.inr (8, th))] => pz_ic M | _ => False), fun a M r M' => (match a, r with | [.inr (.inr (8, th))], none => (∀ f g : Nat → Int, sg_fg f g (M 7 3) → sg_ph M f g (M 7 3) → 0 ≤ M 7 1 → M 7 1 ≤ 240 → sg_TL f g (M 7 1) M' (sg_2 (M 7 3))) ∧ pq_pr sg_PB M M' | _, _ => False))
noncomputable abbrev ct3_X8_findLatest : List (Bool × Nat × pz_C) := [(false, 28, k_J9_min_7cf53), (false, 62, k_J9_max_7cf53)]
set_option maxRecDepth 100000 in
set_option maxHeartbeats 4000000 in
theorem h3_X8_findLatest : pz_H yX8_findLatest cX8_findLatest 6 none k3_X8_findLatest 1 21 := by
  refine pz_mk (own := RX8) (tb := t_X8_findLatest) (fl := pz_flf fl_RX8) (ci := fun _ => none) (ct := pz_ctf ct3_X8_findLatest) (rz := false) (by decide +kernel) rfl t_X8_findLatest_ok (pz_flk fl_RX8_ok) (fun i v h => by cases h) ?_ ?_ (rfl) ?_ ?_
  · exact fun i k' h => pz_ctk (l := ct3_X8_findLatest) (P := fun b i k => b = true → pz_cV 1 21 RX8 i k) (List.forall_mem_cons.mpr ⟨((fun z => by cases z)), List.forall_mem_cons.mpr ⟨((fun z => by cases z)), fun _ h => absurd h List.not_mem_nil⟩⟩) true i k' h rfl
  · exact fun i k' h => pz_ctk (l := ct3_X8_findLatest) (P := fun b i k => b = false → (pz_cS 1 21 RX8 i k ∨ (k = pz_kac ∧ 1 ≤ 1 ∧ 60 ≤ 21 ∧ Cond.methodLink RX8 i arraycopyName ∈ pz_tbl))) (List.forall_mem_cons.mpr ⟨(fun _ => Or.inl (s_J9_min_7cf53 (by decide) (by decide) (Or.inl (pz_mt 1004 (by decide +kernel))))), List.forall_mem_cons.mpr ⟨(fun _ => Or.inl (s_J9_max_7cf53 (by decide) (by decide) (Or.inl (pz_mt 1011 (by decide +kernel))))), fun _ h => absurd h List.not_mem_nil⟩⟩) false i k' h rfl
  · intro a M hlen hpre
    obtain ⟨th, rfl, hpre⟩ : ∃ th, a = [.inr (.inr (8, th))] ∧ (pz_ic M) := by
      have hpre : (match (generalizing := false) a with | [.inr (.inr (8, th))] => pz_ic M | _ => False) := hpre
      split at hpre
      · exact ⟨_, rfl, hpre⟩
      · exact hpre.elim
    exact Nat.le_of_ble_eq_true rfl
  · intro a M hlen hcan hM hpre Ok hgo
    obtain ⟨th, rfl, hpre⟩ : ∃ th, a = [.inr (.inr (8, th))] ∧ (pz_ic M) := by
      have hpre : (match (generalizing := false) a with | [.inr (.inr (8, th))] => pz_ic M | _ => False) := hpre
      split at hpre
      · exact ⟨_, rfl, hpre⟩
      · exact hpre.elim
    obtain ⟨k_th, hc_th⟩ := pz_tlm hcan
    have k_th : pz_kd th = 8 ∧ th < 231 := k_th
    have R_th := pz_kd8 k_th.1
    subst R_th
    have hI : pz_ic M := hpre
    have hI0 := hI
    have hS : pq_pr sg_PB M M := pq_pr.rf
    have I73 := hI.2.2.2.2.2
    have B2 := sg_2_b I73.2
    have L12 : ∀ (fo : Nat) (x1 : Int) (d2 : Option pz_V) (d3 : Option pz_V) (d4 : Option pz_V) (d5 : Option pz_V) (N12 : pz_M), (4096 - x1).toNat < fo → (pq_pr sg_PB M N12) → (1 ≤ x1) → (x1 ≤ 4096) → (x1 ≤ sg_2 (M 7 3)) → (∀ f g : Nat → Int, sg_fg f g (M 7 3) → sg_ph M f g (M 7 3) → 0 ≤ M 7 1 → M 7 1 ≤ 240 → sg_TL f g (M 7 1) N12 x1) → Ok 12 [some (.inr (.inr (8, 7))), some (.inl x1), d2, d3, d4, d5] [] N12 := by
      intro fo
      induction fo with
      | zero => exact fun _ _ _ _ _ _ hn => absurd hn (Nat.not_lt_zero _)
      | succ fo ih12 =>
        intro x1 d2 d3 d4 d5 N12 hn12 hS g12_1 g12_2 g12_3 g12_4
        have hI : pz_ic N12 := hS.1 hI0
        have L26 : ∀ (fu : Nat) (x1 : Int) (x2 : Int) (x3 : Int) (d4 : Option pz_V) (d5 : Option pz_V) (N26 : pz_M), (12 - x3).toNat < fu → (pq_pr sg_PB M N26) → (0 ≤ x3) → (1 ≤ x1) → (x1 < 4096) → ((4096 - x1).toNat < fo + 1) → (x1 < sg_2 (M 7 3)) → (∀ f g : Nat → Int, sg_fg f g (M 7 3) → sg_ph M f g (M 7 3) → 0 ≤ M 7 1 → M 7 1 ≤ 240 → sg_TL f g (M 7 1) N26 x1 ∧ sg_cn f g (sg_V 59 N26 x1.toNat) (sg_bt x1.toNat) x3 x2) → (x3 ≤ M 7 3) → Ok 26 [some (.inr (.inr (8, 7))), some (.inl x1), some (.inl x2), some (.inl x3), d4, d5] [] N26 := by
          intro fu
          induction fu with
          | zero => exact fun _ _ _ _ _ _ hn => absurd hn (Nat.not_lt_zero _)
          | succ fu ih26 =>
            intro x1 x2 x3 d4 d5 N26 hn26 hS g26_1 g26_2 g26_3 g26_4 g26_5 g26_6 g26_7
            have hI : pz_ic N26 := hS.1 hI0
            have L98 : ∀ (x1 : Int) (x2 : Int) (x3 : Int) (x4 : Int) (x5 : Int) (N98 : pz_M), (pq_pr sg_PB M N98) → (0 ≤ x3) → (x3 < 12) → ((12 - x3).toNat < fu + 1) → (1 ≤ x1) → (x1 < 4096) → ((4096 - x1).toNat < fo + 1) → (x1 < sg_2 (M 7 3)) → (x3 < M 7 3) → (∀ f g : Nat → Int, sg_fg f g (M 7 3) → sg_ph M f g (M 7 3) → 0 ≤ M 7 1 → M 7 1 ≤ 240 → sg_TL f g (M 7 1) N98 x1 ∧ sg_cn f g (sg_V 59 N98 x1.toNat) (sg_bt x1.toNat) (x3 + 1) x2) → Ok 98 [some (.inr (.inr (8, 7))), some (.inl x1), some (.inl x2), some (.inl x3), some (.inl x4), some (.inl x5)] [] N98 := by
              intro x1 x2 x3 x4 x5 N98 hS g98_1 g98_2 g98_3 g98_4 g98_5 g98_6 g98_7 g98_8 g98_9
              have hI : pz_ic N98 := hS.1 hI0
              refine hgo (fun p => Nat.beq p 12 || Nat.beq p 26 || Nat.beq p 56 || Nat.beq p 98) 73 98 _ _ _ ?_
              intro v98 e98 a98 b98
              rw [pz_wi (by omega) (by omega)] at e98
              have G26 : ∀ f g : Nat → Int, sg_fg f g (M 7 3) → sg_ph M f g (M 7 3) → 0 ≤ M 7 1 → M 7 1 ≤ 240 → sg_TL f g (M 7 1) N98 x1 ∧ sg_cn f g (sg_V 59 N98 x1.toNat) (sg_bt x1.toNat) v98 x2 := by
                rw [e98]
                assumption
              exact ih26 _ _ _ _ _ _ (by omega) hS (by first | omega | assumption) (by first | omega | assumption) (by first | omega | assumption) (by first | omega | assumption) (by first | omega | assumption) (by first | omega | assumption) (by first | omega | assumption)
            have L56 : ∀ (x1 : Int) (x2 : Int) (x3 : Int) (d4 : Option pz_V) (d5 : Option pz_V) (s0 : Int) (N56 : pz_M), (pq_pr sg_PB M N56) → (0 ≤ x3) → (x3 < 12) → ((12 - x3).toNat < fu + 1) → (1 ≤ x1) → (x1 < 4096) → ((4096 - x1).toNat < fo + 1) → (x1 < sg_2 (M 7 3)) → (x3 < M 7 3) → (∀ f g : Nat → Int, sg_fg f g (M 7 3) → sg_ph M f g (M 7 3) → 0 ≤ M 7 1 → M 7 1 ≤ 240 → sg_TL f g (M 7 1) N56 x1 ∧ sg_cn f g (sg_V 59 N56 x1.toNat) (sg_bt x1.toNat) x3 x2) → (sg_bf (sg_V 59 N56 x1.toNat) (sg_bt x1.toNat) x3.toNat s0) → Ok 56 [some (.inr (.inr (8, 7))), some (.inl x1), some (.inl x2), some (.inl x3), d4, d5] [.inl s0] N56 := by
              intro x1 x2 x3 d4 d5 s0 N56 hS g56_1 g56_2 g56_3 g56_4 g56_5 g56_6 g56_7 g56_8 g56_9 g56_10
              have hI : pz_ic N56 := hS.1 hI0
              refine hgo (fun p => Nat.beq p 12 || Nat.beq p 26 || Nat.beq p 56 || Nat.beq p 98) 73 56 _ _ _ ?_
              refine pz_nrc (c := 57) rfl ?_
              refine And.intro (by omega) (And.intro (show _ < (12 : Int) from by omega) ?_)
              intro v65 e65 a65 b65
              have C65 : v65 = M 57 x3.toNat := e65.trans (hS.2 57 _ (by unfold sg_PB; omega))
              refine And.intro (True.intro) ?_
              intro v66 M66 a66 b66 q66
              obtain ⟨q66, z66⟩ := q66
              subst z66
              intro v71 e71 a71 b71
              refine And.intro (fun h77 => ?_) (fun h77 => ?_)
              · skip
                have G98 : ∀ f g : Nat → Int, sg_fg f g (M 7 3) → sg_ph M f g (M 7 3) → 0 ≤ M 7 1 → M 7 1 ≤ 240 → sg_TL f g (M 7 1) N56 x1 ∧ sg_cn f g (sg_V 59 N56 x1.toNat) (sg_bt x1.toNat) (x3 + 1) x2 := fun f g hf hp h0 h1 => by
                  obtain ⟨gX, gB⟩ := (by assumption : ∀ f g : Nat → Int, sg_fg f g (M 7 3) → sg_ph M f g (M 7 3) → 0 ≤ M 7 1 → M 7 1 ≤ 240 → sg_TL f g (M 7 1) N56 x1 ∧ sg_cn f g (sg_V 59 N56 x1.toNat) (sg_bt x1.toNat) x3 x2) f g hf hp h0 h1
                  have g56_b : sg_bf (sg_V 59 N56 x1.toNat) (sg_bt x1.toNat) x3.toNat s0 := by assumption
                  exact ⟨gX, sg_cn_n gB (by omega) rfl g56_b (Or.inl (by omega))⟩
                exact L98 _ _ _ _ _ _ hS (by first | omega | assumption) (by first | omega | assumption) (by first | omega | assumption) (by first | omega | assumption) (by first | omega | assumption) (by first | omega | assumption) (by first | omega | assumption) (by first | omega | assumption) (by first | omega | assumption)
              · skip
                skip
                refine pz_nrc (c := 56) rfl ?_
                refine And.intro (by omega) (And.intro (show _ < (12 : Int) from by omega) ?_)
                intro v87 e87 a87 b87
                have C87 : v87 = M 56 x3.toNat := e87.trans (hS.2 56 _ (by unfold sg_PB; omega))
                refine And.intro (fun h88 => ?_) (fun h88 => ?_)
                · skip
                  have G98 : ∀ f g : Nat → Int, sg_fg f g (M 7 3) → sg_ph M f g (M 7 3) → 0 ≤ M 7 1 → M 7 1 ≤ 240 → sg_TL f g (M 7 1) N56 x1 ∧ sg_cn f g (sg_V 59 N56 x1.toNat) (sg_bt x1.toNat) (x3 + 1) x2 := fun f g hf hp h0 h1 => by
                    obtain ⟨gX, gB⟩ := (by assumption : ∀ f g : Nat → Int, sg_fg f g (M 7 3) → sg_ph M f g (M 7 3) → 0 ≤ M 7 1 → M 7 1 ≤ 240 → sg_TL f g (M 7 1) N56 x1 ∧ sg_cn f g (sg_V 59 N56 x1.toNat) (sg_bt x1.toNat) x3 x2) f g hf hp h0 h1
                    have g56_b : sg_bf (sg_V 59 N56 x1.toNat) (sg_bt x1.toNat) x3.toNat s0 := by assumption
                    have pf := hf x3.toNat (by omega)
                    have pp := hp x3.toNat (by omega)
                    have vb := sg_TL_b gX (by omega) g56_b
                    have dd : v71 = sg_b g s0 x3.toNat := sg_bg q66 (C65.trans pp.2) pf.2 vb e71
                    have p1 := pp.1
                    exact ⟨gX, sg_cn_n gB (by omega) rfl g56_b (Or.inr (by omega))⟩
                  exact L98 _ _ _ _ _ _ hS (by first | omega | assumption) (by first | omega | assumption) (by first | omega | assumption) (by first | omega | assumption) (by first | omega | assumption) (by first | omega | assumption) (by first | omega | assumption) (by first | omega | assumption) (by first | omega | assumption)
                · skip
                  skip
                  refine And.intro (True.intro) ?_
                  intro v94 M94 a94 b94 q94
                  obtain ⟨q94, z94⟩ := q94
                  subst z94
                  have G98 : ∀ f g : Nat → Int, sg_fg f g (M 7 3) → sg_ph M f g (M 7 3) → 0 ≤ M 7 1 → M 7 1 ≤ 240 → sg_TL f g (M 7 1) N56 x1 ∧ sg_cn f g (sg_V 59 N56 x1.toNat) (sg_bt x1.toNat) (x3 + 1) v94 := fun f g hf hp h0 h1 => by
                    obtain ⟨gX, gB⟩ := (by assumption : ∀ f g : Nat → Int, sg_fg f g (M 7 3) → sg_ph M f g (M 7 3) → 0 ≤ M 7 1 → M 7 1 ≤ 240 → sg_TL f g (M 7 1) N56 x1 ∧ sg_cn f g (sg_V 59 N56 x1.toNat) (sg_bt x1.toNat) x3 x2) f g hf hp h0 h1
                    have g56_b : sg_bf (sg_V 59 N56 x1.toNat) (sg_bt x1.toNat) x3.toNat s0 := by assumption
                    have pf := hf x3.toNat (by omega)
                    have pp := hp x3.toNat (by omega)
                    have vb := sg_TL_b gX (by omega) g56_b
                    have dd : v71 = sg_b g s0 x3.toNat := sg_bg q66 (C65.trans pp.2) pf.2 vb e71
                    have p1 := pp.1
                    exact ⟨gX, sg_cn_y gB hf (by omega) rfl (by omega) g56_b (by omega) (by omega) (by rw [q94, dd])⟩
                  exact L98 _ _ _ _ _ _ hS (by first | omega | assumption) (by first | omega | assumption) (by first | omega | assumption) (by first | omega | assumption) (by first | omega | assumption) (by first | omega | assumption) (by first | omega | assumption) (by first | omega | assumption) (by first | omega | assumption)
            refine hgo (fun p => Nat.beq p 12 || Nat.beq p 26 || Nat.beq p 56 || Nat.beq p 98) 73 26 _ _ _ ?_
            intro v28 e28 a28 b28
            have I28 := hI.2.2.2.2.2
            have C28 : v28 = M 7 3 := e28.trans (hS.2 7 3 (by unfold sg_PB; omega))
            refine And.intro (fun h31 => ?_) (fun h31 => ?_)
            · skip
              refine pz_nrc (c := 59) rfl ?_
              refine And.intro (by omega) (And.intro (show _ < (4096 : Int) from by omega) ?_)
              intro M110 e110
              have hS : pq_pr sg_PB M M110 := by
                rw [e110]
                exact pq_pr_u hS (by unfold sg_PB; omega) (by unfold pz_iok; omega)
              have hI : pz_ic M110 := hS.1 hI0
              have G12 : ∀ f g : Nat → Int, sg_fg f g (M 7 3) → sg_ph M f g (M 7 3) → 0 ≤ M 7 1 → M 7 1 ≤ 240 → sg_TL f g (M 7 1) M110 (x1 + 1) := fun f g hf hp h0 h1 => by
                obtain ⟨gX, gB⟩ := (by assumption : ∀ f g : Nat → Int, sg_fg f g (M 7 3) → sg_ph M f g (M 7 3) → 0 ≤ M 7 1 → M 7 1 ≤ 240 → sg_TL f g (M 7 1) N26 x1 ∧ sg_cn f g (sg_V 59 N26 x1.toNat) (sg_bt x1.toNat) x3 x2) f g hf hp h0 h1
                exact sg_TL_s gX gB hf (by omega) (by omega) I73.1 (by omega) (by omega) e110
              intro v111 e111 a111 b111
              rw [pz_wi (by omega) (by omega)] at e111
              have G12b : ∀ f g : Nat → Int, sg_fg f g (M 7 3) → sg_ph M f g (M 7 3) → 0 ≤ M 7 1 → M 7 1 ≤ 240 → sg_TL f g (M 7 1) M110 v111 := by
                rw [e111]
                assumption
              exact ih12 _ _ _ _ _ _ (by omega) hS (by first | omega | assumption) (by first | omega | assumption) (by first | omega | assumption) (by first | omega | assumption)
            · skip
              intro v36 e36 a36 b36
              intro v38 e38 a38 b38
              have B38 := pz_sb_at (sg_zs (x := x1) (by omega) (by omega)) (show 0 ≤ x3 by omega) (by omega) e36 e38
              refine And.intro (fun h39 => ?_) (fun h39 => ?_)
              · skip
                have F39 : sg_bt x1.toNat x3.toNat = false := sg_at_n B38 (by omega)
                have G56 : sg_bf (sg_V 59 N26 x1.toNat) (sg_bt x1.toNat) x3.toNat (-1) := Or.inr ⟨F39, rfl⟩
                exact L56 _ _ _ _ _ _ _ hS (by first | omega | assumption) (by first | omega | assumption) (by first | omega | assumption) (by first | omega | assumption) (by first | omega | assumption) (by first | omega | assumption) (by first | omega | assumption) (by first | omega | assumption) (by first | omega | assumption) (by first | omega | assumption)
              · skip
                have F39 : sg_bt x1.toNat x3.toNat = true := sg_at_y B38 (by omega)
                refine pz_nrc (c := 59) rfl ?_
                intro v49 e49 a49 b49
                have S49 := pz_shl1 (c := x3) (by omega) (by omega)
                rw [← e49] at S49
                intro v50 e50 a50 b50
                have X50 := sg_xi (x := x1) (i := x3) ⟨by omega, by omega⟩ ⟨by omega, by omega⟩ e49 e50
                refine And.intro (by omega) (And.intro (show _ < (4096 : Int) from by omega) ?_)
                intro v51 e51 a51 b51
                rw [X50.1] at e51
                have G56 : sg_bf (sg_V 59 N26 x1.toNat) (sg_bt x1.toNat) x3.toNat v51 := Or.inl ⟨F39, e51⟩
                exact L56 _ _ _ _ _ _ _ hS (by first | omega | assumption) (by first | omega | assumption) (by first | omega | assumption) (by first | omega | assumption) (by first | omega | assumption) (by first | omega | assumption) (by first | omega | assumption) (by first | omega | assumption) (by first | omega | assumption) (by first | omega | assumption)
        refine hgo (fun p => Nat.beq p 12 || Nat.beq p 26 || Nat.beq p 56 || Nat.beq p 98) 73 12 _ _ _ ?_
        intro v15 e15 a15 b15
        have I15 := hI.2.2.2.2.2
        have C15 : v15 = M 7 3 := e15.trans (hS.2 7 3 (by unfold sg_PB; omega))
        intro v18 e18 a18 b18
        have S18 := pz_shl1 (c := v15) (by omega) (by omega)
        rw [← e18] at S18
        have P18 : v18 = sg_2 (M 7 3) := by
          rw [e18, C15]
          exact sg_2_v (by omega) (by omega)
        refine And.intro (fun h19 => ?_) (fun h19 => ?_)
        · skip
          skip
          refine And.intro rfl ?_
          refine ⟨fun f g hf hp h0 h1 => ?_, hS⟩
          have gX := (by assumption : ∀ f g : Nat → Int, sg_fg f g (M 7 3) → sg_ph M f g (M 7 3) → 0 ≤ M 7 1 → M 7 1 ≤ 240 → sg_TL f g (M 7 1) N12 x1) f g hf hp h0 h1
          have x9 : x1 = sg_2 (M 7 3) := by omega
          rw [← x9]
          exact gX
        · skip
          have G26 : ∀ f g : Nat → Int, sg_fg f g (M 7 3) → sg_ph M f g (M 7 3) → 0 ≤ M 7 1 → M 7 1 ≤ 240 → sg_TL f g (M 7 1) N12 x1 ∧ sg_cn f g (sg_V 59 N12 x1.toNat) (sg_bt x1.toNat) 0 (-1) := fun f g hf hp h0 h1 => ⟨(by assumption : ∀ f g : Nat → Int, sg_fg f g (M 7 3) → sg_ph M f g (M 7 3) → 0 ≤ M 7 1 → M 7 1 ≤ 240 → sg_TL f g (M 7 1) N12 x1) f g hf hp h0 h1, sg_mx_0⟩
          exact L26 _ _ _ _ _ _ _ (Nat.lt_succ_self _) hS (by first | omega | assumption) (by first | omega | assumption) (by first | omega | assumption) (by first | omega | assumption) (by first | omega | assumption) (by first | omega | assumption) (by first | omega | assumption)
    refine hgo (fun p => Nat.beq p 12 || Nat.beq p 26 || Nat.beq p 56 || Nat.beq p 98) 73 0 _ [] M ?_
    refine pz_nrc (c := 59) rfl ?_
    intro v6 e6 a6 b6
    refine And.intro (by omega) (And.intro (show _ < (4096 : Int) from by omega) ?_)
    intro M9 e9
    have hS : pq_pr sg_PB M M9 := by
      rw [e9]
      exact pq_pr_u hS (by unfold sg_PB; omega) (by unfold pz_iok; omega)
    have hI : pz_ic M9 := hS.1 hI0
    have G12 : ∀ f g : Nat → Int, sg_fg f g (M 7 3) → sg_ph M f g (M 7 3) → 0 ≤ M 7 1 → M 7 1 ≤ 240 → sg_TL f g (M 7 1) M9 1 := fun f g _ _ h0 h1 => sg_TL_0 e6 h0 h1 e9
    exact L12 _ _ _ _ _ _ _ (Nat.lt_succ_self _) hS (by first | omega | assumption) (by first | omega | assumption) (by first | omega | assumption) (by first | omega | assumption)
theorem v3_X8_findLatest {fr lo i : Nat} {own : String} (h1 : 1 + 1 ≤ fr) (h2 : 8 + (6 + 11) + 21 ≤ lo) (h3 : .methodLink own i yX8_findLatest ∈ lw_tbl) : pz_cV fr lo own i k3_X8_findLatest :=
  pz_cVk (maxL := 6) (fr' := 1) (lo' := 21) 0 8 h3_X8_findLatest rfl ⟨by decide +kernel, by decide +kernel, by decide +kernel⟩ ⟨(pz_mt 1016 (by decide +kernel)), (pz_mt 1014 (by decide +kernel)), (pz_mt 1015 (by decide +kernel)), (pz_mt 12 (by decide +kernel))⟩ (Or.inl ⟨TX8, 8, rfl⟩) (fun a M _ h => by
    have h : (match (generalizing := false) a with | [.inr (.inr (8, th))] => pz_ic M | _ => False) := h
    split at h
    · exact ⟨_, _, rfl⟩
    · exact h.elim) h1 h2 h3
