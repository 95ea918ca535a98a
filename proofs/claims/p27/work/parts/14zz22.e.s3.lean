noncomputable def k3_X12_goes : pz_C := (3, 1, fun a M => (match a with | [.inr (.inr (12, th)), .inl n, .inl w] => pz_im M | _ => False), fun a M r M' => (match a, r with | [.inr (.inr (12, th)), .inl n, .inl w], some (.inl v) => (sd_gm M M' n w v) ∧ pz_rl pz_QG M M' | _, _ => False))
noncomputable abbrev ct3_X12_goes : List (Bool × Nat × pz_C) := [(false, 54, k_X12_isIn), (true, 388, k3_X12_aDay), (true, 395, k3_X12_movedOnes), (false, 398, k3_X12_count), (true, 401, k3_X12_latestMoved)]
set_option maxRecDepth 100000 in
set_option maxHeartbeats 4000000 in
theorem h3_X12_goes : pz_H yX12_goes cX12_goes 5 (some .int) k3_X12_goes 8 184 := by
  refine pz_mk (own := RX12) (tb := t_X12_goes) (fl := pz_flf fl_RX12) (ci := pz_cif ci_RX12) (ct := pz_ctf ct3_X12_goes) (rz := false) (by decide +kernel) rfl t_X12_goes_ok (pz_flk fl_RX12_ok) (pz_cik ci_RX12_ok) ?_ ?_ (Or.inl ⟨rfl, rfl⟩) ?_ ?_
  · exact fun i k' h => pz_ctk (l := ct3_X12_goes) (P := fun b i k => b = true → pz_cV 8 184 RX12 i k) (List.forall_mem_cons.mpr ⟨((fun z => by cases z)), List.forall_mem_cons.mpr ⟨(fun _ => v3_X12_aDay (by decide) (by decide) (pz_mt 1531 (by decide +kernel))), List.forall_mem_cons.mpr ⟨(fun _ => v3_X12_movedOnes (by decide) (by decide) (pz_mt 1602 (by decide +kernel))), List.forall_mem_cons.mpr ⟨((fun z => by cases z)), List.forall_mem_cons.mpr ⟨(fun _ => v3_X12_latestMoved (by decide) (by decide) (pz_mt 1609 (by decide +kernel))), fun _ h => absurd h List.not_mem_nil⟩⟩⟩⟩⟩) true i k' h rfl
  · exact fun i k' h => pz_ctk (l := ct3_X12_goes) (P := fun b i k => b = false → (pz_cS 8 184 RX12 i k ∨ (k = pz_kac ∧ 1 ≤ 8 ∧ 60 ≤ 184 ∧ Cond.methodLink RX12 i arraycopyName ∈ pz_tbl))) (List.forall_mem_cons.mpr ⟨(fun _ => Or.inl (s_X12_isIn (by decide) (by decide) (Or.inl (pz_mt 1217 (by decide +kernel))))), List.forall_mem_cons.mpr ⟨((fun z => by cases z)), List.forall_mem_cons.mpr ⟨((fun z => by cases z)), List.forall_mem_cons.mpr ⟨(fun _ => Or.inl (s3_X12_count (by decide) (by decide) (Or.inl (pz_mt 1606 (by decide +kernel))))), List.forall_mem_cons.mpr ⟨((fun z => by cases z)), fun _ h => absurd h List.not_mem_nil⟩⟩⟩⟩⟩) false i k' h rfl
  · intro a M hlen hpre
    obtain ⟨th, n, w, rfl, hpre⟩ : ∃ th n w, a = [.inr (.inr (12, th)), .inl n, .inl w] ∧ (pz_im M) := by
      have hpre : (match (generalizing := false) a with | [.inr (.inr (12, th)), .inl n, .inl w] => pz_im M | _ => False) := hpre
      split at hpre
      · exact ⟨_, _, _, rfl, hpre⟩
      · exact hpre.elim
    exact Nat.le_of_ble_eq_true rfl
  · intro a M hlen hcan hM hpre Ok hgo
    obtain ⟨th, n, w, rfl, hpre⟩ : ∃ th n w, a = [.inr (.inr (12, th)), .inl n, .inl w] ∧ (pz_im M) := by
      have hpre : (match (generalizing := false) a with | [.inr (.inr (12, th)), .inl n, .inl w] => pz_im M | _ => False) := hpre
      split at hpre
      · exact ⟨_, _, _, rfl, hpre⟩
      · exact hpre.elim
    obtain ⟨k_th, hc_th⟩ := pz_tlm hcan
    have k_th : pz_kd th = 12 ∧ th < 231 := k_th
    have R_th := pz_kd12 k_th.1
    subst R_th
    clear k_th
    obtain ⟨k_n, hc_n⟩ := pz_tlm hc_th
    have l_n : -2147483648 ≤ n := k_n.1
    have u_n : n ≤ 2147483647 := k_n.2
    obtain ⟨k_w, hc_w⟩ := pz_tlm hc_n
    have l_w : -2147483648 ≤ w := k_w.1
    have u_w : w ≤ 2147483647 := k_w.2
    have hI : pz_im M := hpre
    have hI0 := hI
    have hS : pz_rl pz_QG M M := pz_rl.rf
    have L107 : ∀ (fu : Nat) (x3 : Int) (x4 : Int) (N107 : pz_M), (88 - x4).toNat < fu → (pz_rl pz_QG M N107) → (0 ≤ x4) → (x4 ≤ 88) → (sd_gq n w) → (∀ (ls : List pz_lne) (l1 : List (List Int)), sd_tm (M 60) ls l1 → sd_wf (M 60) → x3 = sd_gw (sd_gt ls l1 n.toNat (M 60)) w ∧ sd_no (M 60) (N107 60)) → (∀ j : Nat, j < 88 → N107 63 j = M 60 j) → (∀ j : Nat, (j : Int) < x4 → N107 60 j = M 60 j) → Ok 107 [some (.inr (.inr (12, 1))), some (.inl n), some (.inl w), some (.inl x3), some (.inl x4)] [] N107 := by
      intro fu
      induction fu with
      | zero => exact fun _ _ _ hn => absurd hn (Nat.not_lt_zero _)
      | succ fu ih107 =>
        intro x3 x4 N107 hn107 hS g107_1 g107_2 g107_3 g107_4 g107_5 g107_6
        have hI : pz_im N107 := hS.1 hI0
        refine hgo (fun p => Nat.beq p 24 || Nat.beq p 55 || Nat.beq p 103 || Nat.beq p 107) 76 107 _ _ _ ?_
        refine And.intro (fun h111 => ?_) (fun h111 => ?_)
        · skip
          refine And.intro rfl ?_
          refine ⟨⟨fun hn => absurd (by assumption) hn, fun _ ls l1 hT hW => ?_⟩, hS⟩
          have a : ∀ (ls : List pz_lne) (l1 : List (List Int)), sd_tm (M 60) ls l1 → sd_wf (M 60) → x3 = sd_gw (sd_gt ls l1 n.toNat (M 60)) w ∧ sd_no (M 60) (N107 60) := by assumption
          have b : ∀ j : Nat, (j : Int) < x4 → N107 60 j = M 60 j := by assumption
          obtain ⟨a1, a2⟩ := a ls l1 hT hW
          refine ⟨a1, funext fun j => ?_⟩
          by_cases y : j < 88
          · exact b j (by omega)
          · exact a2 j (by omega)
        · skip
          refine pz_nrc (c := 60) rfl ?_
          refine pz_nrc (c := 63) rfl ?_
          refine And.intro (by omega) (And.intro (show _ < (88 : Int) from by omega) ?_)
          intro v126 e126 a126 b126
          have J126 : x4 = 3 → 0 ≤ v126 ∧ v126 ≤ 150 := fun q => by
            rw [e126, q]
            exact hI.2.1.2.2.1
          refine And.intro (by omega) (And.intro (show _ < (1725 : Int) from by omega) ?_)
          intro M127 e127
          have hS : pz_rl pz_QG M M127 := by
            rw [e127]
            exact pz_rl_u hS (by unfold pz_QG; omega) (pz_iom_u (by omega) (fun q => J126 (by omega)))
          have hI : pz_im M127 := hS.1 hI0
          have G127a : ∀ j : Nat, j < 88 → M127 63 j = M 60 j := fun j hj => by
            have a : ∀ j : Nat, j < 88 → N107 63 j = M 60 j := by assumption
            rw [e127, pz_una (by decide)]
            exact a j hj
          have G127b : ∀ j : Nat, (j : Int) < x4 + 1 → M127 60 j = M 60 j := fun j hj => by
            have a : ∀ j : Nat, j < 88 → N107 63 j = M 60 j := by assumption
            have b : ∀ j : Nat, (j : Int) < x4 → N107 60 j = M 60 j := by assumption
            rw [pz_u64 e127 j]
            by_cases y : j = x4.toNat
            · rw [if_pos y, e126, a _ (by omega), y]
            · rw [if_neg y]
              exact b j (by omega)
          have G127c : ∀ (ls : List pz_lne) (l1 : List (List Int)), sd_tm (M 60) ls l1 → sd_wf (M 60) → x3 = sd_gw (sd_gt ls l1 n.toNat (M 60)) w ∧ sd_no (M 60) (M127 60) := fun ls l1 hT hW => by
            have a : ∀ (ls : List pz_lne) (l1 : List (List Int)), sd_tm (M 60) ls l1 → sd_wf (M 60) → x3 = sd_gw (sd_gt ls l1 n.toNat (M 60)) w ∧ sd_no (M 60) (N107 60) := by assumption
            obtain ⟨a1, a2⟩ := a ls l1 hT hW
            refine ⟨a1, fun k hk => ?_⟩
            rw [pz_u64 e127 k, if_neg (by omega)]
            exact a2 k hk
          intro v128 e128 a128 b128
          rw [pz_wi (by omega) (by omega)] at e128
          have G128 : ∀ j : Nat, (j : Int) < v128 → M127 60 j = M 60 j := by
            rw [e128]
            exact G127b
          exact ih107 _ _ _ (by omega) hS (by first | omega | assumption | exact fun j hj => absurd hj (by omega)) (by first | omega | assumption | exact fun j hj => absurd hj (by omega)) (by first | omega | assumption | exact fun j hj => absurd hj (by omega)) (by first | omega | assumption | exact fun j hj => absurd hj (by omega)) (by first | omega | assumption | exact fun j hj => absurd hj (by omega)) (by first | omega | assumption | exact fun j hj => absurd hj (by omega))
    have L103 : ∀ (x3 : Int) (d4 : Option pz_V) (s0 : Int) (N103 : pz_M), (pz_rl pz_QG M N103) → (sd_gq n w) → (∀ (ls : List pz_lne) (l1 : List (List Int)), sd_tm (M 60) ls l1 → sd_wf (M 60) → s0 = sd_gw (sd_gt ls l1 n.toNat (M 60)) w ∧ sd_no (M 60) (N103 60)) → (∀ j : Nat, j < 88 → N103 63 j = M 60 j) → Ok 103 [some (.inr (.inr (12, 1))), some (.inl n), some (.inl w), some (.inl x3), d4] [.inl s0] N103 := by
      intro x3 d4 s0 N103 hS g103_1 g103_2 g103_3
      have hI : pz_im N103 := hS.1 hI0
      refine hgo (fun p => Nat.beq p 24 || Nat.beq p 55 || Nat.beq p 103 || Nat.beq p 107) 76 103 _ _ _ ?_
      exact L107 _ _ _ _ (Nat.lt_succ_self _) hS (by first | omega | assumption | exact fun j hj => absurd hj (by omega)) (by first | omega | assumption | exact fun j hj => absurd hj (by omega)) (by first | omega | assumption | exact fun j hj => absurd hj (by omega)) (by first | omega | assumption | exact fun j hj => absurd hj (by omega)) (by first | omega | assumption | exact fun j hj => absurd hj (by omega)) (by first | omega | assumption | exact fun j hj => absurd hj (by omega))
    have L55 : ∀ (fu : Nat) (x3 : Int) (d4 : Option pz_V) (N55 : pz_M), (99 - x3).toNat < fu → (pz_rl pz_QG M N55) → (0 ≤ x3) → (n ≤ 99) → (x3 ≤ n) → (sd_gq n w) → (sd_gmI M N55 n x3) → (∀ j : Nat, j < 88 → N55 63 j = M 60 j) → (N55 1 26 = 0) → Ok 55 [some (.inr (.inr (12, 1))), some (.inl n), some (.inl w), some (.inl x3), d4] [] N55 := by
      intro fu
      induction fu with
      | zero => exact fun _ _ _ hn => absurd hn (Nat.not_lt_zero _)
      | succ fu ih55 =>
        intro x3 d4 N55 hn55 hS g55_1 g55_2 g55_3 g55_4 g55_5 g55_6 g55_7
        have hI : pz_im N55 := hS.1 hI0
        refine hgo (fun p => Nat.beq p 24 || Nat.beq p 55 || Nat.beq p 103 || Nat.beq p 107) 76 55 _ _ _ ?_
        refine And.intro (fun h57 => ?_) (fun h57 => ?_)
        · skip
          refine And.intro (fun h72 => ?_) (fun h72 => ?_)
          · skip
            refine And.intro (fun h87 => ?_) (fun h87 => ?_)
            · skip
              refine pz_nrc (c := 60) rfl ?_
              refine And.intro (by omega) (And.intro (show _ < (1725 : Int) from by omega) ?_)
              intro v102 e102 a102 b102
              replace e102 : v102 = N55 60 1 := e102
              have G102 : ∀ (ls : List pz_lne) (l1 : List (List Int)), sd_tm (M 60) ls l1 → sd_wf (M 60) → v102 = sd_gw (sd_gt ls l1 n.toNat (M 60)) w ∧ sd_no (M 60) (N55 60) := fun ls l1 hT hW => by
                have g : sd_gmI M N55 n x3 := by assumption
                obtain ⟨a, b, c⟩ := sd_gmI_z g (by omega) hT hW
                refine ⟨?_, c⟩
                unfold sd_gw
                rw [if_neg (by omega), if_neg (by omega), ← a]
                exact e102
              exact L103 _ _ _ _ hS (by first | omega | assumption) (by first | omega | assumption) (by first | omega | assumption)
            · skip
              refine And.intro (hI) ?_
              intro v91 M91 a91 b91 q91
              obtain ⟨q91, z91⟩ := q91
              subst z91
              have G91 : ∀ (ls : List pz_lne) (l1 : List (List Int)), sd_tm (M 60) ls l1 → sd_wf (M 60) → v91 = sd_gw (sd_gt ls l1 n.toNat (M 60)) w ∧ sd_no (M 60) (N55 60) := fun ls l1 hT hW => by
                have g : sd_gmI M N55 n x3 := by assumption
                obtain ⟨a, b, c⟩ := sd_gmI_z g (by omega) hT hW
                refine ⟨?_, c⟩
                unfold sd_gw
                rw [if_neg (by omega), if_pos (by omega), ← a]
                exact q91
              exact L103 _ _ _ _ hS (by first | omega | assumption) (by first | omega | assumption) (by first | omega | assumption)
          · skip
            refine And.intro (hI) ?_
            intro v76 M76 a76 b76 q76
            obtain ⟨q76, z76⟩ := q76
            subst z76
            refine And.intro (True.intro) ?_
            intro v79 M79 a79 b79 q79
            obtain ⟨q79, z79⟩ := q79
            subst z79
            have G79 : ∀ (ls : List pz_lne) (l1 : List (List Int)), sd_tm (M 60) ls l1 → sd_wf (M 60) → v79 = sd_gw (sd_gt ls l1 n.toNat (M 60)) w ∧ sd_no (M 60) (N55 60) := fun ls l1 hT hW => by
              have g : sd_gmI M N55 n x3 := by assumption
              obtain ⟨a, b, c⟩ := sd_gmI_z g (by omega) hT hW
              refine ⟨?_, c⟩
              unfold sd_gw
              rw [if_pos (by omega), ← a]
              exact q79 _ q76
            exact L103 _ _ _ _ hS (by first | omega | assumption) (by first | omega | assumption) (by first | omega | assumption)
        · skip
          refine And.intro (hI) ?_
          intro v61 M61 a61 b61 q61
          obtain ⟨q61, z61⟩ := q61
          have hS : pz_rl pz_QG M M61 := hS.tr (pz_rl.wk (by intro b j q; unfold pz_QD at q; unfold pz_QG; omega) z61)
          have hI : pz_im M61 := hS.1 hI0
          have G61a : ∀ j : Nat, j < 88 → M61 63 j = M 60 j := fun j hj => by
            have a : ∀ j : Nat, j < 88 → N55 63 j = M 60 j := by assumption
            rw [z61.2 63 j (by unfold pz_QD; omega)]
            exact a j hj
          have G61b : M61 1 26 = 0 := by
            have a : N55 1 26 = 0 := by assumption
            rw [z61.2 1 26 (by unfold pz_QD; omega)]
            exact a
          intro v65 e65 a65 b65
          rw [pz_wi (by omega) (by omega)] at e65
          have G65 : sd_gmI M M61 n v65 := sd_gmI_s (by assumption) (by omega) e65 (by assumption) q61
          exact ih55 _ _ _ (by omega) hS (by first | omega | assumption) (by first | omega | assumption) (by first | omega | assumption) (by first | omega | assumption) (by first | omega | assumption) (by first | omega | assumption) (by first | omega | assumption)
    have L24 : ∀ (fu : Nat) (x3 : Int) (d4 : Option pz_V) (N24 : pz_M), (88 - x3).toNat < fu → (pz_rl pz_QG M N24) → (0 ≤ x3) → (n ≤ 99) → (x3 ≤ 88) → (0 ≤ n) → (sd_gq n w) → (∀ j : Nat, (j : Int) < x3 → N24 63 j = M 60 j) → (∀ j : Nat, N24 60 j = M 60 j) → Ok 24 [some (.inr (.inr (12, 1))), some (.inl n), some (.inl w), some (.inl x3), d4] [] N24 := by
      intro fu
      induction fu with
      | zero => exact fun _ _ _ hn => absurd hn (Nat.not_lt_zero _)
      | succ fu ih24 =>
        intro x3 d4 N24 hn24 hS g24_1 g24_2 g24_3 g24_4 g24_5 g24_6 g24_7
        have hI : pz_im N24 := hS.1 hI0
        refine hgo (fun p => Nat.beq p 24 || Nat.beq p 55 || Nat.beq p 103 || Nat.beq p 107) 76 24 _ _ _ ?_
        refine And.intro (fun h27 => ?_) (fun h27 => ?_)
        · skip
          refine And.intro (by omega) ?_
          intro M50 e50
          have hS : pz_rl pz_QG M M50 := by
            rw [e50]
            exact pz_rl_u hS (by unfold pz_QG; decide) (pz_iom_f (by decide))
          have hI : pz_im M50 := hS.1 hI0
          have G50a : ∀ j : Nat, j < 88 → M50 63 j = M 60 j := fun j hj => by
            have a : ∀ j : Nat, (j : Int) < x3 → N24 63 j = M 60 j := by assumption
            rw [e50, pz_una (by decide)]
            exact a j (by omega)
          have G50b : M50 1 26 = 0 := by
            rw [e50]
            exact pz_uu
          have G50c : sd_gmI M M50 n 0 := sd_gmI_0 (funext fun j => by
            have b : ∀ j : Nat, N24 60 j = M 60 j := by assumption
            rw [e50, pz_una (by decide)]
            exact b j)
          exact L55 _ _ _ _ (Nat.lt_succ_self _) hS (by first | omega | assumption) (by first | omega | assumption) (by first | omega | assumption) (by first | omega | assumption) (by first | omega | assumption) (by first | omega | assumption) (by first | omega | assumption)
        · skip
          refine pz_nrc (c := 63) rfl ?_
          refine pz_nrc (c := 60) rfl ?_
          refine And.intro (by omega) (And.intro (show _ < (1725 : Int) from by omega) ?_)
          intro v40 e40 a40 b40
          have J40 : x3 = 3 → 0 ≤ v40 ∧ v40 ≤ 150 := fun q => by
            rw [e40, q]
            exact hI.1.2.2.2.2
          refine And.intro (by omega) (And.intro (show _ < (88 : Int) from by omega) ?_)
          intro M41 e41
          have hS : pz_rl pz_QG M M41 := by
            rw [e41]
            exact pz_rl_u hS (by unfold pz_QG; omega) (pz_iom_63 (fun q => J40 (by omega)))
          have hI : pz_im M41 := hS.1 hI0
          have G41a : ∀ j : Nat, (j : Int) < x3 + 1 → M41 63 j = M 60 j := fun j hj => by
            have a : ∀ j : Nat, (j : Int) < x3 → N24 63 j = M 60 j := by assumption
            have b : ∀ j : Nat, N24 60 j = M 60 j := by assumption
            rw [pz_u64 e41 j]
            by_cases y : j = x3.toNat
            · rw [if_pos y, e40, b, y]
            · rw [if_neg y]
              exact a j (by omega)
          have G41b : ∀ j : Nat, M41 60 j = M 60 j := fun j => by
            have b : ∀ j : Nat, N24 60 j = M 60 j := by assumption
            rw [e41, pz_una (by decide)]
            exact b j
          intro v42 e42 a42 b42
          rw [pz_wi (by omega) (by omega)] at e42
          have G42 : ∀ j : Nat, (j : Int) < v42 → M41 63 j = M 60 j := by
            rw [e42]
            exact G41a
          exact ih24 _ _ _ (by omega) hS (by first | omega | assumption | exact fun j hj => absurd hj (by omega) | exact fun _ => rfl) (by first | omega | assumption | exact fun j hj => absurd hj (by omega) | exact fun _ => rfl) (by first | omega | assumption | exact fun j hj => absurd hj (by omega) | exact fun _ => rfl) (by first | omega | assumption | exact fun j hj => absurd hj (by omega) | exact fun _ => rfl) (by first | omega | assumption | exact fun j hj => absurd hj (by omega) | exact fun _ => rfl) (by first | omega | assumption | exact fun j hj => absurd hj (by omega) | exact fun _ => rfl) (by first | omega | assumption | exact fun j hj => absurd hj (by omega) | exact fun _ => rfl)
    refine hgo (fun p => Nat.beq p 24 || Nat.beq p 55 || Nat.beq p 103 || Nat.beq p 107) 76 0 _ [] M ?_
    refine And.intro (True.intro) ?_
    intro v4 M4 a4 b4 q4
    obtain ⟨q4, z4⟩ := q4
    subst z4
    clear a4 b4
    refine And.intro (fun h7 => ?_) (fun h7 => ?_)
    · skip
      replace q4 := q4.resolve_left (fun z => absurd (z.1.symm.trans h7) (by decide))
      clear h7
      refine And.intro rfl ?_
      refine ⟨⟨fun _ => ⟨rfl, rfl⟩, fun hq => ?_⟩, hS⟩
      unfold sd_gq at hq
      exfalso
      omega
    · skip
      replace q4 := q4.resolve_right (fun z => h7 z.1)
      clear h7
      refine And.intro (True.intro) ?_
      intro v13 M13 a13 b13 q13
      obtain ⟨q13, z13⟩ := q13
      subst z13
      clear a13 b13
      refine And.intro (fun h16 => ?_) (fun h16 => ?_)
      · skip
        have GQ : sd_gq n w := by
          unfold sd_gq
          omega
        replace q13 := q13.resolve_right (fun z => h16 z.1)
        clear h16
        exact L24 _ _ _ _ (Nat.lt_succ_self _) hS (by first | omega | assumption | exact fun j hj => absurd hj (by omega) | exact fun _ => rfl) (by first | omega | assumption | exact fun j hj => absurd hj (by omega) | exact fun _ => rfl) (by first | omega | assumption | exact fun j hj => absurd hj (by omega) | exact fun _ => rfl) (by first | omega | assumption | exact fun j hj => absurd hj (by omega) | exact fun _ => rfl) (by first | omega | assumption | exact fun j hj => absurd hj (by omega) | exact fun _ => rfl) (by first | omega | assumption | exact fun j hj => absurd hj (by omega) | exact fun _ => rfl) (by first | omega | assumption | exact fun j hj => absurd hj (by omega) | exact fun _ => rfl)
      · skip
        skip
        replace q13 := q13.resolve_left (fun z => absurd (z.1.symm.trans h16) (by decide))
        clear h16
        refine And.intro rfl ?_
        refine ⟨⟨fun _ => ⟨rfl, rfl⟩, fun hq => ?_⟩, hS⟩
        unfold sd_gq at hq
        exfalso
        omega
theorem v3_X12_goes {fr lo i : Nat} {own : String} (h1 : 8 + 1 ≤ fr) (h2 : 8 + (5 + 11) + 184 ≤ lo) (h3 : .methodLink own i yX12_goes ∈ lw_tbl) : pz_cV fr lo own i k3_X12_goes :=
  pz_cVk (maxL := 5) (fr' := 8) (lo' := 184) 2 12 h3_X12_goes rfl ⟨by decide +kernel, by decide +kernel, by decide +kernel⟩ ⟨(pz_mt 1601 (by decide +kernel)), (pz_mt 1599 (by decide +kernel)), (pz_mt 1600 (by decide +kernel)), (pz_mt 13 (by decide +kernel))⟩ (Or.inl ⟨TX12, 28, rfl⟩) (fun a M _ h => by
    have h : (match (generalizing := false) a with | [.inr (.inr (12, th)), .inl n, .inl w] => pz_im M | _ => False) := h
    split at h
    · exact ⟨_, _, rfl⟩
    · exact h.elim) h1 h2 h3
