def k4_X12_soon : pz_C := (2, 1, fun a M => (match a with | [.inr (.inr (12, th)), .inl h] => pz_im M | _ => False), fun a M r M' => (match a, r with | [.inr (.inr (12, th)), .inl h], some (.inl v) => (sd_wm M v (fun ls F => sd_sov ls F h)) ∧ pz_rl pz_QV M M' | _, _ => False))
abbrev ct4_X12_soon : List (Bool × Nat × pz_C) := [(false, 54, k_X12_isIn), (true, 415, k4_X12_allBy)]
set_option maxRecDepth 100000 in
set_option maxHeartbeats 4000000 in
theorem h4_X12_soon : pz_H yX12_soon cX12_soon 3 (some .int) k4_X12_soon 7 164 := by
  refine pz_mk (own := RX12) (tb := t_X12_soon) (fl := pz_flf fl_RX12) (ci := pz_cif ci_RX12) (ct := pz_ctf ct4_X12_soon) (rz := false) (by decide +kernel) rfl t_X12_soon_ok (pz_flk fl_RX12_ok) (pz_cik ci_RX12_ok) ?_ ?_ (Or.inl ⟨rfl, rfl⟩) ?_ ?_
  · exact fun i k' h => pz_ctk (l := ct4_X12_soon) (P := fun b i k => b = true → pz_cV 7 164 RX12 i k) (List.forall_mem_cons.mpr ⟨((fun z => by cases z)), List.forall_mem_cons.mpr ⟨(fun _ => v4_X12_allBy (by decide) (by decide) (pz_mt 1617 (by decide +kernel))), fun _ h => absurd h List.not_mem_nil⟩⟩) true i k' h rfl
  · exact fun i k' h => pz_ctk (l := ct4_X12_soon) (P := fun b i k => b = false → (pz_cS 7 164 RX12 i k ∨ (k = pz_kac ∧ 1 ≤ 7 ∧ 60 ≤ 164 ∧ Cond.methodLink RX12 i arraycopyName ∈ pz_tbl))) (List.forall_mem_cons.mpr ⟨(fun _ => Or.inl (s_X12_isIn (by decide) (by decide) (Or.inl (pz_mt 1217 (by decide +kernel))))), List.forall_mem_cons.mpr ⟨((fun z => by cases z)), fun _ h => absurd h List.not_mem_nil⟩⟩) false i k' h rfl
  · intro a M hlen hpre
    obtain ⟨th, h, rfl, hpre⟩ : ∃ th h, a = [.inr (.inr (12, th)), .inl h] ∧ (pz_im M) := by
      have hpre : (match (generalizing := false) a with | [.inr (.inr (12, th)), .inl h] => pz_im M | _ => False) := hpre
      split at hpre
      · exact ⟨_, _, rfl, hpre⟩
      · exact hpre.elim
    exact Nat.le_of_ble_eq_true rfl
  · intro a M hlen hcan hM hpre Ok hgo
    obtain ⟨th, h, rfl, hpre⟩ : ∃ th h, a = [.inr (.inr (12, th)), .inl h] ∧ (pz_im M) := by
      have hpre : (match (generalizing := false) a with | [.inr (.inr (12, th)), .inl h] => pz_im M | _ => False) := hpre
      split at hpre
      · exact ⟨_, _, rfl, hpre⟩
      · exact hpre.elim
    obtain ⟨k_th, hc_th⟩ := pz_tlm hcan
    have k_th : pz_kd th = 12 ∧ th < 231 := k_th
    have R_th := pz_kd12 k_th.1
    subst R_th
    clear k_th
    obtain ⟨k_h, hc_h⟩ := pz_tlm hc_th
    have l_h : -2147483648 ≤ h := k_h.1
    have u_h : h ≤ 2147483647 := k_h.2
    have hI : pz_im M := hpre
    have hI0 := hI
    have hS : pz_rl pz_QV M M := pz_rl.rf
    have I88 := hI.1.1
    have L15 : ∀ (fu : Nat) (x2 : Int) (N15 : pz_M), (61 - x2).toNat < fu → (pz_rl pz_QV M N15) → (0 ≤ x2) → (1 ≤ x2) → (x2 ≤ 61) → (0 ≤ h ∧ h ≤ 1000000) → (∀ ls : List pz_lne, pq_wlw ls (M 60) → (∀ q ∈ ls, pv_ln q) → sd_wf (M 60) → sd_son ls (M 60) h (61 - x2).toNat x2.toNat = sd_son ls (M 60) h 60 1) → Ok 15 [some (.inr (.inr (12, 1))), some (.inl h), some (.inl x2)] [] N15 := by
      intro fu
      induction fu with
      | zero => exact fun _ _ hn => absurd hn (Nat.not_lt_zero _)
      | succ fu ih15 =>
        intro x2 N15 hn15 hS g15_1 g15_2 g15_3 g15_4 g15_5
        have hI : pz_im N15 := hS.1 hI0
        have W15 : N15 60 = M 60 := funext fun j => hS.2 60 j (by unfold pz_QV; omega)
        refine hgo (fun p => Nat.beq p 15) 34 15 _ _ _ ?_
        refine And.intro (fun h18 => ?_) (fun h18 => ?_)
        · skip
          refine And.intro rfl ?_
          refine ⟨fun ls hl hq hW => ?_, hS⟩
          have hm := hW.1
          show _ = sd_sov ls (M 60) h
          have g := (by assumption : ∀ ls : List pz_lne, pq_wlw ls (M 60) → (∀ q ∈ ls, pv_ln q) → sd_wf (M 60) → sd_son ls (M 60) h (61 - x2).toNat x2.toNat = sd_son ls (M 60) h 60 1) ls hl hq hW
          unfold sd_sov
          rw [if_pos (by omega), ← g, show (61 - x2).toNat = 0 by omega]
          rfl
        · skip
          refine pz_nrc (c := 60) rfl ?_
          refine And.intro (by omega) (And.intro (show _ < (1725 : Int) from by omega) ?_)
          intro v29 e29 a29 b29
          replace e29 : v29 = N15 60 88 := e29
          have I29 : 0 ≤ v29 ∧ v29 ≤ 12 := by
            rw [e29]
            exact hI.1.1
          clear a29 b29
          rw [W15] at e29
          intro v31 e31 a31 b31
          rw [pz_wi (by omega) (by omega)] at e31
          clear a31 b31
          refine And.intro (And.intro hI (And.intro (by omega) (by omega))) ?_
          intro v33 M33 a33 b33 q33
          obtain ⟨q33, z33⟩ := q33
          have hS : pz_rl pz_QV M M33 := hS.tr z33
          have hI : pz_im M33 := hS.1 hI0
          rw [W15] at q33
          have G33 : ∀ ls : List pz_lne, pq_wlw ls (M 60) → (∀ q ∈ ls, pv_ln q) → sd_wf (M 60) → v33 = sd_od9 ls (M 60) x2.toNat := fun ls hl hq hW => by
            have q := q33 ls hl hq hW (by omega) (by omega)
            rw [show (v31 + 1 - 0).toNat = sd_n (M 60) by unfold sd_n; omega] at q
            exact q
          refine And.intro (fun h38 => ?_) ?_
          · skip
            refine And.intro (fun h39 => ?_) (fun h39 => ?_)
            · skip
              intro v44 e44 a44 b44
              rw [pz_wi (by omega) (by omega)] at e44
              have G15 : ∀ ls : List pz_lne, pq_wlw ls (M 60) → (∀ q ∈ ls, pv_ln q) → sd_wf (M 60) → sd_son ls (M 60) h (61 - v44).toNat v44.toNat = sd_son ls (M 60) h 60 1 := fun ls hl hq hW => by
                have g := (by assumption : ∀ ls : List pz_lne, pq_wlw ls (M 60) → (∀ q ∈ ls, pv_ln q) → sd_wf (M 60) → sd_son ls (M 60) h (61 - x2).toNat x2.toNat = sd_son ls (M 60) h 60 1) ls hl hq hW
                have q := G33 ls hl hq hW
                rw [← g, show (61 - x2).toNat = (61 - v44).toNat + 1 by omega, show v44.toNat = x2.toNat + 1 by omega]
                exact (if_neg (by omega)).symm
              exact ih15 _ _ (by omega) hS (by first | omega | assumption | exact fun _ _ _ _ => rfl) (by first | omega | assumption | exact fun _ _ _ _ => rfl) (by first | omega | assumption | exact fun _ _ _ _ => rfl) (by first | omega | assumption | exact fun _ _ _ _ => rfl) (by first | omega | assumption | exact fun _ _ _ _ => rfl)
            · skip
              refine And.intro rfl ?_
              refine ⟨fun ls hl hq hW => ?_, hS⟩
              have hm := hW.1
              show _ = sd_sov ls (M 60) h
              have g := (by assumption : ∀ ls : List pz_lne, pq_wlw ls (M 60) → (∀ q ∈ ls, pv_ln q) → sd_wf (M 60) → sd_son ls (M 60) h (61 - x2).toNat x2.toNat = sd_son ls (M 60) h 60 1) ls hl hq hW
              have q := G33 ls hl hq hW
              unfold sd_sov
              rw [if_pos (by omega), ← g, show (61 - x2).toNat = (60 - x2).toNat + 1 by omega]
              refine Eq.trans ?_ (if_pos (by omega)).symm
              omega
          refine And.intro (fun h38 => ?_) ?_
          · skip
            refine And.intro (fun h39 => ?_) (fun h39 => ?_)
            · skip
              intro v44 e44 a44 b44
              rw [pz_wi (by omega) (by omega)] at e44
              have G15 : ∀ ls : List pz_lne, pq_wlw ls (M 60) → (∀ q ∈ ls, pv_ln q) → sd_wf (M 60) → sd_son ls (M 60) h (61 - v44).toNat v44.toNat = sd_son ls (M 60) h 60 1 := fun ls hl hq hW => by
                have g := (by assumption : ∀ ls : List pz_lne, pq_wlw ls (M 60) → (∀ q ∈ ls, pv_ln q) → sd_wf (M 60) → sd_son ls (M 60) h (61 - x2).toNat x2.toNat = sd_son ls (M 60) h 60 1) ls hl hq hW
                have q := G33 ls hl hq hW
                rw [← g, show (61 - x2).toNat = (61 - v44).toNat + 1 by omega, show v44.toNat = x2.toNat + 1 by omega]
                exact (if_neg (by omega)).symm
              exact ih15 _ _ (by omega) hS (by first | omega | assumption | exact fun _ _ _ _ => rfl) (by first | omega | assumption | exact fun _ _ _ _ => rfl) (by first | omega | assumption | exact fun _ _ _ _ => rfl) (by first | omega | assumption | exact fun _ _ _ _ => rfl) (by first | omega | assumption | exact fun _ _ _ _ => rfl)
            · skip
              refine And.intro rfl ?_
              refine ⟨fun ls hl hq hW => ?_, hS⟩
              have hm := hW.1
              show _ = sd_sov ls (M 60) h
              have g := (by assumption : ∀ ls : List pz_lne, pq_wlw ls (M 60) → (∀ q ∈ ls, pv_ln q) → sd_wf (M 60) → sd_son ls (M 60) h (61 - x2).toNat x2.toNat = sd_son ls (M 60) h 60 1) ls hl hq hW
              have q := G33 ls hl hq hW
              unfold sd_sov
              rw [if_pos (by omega), ← g, show (61 - x2).toNat = (60 - x2).toNat + 1 by omega]
              refine Eq.trans ?_ (if_pos (by omega)).symm
              omega
          intro h38
          refine And.intro (fun h39 => ?_) (fun h39 => ?_)
          · skip
            intro v44 e44 a44 b44
            rw [pz_wi (by omega) (by omega)] at e44
            have G15 : ∀ ls : List pz_lne, pq_wlw ls (M 60) → (∀ q ∈ ls, pv_ln q) → sd_wf (M 60) → sd_son ls (M 60) h (61 - v44).toNat v44.toNat = sd_son ls (M 60) h 60 1 := fun ls hl hq hW => by
              have g := (by assumption : ∀ ls : List pz_lne, pq_wlw ls (M 60) → (∀ q ∈ ls, pv_ln q) → sd_wf (M 60) → sd_son ls (M 60) h (61 - x2).toNat x2.toNat = sd_son ls (M 60) h 60 1) ls hl hq hW
              have q := G33 ls hl hq hW
              rw [← g, show (61 - x2).toNat = (61 - v44).toNat + 1 by omega, show v44.toNat = x2.toNat + 1 by omega]
              exact (if_neg (by omega)).symm
            exact ih15 _ _ (by omega) hS (by first | omega | assumption | exact fun _ _ _ _ => rfl) (by first | omega | assumption | exact fun _ _ _ _ => rfl) (by first | omega | assumption | exact fun _ _ _ _ => rfl) (by first | omega | assumption | exact fun _ _ _ _ => rfl) (by first | omega | assumption | exact fun _ _ _ _ => rfl)
          · skip
            refine And.intro rfl ?_
            refine ⟨fun ls hl hq hW => ?_, hS⟩
            have hm := hW.1
            show _ = sd_sov ls (M 60) h
            have g := (by assumption : ∀ ls : List pz_lne, pq_wlw ls (M 60) → (∀ q ∈ ls, pv_ln q) → sd_wf (M 60) → sd_son ls (M 60) h (61 - x2).toNat x2.toNat = sd_son ls (M 60) h 60 1) ls hl hq hW
            have q := G33 ls hl hq hW
            unfold sd_sov
            rw [if_pos (by omega), ← g, show (61 - x2).toNat = (60 - x2).toNat + 1 by omega]
            refine Eq.trans ?_ (if_pos (by omega)).symm
            omega
    refine hgo (fun p => Nat.beq p 15) 34 0 _ [] M ?_
    refine And.intro (True.intro) ?_
    intro v5 M5 a5 b5 q5
    obtain ⟨q5, z5⟩ := q5
    subst z5
    clear a5 b5
    refine And.intro (fun h8 => ?_) (fun h8 => ?_)
    · skip
      replace q5 := q5.resolve_right (fun z => h8 z.1)
      clear h8
      exact L15 _ _ _ (Nat.lt_succ_self _) hS (by first | omega | assumption | exact fun _ _ _ _ => rfl) (by first | omega | assumption | exact fun _ _ _ _ => rfl) (by first | omega | assumption | exact fun _ _ _ _ => rfl) (by first | omega | assumption | exact fun _ _ _ _ => rfl) (by first | omega | assumption | exact fun _ _ _ _ => rfl)
    · skip
      replace q5 := q5.resolve_left (fun z => absurd (z.1.symm.trans h8) (by decide))
      clear h8
      refine And.intro rfl ?_
      refine ⟨fun ls hl hq hW => ?_, hS⟩
      have hm := hW.1
      show _ = sd_sov ls (M 60) h
      unfold sd_sov
      rw [if_neg (by omega)]
theorem v4_X12_soon {fr lo i : Nat} {own : String} (h1 : 7 + 1 ≤ fr) (h2 : 8 + (3 + 11) + 164 ≤ lo) (h3 : .methodLink own i yX12_soon ∈ lw_tbl) : pz_cV fr lo own i k4_X12_soon :=
  pz_cVk (maxL := 3) (fr' := 7) (lo' := 164) 1 12 h4_X12_soon rfl ⟨by decide +kernel, by decide +kernel, by decide +kernel⟩ ⟨(pz_mt 1642 (by decide +kernel)), (pz_mt 1640 (by decide +kernel)), (pz_mt 1641 (by decide +kernel)), (pz_mt 13 (by decide +kernel))⟩ (Or.inl ⟨TX12, 28, rfl⟩) (fun a M _ h => by
    have h : (match (generalizing := false) a with | [.inr (.inr (12, th)), .inl h] => pz_im M | _ => False) := h
    split at h
    · exact ⟨_, _, rfl⟩
    · exact h.elim) h1 h2 h3
