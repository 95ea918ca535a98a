def k4_X12_hurriedBy : pz_C := (3, 2, fun a M => (match a with | [.inr (.inr (12, th)), .inl i, .inl n] => pz_im M ∧ 0 ≤ i ∧ i < 12 | _ => False), fun a M r M' => (match a, r with | [.inr (.inr (12, th)), .inl i, .inl n], some (.inr (.inl v)) => (∀ ls : List pz_lne, pq_wlw ls (M 60) → (∀ q ∈ ls, pv_ln q) → sd_wf (M 60) → i < M 60 88 → 0 ≤ n → v = sd_hu ls (M 60) n.toNat i.toNat) ∧ pz_rl pz_QV M M' | _, _ => False))
abbrev ct4_X12_hurriedBy : List (Bool × Nat × pz_C) := [(true, 415, k4_X12_allBy)]
set_option maxRecDepth 100000 in
set_option maxHeartbeats 4000000 in
theorem h4_X12_hurriedBy : pz_H yX12_hurriedBy cX12_hurriedBy 6 (some .long) k4_X12_hurriedBy 7 164 := by
  refine pz_mk (own := RX12) (tb := t_X12_hurriedBy) (fl := pz_flf fl_RX12) (ci := pz_cif ci_RX12) (ct := pz_ctf ct4_X12_hurriedBy) (rz := false) (by decide +kernel) rfl t_X12_hurriedBy_ok (pz_flk fl_RX12_ok) (pz_cik ci_RX12_ok) ?_ ?_ (rfl) ?_ ?_
  · exact fun i k' h => pz_ctk (l := ct4_X12_hurriedBy) (P := fun b i k => b = true → pz_cV 7 164 RX12 i k) (List.forall_mem_cons.mpr ⟨(fun _ => v4_X12_allBy (by decide) (by decide) (pz_mt 1617 (by decide +kernel))), fun _ h => absurd h List.not_mem_nil⟩) true i k' h rfl
  · exact fun i k' h => pz_ctk (l := ct4_X12_hurriedBy) (P := fun b i k => b = false → (pz_cS 7 164 RX12 i k ∨ (k = pz_kac ∧ 1 ≤ 7 ∧ 60 ≤ 164 ∧ Cond.methodLink RX12 i arraycopyName ∈ pz_tbl))) (List.forall_mem_cons.mpr ⟨((fun z => by cases z)), fun _ h => absurd h List.not_mem_nil⟩) false i k' h rfl
  · intro a M hlen hpre
    obtain ⟨th, i, n, rfl, hpre⟩ : ∃ th i n, a = [.inr (.inr (12, th)), .inl i, .inl n] ∧ (pz_im M ∧ 0 ≤ i ∧ i < 12) := by
      have hpre : (match (generalizing := false) a with | [.inr (.inr (12, th)), .inl i, .inl n] => pz_im M ∧ 0 ≤ i ∧ i < 12 | _ => False) := hpre
      split at hpre
      · exact ⟨_, _, _, rfl, hpre⟩
      · exact hpre.elim
    exact Nat.le_of_ble_eq_true rfl
  · intro a M hlen hcan hM hpre Ok hgo
    obtain ⟨th, i, n, rfl, hpre⟩ : ∃ th i n, a = [.inr (.inr (12, th)), .inl i, .inl n] ∧ (pz_im M ∧ 0 ≤ i ∧ i < 12) := by
      have hpre : (match (generalizing := false) a with | [.inr (.inr (12, th)), .inl i, .inl n] => pz_im M ∧ 0 ≤ i ∧ i < 12 | _ => False) := hpre
      split at hpre
      · exact ⟨_, _, _, rfl, hpre⟩
      · exact hpre.elim
    obtain ⟨k_th, hc_th⟩ := pz_tlm hcan
    have k_th : pz_kd th = 12 ∧ th < 231 := k_th
    have R_th := pz_kd12 k_th.1
    subst R_th
    clear k_th
    obtain ⟨k_i, hc_i⟩ := pz_tlm hc_th
    have l_i : -2147483648 ≤ i := k_i.1
    have u_i : i ≤ 2147483647 := k_i.2
    obtain ⟨k_n, hc_n⟩ := pz_tlm hc_i
    have l_n : -2147483648 ≤ n := k_n.1
    have u_n : n ≤ 2147483647 := k_n.2
    have hI : pz_im M := hpre.1
    have hI0 := hI
    have hS : pz_rl pz_QV M M := pz_rl.rf
    refine hgo (fun _ => false) 36 0 _ [] M ?_
    refine pz_nrc (c := 60) rfl ?_
    intro v7 e7 a7 b7
    rw [pz_wi (by omega) (by omega)] at e7
    clear a7 b7
    refine And.intro (by omega) (And.intro (show _ < (1725 : Int) from by omega) ?_)
    intro v8 e8 a8 b8
    refine pz_nrc (c := 60) rfl ?_
    intro v17 e17 a17 b17
    rw [pz_wi (by omega) (by omega)] at e17
    clear a17 b17
    refine And.intro (by omega) (And.intro (show _ < (1725 : Int) from by omega) ?_)
    intro M19 e19
    have hS : pz_rl (pz_Qh (93 + i).toNat) M M19 := by
      rw [e19]
      exact pz_rl_u hS.vh (by unfold pz_Qh; omega) (by exact pz_iom_w2 (by omega) (by omega))
    have hI : pz_im M19 := hS.1 hI0
    have T19_0 := pz_uve e19 60 (93 + i).toNat
    refine pz_nrc (c := 60) rfl ?_
    refine And.intro (by omega) (And.intro (show _ < (1725 : Int) from by omega) ?_)
    intro v28 e28 a28 b28
    replace e28 : v28 = M19 60 88 := e28
    have I28 : 0 ≤ v28 ∧ v28 ≤ 12 := by
      rw [e28]
      exact hI.1.1
    clear a28 b28
    intro v30 e30 a30 b30
    rw [pz_wi (by omega) (by omega)] at e30
    clear a30 b30
    refine And.intro (And.intro hI (And.intro (by omega) (by omega))) ?_
    intro v32 M32 a32 b32 q32
    obtain ⟨q32, z32⟩ := q32
    have hS : pz_rl (pz_Qh (93 + i).toNat) M M32 := hS.tr z32.vh
    have hI : pz_im M32 := hS.1 hI0
    refine pz_nrc (c := 60) rfl ?_
    intro v44 e44 a44 b44
    rw [pz_wi (by omega) (by omega)] at e44
    clear a44 b44
    refine And.intro (by omega) (And.intro (show _ < (1725 : Int) from by omega) ?_)
    intro M46 e46
    have hS : pz_rl (pz_Qh (93 + i).toNat) M M46 := by
      rw [e46]
      exact pz_rl_u hS (by unfold pz_Qh; omega) (by exact pz_iom_w2 (by omega) (by omega))
    have hI : pz_im M46 := hS.1 hI0
    have T46_0 := pz_uve e46 60 (93 + i).toNat
    refine And.intro rfl ?_
    have hS9 : pz_rl pz_QV M M46 := pz_rl.hv hS (by rw [e46, pz_ue ⟨rfl, by omega⟩, e8]; congr 1; omega)
    refine ⟨fun ls hl hq hW hi hn => ?_, hS9⟩
    have W19 : M19 60 = sd_sl0 (M 60) i.toNat := by
      rw [e19, sd_um, show v17.toNat = 93 + i.toNat by omega]
      rfl
    have f88 := sd_sl0_88 (F := M 60) (i := i.toNat)
    have n19 : M19 60 88 = M 60 88 := by
      rw [W19]
      exact f88
    rw [W19] at q32
    have q := q32 ls (sd_wlw_cg hl (fun j y => sd_un (by omega))) hq (sd_sl0_wf hW (by omega)) (by omega) hn
    rw [show (v30 + 1 - 0).toNat = sd_n (sd_sl0 (M 60) i.toNat) by unfold sd_n; omega] at q
    exact q
theorem v4_X12_hurriedBy {fr lo i : Nat} {own : String} (h1 : 7 + 1 ≤ fr) (h2 : 8 + (6 + 11) + 164 ≤ lo) (h3 : .methodLink own i yX12_hurriedBy ∈ lw_tbl) : pz_cV fr lo own i k4_X12_hurriedBy :=
  pz_cVk (maxL := 6) (fr' := 7) (lo' := 164) 2 12 h4_X12_hurriedBy rfl ⟨by decide +kernel, by decide +kernel, by decide +kernel⟩ ⟨(pz_mt 1651 (by decide +kernel)), (pz_mt 1650 (by decide +kernel)), (pz_ms 76 (by decide +kernel)), (pz_mt 13 (by decide +kernel))⟩ (Or.inl ⟨TX12, 28, rfl⟩) (fun a M _ h => by
    have h : (match (generalizing := false) a with | [.inr (.inr (12, th)), .inl i, .inl n] => pz_im M ∧ 0 ≤ i ∧ i < 12 | _ => False) := h
    split at h
    · exact ⟨_, _, rfl⟩
    · exact h.elim) h1 h2 h3
def k4_X12_hurry : pz_C := (3, 1, fun a M => (match a with | [.inr (.inr (12, th)), .inl n, .inl w] => pz_im M | _ => False), fun a M r M' => (match a, r with | [.inr (.inr (12, th)), .inl n, .inl w], some (.inl v) => (sd_wm M v (fun ls F => sd_huv ls F n w)) ∧ pz_rl pz_QV M M' | _, _ => False))
abbrev ct4_X12_hurry : List (Bool × Nat × pz_C) := [(false, 54, k_X12_isIn), (true, 422, k4_X12_hurriedBy)]
set_option maxRecDepth 100000 in
set_option maxHeartbeats 4000000 in
theorem h4_X12_hurry : pz_H yX12_hurry cX12_hurry 5 (some .int) k4_X12_hurry 8 189 := by
  refine pz_mk (own := RX12) (tb := t_X12_hurry) (fl := pz_flf fl_RX12) (ci := pz_cif ci_RX12) (ct := pz_ctf ct4_X12_hurry) (rz := false) (by decide +kernel) rfl t_X12_hurry_ok (pz_flk fl_RX12_ok) (pz_cik ci_RX12_ok) ?_ ?_ (Or.inl ⟨rfl, rfl⟩) ?_ ?_
  · exact fun i k' h => pz_ctk (l := ct4_X12_hurry) (P := fun b i k => b = true → pz_cV 8 189 RX12 i k) (List.forall_mem_cons.mpr ⟨((fun z => by cases z)), List.forall_mem_cons.mpr ⟨(fun _ => v4_X12_hurriedBy (by decide) (by decide) (pz_mt 1648 (by decide +kernel))), fun _ h => absurd h List.not_mem_nil⟩⟩) true i k' h rfl
  · exact fun i k' h => pz_ctk (l := ct4_X12_hurry) (P := fun b i k => b = false → (pz_cS 8 189 RX12 i k ∨ (k = pz_kac ∧ 1 ≤ 8 ∧ 60 ≤ 189 ∧ Cond.methodLink RX12 i arraycopyName ∈ pz_tbl))) (List.forall_mem_cons.mpr ⟨(fun _ => Or.inl (s_X12_isIn (by decide) (by decide) (Or.inl (pz_mt 1217 (by decide +kernel))))), List.forall_mem_cons.mpr ⟨((fun z => by cases z)), fun _ h => absurd h List.not_mem_nil⟩⟩) false i k' h rfl
  · intro a M hlen hpre
    obtain ⟨th, n, w, rfl, hpre⟩ : ∃ th n w, a = [.inr (.inr (12, th)), .inl n, .inl w] ∧ (pz_im M) := by
      have hpre : (match (generalizing := false) a with | [.inr (.inr (12, th)), .inl n, .inl w] => pz_im M | _ => False) := hpre
      split at hpre
      · exact ⟨_, _, _, rfl, hpre⟩
      · exact hpre.elim
    exact Nat.le_of_ble_eq_true rfl
  · intro a M hlen hcan hM hpre Ok hgo
    obtain ⟨th, n, w, rfl, hpre⟩ : ∃ th n w, a = [.inr (.inr (12, th)), .inl n, .inl w] ∧ (pz_im M) := by
      have hpre : (match (generalizing := false) a with | [.inr (.inr (12, th)), .inl n, .inl w] => pz_im M | _ => False) := hpre
      split at hpre
      · exact ⟨_, _, _, rfl, hpre⟩
      · exact hpre.elim
    obtain ⟨k_th, hc_th⟩ := pz_tlm hcan
    have k_th : pz_kd th = 12 ∧ th < 231 := k_th
    have R_th := pz_kd12 k_th.1
    subst R_th
    clear k_th
    obtain ⟨k_n, hc_n⟩ := pz_tlm hc_th
    have l_n : -2147483648 ≤ n := k_n.1
    have u_n : n ≤ 2147483647 := k_n.2
    obtain ⟨k_w, hc_w⟩ := pz_tlm hc_n
    have l_w : -2147483648 ≤ w := k_w.1
    have u_w : w ≤ 2147483647 := k_w.2
    have hI : pz_im M := hpre
    have hI0 := hI
    have hS : pz_rl pz_QV M M := pz_rl.rf
    have I88 := hI.1.1
    have L36 : ∀ (fu : Nat) (x3 : Int) (x4 : Int) (N36 : pz_M), (12 - x4).toNat < fu → (pz_rl pz_QV M N36) → (0 ≤ x4) → (0 ≤ x3) → (x3 < 12) → ((1 ≤ n ∧ n ≤ 60) ∧ (0 ≤ w ∧ w ≤ 1) ∧ M 60 88 ≠ 0) → (∀ ls : List pz_lne, pq_wlw ls (M 60) → (∀ q ∈ ls, pv_ln q) → sd_wf (M 60) → M 60 88 ≠ 0 → sd_hmE ls (M 60) n.toNat x3 x4) → Ok 36 [some (.inr (.inr (12, 1))), some (.inl n), some (.inl w), some (.inl x3), some (.inl x4)] [] N36 := by
      intro fu
      induction fu with
      | zero => exact fun _ _ _ hn => absurd hn (Nat.not_lt_zero _)
      | succ fu ih36 =>
        intro x3 x4 N36 hn36 hS g36_1 g36_2 g36_3 g36_4 g36_5
        have hI : pz_im N36 := hS.1 hI0
        have W36 : N36 60 = M 60 := funext fun j => hS.2 60 j (by unfold pz_QV; omega)
        refine hgo (fun p => Nat.beq p 36) 53 36 _ _ _ ?_
        refine pz_nrc (c := 60) rfl ?_
        refine And.intro (by omega) (And.intro (show _ < (1725 : Int) from by omega) ?_)
        intro v44 e44 a44 b44
        replace e44 : v44 = N36 60 88 := e44
        have I44 : 0 ≤ v44 ∧ v44 ≤ 12 := by
          rw [e44]
          exact hI.1.1
        clear a44 b44
        rw [W36] at e44
        refine And.intro (fun h45 => ?_) (fun h45 => ?_)
        · skip
          refine And.intro (fun h75 => ?_) (fun h75 => ?_)
          · skip
            refine And.intro (And.intro hI (And.intro (by omega) (by omega))) ?_
            intro v85 M85 a85 b85 q85
            obtain ⟨q85, z85⟩ := q85
            have hS : pz_rl pz_QV M M85 := hS.tr z85
            have hI : pz_im M85 := hS.1 hI0
            intro v88 e88 a88 b88
            refine And.intro rfl ?_
            refine ⟨fun ls hl hq hW => ?_, hS⟩
            have hm := hW.1
            show _ = sd_huv ls (M 60) n w
            have z := sd_hmE_z ((by assumption : ∀ ls : List pz_lne, pq_wlw ls (M 60) → (∀ q ∈ ls, pv_ln q) → sd_wf (M 60) → M 60 88 ≠ 0 → sd_hmE ls (M 60) n.toNat x3 x4) ls hl hq hW (by omega)) hW (by omega)
            unfold sd_huv
            rw [if_pos (by omega)]
            first
              | (rw [if_pos (by omega)]
                 exact z)
              | (have g0 := ((by assumption : ∀ ls : List pz_lne, pq_wlw ls (M 60) → (∀ q ∈ ls, pv_ln q) → sd_wf (M 60) → M 60 88 ≠ 0 → sd_hmE ls (M 60) n.toNat x3 x4) ls hl hq hW (by omega)).2.1
                 have a := q85 ls (by rw [W36]; exact hl) hq (by rw [W36]; exact hW) (by rw [W36]; omega) (by omega)
                 rw [W36] at a
                 have b := sd_hu_b (ls := ls) (F := M 60) (d := n.toNat) (i := x3.toNat)
                 rw [if_neg (by omega), e88, a, pz_wi (by omega) (by omega), show x3.toNat = sd_hub ls (M 60) n.toNat (sd_n (M 60) - 1) 1 0 by omega])
          · skip
            refine And.intro rfl ?_
            refine ⟨fun ls hl hq hW => ?_, hS⟩
            have hm := hW.1
            show _ = sd_huv ls (M 60) n w
            have z := sd_hmE_z ((by assumption : ∀ ls : List pz_lne, pq_wlw ls (M 60) → (∀ q ∈ ls, pv_ln q) → sd_wf (M 60) → M 60 88 ≠ 0 → sd_hmE ls (M 60) n.toNat x3 x4) ls hl hq hW (by omega)) hW (by omega)
            unfold sd_huv
            rw [if_pos (by omega)]
            first
              | (rw [if_pos (by omega)]
                 exact z)
              | (have g0 := ((by assumption : ∀ ls : List pz_lne, pq_wlw ls (M 60) → (∀ q ∈ ls, pv_ln q) → sd_wf (M 60) → M 60 88 ≠ 0 → sd_hmE ls (M 60) n.toNat x3 x4) ls hl hq hW (by omega)).2.1
                 have a := q85 ls (by rw [W36]; exact hl) hq (by rw [W36]; exact hW) (by rw [W36]; omega) (by omega)
                 rw [W36] at a
                 have b := sd_hu_b (ls := ls) (F := M 60) (d := n.toNat) (i := x3.toNat)
                 rw [if_neg (by omega), e88, a, pz_wi (by omega) (by omega), show x3.toNat = sd_hub ls (M 60) n.toNat (sd_n (M 60) - 1) 1 0 by omega])
        · skip
          refine And.intro (And.intro hI (And.intro (by omega) (by omega))) ?_
          intro v52 M52 a52 b52 q52
          obtain ⟨q52, z52⟩ := q52
          have hS : pz_rl pz_QV M M52 := hS.tr z52
          have hI : pz_im M52 := hS.1 hI0
          have W52 : M52 60 = N36 60 := funext fun j => z52.2 60 j (by unfold pz_QV; omega)
          refine And.intro (And.intro hI (And.intro (by omega) (by omega))) ?_
          intro v58 M58 a58 b58 q58
          obtain ⟨q58, z58⟩ := q58
          have hS : pz_rl pz_QV M M58 := hS.tr z58
          have hI : pz_im M58 := hS.1 hI0
          refine And.intro (fun h61 => ?_) ?_
          · skip
            refine And.intro (fun h62 => ?_) (fun h62 => ?_)
            · skip
              have G36 : ∀ ls : List pz_lne, pq_wlw ls (M 60) → (∀ q ∈ ls, pv_ln q) → sd_wf (M 60) → M 60 88 ≠ 0 → sd_hmE ls (M 60) n.toNat x3 (x4 + 1) := fun ls hl hq hW h8 => by
                have g := (by assumption : ∀ ls : List pz_lne, pq_wlw ls (M 60) → (∀ q ∈ ls, pv_ln q) → sd_wf (M 60) → M 60 88 ≠ 0 → sd_hmE ls (M 60) n.toNat x3 x4) ls hl hq hW h8
                have g0 := g.2.1
                have a := q52 ls (by rw [W36]; exact hl) hq (by rw [W36]; exact hW) (by rw [W36]; omega) (by omega)
                rw [W36] at a
                have b := q58 ls (by rw [W52, W36]; exact hl) hq (by rw [W52, W36]; exact hW) (by rw [W52, W36]; omega) (by omega)
                rw [W52, W36] at b
                exact sd_hmE_s g hW (by omega) rfl (Or.inr ⟨by omega, rfl⟩)
              intro v68 e68 a68 b68
              rw [pz_wi (by omega) (by omega)] at e68
              first
                | (have G36c : ∀ ls : List pz_lne, pq_wlw ls (M 60) → (∀ q ∈ ls, pv_ln q) → sd_wf (M 60) → M 60 88 ≠ 0 → sd_hmE ls (M 60) n.toNat x3 v68 := by
                    rw [e68]
                    assumption)
                | (have G36c : ∀ ls : List pz_lne, pq_wlw ls (M 60) → (∀ q ∈ ls, pv_ln q) → sd_wf (M 60) → M 60 88 ≠ 0 → sd_hmE ls (M 60) n.toNat x4 v68 := by
                    rw [e68]
                    assumption)
              exact ih36 _ _ _ (by omega) hS (by first | omega | assumption | exact fun ls hl hq hW h8 => ⟨⟨by decide, by omega⟩, ⟨by decide, by omega⟩, rfl⟩) (by first | omega | assumption | exact fun ls hl hq hW h8 => ⟨⟨by decide, by omega⟩, ⟨by decide, by omega⟩, rfl⟩) (by first | omega | assumption | exact fun ls hl hq hW h8 => ⟨⟨by decide, by omega⟩, ⟨by decide, by omega⟩, rfl⟩) (by first | omega | assumption | exact fun ls hl hq hW h8 => ⟨⟨by decide, by omega⟩, ⟨by decide, by omega⟩, rfl⟩) (by first | omega | assumption | exact fun ls hl hq hW h8 => ⟨⟨by decide, by omega⟩, ⟨by decide, by omega⟩, rfl⟩)
            · skip
              have G36 : ∀ ls : List pz_lne, pq_wlw ls (M 60) → (∀ q ∈ ls, pv_ln q) → sd_wf (M 60) → M 60 88 ≠ 0 → sd_hmE ls (M 60) n.toNat x4 (x4 + 1) := fun ls hl hq hW h8 => by
                have g := (by assumption : ∀ ls : List pz_lne, pq_wlw ls (M 60) → (∀ q ∈ ls, pv_ln q) → sd_wf (M 60) → M 60 88 ≠ 0 → sd_hmE ls (M 60) n.toNat x3 x4) ls hl hq hW h8
                have g0 := g.2.1
                have a := q52 ls (by rw [W36]; exact hl) hq (by rw [W36]; exact hW) (by rw [W36]; omega) (by omega)
                rw [W36] at a
                have b := q58 ls (by rw [W52, W36]; exact hl) hq (by rw [W52, W36]; exact hW) (by rw [W52, W36]; omega) (by omega)
                rw [W52, W36] at b
                exact sd_hmE_s g hW (by omega) rfl (Or.inl ⟨by omega, rfl⟩)
              intro v68 e68 a68 b68
              rw [pz_wi (by omega) (by omega)] at e68
              first
                | (have G36c : ∀ ls : List pz_lne, pq_wlw ls (M 60) → (∀ q ∈ ls, pv_ln q) → sd_wf (M 60) → M 60 88 ≠ 0 → sd_hmE ls (M 60) n.toNat x3 v68 := by
                    rw [e68]
                    assumption)
                | (have G36c : ∀ ls : List pz_lne, pq_wlw ls (M 60) → (∀ q ∈ ls, pv_ln q) → sd_wf (M 60) → M 60 88 ≠ 0 → sd_hmE ls (M 60) n.toNat x4 v68 := by
                    rw [e68]
                    assumption)
              exact ih36 _ _ _ (by omega) hS (by first | omega | assumption | exact fun ls hl hq hW h8 => ⟨⟨by decide, by omega⟩, ⟨by decide, by omega⟩, rfl⟩) (by first | omega | assumption | exact fun ls hl hq hW h8 => ⟨⟨by decide, by omega⟩, ⟨by decide, by omega⟩, rfl⟩) (by first | omega | assumption | exact fun ls hl hq hW h8 => ⟨⟨by decide, by omega⟩, ⟨by decide, by omega⟩, rfl⟩) (by first | omega | assumption | exact fun ls hl hq hW h8 => ⟨⟨by decide, by omega⟩, ⟨by decide, by omega⟩, rfl⟩) (by first | omega | assumption | exact fun ls hl hq hW h8 => ⟨⟨by decide, by omega⟩, ⟨by decide, by omega⟩, rfl⟩)
          refine And.intro (fun h61 => ?_) ?_
          · skip
            refine And.intro (fun h62 => ?_) (fun h62 => ?_)
            · skip
              have G36 : ∀ ls : List pz_lne, pq_wlw ls (M 60) → (∀ q ∈ ls, pv_ln q) → sd_wf (M 60) → M 60 88 ≠ 0 → sd_hmE ls (M 60) n.toNat x3 (x4 + 1) := fun ls hl hq hW h8 => by
                have g := (by assumption : ∀ ls : List pz_lne, pq_wlw ls (M 60) → (∀ q ∈ ls, pv_ln q) → sd_wf (M 60) → M 60 88 ≠ 0 → sd_hmE ls (M 60) n.toNat x3 x4) ls hl hq hW h8
                have g0 := g.2.1
                have a := q52 ls (by rw [W36]; exact hl) hq (by rw [W36]; exact hW) (by rw [W36]; omega) (by omega)
                rw [W36] at a
                have b := q58 ls (by rw [W52, W36]; exact hl) hq (by rw [W52, W36]; exact hW) (by rw [W52, W36]; omega) (by omega)
                rw [W52, W36] at b
                exact sd_hmE_s g hW (by omega) rfl (Or.inr ⟨by omega, rfl⟩)
              intro v68 e68 a68 b68
              rw [pz_wi (by omega) (by omega)] at e68
              first
                | (have G36c : ∀ ls : List pz_lne, pq_wlw ls (M 60) → (∀ q ∈ ls, pv_ln q) → sd_wf (M 60) → M 60 88 ≠ 0 → sd_hmE ls (M 60) n.toNat x3 v68 := by
                    rw [e68]
                    assumption)
                | (have G36c : ∀ ls : List pz_lne, pq_wlw ls (M 60) → (∀ q ∈ ls, pv_ln q) → sd_wf (M 60) → M 60 88 ≠ 0 → sd_hmE ls (M 60) n.toNat x4 v68 := by
                    rw [e68]
                    assumption)
              exact ih36 _ _ _ (by omega) hS (by first | omega | assumption | exact fun ls hl hq hW h8 => ⟨⟨by decide, by omega⟩, ⟨by decide, by omega⟩, rfl⟩) (by first | omega | assumption | exact fun ls hl hq hW h8 => ⟨⟨by decide, by omega⟩, ⟨by decide, by omega⟩, rfl⟩) (by first | omega | assumption | exact fun ls hl hq hW h8 => ⟨⟨by decide, by omega⟩, ⟨by decide, by omega⟩, rfl⟩) (by first | omega | assumption | exact fun ls hl hq hW h8 => ⟨⟨by decide, by omega⟩, ⟨by decide, by omega⟩, rfl⟩) (by first | omega | assumption | exact fun ls hl hq hW h8 => ⟨⟨by decide, by omega⟩, ⟨by decide, by omega⟩, rfl⟩)
            · skip
              have G36 : ∀ ls : List pz_lne, pq_wlw ls (M 60) → (∀ q ∈ ls, pv_ln q) → sd_wf (M 60) → M 60 88 ≠ 0 → sd_hmE ls (M 60) n.toNat x4 (x4 + 1) := fun ls hl hq hW h8 => by
                have g := (by assumption : ∀ ls : List pz_lne, pq_wlw ls (M 60) → (∀ q ∈ ls, pv_ln q) → sd_wf (M 60) → M 60 88 ≠ 0 → sd_hmE ls (M 60) n.toNat x3 x4) ls hl hq hW h8
                have g0 := g.2.1
                have a := q52 ls (by rw [W36]; exact hl) hq (by rw [W36]; exact hW) (by rw [W36]; omega) (by omega)
                rw [W36] at a
                have b := q58 ls (by rw [W52, W36]; exact hl) hq (by rw [W52, W36]; exact hW) (by rw [W52, W36]; omega) (by omega)
                rw [W52, W36] at b
                exact sd_hmE_s g hW (by omega) rfl (Or.inl ⟨by omega, rfl⟩)
              intro v68 e68 a68 b68
              rw [pz_wi (by omega) (by omega)] at e68
              first
                | (have G36c : ∀ ls : List pz_lne, pq_wlw ls (M 60) → (∀ q ∈ ls, pv_ln q) → sd_wf (M 60) → M 60 88 ≠ 0 → sd_hmE ls (M 60) n.toNat x3 v68 := by
                    rw [e68]
                    assumption)
                | (have G36c : ∀ ls : List pz_lne, pq_wlw ls (M 60) → (∀ q ∈ ls, pv_ln q) → sd_wf (M 60) → M 60 88 ≠ 0 → sd_hmE ls (M 60) n.toNat x4 v68 := by
                    rw [e68]
                    assumption)
              exact ih36 _ _ _ (by omega) hS (by first | omega | assumption | exact fun ls hl hq hW h8 => ⟨⟨by decide, by omega⟩, ⟨by decide, by omega⟩, rfl⟩) (by first | omega | assumption | exact fun ls hl hq hW h8 => ⟨⟨by decide, by omega⟩, ⟨by decide, by omega⟩, rfl⟩) (by first | omega | assumption | exact fun ls hl hq hW h8 => ⟨⟨by decide, by omega⟩, ⟨by decide, by omega⟩, rfl⟩) (by first | omega | assumption | exact fun ls hl hq hW h8 => ⟨⟨by decide, by omega⟩, ⟨by decide, by omega⟩, rfl⟩) (by first | omega | assumption | exact fun ls hl hq hW h8 => ⟨⟨by decide, by omega⟩, ⟨by decide, by omega⟩, rfl⟩)
          intro h61
          refine And.intro (fun h62 => ?_) (fun h62 => ?_)
          · skip
            have G36 : ∀ ls : List pz_lne, pq_wlw ls (M 60) → (∀ q ∈ ls, pv_ln q) → sd_wf (M 60) → M 60 88 ≠ 0 → sd_hmE ls (M 60) n.toNat x3 (x4 + 1) := fun ls hl hq hW h8 => by
              have g := (by assumption : ∀ ls : List pz_lne, pq_wlw ls (M 60) → (∀ q ∈ ls, pv_ln q) → sd_wf (M 60) → M 60 88 ≠ 0 → sd_hmE ls (M 60) n.toNat x3 x4) ls hl hq hW h8
              have g0 := g.2.1
              have a := q52 ls (by rw [W36]; exact hl) hq (by rw [W36]; exact hW) (by rw [W36]; omega) (by omega)
              rw [W36] at a
              have b := q58 ls (by rw [W52, W36]; exact hl) hq (by rw [W52, W36]; exact hW) (by rw [W52, W36]; omega) (by omega)
              rw [W52, W36] at b
              exact sd_hmE_s g hW (by omega) rfl (Or.inr ⟨by omega, rfl⟩)
            intro v68 e68 a68 b68
            rw [pz_wi (by omega) (by omega)] at e68
            first
              | (have G36c : ∀ ls : List pz_lne, pq_wlw ls (M 60) → (∀ q ∈ ls, pv_ln q) → sd_wf (M 60) → M 60 88 ≠ 0 → sd_hmE ls (M 60) n.toNat x3 v68 := by
                  rw [e68]
                  assumption)
              | (have G36c : ∀ ls : List pz_lne, pq_wlw ls (M 60) → (∀ q ∈ ls, pv_ln q) → sd_wf (M 60) → M 60 88 ≠ 0 → sd_hmE ls (M 60) n.toNat x4 v68 := by
                  rw [e68]
                  assumption)
            exact ih36 _ _ _ (by omega) hS (by first | omega | assumption | exact fun ls hl hq hW h8 => ⟨⟨by decide, by omega⟩, ⟨by decide, by omega⟩, rfl⟩) (by first | omega | assumption | exact fun ls hl hq hW h8 => ⟨⟨by decide, by omega⟩, ⟨by decide, by omega⟩, rfl⟩) (by first | omega | assumption | exact fun ls hl hq hW h8 => ⟨⟨by decide, by omega⟩, ⟨by decide, by omega⟩, rfl⟩) (by first | omega | assumption | exact fun ls hl hq hW h8 => ⟨⟨by decide, by omega⟩, ⟨by decide, by omega⟩, rfl⟩) (by first | omega | assumption | exact fun ls hl hq hW h8 => ⟨⟨by decide, by omega⟩, ⟨by decide, by omega⟩, rfl⟩)
          · skip
            have G36 : ∀ ls : List pz_lne, pq_wlw ls (M 60) → (∀ q ∈ ls, pv_ln q) → sd_wf (M 60) → M 60 88 ≠ 0 → sd_hmE ls (M 60) n.toNat x4 (x4 + 1) := fun ls hl hq hW h8 => by
              have g := (by assumption : ∀ ls : List pz_lne, pq_wlw ls (M 60) → (∀ q ∈ ls, pv_ln q) → sd_wf (M 60) → M 60 88 ≠ 0 → sd_hmE ls (M 60) n.toNat x3 x4) ls hl hq hW h8
              have g0 := g.2.1
              have a := q52 ls (by rw [W36]; exact hl) hq (by rw [W36]; exact hW) (by rw [W36]; omega) (by omega)
              rw [W36] at a
              have b := q58 ls (by rw [W52, W36]; exact hl) hq (by rw [W52, W36]; exact hW) (by rw [W52, W36]; omega) (by omega)
              rw [W52, W36] at b
              exact sd_hmE_s g hW (by omega) rfl (Or.inl ⟨by omega, rfl⟩)
            intro v68 e68 a68 b68
            rw [pz_wi (by omega) (by omega)] at e68
            first
              | (have G36c : ∀ ls : List pz_lne, pq_wlw ls (M 60) → (∀ q ∈ ls, pv_ln q) → sd_wf (M 60) → M 60 88 ≠ 0 → sd_hmE ls (M 60) n.toNat x3 v68 := by
                  rw [e68]
                  assumption)
              | (have G36c : ∀ ls : List pz_lne, pq_wlw ls (M 60) → (∀ q ∈ ls, pv_ln q) → sd_wf (M 60) → M 60 88 ≠ 0 → sd_hmE ls (M 60) n.toNat x4 v68 := by
                  rw [e68]
                  assumption)
            exact ih36 _ _ _ (by omega) hS (by first | omega | assumption | exact fun ls hl hq hW h8 => ⟨⟨by decide, by omega⟩, ⟨by decide, by omega⟩, rfl⟩) (by first | omega | assumption | exact fun ls hl hq hW h8 => ⟨⟨by decide, by omega⟩, ⟨by decide, by omega⟩, rfl⟩) (by first | omega | assumption | exact fun ls hl hq hW h8 => ⟨⟨by decide, by omega⟩, ⟨by decide, by omega⟩, rfl⟩) (by first | omega | assumption | exact fun ls hl hq hW h8 => ⟨⟨by decide, by omega⟩, ⟨by decide, by omega⟩, rfl⟩) (by first | omega | assumption | exact fun ls hl hq hW h8 => ⟨⟨by decide, by omega⟩, ⟨by decide, by omega⟩, rfl⟩)
    refine hgo (fun p => Nat.beq p 36) 53 0 _ [] M ?_
    refine And.intro (True.intro) ?_
    intro v4 M4 a4 b4 q4
    obtain ⟨q4, z4⟩ := q4
    subst z4
    clear a4 b4
    refine And.intro (fun h7 => ?_) (fun h7 => ?_)
    · skip
      replace q4 := q4.resolve_left (fun z => absurd (z.1.symm.trans h7) (by decide))
      clear h7
      refine And.intro rfl ?_
      refine ⟨fun ls hl hq hW => ?_, hS⟩
      have hm := hW.1
      show _ = sd_huv ls (M 60) n w
      unfold sd_huv
      rw [if_neg (by omega)]
    · skip
      replace q4 := q4.resolve_right (fun z => h7 z.1)
      clear h7
      refine And.intro (True.intro) ?_
      intro v13 M13 a13 b13 q13
      obtain ⟨q13, z13⟩ := q13
      subst z13
      clear a13 b13
      refine And.intro (fun h16 => ?_) (fun h16 => ?_)
      · skip
        replace q13 := q13.resolve_left (fun z => absurd (z.1.symm.trans h16) (by decide))
        clear h16
        refine And.intro rfl ?_
        refine ⟨fun ls hl hq hW => ?_, hS⟩
        have hm := hW.1
        show _ = sd_huv ls (M 60) n w
        unfold sd_huv
        rw [if_neg (by omega)]
      · skip
        replace q13 := q13.resolve_right (fun z => h16 z.1)
        clear h16
        refine pz_nrc (c := 60) rfl ?_
        refine And.intro (by omega) (And.intro (show _ < (1725 : Int) from by omega) ?_)
        intro v25 e25 a25 b25
        replace e25 : v25 = M 60 88 := e25
        have I25 : 0 ≤ v25 ∧ v25 ≤ 12 := by
          rw [e25]
          exact hI.1.1
        clear a25 b25
        refine And.intro (fun h26 => ?_) (fun h26 => ?_)
        · skip
          have GP : (1 ≤ n ∧ n ≤ 60) ∧ (0 ≤ w ∧ w ≤ 1) ∧ M 60 88 ≠ 0 := by omega
          replace h26 : 1 ≤ v25 := by omega
          exact L36 _ _ _ _ (Nat.lt_succ_self _) hS (by first | omega | assumption | exact fun ls hl hq hW h8 => ⟨⟨by decide, by omega⟩, ⟨by decide, by omega⟩, rfl⟩) (by first | omega | assumption | exact fun ls hl hq hW h8 => ⟨⟨by decide, by omega⟩, ⟨by decide, by omega⟩, rfl⟩) (by first | omega | assumption | exact fun ls hl hq hW h8 => ⟨⟨by decide, by omega⟩, ⟨by decide, by omega⟩, rfl⟩) (by first | omega | assumption | exact fun ls hl hq hW h8 => ⟨⟨by decide, by omega⟩, ⟨by decide, by omega⟩, rfl⟩) (by first | omega | assumption | exact fun ls hl hq hW h8 => ⟨⟨by decide, by omega⟩, ⟨by decide, by omega⟩, rfl⟩)
        · skip
          skip
          refine And.intro rfl ?_
          refine ⟨fun ls hl hq hW => ?_, hS⟩
          have hm := hW.1
          show _ = sd_huv ls (M 60) n w
          unfold sd_huv
          rw [if_neg (by omega)]
theorem v4_X12_hurry {fr lo i : Nat} {own : String} (h1 : 8 + 1 ≤ fr) (h2 : 8 + (5 + 11) + 189 ≤ lo) (h3 : .methodLink own i yX12_hurry ∈ lw_tbl) : pz_cV fr lo own i k4_X12_hurry :=
  pz_cVk (maxL := 5) (fr' := 8) (lo' := 189) 2 12 h4_X12_hurry rfl ⟨by decide +kernel, by decide +kernel, by decide +kernel⟩ ⟨(pz_mt 1647 (by decide +kernel)), (pz_mt 1645 (by decide +kernel)), (pz_mt 1646 (by decide +kernel)), (pz_mt 13 (by decide +kernel))⟩ (Or.inl ⟨TX12, 28, rfl⟩) (fun a M _ h => by
    have h : (match (generalizing := false) a with | [.inr (.inr (12, th)), .inl n, .inl w] => pz_im M | _ => False) := h
    split at h
    · exact ⟨_, _, rfl⟩
    · exact h.elim) h1 h2 h3
