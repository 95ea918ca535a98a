def k4_X12_allBy : pz_C := (4, 2, fun a M => (match a with | [.inr (.inr (12, th)), .inl i, .inl j, .inl n] => pz_im M ∧ 0 ≤ i ∧ j < 12 | _ => False), fun a M r M' => (match a, r with | [.inr (.inr (12, th)), .inl i, .inl j, .inl n], some (.inr (.inl v)) => (∀ ls : List pz_lne, pq_wlw ls (M 60) → (∀ q ∈ ls, pv_ln q) → sd_wf (M 60) → j < M 60 88 → 0 ≤ n → v = sd_oo ls (M 60) n.toNat (j + 1 - i).toNat i.toNat 1000000) ∧ pz_rl pz_QV M M' | _, _ => False))
abbrev ct4_X12_allBy : List (Bool × Nat × pz_C) := [(true, 297, k3_X12_isReady), (true, 62, k3_X12_isOut), (true, 412, k4_X12_readyBy)]
set_option maxRecDepth 100000 in
set_option maxHeartbeats 4000000 in
theorem h4_X12_allBy : pz_H yX12_allBy cX12_allBy 7 (some .long) k4_X12_allBy 6 138 := by
  refine pz_mk (own := RX12) (tb := t_X12_allBy) (fl := pz_flf fl_RX12) (ci := pz_cif ci_RX12) (ct := pz_ctf ct4_X12_allBy) (rz := false) (by decide +kernel) rfl t_X12_allBy_ok (pz_flk fl_RX12_ok) (pz_cik ci_RX12_ok) ?_ ?_ (rfl) ?_ ?_
  · exact fun i k' h => pz_ctk (l := ct4_X12_allBy) (P := fun b i k => b = true → pz_cV 6 138 RX12 i k) (List.forall_mem_cons.mpr ⟨(fun _ => v3_X12_isReady (by decide) (by decide) (pz_mt 1465 (by decide +kernel))), List.forall_mem_cons.mpr ⟨(fun _ => v3_X12_isOut (by decide) (by decide) (pz_mt 1419 (by decide +kernel))), List.forall_mem_cons.mpr ⟨(fun _ => v4_X12_readyBy (by decide) (by decide) (pz_mt 1622 (by decide +kernel))), fun _ h => absurd h List.not_mem_nil⟩⟩⟩) true i k' h rfl
  · exact fun i k' h => pz_ctk (l := ct4_X12_allBy) (P := fun b i k => b = false → (pz_cS 6 138 RX12 i k ∨ (k = pz_kac ∧ 1 ≤ 6 ∧ 60 ≤ 138 ∧ Cond.methodLink RX12 i arraycopyName ∈ pz_tbl))) (List.forall_mem_cons.mpr ⟨((fun z => by cases z)), List.forall_mem_cons.mpr ⟨((fun z => by cases z)), List.forall_mem_cons.mpr ⟨((fun z => by cases z)), fun _ h => absurd h List.not_mem_nil⟩⟩⟩) false i k' h rfl
  · intro a M hlen hpre
    obtain ⟨th, i, j, n, rfl, hpre⟩ : ∃ th i j n, a = [.inr (.inr (12, th)), .inl i, .inl j, .inl n] ∧ (pz_im M ∧ 0 ≤ i ∧ j < 12) := by
      have hpre : (match (generalizing := false) a with | [.inr (.inr (12, th)), .inl i, .inl j, .inl n] => pz_im M ∧ 0 ≤ i ∧ j < 12 | _ => False) := hpre
      split at hpre
      · exact ⟨_, _, _, _, rfl, hpre⟩
      · exact hpre.elim
    exact Nat.le_of_ble_eq_true rfl
  · intro a M hlen hcan hM hpre Ok hgo
    obtain ⟨th, i, j, n, rfl, hpre⟩ : ∃ th i j n, a = [.inr (.inr (12, th)), .inl i, .inl j, .inl n] ∧ (pz_im M ∧ 0 ≤ i ∧ j < 12) := by
      have hpre : (match (generalizing := false) a with | [.inr (.inr (12, th)), .inl i, .inl j, .inl n] => pz_im M ∧ 0 ≤ i ∧ j < 12 | _ => False) := hpre
      split at hpre
      · exact ⟨_, _, _, _, rfl, hpre⟩
      · exact hpre.elim
    obtain ⟨k_th, hc_th⟩ := pz_tlm hcan
    have k_th : pz_kd th = 12 ∧ th < 231 := k_th
    have R_th := pz_kd12 k_th.1
    subst R_th
    clear k_th
    obtain ⟨k_i, hc_i⟩ := pz_tlm hc_th
    have l_i : -2147483648 ≤ i := k_i.1
    have u_i : i ≤ 2147483647 := k_i.2
    obtain ⟨k_j, hc_j⟩ := pz_tlm hc_i
    have l_j : -2147483648 ≤ j := k_j.1
    have u_j : j ≤ 2147483647 := k_j.2
    obtain ⟨k_n, hc_n⟩ := pz_tlm hc_j
    have l_n : -2147483648 ≤ n := k_n.1
    have u_n : n ≤ 2147483647 := k_n.2
    have hI : pz_im M := hpre.1
    have hI0 := hI
    have hS : pz_rl pz_QV M M := pz_rl.rf
    have L8 : ∀ (fu : Nat) (x4 : Int) (x6 : Int) (N8 : pz_M), (12 - x6).toNat < fu → (pz_rl pz_QV M N8) → (0 ≤ x6) → (∀ ls : List pz_lne, pq_wlw ls (M 60) → (∀ q ∈ ls, pv_ln q) → sd_wf (M 60) → j < M 60 88 → 0 ≤ n → (0 ≤ x4 ∧ x4 ≤ 1000000) ∧ sd_oo ls (M 60) n.toNat (j + 1 - x6).toNat x6.toNat x4 = sd_oo ls (M 60) n.toNat (j + 1 - i).toNat i.toNat 1000000) → Ok 8 [some (.inr (.inr (12, 1))), some (.inl i), some (.inl j), some (.inl n), some (.inr (.inl x4)), none, some (.inl x6)] [] N8 := by
      intro fu
      induction fu with
      | zero => exact fun _ _ _ hn => absurd hn (Nat.not_lt_zero _)
      | succ fu ih8 =>
        intro x4 x6 N8 hn8 hS g8_1 g8_2
        have hI : pz_im N8 := hS.1 hI0
        have W8 : N8 60 = M 60 := funext fun j => hS.2 60 j (by unfold pz_QV; omega)
        have L48 : ∀ (x4 : Int) (x6 : Int) (N48 : pz_M), (pz_rl pz_QV M N48) → (0 ≤ x6) → (x6 < 12) → ((12 - x6).toNat < fu + 1) → (∀ ls : List pz_lne, pq_wlw ls (M 60) → (∀ q ∈ ls, pv_ln q) → sd_wf (M 60) → j < M 60 88 → 0 ≤ n → (0 ≤ x4 ∧ x4 ≤ 1000000) ∧ sd_oo ls (M 60) n.toNat (j + 1 - (x6 + 1)).toNat (x6 + 1).toNat x4 = sd_oo ls (M 60) n.toNat (j + 1 - i).toNat i.toNat 1000000) → Ok 48 [some (.inr (.inr (12, 1))), some (.inl i), some (.inl j), some (.inl n), some (.inr (.inl x4)), none, some (.inl x6)] [] N48 := by
          intro x4 x6 N48 hS g48_1 g48_2 g48_3 g48_4
          have hI : pz_im N48 := hS.1 hI0
          refine hgo (fun p => Nat.beq p 8 || Nat.beq p 48) 30 48 _ _ _ ?_
          intro v48 e48 a48 b48
          rw [pz_wi (by omega) (by omega)] at e48
          have G8 : ∀ ls : List pz_lne, pq_wlw ls (M 60) → (∀ q ∈ ls, pv_ln q) → sd_wf (M 60) → j < M 60 88 → 0 ≤ n → (0 ≤ x4 ∧ x4 ≤ 1000000) ∧ sd_oo ls (M 60) n.toNat (j + 1 - v48).toNat v48.toNat x4 = sd_oo ls (M 60) n.toNat (j + 1 - i).toNat i.toNat 1000000 := by
            rw [e48]
            assumption
          exact ih8 _ _ _ (by omega) hS (by first | omega | assumption | exact fun ls hl hq hW hj hn => ⟨⟨by decide, by decide⟩, rfl⟩) (by first | omega | assumption | exact fun ls hl hq hW hj hn => ⟨⟨by decide, by decide⟩, rfl⟩)
        refine hgo (fun p => Nat.beq p 8 || Nat.beq p 48) 30 8 _ _ _ ?_
        refine And.intro (fun h11 => ?_) (fun h11 => ?_)
        · skip
          refine And.intro rfl ?_
          refine ⟨fun ls hl hq hW hj hn => ?_, hS⟩
          obtain ⟨g1, g2⟩ := (by assumption : ∀ ls : List pz_lne, pq_wlw ls (M 60) → (∀ q ∈ ls, pv_ln q) → sd_wf (M 60) → j < M 60 88 → 0 ≤ n → (0 ≤ x4 ∧ x4 ≤ 1000000) ∧ sd_oo ls (M 60) n.toNat (j + 1 - x6).toNat x6.toNat x4 = sd_oo ls (M 60) n.toNat (j + 1 - i).toNat i.toNat 1000000) ls hl hq hW hj hn
          rw [show (j + 1 - x6).toNat = 0 by omega] at g2
          exact g2
        · skip
          refine And.intro (And.intro hI (And.intro (by omega) (by omega))) ?_
          intro v17 M17 a17 b17 q17
          obtain ⟨q17, z17⟩ := q17
          subst z17
          clear a17 b17
          rw [W8] at q17
          refine And.intro (fun h20 => ?_) (fun h20 => ?_)
          · skip
            replace q17 := q17.resolve_left (fun z => absurd (z.1.symm.trans h20) (by decide))
            refine And.intro (And.intro hI (And.intro (by omega) (by omega))) ?_
            intro v38 M38 a38 b38 q38
            obtain ⟨q38, z38⟩ := q38
            have hS : pz_rl pz_QV M M38 := hS.tr z38
            have hI : pz_im M38 := hS.1 hI0
            rw [W8] at q38
            intro v41 e41 a41 b41
            refine And.intro (by omega) ?_
            intro v45 e45 a45 b45
            have G48 : ∀ ls : List pz_lne, pq_wlw ls (M 60) → (∀ q ∈ ls, pv_ln q) → sd_wf (M 60) → j < M 60 88 → 0 ≤ n → (0 ≤ v45 ∧ v45 ≤ 1000000) ∧ sd_oo ls (M 60) n.toNat (j + 1 - (x6 + 1)).toNat (x6 + 1).toNat v45 = sd_oo ls (M 60) n.toNat (j + 1 - i).toNat i.toNat 1000000 := fun ls hl hq hW hj hn => by
              obtain ⟨g1, g2⟩ := (by assumption : ∀ ls : List pz_lne, pq_wlw ls (M 60) → (∀ q ∈ ls, pv_ln q) → sd_wf (M 60) → j < M 60 88 → 0 ≤ n → (0 ≤ x4 ∧ x4 ≤ 1000000) ∧ sd_oo ls (M 60) n.toNat (j + 1 - x6).toNat x6.toNat x4 = sd_oo ls (M 60) n.toNat (j + 1 - i).toNat i.toNat 1000000) ls hl hq hW hj hn
              have r := q38 (by omega) hn ls hl hq
              rw [show (40 + x6).toNat = 40 + x6.toNat by omega] at q17
              have o := sd_ow_r (F := M 60) (i := x6.toNat) (by
                first
                  | omega
                  | (rw [show (52 + x6).toNat = 52 + x6.toNat by omega] at q26
                     omega)) g1 r e41 e45
              have g3 := sd_oo_s g2 (show (j + 1 - x6).toNat = (j + 1 - (x6 + 1)).toNat + 1 by omega) o
              rw [show x6.toNat + 1 = (x6 + 1).toNat by omega] at g3
              exact ⟨by rw [o]; exact sd_ow_b g1, g3⟩
            exact L48 _ _ _ hS (by first | omega | assumption) (by first | omega | assumption) (by first | omega | assumption) (by first | omega | assumption)
          · skip
            replace q17 := q17.resolve_right (fun z => h20 z.1)
            refine And.intro (And.intro hI (And.intro (by omega) (by omega))) ?_
            intro v26 M26 a26 b26 q26
            obtain ⟨q26, z26⟩ := q26
            subst z26
            clear a26 b26
            rw [W8] at q26
            refine And.intro (fun h29 => ?_) (fun h29 => ?_)
            · skip
              have G48 : ∀ ls : List pz_lne, pq_wlw ls (M 60) → (∀ q ∈ ls, pv_ln q) → sd_wf (M 60) → j < M 60 88 → 0 ≤ n → (0 ≤ x4 ∧ x4 ≤ 1000000) ∧ sd_oo ls (M 60) n.toNat (j + 1 - (x6 + 1)).toNat (x6 + 1).toNat x4 = sd_oo ls (M 60) n.toNat (j + 1 - i).toNat i.toNat 1000000 := fun ls hl hq hW hj hn => by
                obtain ⟨g1, g2⟩ := (by assumption : ∀ ls : List pz_lne, pq_wlw ls (M 60) → (∀ q ∈ ls, pv_ln q) → sd_wf (M 60) → j < M 60 88 → 0 ≤ n → (0 ≤ x4 ∧ x4 ≤ 1000000) ∧ sd_oo ls (M 60) n.toNat (j + 1 - x6).toNat x6.toNat x4 = sd_oo ls (M 60) n.toNat (j + 1 - i).toNat i.toNat 1000000) ls hl hq hW hj hn
                rw [show (40 + x6).toNat = 40 + x6.toNat by omega] at q17
                rw [show (52 + x6).toNat = 52 + x6.toNat by omega] at q26
                have o : x4 = sd_ow ls (M 60) n.toNat x6.toNat x4 := by
                  unfold sd_ow
                  rw [if_neg (by omega), if_pos (by omega)]
                have g3 := sd_oo_s g2 (show (j + 1 - x6).toNat = (j + 1 - (x6 + 1)).toNat + 1 by omega) o
                rw [show x6.toNat + 1 = (x6 + 1).toNat by omega] at g3
                exact ⟨g1, g3⟩
              replace q26 := q26.resolve_left (fun z => absurd (z.1.symm.trans h29) (by decide))
              exact L48 _ _ _ hS (by first | omega | assumption) (by first | omega | assumption) (by first | omega | assumption) (by first | omega | assumption)
            · skip
              skip
              replace q26 := q26.resolve_right (fun z => h29 z.1)
              refine And.intro (And.intro hI (And.intro (by omega) (by omega))) ?_
              intro v38 M38 a38 b38 q38
              obtain ⟨q38, z38⟩ := q38
              have hS : pz_rl pz_QV M M38 := hS.tr z38
              have hI : pz_im M38 := hS.1 hI0
              rw [W8] at q38
              intro v41 e41 a41 b41
              refine And.intro (by omega) ?_
              intro v45 e45 a45 b45
              have G48 : ∀ ls : List pz_lne, pq_wlw ls (M 60) → (∀ q ∈ ls, pv_ln q) → sd_wf (M 60) → j < M 60 88 → 0 ≤ n → (0 ≤ v45 ∧ v45 ≤ 1000000) ∧ sd_oo ls (M 60) n.toNat (j + 1 - (x6 + 1)).toNat (x6 + 1).toNat v45 = sd_oo ls (M 60) n.toNat (j + 1 - i).toNat i.toNat 1000000 := fun ls hl hq hW hj hn => by
                obtain ⟨g1, g2⟩ := (by assumption : ∀ ls : List pz_lne, pq_wlw ls (M 60) → (∀ q ∈ ls, pv_ln q) → sd_wf (M 60) → j < M 60 88 → 0 ≤ n → (0 ≤ x4 ∧ x4 ≤ 1000000) ∧ sd_oo ls (M 60) n.toNat (j + 1 - x6).toNat x6.toNat x4 = sd_oo ls (M 60) n.toNat (j + 1 - i).toNat i.toNat 1000000) ls hl hq hW hj hn
                have r := q38 (by omega) hn ls hl hq
                rw [show (40 + x6).toNat = 40 + x6.toNat by omega] at q17
                have o := sd_ow_r (F := M 60) (i := x6.toNat) (by
                  first
                    | omega
                    | (rw [show (52 + x6).toNat = 52 + x6.toNat by omega] at q26
                       omega)) g1 r e41 e45
                have g3 := sd_oo_s g2 (show (j + 1 - x6).toNat = (j + 1 - (x6 + 1)).toNat + 1 by omega) o
                rw [show x6.toNat + 1 = (x6 + 1).toNat by omega] at g3
                exact ⟨by rw [o]; exact sd_ow_b g1, g3⟩
              exact L48 _ _ _ hS (by first | omega | assumption) (by first | omega | assumption) (by first | omega | assumption) (by first | omega | assumption)
    refine hgo (fun p => Nat.beq p 8 || Nat.beq p 48) 30 0 _ [] M ?_
    exact L8 _ _ _ _ (Nat.lt_succ_self _) hS (by first | omega | assumption | exact fun ls hl hq hW hj hn => ⟨⟨by decide, by decide⟩, rfl⟩) (by first | omega | assumption | exact fun ls hl hq hW hj hn => ⟨⟨by decide, by decide⟩, rfl⟩)
theorem v4_X12_allBy {fr lo i : Nat} {own : String} (h1 : 6 + 1 ≤ fr) (h2 : 8 + (7 + 11) + 138 ≤ lo) (h3 : .methodLink own i yX12_allBy ∈ lw_tbl) : pz_cV fr lo own i k4_X12_allBy :=
  pz_cVk (maxL := 7) (fr' := 6) (lo' := 138) 3 12 h4_X12_allBy rfl ⟨by decide +kernel, by decide +kernel, by decide +kernel⟩ ⟨(pz_mt 1620 (by decide +kernel)), (pz_mt 1619 (by decide +kernel)), (pz_ms 74 (by decide +kernel)), (pz_mt 13 (by decide +kernel))⟩ (Or.inl ⟨TX12, 28, rfl⟩) (fun a M _ h => by
    have h : (match (generalizing := false) a with | [.inr (.inr (12, th)), .inl i, .inl j, .inl n] => pz_im M ∧ 0 ≤ i ∧ j < 12 | _ => False) := h
    split at h
    · exact ⟨_, _, rfl⟩
    · exact h.elim) h1 h2 h3
