def k4_X12_readyBy : pz_C := (3, 2, fun a M => (match a with | [.inr (.inr (12, th)), .inl i, .inl n] => pz_im M ∧ 0 ≤ i ∧ i < 12 | _ => False), fun a M r M' => (match a, r with | [.inr (.inr (12, th)), .inl i, .inl n], some (.inr (.inl v)) => (i < M 60 88 → 0 ≤ n → ∀ ls : List pz_lne, pq_wlw ls (M 60) → (∀ q ∈ ls, pv_ln q) → v = sd_rb ls (M 60) n.toNat i.toNat) ∧ pz_rl pz_QV M M' | _, _ => False))
abbrev ct4_X12_readyBy : List (Bool × Nat × pz_C) := [(true, 62, k3_X12_isOut), (true, 297, k3_X12_isReady), (true, 370, k3_X12_readyOf), (false, 408, k_X12_sureBy)]
set_option maxRecDepth 100000 in
set_option maxHeartbeats 4000000 in
theorem h4_X12_readyBy : pz_H yX12_readyBy cX12_readyBy 3 (some .long) k4_X12_readyBy 5 116 := by
  refine pz_mk (own := RX12) (tb := t_X12_readyBy) (fl := pz_flf fl_RX12) (ci := pz_cif ci_RX12) (ct := pz_ctf ct4_X12_readyBy) (rz := false) (by decide +kernel) rfl t_X12_readyBy_ok (pz_flk fl_RX12_ok) (pz_cik ci_RX12_ok) ?_ ?_ (rfl) ?_ ?_
  · exact fun i k' h => pz_ctk (l := ct4_X12_readyBy) (P := fun b i k => b = true → pz_cV 5 116 RX12 i k) (List.forall_mem_cons.mpr ⟨(fun _ => v3_X12_isOut (by decide) (by decide) (pz_mt 1419 (by decide +kernel))), List.forall_mem_cons.mpr ⟨(fun _ => v3_X12_isReady (by decide) (by decide) (pz_mt 1465 (by decide +kernel))), List.forall_mem_cons.mpr ⟨(fun _ => v3_X12_readyOf (by decide) (by decide) (pz_mt 1539 (by decide +kernel))), List.forall_mem_cons.mpr ⟨((fun z => by cases z)), fun _ h => absurd h List.not_mem_nil⟩⟩⟩⟩) true i k' h rfl
  · exact fun i k' h => pz_ctk (l := ct4_X12_readyBy) (P := fun b i k => b = false → (pz_cS 5 116 RX12 i k ∨ (k = pz_kac ∧ 1 ≤ 5 ∧ 60 ≤ 116 ∧ Cond.methodLink RX12 i arraycopyName ∈ pz_tbl))) (List.forall_mem_cons.mpr ⟨((fun z => by cases z)), List.forall_mem_cons.mpr ⟨((fun z => by cases z)), List.forall_mem_cons.mpr ⟨((fun z => by cases z)), List.forall_mem_cons.mpr ⟨(fun _ => Or.inl (s_X12_sureBy (by decide) (by decide) (Or.inl (pz_mt 1626 (by decide +kernel))))), fun _ h => absurd h List.not_mem_nil⟩⟩⟩⟩) false i k' h rfl
  · intro a M hlen hpre
    obtain ⟨th, i, n, rfl, hpre⟩ : ∃ th i n, a = [.inr (.inr (12, th)), .inl i, .inl n] ∧ (pz_im M ∧ 0 ≤ i ∧ i < 12) := by
      have hpre : (match (generalizing := false) a with | [.inr (.inr (12, th)), .inl i, .inl n] => pz_im M ∧ 0 ≤ i ∧ i < 12 | _ => False) := hpre
      split at hpre
      · exact ⟨_, _, _, rfl, hpre⟩
      · exact hpre.elim
    exact Nat.le_of_ble_eq_true rfl
  · intro a M hlen hcan hM hpre Ok hgo
    obtain ⟨th, i, n, rfl, hpre⟩ : ∃ th i n, a = [.inr (.inr (12, th)), .inl i, .inl n] ∧ (pz_im M ∧ 0 ≤ i ∧ i < 12) := by
      have hpre : (match (generalizing := false) a with | [.inr (.inr (12, th)), .inl i, .inl n] => pz_im M ∧ 0 ≤ i ∧ i < 12 | _ => False) := hpre
      split at hpre
      · exact ⟨_, _, _, rfl, hpre⟩
      · exact hpre.elim
    obtain ⟨k_th, hc_th⟩ := pz_tlm hcan
    have k_th : pz_kd th = 12 ∧ th < 231 := k_th
    have R_th := pz_kd12 k_th.1
    subst R_th
    clear k_th
    obtain ⟨k_i, hc_i⟩ := pz_tlm hc_th
    have l_i : -2147483648 ≤ i := k_i.1
    have u_i : i ≤ 2147483647 := k_i.2
    obtain ⟨k_n, hc_n⟩ := pz_tlm hc_i
    have l_n : -2147483648 ≤ n := k_n.1
    have u_n : n ≤ 2147483647 := k_n.2
    have hI : pz_im M := hpre.1
    have hI0 := hI
    have hS : pz_rl pz_QV M M := pz_rl.rf
    refine hgo (fun _ => false) 20 0 _ [] M ?_
    refine And.intro (And.intro hI (And.intro (by omega) (by omega))) ?_
    intro v2 M2 a2 b2 q2
    obtain ⟨q2, z2⟩ := q2
    subst z2
    clear a2 b2
    refine And.intro (fun h5 => ?_) (fun h5 => ?_)
    · skip
      replace q2 := q2.resolve_left (fun z => absurd (z.1.symm.trans h5) (by decide))
      refine And.intro (And.intro hI (And.intro (by omega) (by omega))) ?_
      intro v14 M14 a14 b14 q14
      obtain ⟨q14, z14⟩ := q14
      subst z14
      clear a14 b14
      refine And.intro (fun h17 => ?_) (fun h17 => ?_)
      · skip
        replace q14 := q14.resolve_left (fun z => absurd (z.1.symm.trans h17) (by decide))
        refine And.intro (And.intro hI (And.intro (by omega) (by omega))) ?_
        intro v28 M28 a28 b28 q28
        obtain ⟨q28, z28⟩ := q28
        have hS : pz_rl pz_QV M M28 := hS.tr (pz_rl.wk (by intro b j q; unfold pz_QS at q; unfold pz_QV; omega) z28)
        have hI : pz_im M28 := hS.1 hI0
        clear a28 b28
        refine And.intro (True.intro) ?_
        intro v32 M32 a32 b32 q32
        obtain ⟨q32, z32⟩ := q32
        subst z32
        refine And.intro rfl ?_
        refine ⟨fun hi hn ls hl hq => ?_, hS⟩
        rw [show (52 + i).toNat = 52 + i.toNat by omega] at q2
        unfold sd_rb
        first
          | (rw [if_pos (by omega)]; done)
          | (rw [show (40 + i).toNat = 40 + i.toNat by omega] at q14
             first
               | (rw [if_neg (by omega), if_pos (by omega)]; done)
               | (have r := q28.1 hi ls hl hq
                  have s := q32 (by omega) (by omega) hn
                  rw [if_neg (by omega), if_neg (by omega), s, r]
                  rfl))
          | (rw [if_pos (by omega)]
             rfl)
      · skip
        replace q14 := q14.resolve_right (fun z => h17 z.1)
        refine And.intro rfl ?_
        refine ⟨fun hi hn ls hl hq => ?_, hS⟩
        rw [show (52 + i).toNat = 52 + i.toNat by omega] at q2
        unfold sd_rb
        first
          | (rw [if_pos (by omega)]; done)
          | (rw [show (40 + i).toNat = 40 + i.toNat by omega] at q14
             first
               | (rw [if_neg (by omega), if_pos (by omega)]; done)
               | (have r := q28.1 hi ls hl hq
                  have s := q32 (by omega) (by omega) hn
                  rw [if_neg (by omega), if_neg (by omega), s, r]
                  rfl))
          | (rw [if_pos (by omega)]
             rfl)
    · skip
      replace q2 := q2.resolve_right (fun z => h5 z.1)
      refine And.intro rfl ?_
      refine ⟨fun hi hn ls hl hq => ?_, hS⟩
      rw [show (52 + i).toNat = 52 + i.toNat by omega] at q2
      unfold sd_rb
      first
        | (rw [if_pos (by omega)]; done)
        | (rw [show (40 + i).toNat = 40 + i.toNat by omega] at q14
           first
             | (rw [if_neg (by omega), if_pos (by omega)]; done)
             | (have r := q28.1 hi ls hl hq
                have s := q32 (by omega) (by omega) hn
                rw [if_neg (by omega), if_neg (by omega), s, r]
                rfl))
        | (rw [if_pos (by omega)]
           rfl)
theorem v4_X12_readyBy {fr lo i : Nat} {own : String} (h1 : 5 + 1 ≤ fr) (h2 : 8 + (3 + 11) + 116 ≤ lo) (h3 : .methodLink own i yX12_readyBy ∈ lw_tbl) : pz_cV fr lo own i k4_X12_readyBy :=
  pz_cVk (maxL := 3) (fr' := 5) (lo' := 116) 2 12 h4_X12_readyBy rfl ⟨by decide +kernel, by decide +kernel, by decide +kernel⟩ ⟨(pz_mt 1625 (by decide +kernel)), (pz_mt 1624 (by decide +kernel)), (pz_ms 75 (by decide +kernel)), (pz_mt 13 (by decide +kernel))⟩ (Or.inl ⟨TX12, 28, rfl⟩) (fun a M _ h => by
    have h : (match (generalizing := false) a with | [.inr (.inr (12, th)), .inl i, .inl n] => pz_im M ∧ 0 ≤ i ∧ i < 12 | _ => False) := h
    split at h
    · exact ⟨_, _, rfl⟩
    · exact h.elim) h1 h2 h3
