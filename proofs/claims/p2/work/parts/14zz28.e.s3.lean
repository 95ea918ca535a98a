def k4_X12_odds : pz_C := (2, 1, fun a M => (match a with | [.inr (.inr (12, th)), .inl n] => pz_im M | _ => False), fun a M r M' => (match a, r with | [.inr (.inr (12, th)), .inl n], some (.inl v) => (sd_wm M v (fun ls F => sd_odv ls F n)) ∧ pz_rl pz_QV M M' | _, _ => False))
abbrev ct4_X12_odds : List (Bool × Nat × pz_C) := [(false, 54, k_X12_isIn), (true, 415, k4_X12_allBy)]
set_option maxRecDepth 100000 in
set_option maxHeartbeats 4000000 in
theorem h4_X12_odds : pz_H yX12_odds cX12_odds 2 (some .int) k4_X12_odds 7 164 := by
  refine pz_mk (own := RX12) (tb := t_X12_odds) (fl := pz_flf fl_RX12) (ci := pz_cif ci_RX12) (ct := pz_ctf ct4_X12_odds) (rz := false) (by decide +kernel) rfl t_X12_odds_ok (pz_flk fl_RX12_ok) (pz_cik ci_RX12_ok) ?_ ?_ (Or.inl ⟨rfl, rfl⟩) ?_ ?_
  · exact fun i k' h => pz_ctk (l := ct4_X12_odds) (P := fun b i k => b = true → pz_cV 7 164 RX12 i k) (List.forall_mem_cons.mpr ⟨((fun z => by cases z)), List.forall_mem_cons.mpr ⟨(fun _ => v4_X12_allBy (by decide) (by decide) (pz_mt 1617 (by decide +kernel))), fun _ h => absurd h List.not_mem_nil⟩⟩) true i k' h rfl
  · exact fun i k' h => pz_ctk (l := ct4_X12_odds) (P := fun b i k => b = false → (pz_cS 7 164 RX12 i k ∨ (k = pz_kac ∧ 1 ≤ 7 ∧ 60 ≤ 164 ∧ Cond.methodLink RX12 i arraycopyName ∈ pz_tbl))) (List.forall_mem_cons.mpr ⟨(fun _ => Or.inl (s_X12_isIn (by decide) (by decide) (Or.inl (pz_mt 1217 (by decide +kernel))))), List.forall_mem_cons.mpr ⟨((fun z => by cases z)), fun _ h => absurd h List.not_mem_nil⟩⟩) false i k' h rfl
  · intro a M hlen hpre
    obtain ⟨th, n, rfl, hpre⟩ : ∃ th n, a = [.inr (.inr (12, th)), .inl n] ∧ (pz_im M) := by
      have hpre : (match (generalizing := false) a with | [.inr (.inr (12, th)), .inl n] => pz_im M | _ => False) := hpre
      split at hpre
      · exact ⟨_, _, rfl, hpre⟩
      · exact hpre.elim
    exact Nat.le_of_ble_eq_true rfl
  · intro a M hlen hcan hM hpre Ok hgo
    obtain ⟨th, n, rfl, hpre⟩ : ∃ th n, a = [.inr (.inr (12, th)), .inl n] ∧ (pz_im M) := by
      have hpre : (match (generalizing := false) a with | [.inr (.inr (12, th)), .inl n] => pz_im M | _ => False) := hpre
      split at hpre
      · exact ⟨_, _, rfl, hpre⟩
      · exact hpre.elim
    obtain ⟨k_th, hc_th⟩ := pz_tlm hcan
    have k_th : pz_kd th = 12 ∧ th < 231 := k_th
    have R_th := pz_kd12 k_th.1
    subst R_th
    clear k_th
    obtain ⟨k_n, hc_n⟩ := pz_tlm hc_th
    have l_n : -2147483648 ≤ n := k_n.1
    have u_n : n ≤ 2147483647 := k_n.2
    have hI : pz_im M := hpre
    have hI0 := hI
    have hS : pz_rl pz_QV M M := pz_rl.rf
    have I88 := hI.1.1
    refine hgo (fun _ => false) 21 0 _ [] M ?_
    refine And.intro (True.intro) ?_
    intro v4 M4 a4 b4 q4
    obtain ⟨q4, z4⟩ := q4
    subst z4
    clear a4 b4
    refine And.intro (fun h7 => ?_) (fun h7 => ?_)
    · skip
      replace q4 := q4.resolve_left (fun z => absurd (z.1.symm.trans h7) (by decide))
      clear h7
      refine And.intro rfl ?_
      refine ⟨fun ls hl hq hW => ?_, hS⟩
      have hm := hW.1
      show _ = sd_odv ls (M 60) n
      unfold sd_odv
      first
        | (have q := q22 ls hl hq hW (by omega) (by omega)
           have b := sd_od9_b (ls := ls) (F := M 60) (d := n.toNat)
           rw [show (v20 + 1 - 0).toNat = sd_n (M 60) by unfold sd_n; omega] at q
           have q : v22 = sd_od9 ls (M 60) n.toNat := q
           rw [if_pos (by omega), e25, q, pz_wi (by omega) (by omega)])
        | rw [if_neg (by omega)]
    · skip
      replace q4 := q4.resolve_right (fun z => h7 z.1)
      clear h7
      refine pz_nrc (c := 60) rfl ?_
      refine And.intro (by omega) (And.intro (show _ < (1725 : Int) from by omega) ?_)
      intro v18 e18 a18 b18
      replace e18 : v18 = M 60 88 := e18
      have I18 : 0 ≤ v18 ∧ v18 ≤ 12 := by
        rw [e18]
        exact hI.1.1
      clear a18 b18
      intro v20 e20 a20 b20
      rw [pz_wi (by omega) (by omega)] at e20
      clear a20 b20
      refine And.intro (And.intro hI (And.intro (by omega) (by omega))) ?_
      intro v22 M22 a22 b22 q22
      obtain ⟨q22, z22⟩ := q22
      have hS : pz_rl pz_QV M M22 := hS.tr z22
      have hI : pz_im M22 := hS.1 hI0
      intro v25 e25 a25 b25
      refine And.intro rfl ?_
      refine ⟨fun ls hl hq hW => ?_, hS⟩
      have hm := hW.1
      show _ = sd_odv ls (M 60) n
      unfold sd_odv
      first
        | (have q := q22 ls hl hq hW (by omega) (by omega)
           have b := sd_od9_b (ls := ls) (F := M 60) (d := n.toNat)
           rw [show (v20 + 1 - 0).toNat = sd_n (M 60) by unfold sd_n; omega] at q
           have q : v22 = sd_od9 ls (M 60) n.toNat := q
           rw [if_pos (by omega), e25, q, pz_wi (by omega) (by omega)])
        | rw [if_neg (by omega)]
theorem v4_X12_odds {fr lo i : Nat} {own : String} (h1 : 7 + 1 ≤ fr) (h2 : 8 + (2 + 11) + 164 ≤ lo) (h3 : .methodLink own i yX12_odds ∈ lw_tbl) : pz_cV fr lo own i k4_X12_odds :=
  pz_cVk (maxL := 2) (fr' := 7) (lo' := 164) 1 12 h4_X12_odds rfl ⟨by decide +kernel, by decide +kernel, by decide +kernel⟩ ⟨(pz_mt 1616 (by decide +kernel)), (pz_mt 1614 (by decide +kernel)), (pz_mt 1615 (by decide +kernel)), (pz_mt 13 (by decide +kernel))⟩ (Or.inl ⟨TX12, 28, rfl⟩) (fun a M _ h => by
    have h : (match (generalizing := false) a with | [.inr (.inr (12, th)), .inl n] => pz_im M | _ => False) := h
    split at h
    · exact ⟨_, _, rfl⟩
    · exact h.elim) h1 h2 h3
