noncomputable def k3_X12_asks : pz_C := (3, 1, fun a M => (match a with | [.inr (.inr (12, th)), .inl i, .inl n] => pz_im M ∧ 0 ≤ i ∧ i < 11 | _ => False), fun a M r M' => (match a, r with | [.inr (.inr (12, th)), .inl i, .inl n], some (.inl v) => (∀ ls : List pz_lne, pq_wlw ls (M 60) → (∀ q ∈ ls, pv_ln q) → sd_wf (M 60) → i + 1 < M 60 88 → 1 ≤ n ∧ n ≤ 99 → v = sd_gi ls (M 60) (i.toNat + 1) n ∧ M' 60 = sd_ask (sd_Tr M) ls (M 60) i.toNat n) ∧ pz_rl pz_QD M M' | _, _ => False))
noncomputable abbrev ct3_X12_asks : List (Bool × Nat × pz_C) := [(true, 320, k3_X12_giveOf), (false, 47, k_X12_lesser), (false, 51, k_X12_greater), (true, 323, k3_X12_notes)]
set_option maxRecDepth 100000 in
set_option maxHeartbeats 4000000 in
theorem h3_X12_asks : pz_H yX12_asks cX12_asks 5 (some .int) k3_X12_asks 5 116 := by
  refine pz_mk (own := RX12) (tb := t_X12_asks) (fl := pz_flf fl_RX12) (ci := pz_cif ci_RX12) (ct := pz_ctf ct3_X12_asks) (rz := false) (by decide +kernel) rfl t_X12_asks_ok (pz_flk fl_RX12_ok) (pz_cik ci_RX12_ok) ?_ ?_ (Or.inl ⟨rfl, rfl⟩) ?_ ?_
  · exact fun i k' h => pz_ctk (l := ct3_X12_asks) (P := fun b i k => b = true → pz_cV 5 116 RX12 i k) (List.forall_mem_cons.mpr ⟨(fun _ => v3_X12_giveOf (by decide) (by decide) (pz_mt 1435 (by decide +kernel))), List.forall_mem_cons.mpr ⟨((fun z => by cases z)), List.forall_mem_cons.mpr ⟨((fun z => by cases z)), List.forall_mem_cons.mpr ⟨(fun _ => v3_X12_notes (by decide) (by decide) (pz_mt 1483 (by decide +kernel))), fun _ h => absurd h List.not_mem_nil⟩⟩⟩⟩) true i k' h rfl
  · exact fun i k' h => pz_ctk (l := ct3_X12_asks) (P := fun b i k => b = false → (pz_cS 5 116 RX12 i k ∨ (k = pz_kac ∧ 1 ≤ 5 ∧ 60 ≤ 116 ∧ Cond.methodLink RX12 i arraycopyName ∈ pz_tbl))) (List.forall_mem_cons.mpr ⟨((fun z => by cases z)), List.forall_mem_cons.mpr ⟨(fun _ => Or.inl (s_X12_lesser (by decide) (by decide) (Or.inl (pz_mt 1462 (by decide +kernel))))), List.forall_mem_cons.mpr ⟨(fun _ => Or.inl (s_X12_greater (by decide) (by decide) (Or.inl (pz_mt 1447 (by decide +kernel))))), List.forall_mem_cons.mpr ⟨((fun z => by cases z)), fun _ h => absurd h List.not_mem_nil⟩⟩⟩⟩) false i k' h rfl
  · intro a M hlen hpre
    obtain ⟨th, i, n, rfl, hpre⟩ : ∃ th i n, a = [.inr (.inr (12, th)), .inl i, .inl n] ∧ (pz_im M ∧ 0 ≤ i ∧ i < 11) := by
      have hpre : (match (generalizing := false) a with | [.inr (.inr (12, th)), .inl i, .inl n] => pz_im M ∧ 0 ≤ i ∧ i < 11 | _ => False) := hpre
      split at hpre
      · exact ⟨_, _, _, rfl, hpre⟩
      · exact hpre.elim
    exact Nat.le_of_ble_eq_true rfl
  · intro a M hlen hcan hM hpre Ok hgo
    obtain ⟨th, i, n, rfl, hpre⟩ : ∃ th i n, a = [.inr (.inr (12, th)), .inl i, .inl n] ∧ (pz_im M ∧ 0 ≤ i ∧ i < 11) := by
      have hpre : (match (generalizing := false) a with | [.inr (.inr (12, th)), .inl i, .inl n] => pz_im M ∧ 0 ≤ i ∧ i < 11 | _ => False) := hpre
      split at hpre
      · exact ⟨_, _, _, rfl, hpre⟩
      · exact hpre.elim
    obtain ⟨k_th, hc_th⟩ := pz_tlm hcan
    have k_th : pz_kd th = 12 ∧ th < 231 := k_th
    have R_th := pz_kd12 k_th.1
    subst R_th
    clear k_th
    obtain ⟨k_i, hc_i⟩ := pz_tlm hc_th
    have l_i : -2147483648 ≤ i := k_i.1
    have u_i : i ≤ 2147483647 := k_i.2
    obtain ⟨k_n, hc_n⟩ := pz_tlm hc_i
    have l_n : -2147483648 ≤ n := k_n.1
    have u_n : n ≤ 2147483647 := k_n.2
    have hI : pz_im M := hpre.1
    have hI0 := hI
    have hS : pz_rl pz_QD M M := pz_rl.rf
    have I88 := hI.1.1
    refine hgo (fun _ => false) 54 0 _ [] M ?_
    intro v2 e2 a2 b2
    rw [pz_wi (by omega) (by omega)] at e2
    clear a2 b2
    refine And.intro (And.intro hI (And.intro (by omega) (by omega))) ?_
    intro v6 M6 a6 b6 q6
    obtain ⟨q6, z6⟩ := q6
    have hS : pz_rl pz_QD M M6 := hS.tr (pz_rl.wk (by intro b j q; unfold pz_QS at q; unfold pz_QD; omega) z6)
    have hI : pz_im M6 := hS.1 hI0
    clear a6 b6
    have W6 : M6 60 = M 60 := funext fun j => z6.2 60 j (by unfold pz_QS; omega)
    have U6 : M6 1 26 = M 1 26 := z6.2 1 26 (by unfold pz_QS; omega)
    refine And.intro (True.intro) ?_
    intro v10 M10 a10 b10 q10
    obtain ⟨q10, z10⟩ := q10
    subst z10
    refine pz_nrc (c := 60) rfl ?_
    intro v19 e19 a19 b19
    rw [pz_wi (by omega) (by omega)] at e19
    clear a19 b19
    refine And.intro (by omega) (And.intro (show _ < (1725 : Int) from by omega) ?_)
    intro v20 e20 a20 b20
    rw [show v19.toNat = 5 + i.toNat by omega, W6] at e20
    intro v22 e22 a22 b22
    refine And.intro (True.intro) ?_
    intro v23 M23 a23 b23 q23
    obtain ⟨q23, z23⟩ := q23
    subst z23
    refine pz_nrc (c := 60) rfl ?_
    intro v34 e34 a34 b34
    rw [pz_wi (by omega) (by omega)] at e34
    clear a34 b34
    refine And.intro (by omega) (And.intro (show _ < (1725 : Int) from by omega) ?_)
    intro v36 e36 a36 b36
    rw [show v34.toNat = 5 + i.toNat by omega, W6] at e36
    intro v39 e39 a39 b39
    refine And.intro (by omega) (And.intro (show _ < (1725 : Int) from by omega) ?_)
    intro M40 e40
    have hS : pz_rl pz_QD M M40 := by
      rw [e40]
      exact pz_rl_u hS (by unfold pz_QD; omega) (pz_iom_w1 (by omega) (by omega))
    have hI : pz_im M40 := hS.1 hI0
    refine pz_nrc (c := 60) rfl ?_
    intro v48 e48 a48 b48
    rw [pz_wi (by omega) (by omega)] at e48
    clear a48 b48
    refine pz_nrc (c := 60) rfl ?_
    intro v59 e59 a59 b59
    rw [pz_wi (by omega) (by omega)] at e59
    clear a59 b59
    refine And.intro (by omega) (And.intro (show _ < (1725 : Int) from by omega) ?_)
    intro v60 e60 a60 b60
    intro v63 e63 a63 b63
    refine And.intro (True.intro) ?_
    intro v64 M64 a64 b64 q64
    obtain ⟨q64, z64⟩ := q64
    subst z64
    refine And.intro (by omega) (And.intro (show _ < (1725 : Int) from by omega) ?_)
    intro M67 e67
    have hS : pz_rl pz_QD M M67 := by
      rw [e67]
      exact pz_rl_u hS (by unfold pz_QD; omega) (pz_iom_w1 (by omega) (by omega))
    have hI : pz_im M67 := hS.1 hI0
    refine And.intro (hI) ?_
    intro M73 q73
    obtain ⟨q73, z73⟩ := q73
    have hS : pz_rl pz_QD M M73 := hS.tr z73
    have hI : pz_im M73 := hS.1 hI0
    refine And.intro rfl ?_
    refine ⟨fun ls hl hq hW h1 hn => ?_, hS⟩
    have G := q6.1 (by omega) ls hl hq
    have Gb := sd_gv_b (ls := ls) (F := M 60) (i := i.toNat + 1)
    obtain ⟨o0, -, o2, -⟩ := hW.2.2 (i.toNat + 1) (by omega)
    rw [show 4 + (i.toNat + 1) = 5 + i.toNat by omega] at o0
    rw [show 28 + (i.toNat + 1) = 29 + i.toNat by omega] at o2
    rw [show v2.toNat = i.toNat + 1 by omega] at G
    rw [pz_wi (by omega) (by omega)] at e22
    have V23 : v23 = sd_gi ls (M 60) (i.toNat + 1) n := by
      unfold sd_gi
      rw [show 4 + (i.toNat + 1) = 5 + i.toNat by omega, ← G]
      omega
    have gb : 0 ≤ v23 ∧ v23 ≤ M 60 (5 + i.toNat) - 1 := by omega
    rw [pz_wi (by omega) (by omega)] at e39
    have V60 : v60 = M 60 (29 + i.toNat) := by
      rw [e60, e40, pz_unk (by omega), W6]
      congr 1
      omega
    rw [pz_wi (by omega) (by omega)] at e63
    have T : sd_Tr M67 = sd_Tr M := by
      unfold sd_Tr
      rw [e67, pz_una (by decide), e40, pz_una (by decide), U6]
    refine ⟨V23, ?_⟩
    rw [q73, T, e67, sd_um, e40, sd_um, W6, show v34.toNat = 5 + i.toNat by omega, show v48.toNat = 29 + i.toNat by omega, show v64 = max (-999) (M 60 (29 + i.toNat) - v23) by omega, show v39 = M 60 (5 + i.toNat) - v23 by omega, V23, show v2 = ((i.toNat : Nat) : Int) + 1 by omega]
    rfl
theorem v3_X12_asks {fr lo i : Nat} {own : String} (h1 : 5 + 1 ≤ fr) (h2 : 8 + (5 + 11) + 116 ≤ lo) (h3 : .methodLink own i yX12_asks ∈ lw_tbl) : pz_cV fr lo own i k3_X12_asks :=
  pz_cVk (maxL := 5) (fr' := 5) (lo' := 116) 2 12 h3_X12_asks rfl ⟨by decide +kernel, by decide +kernel, by decide +kernel⟩ ⟨(pz_mt 1434 (by decide +kernel)), (pz_mt 1433 (by decide +kernel)), (pz_ms 42 (by decide +kernel)), (pz_mt 13 (by decide +kernel))⟩ (Or.inl ⟨TX12, 28, rfl⟩) (fun a M _ h => by
    have h : (match (generalizing := false) a with | [.inr (.inr (12, th)), .inl i, .inl n] => pz_im M ∧ 0 ≤ i ∧ i < 11 | _ => False) := h
    split at h
    · exact ⟨_, _, rfl⟩
    · exact h.elim) h1 h2 h3
noncomputable def k3_X12_pays : pz_C := (4, 0, fun a M => (match a with | [.inr (.inr (12, th)), .inl i, .inl j, .inl n] => pz_im M ∧ 0 ≤ i ∧ i < 12 ∧ 0 ≤ j ∧ j < 12 | _ => False), fun a M r M' => (match a, r with | [.inr (.inr (12, th)), .inl i, .inl j, .inl n], none => (sd_wf (M 60) → sd_c0 (M 60) i.toNat j.toNat n → 1 ≤ n ∧ n ≤ 99 → M' 60 = sd_pys (sd_Tr M) (M 60) i.toNat j.toNat n) ∧ pz_rl pz_QD M M' | _, _ => False))
noncomputable abbrev ct3_X12_pays : List (Bool × Nat × pz_C) := [(true, 323, k3_X12_notes)]
set_option maxRecDepth 100000 in
set_option maxHeartbeats 4000000 in
theorem h3_X12_pays : pz_H yX12_pays cX12_pays 4 none k3_X12_pays 1 24 := by
  refine pz_mk (own := RX12) (tb := t_X12_pays) (fl := pz_flf fl_RX12) (ci := pz_cif ci_RX12) (ct := pz_ctf ct3_X12_pays) (rz := false) (by decide +kernel) rfl t_X12_pays_ok (pz_flk fl_RX12_ok) (pz_cik ci_RX12_ok) ?_ ?_ (rfl) ?_ ?_
  · exact fun i k' h => pz_ctk (l := ct3_X12_pays) (P := fun b i k => b = true → pz_cV 1 24 RX12 i k) (List.forall_mem_cons.mpr ⟨(fun _ => v3_X12_notes (by decide) (by decide) (pz_mt 1483 (by decide +kernel))), fun _ h => absurd h List.not_mem_nil⟩) true i k' h rfl
  · exact fun i k' h => pz_ctk (l := ct3_X12_pays) (P := fun b i k => b = false → (pz_cS 1 24 RX12 i k ∨ (k = pz_kac ∧ 1 ≤ 1 ∧ 60 ≤ 24 ∧ Cond.methodLink RX12 i arraycopyName ∈ pz_tbl))) (List.forall_mem_cons.mpr ⟨((fun z => by cases z)), fun _ h => absurd h List.not_mem_nil⟩) false i k' h rfl
  · intro a M hlen hpre
    obtain ⟨th, i, j, n, rfl, hpre⟩ : ∃ th i j n, a = [.inr (.inr (12, th)), .inl i, .inl j, .inl n] ∧ (pz_im M ∧ 0 ≤ i ∧ i < 12 ∧ 0 ≤ j ∧ j < 12) := by
      have hpre : (match (generalizing := false) a with | [.inr (.inr (12, th)), .inl i, .inl j, .inl n] => pz_im M ∧ 0 ≤ i ∧ i < 12 ∧ 0 ≤ j ∧ j < 12 | _ => False) := hpre
      split at hpre
      · exact ⟨_, _, _, _, rfl, hpre⟩
      · exact hpre.elim
    exact Nat.le_of_ble_eq_true rfl
  · intro a M hlen hcan hM hpre Ok hgo
    obtain ⟨th, i, j, n, rfl, hpre⟩ : ∃ th i j n, a = [.inr (.inr (12, th)), .inl i, .inl j, .inl n] ∧ (pz_im M ∧ 0 ≤ i ∧ i < 12 ∧ 0 ≤ j ∧ j < 12) := by
      have hpre : (match (generalizing := false) a with | [.inr (.inr (12, th)), .inl i, .inl j, .inl n] => pz_im M ∧ 0 ≤ i ∧ i < 12 ∧ 0 ≤ j ∧ j < 12 | _ => False) := hpre
      split at hpre
      · exact ⟨_, _, _, _, rfl, hpre⟩
      · exact hpre.elim
    obtain ⟨k_th, hc_th⟩ := pz_tlm hcan
    have k_th : pz_kd th = 12 ∧ th < 231 := k_th
    have R_th := pz_kd12 k_th.1
    subst R_th
    clear k_th
    obtain ⟨k_i, hc_i⟩ := pz_tlm hc_th
    have l_i : -2147483648 ≤ i := k_i.1
    have u_i : i ≤ 2147483647 := k_i.2
    obtain ⟨k_j, hc_j⟩ := pz_tlm hc_i
    have l_j : -2147483648 ≤ j := k_j.1
    have u_j : j ≤ 2147483647 := k_j.2
    obtain ⟨k_n, hc_n⟩ := pz_tlm hc_j
    have l_n : -2147483648 ≤ n := k_n.1
    have u_n : n ≤ 2147483647 := k_n.2
    have hI : pz_im M := hpre.1
    have hI0 := hI
    have hS : pz_rl pz_QD M M := pz_rl.rf
    refine hgo (fun _ => false) 28 0 _ [] M ?_
    refine pz_nrc (c := 60) rfl ?_
    intro v7 e7 a7 b7
    rw [pz_wi (by omega) (by omega)] at e7
    clear a7 b7
    refine And.intro (by omega) (And.intro (show _ < (1725 : Int) from by omega) ?_)
    intro v9 e9 a9 b9
    rw [show v7.toNat = 16 + i.toNat by omega] at e9
    intro v11 e11 a11 b11
    refine And.intro (by omega) (And.intro (show _ < (1725 : Int) from by omega) ?_)
    intro M12 e12
    have hS : pz_rl pz_QD M M12 := by
      rw [e12]
      exact pz_rl_u hS (by unfold pz_QD; omega) (pz_iom_w1 (by omega) (by omega))
    have hI : pz_im M12 := hS.1 hI0
    refine pz_nrc (c := 60) rfl ?_
    intro v20 e20 a20 b20
    rw [pz_wi (by omega) (by omega)] at e20
    clear a20 b20
    refine And.intro (by omega) (And.intro (show _ < (1725 : Int) from by omega) ?_)
    intro v22 e22 a22 b22
    intro v24 e24 a24 b24
    refine And.intro (by omega) (And.intro (show _ < (1725 : Int) from by omega) ?_)
    intro M25 e25
    have hS : pz_rl pz_QD M M25 := by
      rw [e25]
      exact pz_rl_u hS (by unfold pz_QD; omega) (pz_iom_w1 (by omega) (by omega))
    have hI : pz_im M25 := hS.1 hI0
    refine And.intro (hI) ?_
    intro M30 q30
    obtain ⟨q30, z30⟩ := q30
    have hS : pz_rl pz_QD M M30 := hS.tr z30
    have hI : pz_im M30 := hS.1 hI0
    refine And.intro rfl ?_
    refine ⟨fun hW hc hn => ?_, hS⟩
    have pc := sd_pys_c hW hc hn
    have hij := hc.2.2.1
    rw [e9, pz_wi (by omega) (by omega)] at e11
    have V22 : v22 = M 60 (16 + j.toNat) := by
      rw [e22, e12, pz_unk (by omega)]
      congr 1
      omega
    rw [V22, pz_wi (by omega) (by omega)] at e24
    have T : sd_Tr M25 = sd_Tr M := by
      unfold sd_Tr
      rw [e25, pz_una (by decide), e12, pz_una (by decide)]
    rw [q30, T, e25, sd_um, e12, sd_um, e11, e24, show v7.toNat = 16 + i.toNat by omega, show v20.toNat = 16 + j.toNat by omega]
    unfold sd_pys
    rw [show ((i.toNat : Nat) : Int) = i by omega]
theorem v3_X12_pays {fr lo i : Nat} {own : String} (h1 : 1 + 1 ≤ fr) (h2 : 8 + (4 + 11) + 24 ≤ lo) (h3 : .methodLink own i yX12_pays ∈ lw_tbl) : pz_cV fr lo own i k3_X12_pays :=
  pz_cVk (maxL := 4) (fr' := 1) (lo' := 24) 3 12 h3_X12_pays rfl ⟨by decide +kernel, by decide +kernel, by decide +kernel⟩ ⟨(pz_mt 1510 (by decide +kernel)), (pz_mt 1509 (by decide +kernel)), (pz_ms 56 (by decide +kernel)), (pz_mt 13 (by decide +kernel))⟩ (Or.inl ⟨TX12, 28, rfl⟩) (fun a M _ h => by
    have h : (match (generalizing := false) a with | [.inr (.inr (12, th)), .inl i, .inl j, .inl n] => pz_im M ∧ 0 ≤ i ∧ i < 12 ∧ 0 ≤ j ∧ j < 12 | _ => False) := h
    split at h
    · exact ⟨_, _, rfl⟩
    · exact h.elim) h1 h2 h3
noncomputable def k3_X12_canMove : pz_C := (3, 1, fun a M => (match a with | [.inr (.inr (12, th)), .inl i, .inl j] => pz_im M ∧ 0 ≤ i ∧ j < 12 | _ => False), fun a M r M' => (match a, r with | [.inr (.inr (12, th)), .inl i, .inl j], some (.inl v) => ((v = 0 ∨ v = 1) ∧ (i ≤ j → j < M 60 88 → v = if sd_cm (M 60) j.toNat (j + 1 - i).toNat i.toNat = true then 1 else 0)) ∧ M = M' | _, _ => False))
noncomputable abbrev ct3_X12_canMove : List (Bool × Nat × pz_C) := [(true, 297, k3_X12_isReady), (true, 62, k3_X12_isOut), (true, 361, k3_X12_canPay)]
set_option maxRecDepth 100000 in
set_option maxHeartbeats 4000000 in
theorem h3_X12_canMove : pz_H yX12_canMove cX12_canMove 4 (some .boolean) k3_X12_canMove 1 21 := by
  refine pz_mk (own := RX12) (tb := t_X12_canMove) (fl := pz_flf fl_RX12) (ci := pz_cif ci_RX12) (ct := pz_ctf ct3_X12_canMove) (rz := true) (by decide +kernel) rfl t_X12_canMove_ok (pz_flk fl_RX12_ok) (pz_cik ci_RX12_ok) ?_ ?_ (Or.inr ⟨rfl, rfl⟩) ?_ ?_
  · exact fun i k' h => pz_ctk (l := ct3_X12_canMove) (P := fun b i k => b = true → pz_cV 1 21 RX12 i k) (List.forall_mem_cons.mpr ⟨(fun _ => v3_X12_isReady (by decide) (by decide) (pz_mt 1465 (by decide +kernel))), List.forall_mem_cons.mpr ⟨(fun _ => v3_X12_isOut (by decide) (by decide) (pz_mt 1419 (by decide +kernel))), List.forall_mem_cons.mpr ⟨(fun _ => v3_X12_canPay (by decide) (by decide) (pz_mt 1573 (by decide +kernel))), fun _ h => absurd h List.not_mem_nil⟩⟩⟩) true i k' h rfl
  · exact fun i k' h => pz_ctk (l := ct3_X12_canMove) (P := fun b i k => b = false → (pz_cS 1 21 RX12 i k ∨ (k = pz_kac ∧ 1 ≤ 1 ∧ 60 ≤ 21 ∧ Cond.methodLink RX12 i arraycopyName ∈ pz_tbl))) (List.forall_mem_cons.mpr ⟨((fun z => by cases z)), List.forall_mem_cons.mpr ⟨((fun z => by cases z)), List.forall_mem_cons.mpr ⟨((fun z => by cases z)), fun _ h => absurd h List.not_mem_nil⟩⟩⟩) false i k' h rfl
  · intro a M hlen hpre
    obtain ⟨th, i, j, rfl, hpre⟩ : ∃ th i j, a = [.inr (.inr (12, th)), .inl i, .inl j] ∧ (pz_im M ∧ 0 ≤ i ∧ j < 12) := by
      have hpre : (match (generalizing := false) a with | [.inr (.inr (12, th)), .inl i, .inl j] => pz_im M ∧ 0 ≤ i ∧ j < 12 | _ => False) := hpre
      split at hpre
      · exact ⟨_, _, _, rfl, hpre⟩
      · exact hpre.elim
    exact Nat.le_of_ble_eq_true rfl
  · intro a M hlen hcan hM hpre Ok hgo
    obtain ⟨th, i, j, rfl, hpre⟩ : ∃ th i j, a = [.inr (.inr (12, th)), .inl i, .inl j] ∧ (pz_im M ∧ 0 ≤ i ∧ j < 12) := by
      have hpre : (match (generalizing := false) a with | [.inr (.inr (12, th)), .inl i, .inl j] => pz_im M ∧ 0 ≤ i ∧ j < 12 | _ => False) := hpre
      split at hpre
      · exact ⟨_, _, _, rfl, hpre⟩
      · exact hpre.elim
    obtain ⟨k_th, hc_th⟩ := pz_tlm hcan
    have k_th : pz_kd th = 12 ∧ th < 231 := k_th
    have R_th := pz_kd12 k_th.1
    subst R_th
    clear k_th
    obtain ⟨k_i, hc_i⟩ := pz_tlm hc_th
    have l_i : -2147483648 ≤ i := k_i.1
    have u_i : i ≤ 2147483647 := k_i.2
    obtain ⟨k_j, hc_j⟩ := pz_tlm hc_i
    have l_j : -2147483648 ≤ j := k_j.1
    have u_j : j ≤ 2147483647 := k_j.2
    have hI : pz_im M := hpre.1
    have I88 := hI.1.1
    have hi0 := hpre.2.1
    have hj0 := hpre.2.2
    have L2 : ∀ (fu : Nat) (x3 : Int), (12 - x3).toNat < fu → (0 ≤ x3) → (i ≤ j → j < M 60 88 → (i ≤ x3 ∧ x3 ≤ j + 1 ∧ sd_cm (M 60) j.toNat (j + 1 - i).toNat i.toNat = sd_cm (M 60) j.toNat (j + 1 - x3).toNat (x3).toNat)) → Ok 2 [some (.inr (.inr (12, 1))), some (.inl i), some (.inl j), some (.inl x3)] [] M := by
      intro fu
      induction fu with
      | zero => exact fun _ hn => absurd hn (Nat.not_lt_zero _)
      | succ fu ih2 =>
        intro x3 hn2 g2_0 g2_1
        have L38 : ∀ (x3 : Int), (0 ≤ x3) → (x3 < 12) → ((12 - x3).toNat < fu + 1) → (i ≤ j → j < M 60 88 → (i ≤ (x3 + 1) ∧ (x3 + 1) ≤ j + 1 ∧ sd_cm (M 60) j.toNat (j + 1 - i).toNat i.toNat = sd_cm (M 60) j.toNat (j + 1 - (x3 + 1)).toNat ((x3 + 1)).toNat)) → Ok 38 [some (.inr (.inr (12, 1))), some (.inl i), some (.inl j), some (.inl x3)] [] M := by
          intro x3 g38_0 g38_1 g38_2 g38_3
          refine hgo (fun p => Nat.beq p 2 || Nat.beq p 38) 28 38 _ _ _ ?_
          intro v38 e38 a38 b38
          rw [pz_wi (by omega) (by omega)] at e38
          have G38 : i ≤ j → j < M 60 88 → (i ≤ v38 ∧ v38 ≤ j + 1 ∧ sd_cm (M 60) j.toNat (j + 1 - i).toNat i.toNat = sd_cm (M 60) j.toNat (j + 1 - v38).toNat (v38).toNat) := by
            rw [e38]
            exact g38_3
          exact ih2 _ (by omega) (by first | omega | assumption | exact fun h1 h2 => ⟨by omega, by omega, rfl⟩) (by first | omega | assumption | exact fun h1 h2 => ⟨by omega, by omega, rfl⟩)
        refine hgo (fun p => Nat.beq p 2 || Nat.beq p 38) 28 2 _ _ _ ?_
        refine And.intro (fun h4 => ?_) (fun h4 => ?_)
        · skip
          refine And.intro (by omega) ?_
          refine And.intro rfl ?_
          refine ⟨⟨Or.inr rfl, fun h1 h2 => ?_⟩, rfl⟩
          obtain ⟨g1, g2, g3⟩ := g2_1 h1 h2
          rw [g3, show (j + 1 - x3).toNat = 0 by omega]
          exact (if_pos rfl).symm
        · skip
          refine And.intro (And.intro hI (And.intro (by omega) (by omega))) ?_
          intro v9 M9 a9 b9 q9
          obtain ⟨q9, z9⟩ := q9
          subst z9
          clear a9 b9
          refine And.intro (fun h12 => ?_) (fun h12 => ?_)
          · skip
            replace q9 := q9.resolve_left (fun z => absurd (z.1.symm.trans h12) (by decide))
            clear h12
            refine And.intro (by omega) ?_
            refine And.intro rfl ?_
            refine ⟨⟨Or.inl rfl, fun h1 h2 => ?_⟩, rfl⟩
            obtain ⟨g1, g2, g3⟩ := g2_1 h1 h2
            rw [g3, show (j + 1 - x3).toNat = (j + 1 - x3).toNat - 1 + 1 by omega]
            refine (if_neg ?_).symm
            show ¬ ((decide (M 60 (40 + x3.toNat) = 1 ∧ M 60 (52 + x3.toNat) ≠ 1 ∧ (x3.toNat < j.toNat → sd_py (M 60) x3.toNat)) && _) = true)
            rw [decide_eq_false (fun z => (by
              obtain ⟨z1, z2, z3⟩ := z
              rw [← show (40 + x3).toNat = 40 + x3.toNat by omega] at z1
              rw [← show (52 + x3).toNat = 52 + x3.toNat by omega] at z2
              first
                | omega
                | (have y := q30.2.mpr ((sd_py_i (by omega)).mpr (z3 (by omega)))
                   omega)))]
            exact Bool.false_ne_true
          · skip
            replace q9 := q9.resolve_right (fun z => h12 z.1)
            clear h12
            refine And.intro (And.intro hI (And.intro (by omega) (by omega))) ?_
            intro v17 M17 a17 b17 q17
            obtain ⟨q17, z17⟩ := q17
            subst z17
            clear a17 b17
            refine And.intro (fun h20 => ?_) (fun h20 => ?_)
            · skip
              replace q17 := q17.resolve_right (fun z => h20 z.1)
              clear h20
              refine And.intro (by omega) ?_
              refine And.intro rfl ?_
              refine ⟨⟨Or.inl rfl, fun h1 h2 => ?_⟩, rfl⟩
              obtain ⟨g1, g2, g3⟩ := g2_1 h1 h2
              rw [g3, show (j + 1 - x3).toNat = (j + 1 - x3).toNat - 1 + 1 by omega]
              refine (if_neg ?_).symm
              show ¬ ((decide (M 60 (40 + x3.toNat) = 1 ∧ M 60 (52 + x3.toNat) ≠ 1 ∧ (x3.toNat < j.toNat → sd_py (M 60) x3.toNat)) && _) = true)
              rw [decide_eq_false (fun z => (by
                obtain ⟨z1, z2, z3⟩ := z
                rw [← show (40 + x3).toNat = 40 + x3.toNat by omega] at z1
                rw [← show (52 + x3).toNat = 52 + x3.toNat by omega] at z2
                first
                  | omega
                  | (have y := q30.2.mpr ((sd_py_i (by omega)).mpr (z3 (by omega)))
                     omega)))]
              exact Bool.false_ne_true
            · skip
              replace q17 := q17.resolve_left (fun z => absurd (z.1.symm.trans h20) (by decide))
              clear h20
              refine And.intro (fun h25 => ?_) (fun h25 => ?_)
              · skip
                exact L38 _ (by
                  first
                    | omega
                    | assumption
                    | exact fun h1 h2 => by
                        obtain ⟨g1, g2, g3⟩ := g2_1 h1 h2
                        refine ⟨by omega, by omega, g3.trans ?_⟩
                        rw [show (j + 1 - x3).toNat = (j + 1 - (x3 + 1)).toNat + 1 by omega, show (x3 + 1).toNat = x3.toNat + 1 by omega]
                        show (decide (M 60 (40 + x3.toNat) = 1 ∧ M 60 (52 + x3.toNat) ≠ 1 ∧ (x3.toNat < j.toNat → sd_py (M 60) x3.toNat)) && _) = _
                        rw [decide_eq_true ⟨by rw [← show (40 + x3).toNat = 40 + x3.toNat by omega]; omega, by rw [← show (52 + x3).toNat = 52 + x3.toNat by omega]; omega, fun z => (by
                          first
                            | exact absurd z (by omega)
                            | exact (sd_py_i (by omega)).mp (q30.2.mp (by omega)))⟩]
                        rfl) (by
                  first
                    | omega
                    | assumption
                    | exact fun h1 h2 => by
                        obtain ⟨g1, g2, g3⟩ := g2_1 h1 h2
                        refine ⟨by omega, by omega, g3.trans ?_⟩
                        rw [show (j + 1 - x3).toNat = (j + 1 - (x3 + 1)).toNat + 1 by omega, show (x3 + 1).toNat = x3.toNat + 1 by omega]
                        show (decide (M 60 (40 + x3.toNat) = 1 ∧ M 60 (52 + x3.toNat) ≠ 1 ∧ (x3.toNat < j.toNat → sd_py (M 60) x3.toNat)) && _) = _
                        rw [decide_eq_true ⟨by rw [← show (40 + x3).toNat = 40 + x3.toNat by omega]; omega, by rw [← show (52 + x3).toNat = 52 + x3.toNat by omega]; omega, fun z => (by
                          first
                            | exact absurd z (by omega)
                            | exact (sd_py_i (by omega)).mp (q30.2.mp (by omega)))⟩]
                        rfl) (by
                  first
                    | omega
                    | assumption
                    | exact fun h1 h2 => by
                        obtain ⟨g1, g2, g3⟩ := g2_1 h1 h2
                        refine ⟨by omega, by omega, g3.trans ?_⟩
                        rw [show (j + 1 - x3).toNat = (j + 1 - (x3 + 1)).toNat + 1 by omega, show (x3 + 1).toNat = x3.toNat + 1 by omega]
                        show (decide (M 60 (40 + x3.toNat) = 1 ∧ M 60 (52 + x3.toNat) ≠ 1 ∧ (x3.toNat < j.toNat → sd_py (M 60) x3.toNat)) && _) = _
                        rw [decide_eq_true ⟨by rw [← show (40 + x3).toNat = 40 + x3.toNat by omega]; omega, by rw [← show (52 + x3).toNat = 52 + x3.toNat by omega]; omega, fun z => (by
                          first
                            | exact absurd z (by omega)
                            | exact (sd_py_i (by omega)).mp (q30.2.mp (by omega)))⟩]
                        rfl) (by
                  first
                    | omega
                    | assumption
                    | exact fun h1 h2 => by
                        obtain ⟨g1, g2, g3⟩ := g2_1 h1 h2
                        refine ⟨by omega, by omega, g3.trans ?_⟩
                        rw [show (j + 1 - x3).toNat = (j + 1 - (x3 + 1)).toNat + 1 by omega, show (x3 + 1).toNat = x3.toNat + 1 by omega]
                        show (decide (M 60 (40 + x3.toNat) = 1 ∧ M 60 (52 + x3.toNat) ≠ 1 ∧ (x3.toNat < j.toNat → sd_py (M 60) x3.toNat)) && _) = _
                        rw [decide_eq_true ⟨by rw [← show (40 + x3).toNat = 40 + x3.toNat by omega]; omega, by rw [← show (52 + x3).toNat = 52 + x3.toNat by omega]; omega, fun z => (by
                          first
                            | exact absurd z (by omega)
                            | exact (sd_py_i (by omega)).mp (q30.2.mp (by omega)))⟩]
                        rfl)
              · skip
                refine And.intro (And.intro hI (And.intro (by omega) (by omega))) ?_
                intro v30 M30 a30 b30 q30
                obtain ⟨q30, z30⟩ := q30
                subst z30
                refine And.intro (fun h33 => ?_) (fun h33 => ?_)
                · skip
                  exact L38 _ (by
                    first
                      | omega
                      | assumption
                      | exact fun h1 h2 => by
                          obtain ⟨g1, g2, g3⟩ := g2_1 h1 h2
                          refine ⟨by omega, by omega, g3.trans ?_⟩
                          rw [show (j + 1 - x3).toNat = (j + 1 - (x3 + 1)).toNat + 1 by omega, show (x3 + 1).toNat = x3.toNat + 1 by omega]
                          show (decide (M 60 (40 + x3.toNat) = 1 ∧ M 60 (52 + x3.toNat) ≠ 1 ∧ (x3.toNat < j.toNat → sd_py (M 60) x3.toNat)) && _) = _
                          rw [decide_eq_true ⟨by rw [← show (40 + x3).toNat = 40 + x3.toNat by omega]; omega, by rw [← show (52 + x3).toNat = 52 + x3.toNat by omega]; omega, fun z => (by
                            first
                              | exact absurd z (by omega)
                              | exact (sd_py_i (by omega)).mp (q30.2.mp (by omega)))⟩]
                          rfl) (by
                    first
                      | omega
                      | assumption
                      | exact fun h1 h2 => by
                          obtain ⟨g1, g2, g3⟩ := g2_1 h1 h2
                          refine ⟨by omega, by omega, g3.trans ?_⟩
                          rw [show (j + 1 - x3).toNat = (j + 1 - (x3 + 1)).toNat + 1 by omega, show (x3 + 1).toNat = x3.toNat + 1 by omega]
                          show (decide (M 60 (40 + x3.toNat) = 1 ∧ M 60 (52 + x3.toNat) ≠ 1 ∧ (x3.toNat < j.toNat → sd_py (M 60) x3.toNat)) && _) = _
                          rw [decide_eq_true ⟨by rw [← show (40 + x3).toNat = 40 + x3.toNat by omega]; omega, by rw [← show (52 + x3).toNat = 52 + x3.toNat by omega]; omega, fun z => (by
                            first
                              | exact absurd z (by omega)
                              | exact (sd_py_i (by omega)).mp (q30.2.mp (by omega)))⟩]
                          rfl) (by
                    first
                      | omega
                      | assumption
                      | exact fun h1 h2 => by
                          obtain ⟨g1, g2, g3⟩ := g2_1 h1 h2
                          refine ⟨by omega, by omega, g3.trans ?_⟩
                          rw [show (j + 1 - x3).toNat = (j + 1 - (x3 + 1)).toNat + 1 by omega, show (x3 + 1).toNat = x3.toNat + 1 by omega]
                          show (decide (M 60 (40 + x3.toNat) = 1 ∧ M 60 (52 + x3.toNat) ≠ 1 ∧ (x3.toNat < j.toNat → sd_py (M 60) x3.toNat)) && _) = _
                          rw [decide_eq_true ⟨by rw [← show (40 + x3).toNat = 40 + x3.toNat by omega]; omega, by rw [← show (52 + x3).toNat = 52 + x3.toNat by omega]; omega, fun z => (by
                            first
                              | exact absurd z (by omega)
                              | exact (sd_py_i (by omega)).mp (q30.2.mp (by omega)))⟩]
                          rfl) (by
                    first
                      | omega
                      | assumption
                      | exact fun h1 h2 => by
                          obtain ⟨g1, g2, g3⟩ := g2_1 h1 h2
                          refine ⟨by omega, by omega, g3.trans ?_⟩
                          rw [show (j + 1 - x3).toNat = (j + 1 - (x3 + 1)).toNat + 1 by omega, show (x3 + 1).toNat = x3.toNat + 1 by omega]
                          show (decide (M 60 (40 + x3.toNat) = 1 ∧ M 60 (52 + x3.toNat) ≠ 1 ∧ (x3.toNat < j.toNat → sd_py (M 60) x3.toNat)) && _) = _
                          rw [decide_eq_true ⟨by rw [← show (40 + x3).toNat = 40 + x3.toNat by omega]; omega, by rw [← show (52 + x3).toNat = 52 + x3.toNat by omega]; omega, fun z => (by
                            first
                              | exact absurd z (by omega)
                              | exact (sd_py_i (by omega)).mp (q30.2.mp (by omega)))⟩]
                          rfl)
                · skip
                  refine And.intro (by omega) ?_
                  refine And.intro rfl ?_
                  refine ⟨⟨Or.inl rfl, fun h1 h2 => ?_⟩, rfl⟩
                  obtain ⟨g1, g2, g3⟩ := g2_1 h1 h2
                  rw [g3, show (j + 1 - x3).toNat = (j + 1 - x3).toNat - 1 + 1 by omega]
                  refine (if_neg ?_).symm
                  show ¬ ((decide (M 60 (40 + x3.toNat) = 1 ∧ M 60 (52 + x3.toNat) ≠ 1 ∧ (x3.toNat < j.toNat → sd_py (M 60) x3.toNat)) && _) = true)
                  rw [decide_eq_false (fun z => (by
                    obtain ⟨z1, z2, z3⟩ := z
                    rw [← show (40 + x3).toNat = 40 + x3.toNat by omega] at z1
                    rw [← show (52 + x3).toNat = 52 + x3.toNat by omega] at z2
                    first
                      | omega
                      | (have y := q30.2.mpr ((sd_py_i (by omega)).mpr (z3 (by omega)))
                         omega)))]
                  exact Bool.false_ne_true
    refine hgo (fun p => Nat.beq p 2 || Nat.beq p 38) 28 0 _ [] M ?_
    exact L2 _ _ (Nat.lt_succ_self _) (by first | omega | assumption | exact fun h1 h2 => ⟨by omega, by omega, rfl⟩) (by first | omega | assumption | exact fun h1 h2 => ⟨by omega, by omega, rfl⟩)
theorem v3_X12_canMove {fr lo i : Nat} {own : String} (h1 : 1 + 1 ≤ fr) (h2 : 8 + (4 + 11) + 21 ≤ lo) (h3 : .methodLink own i yX12_canMove ∈ lw_tbl) : pz_cV fr lo own i k3_X12_canMove :=
  pz_cVk (maxL := 4) (fr' := 1) (lo' := 21) 2 12 h3_X12_canMove rfl ⟨by decide +kernel, by decide +kernel, by decide +kernel⟩ ⟨(pz_mt 1572 (by decide +kernel)), (pz_mt 1571 (by decide +kernel)), (pz_ms 68 (by decide +kernel)), (pz_mt 13 (by decide +kernel))⟩ (Or.inl ⟨TX12, 28, rfl⟩) (fun a M _ h => by
    have h : (match (generalizing := false) a with | [.inr (.inr (12, th)), .inl i, .inl j] => pz_im M ∧ 0 ≤ i ∧ j < 12 | _ => False) := h
    split at h
    · exact ⟨_, _, rfl⟩
    · exact h.elim) h1 h2 h3
noncomputable def k3_X12_moves : pz_C := (1, 1, fun a M => (match a with | [.inr (.inr (12, th))] => pz_im M | _ => False), fun a M r M' => (match a, r with | [.inr (.inr (12, th))], some (.inl v) => (v = (sd_mv (sd_Tr M) (sd_bb (M 60)) (sd_n (M 60)) 12 0 (M 60) 0).2 ∧ M' 60 = (sd_mv (sd_Tr M) (sd_bb (M 60)) (sd_n (M 60)) 12 0 (M 60) 0).1) ∧ pz_rl pz_QD M M' | _, _ => False))
noncomputable abbrev ct3_X12_moves : List (Bool × Nat × pz_C) := [(true, 291, k3_X12_bridgedOnes), (true, 294, k3_X12_endOf), (true, 364, k3_X12_canMove), (true, 65, k3_X12_hasMoved), (true, 323, k3_X12_notes)]
set_option maxRecDepth 100000 in
set_option maxHeartbeats 4000000 in
theorem h3_X12_moves : pz_H yX12_moves cX12_moves 8 (some .int) k3_X12_moves 2 44 := by
  refine pz_mk (own := RX12) (tb := t_X12_moves) (fl := pz_flf fl_RX12) (ci := pz_cif ci_RX12) (ct := pz_ctf ct3_X12_moves) (rz := false) (by decide +kernel) rfl t_X12_moves_ok (pz_flk fl_RX12_ok) (pz_cik ci_RX12_ok) ?_ ?_ (Or.inl ⟨rfl, rfl⟩) ?_ ?_
  · exact fun i k' h => pz_ctk (l := ct3_X12_moves) (P := fun b i k => b = true → pz_cV 2 44 RX12 i k) (List.forall_mem_cons.mpr ⟨(fun _ => v3_X12_bridgedOnes (by decide) (by decide) (pz_mt 1454 (by decide +kernel))), List.forall_mem_cons.mpr ⟨(fun _ => v3_X12_endOf (by decide) (by decide) (pz_mt 1458 (by decide +kernel))), List.forall_mem_cons.mpr ⟨(fun _ => v3_X12_canMove (by decide) (by decide) (pz_mt 1569 (by decide +kernel))), List.forall_mem_cons.mpr ⟨(fun _ => v3_X12_hasMoved (by decide) (by decide) (pz_mt 1423 (by decide +kernel))), List.forall_mem_cons.mpr ⟨(fun _ => v3_X12_notes (by decide) (by decide) (pz_mt 1483 (by decide +kernel))), fun _ h => absurd h List.not_mem_nil⟩⟩⟩⟩⟩) true i k' h rfl
  · exact fun i k' h => pz_ctk (l := ct3_X12_moves) (P := fun b i k => b = false → (pz_cS 2 44 RX12 i k ∨ (k = pz_kac ∧ 1 ≤ 2 ∧ 60 ≤ 44 ∧ Cond.methodLink RX12 i arraycopyName ∈ pz_tbl))) (List.forall_mem_cons.mpr ⟨((fun z => by cases z)), List.forall_mem_cons.mpr ⟨((fun z => by cases z)), List.forall_mem_cons.mpr ⟨((fun z => by cases z)), List.forall_mem_cons.mpr ⟨((fun z => by cases z)), List.forall_mem_cons.mpr ⟨((fun z => by cases z)), fun _ h => absurd h List.not_mem_nil⟩⟩⟩⟩⟩) false i k' h rfl
  · intro a M hlen hpre
    obtain ⟨th, rfl, hpre⟩ : ∃ th, a = [.inr (.inr (12, th))] ∧ (pz_im M) := by
      have hpre : (match (generalizing := false) a with | [.inr (.inr (12, th))] => pz_im M | _ => False) := hpre
      split at hpre
      · exact ⟨_, rfl, hpre⟩
      · exact hpre.elim
    exact Nat.le_of_ble_eq_true rfl
  · intro a M hlen hcan hM hpre Ok hgo
    obtain ⟨th, rfl, hpre⟩ : ∃ th, a = [.inr (.inr (12, th))] ∧ (pz_im M) := by
      have hpre : (match (generalizing := false) a with | [.inr (.inr (12, th))] => pz_im M | _ => False) := hpre
      split at hpre
      · exact ⟨_, rfl, hpre⟩
      · exact hpre.elim
    obtain ⟨k_th, hc_th⟩ := pz_tlm hcan
    have k_th : pz_kd th = 12 ∧ th < 231 := k_th
    have R_th := pz_kd12 k_th.1
    subst R_th
    clear k_th
    have hI : pz_im M := hpre
    have hI0 := hI
    have hS : pz_rl pz_QD M M := pz_rl.rf
    have I88 := hI.1.1
    have L9 : ∀ (fo : Nat) (x1 : Int) (x2 : Int) (x3 : Int) (d4 : Option pz_V) (d5 : Option pz_V) (d6 : Option pz_V) (d7 : Option pz_V) (N9 : pz_M), (12 - x3).toNat < fo → (pz_rl pz_QD M N9) → (0 ≤ x3) → (sd_mI (sd_Tr M) (M 60) (N9 60) x2 x3) → (pz_zs x1 (sd_bn (M 60))) → Ok 9 [some (.inr (.inr (12, 1))), some (.inl x1), some (.inl x2), some (.inl x3), d4, d5, d6, d7] [] N9 := by
      intro fo
      induction fo with
      | zero => exact fun _ _ _ _ _ _ _ _ hn => absurd hn (Nat.not_lt_zero _)
      | succ fo ih9 =>
        intro x1 x2 x3 d4 d5 d6 d7 N9 hn9 hS g9_1 g9_2 g9_3
        have hI : pz_im N9 := hS.1 hI0
        have F88 : N9 60 88 = M 60 88 := hS.2 60 88 (by unfold pz_QD; omega)
        have I88 := hI0.1.1
        have L61 : ∀ (fu : Nat) (x1 : Int) (x2 : Int) (x3 : Int) (x4 : Int) (x5 : Int) (x6 : Int) (x7 : Int) (N61 : pz_M), (12 - x7).toNat < fu → (pz_rl pz_QD M N61) → (0 ≤ x7) → (0 ≤ x3) → (x3 < M 60 88) → (M 60 88 ≤ 12) → (x4 < 12) → ((x5 = 1 ∧ x4 = M 60 88 - 1) ∨ (x5 = 0 ∧ x3 < x4)) → ((12 - x3).toNat < fo + 1) → (x3 ≤ x7) → (x3 ≤ x4) → (sd_mJ (sd_Tr M) (M 60) (N61 60) x2 x3 x4 x7 x6 (decide (x5 = 1))) → (pz_zs x1 (sd_bn (M 60))) → Ok 61 [some (.inr (.inr (12, 1))), some (.inl x1), some (.inl x2), some (.inl x3), some (.inl x4), some (.inl x5), some (.inl x6), some (.inl x7)] [] N61 := by
          intro fu
          induction fu with
          | zero => exact fun _ _ _ _ _ _ _ _ hn => absurd hn (Nat.not_lt_zero _)
          | succ fu ih61 =>
            intro x1 x2 x3 x4 x5 x6 x7 N61 hn61 hS g61_1 g61_2 g61_3 g61_4 g61_5 g61_6 g61_7 g61_8 g61_9 g61_10 g61_11
            have hI : pz_im N61 := hS.1 hI0
            have F88 : N61 60 88 = M 60 88 := hS.2 60 88 (by unfold pz_QD; omega)
            have I88 := hI0.1.1
            have hS61 := hS
            have L124 : ∀ (x1 : Int) (x2 : Int) (x3 : Int) (x4 : Int) (x5 : Int) (x6 : Int) (x7 : Int) (N124 : pz_M), (pz_rl pz_QD M N124) → (0 ≤ x7) → (x7 < 12) → (0 ≤ x3) → (x3 < M 60 88) → (M 60 88 ≤ 12) → (x4 < 12) → ((x5 = 1 ∧ x4 = M 60 88 - 1) ∨ (x5 = 0 ∧ x3 < x4)) → ((12 - x3).toNat < fo + 1) → ((12 - x7).toNat < fu + 1) → (x3 ≤ x7) → (x3 ≤ x4) → (x7 ≤ x4) → (sd_mJ (sd_Tr M) (M 60) (N124 60) x2 x3 x4 (x7 + 1) x6 (decide (x5 = 1))) → (pz_zs x1 (sd_bn (M 60))) → Ok 124 [some (.inr (.inr (12, 1))), some (.inl x1), some (.inl x2), some (.inl x3), some (.inl x4), some (.inl x5), some (.inl x6), some (.inl x7)] [] N124 := by
              intro x1 x2 x3 x4 x5 x6 x7 N124 hS g124_1 g124_2 g124_3 g124_4 g124_5 g124_6 g124_7 g124_8 g124_9 g124_10 g124_11 g124_12 g124_13 g124_14
              have hI : pz_im N124 := hS.1 hI0
              have F88 : N124 60 88 = M 60 88 := hS.2 60 88 (by unfold pz_QD; omega)
              have I88 := hI0.1.1
              refine hgo (fun p => Nat.beq p 9 || Nat.beq p 61 || Nat.beq p 124) 84 124 _ _ _ ?_
              intro v124 e124 a124 b124
              rw [pz_wi (by omega) (by omega)] at e124
              have G124 : sd_mJ (sd_Tr M) (M 60) (N124 60) x2 x3 x4 v124 x6 (decide (x5 = 1)) := by
                rw [e124]
                exact g124_13
              exact ih61 _ _ _ _ _ _ _ _ (by omega) hS (by first | omega | assumption) (by first | omega | assumption) (by first | omega | assumption) (by first | omega | assumption) (by first | omega | assumption) (by first | omega | assumption) (by first | omega | assumption) (by first | omega | assumption) (by first | omega | assumption) (by first | omega | assumption) (by first | omega | assumption)
            refine hgo (fun p => Nat.beq p 9 || Nat.beq p 61 || Nat.beq p 124) 84 61 _ _ _ ?_
            refine And.intro (fun h65 => ?_) (fun h65 => ?_)
            · skip
              refine And.intro (fun h132 => ?_) (fun h132 => ?_)
              · skip
                have n9 : (sd_n (M 60) : Int) = M 60 88 := by
                  unfold sd_n
                  omega
                have G132 : sd_mI (sd_Tr M) (M 60) (N61 60) x2 x4 := sd_mJ_e g61_10 ⟨by omega, by omega⟩ (by omega) (Or.inl (by omega)) (Or.inr ⟨decide_eq_false (by omega), rfl⟩) n9
                exact ih9 _ _ _ _ _ _ _ _ (by omega) hS (by first | omega | assumption | exact sd_mI_0 (by omega)) (by first | omega | assumption | exact sd_mI_0 (by omega)) (by first | omega | assumption | exact sd_mI_0 (by omega))
              · skip
                skip
                refine pz_nrc (c := 60) rfl ?_
                refine And.intro (by omega) (And.intro (show _ < (1725 : Int) from by omega) ?_)
                intro v141 e141 a141 b141
                replace e141 : v141 = N61 60 88 := e141
                have I141 : 0 ≤ v141 ∧ v141 ≤ 12 := by
                  rw [e141]
                  exact hI.1.1
                clear a141 b141
                have n9 : (sd_n (M 60) : Int) = M 60 88 := by
                  unfold sd_n
                  omega
                have G141 : sd_mI (sd_Tr M) (M 60) (N61 60) x2 v141 := sd_mJ_e g61_10 ⟨by omega, by omega⟩ (by omega) (Or.inr (decide_eq_true (by omega))) (Or.inl ⟨decide_eq_true (by omega), by omega⟩) n9
                exact ih9 _ _ _ _ _ _ _ _ (by omega) hS (by first | omega | assumption | exact sd_mI_0 (by omega)) (by first | omega | assumption | exact sd_mI_0 (by omega)) (by first | omega | assumption | exact sd_mI_0 (by omega))
            · skip
              refine And.intro (fun h70 => ?_) (fun h70 => ?_)
              · skip
                refine And.intro (fun h132 => ?_) (fun h132 => ?_)
                · skip
                  have n9 : (sd_n (M 60) : Int) = M 60 88 := by
                    unfold sd_n
                    omega
                  have G132 : sd_mI (sd_Tr M) (M 60) (N61 60) x2 x4 := sd_mJ_e g61_10 ⟨by omega, by omega⟩ (by omega) (Or.inl (by omega)) (Or.inr ⟨decide_eq_false (by omega), rfl⟩) n9
                  exact ih9 _ _ _ _ _ _ _ _ (by omega) hS (by first | omega | assumption | exact sd_mI_0 (by omega)) (by first | omega | assumption | exact sd_mI_0 (by omega)) (by first | omega | assumption | exact sd_mI_0 (by omega))
                · skip
                  skip
                  refine pz_nrc (c := 60) rfl ?_
                  refine And.intro (by omega) (And.intro (show _ < (1725 : Int) from by omega) ?_)
                  intro v141 e141 a141 b141
                  replace e141 : v141 = N61 60 88 := e141
                  have I141 : 0 ≤ v141 ∧ v141 ≤ 12 := by
                    rw [e141]
                    exact hI.1.1
                  clear a141 b141
                  have n9 : (sd_n (M 60) : Int) = M 60 88 := by
                    unfold sd_n
                    omega
                  have G141 : sd_mI (sd_Tr M) (M 60) (N61 60) x2 v141 := sd_mJ_e g61_10 ⟨by omega, by omega⟩ (by omega) (Or.inr (decide_eq_true (by omega))) (Or.inl ⟨decide_eq_true (by omega), by omega⟩) n9
                  exact ih9 _ _ _ _ _ _ _ _ (by omega) hS (by first | omega | assumption | exact sd_mI_0 (by omega)) (by first | omega | assumption | exact sd_mI_0 (by omega)) (by first | omega | assumption | exact sd_mI_0 (by omega))
              · skip
                refine And.intro (And.intro hI (And.intro (by omega) (by omega))) ?_
                intro v76 M76 a76 b76 q76
                obtain ⟨q76, z76⟩ := q76
                subst z76
                clear a76 b76
                refine And.intro (fun h79 => ?_) (fun h79 => ?_)
                · skip
                  have G79 : sd_mJ (sd_Tr M) (M 60) (N61 60) x2 x3 x4 (x7 + 1) x6 (decide (x5 = 1)) := sd_mJ_n g61_10 ⟨by omega, by omega⟩ rfl (fun z => by
                    have z1 := z.1
                    rw [← show (76 + x7).toNat = 76 + x7.toNat by omega] at z1
                    omega)
                  replace q76 := q76.resolve_right (fun z => h79 z.1)
                  clear h79
                  exact L124 _ _ _ _ _ _ _ _ hS (by first | omega | assumption) (by first | omega | assumption) (by first | omega | assumption) (by first | omega | assumption) (by first | omega | assumption) (by first | omega | assumption) (by first | omega | assumption) (by first | omega | assumption) (by first | omega | assumption) (by first | omega | assumption) (by first | omega | assumption) (by first | omega | assumption) (by first | omega | assumption) (by first | omega | assumption)
                · skip
                  skip
                  replace q76 := q76.resolve_left (fun z => absurd (z.1.symm.trans h79) (by decide))
                  clear h79
                  refine And.intro (fun h86 => ?_) (fun h86 => ?_)
                  · skip
                    refine pz_nrc (c := 60) rfl ?_
                    intro v105 e105 a105 b105
                    rw [pz_wi (by omega) (by omega)] at e105
                    clear a105 b105
                    refine pz_nrc (c := 60) rfl ?_
                    refine And.intro (by omega) (And.intro (show _ < (1725 : Int) from by omega) ?_)
                    intro v111 e111 a111 b111
                    replace e111 : v111 = N61 60 0 := e111
                    refine And.intro (by omega) (And.intro (show _ < (1725 : Int) from by omega) ?_)
                    intro M112 e112
                    have hS : pz_rl pz_QD M M112 := by
                      rw [e112]
                      exact pz_rl_u hS (by unfold pz_QD; omega) (pz_iom_w1 (by omega) (by omega))
                    have hI : pz_im M112 := hS.1 hI0
                    refine And.intro (hI) ?_
                    intro M118 q118
                    obtain ⟨q118, z118⟩ := q118
                    have hS : pz_rl pz_QD M M118 := hS.tr z118
                    have hI : pz_im M118 := hS.1 hI0
                    intro v121 e121 a121 b121
                    have T112 : sd_Tr M112 = sd_Tr M := by
                      unfold sd_Tr
                      rw [e112, pz_una (by decide), hS61.2 1 26 (by unfold pz_QD; omega)]
                    have W118 : M118 60 = sd_note (sd_Tr M) (sd_u (N61 60) (76 + x7.toNat) (N61 60 0)) 5 ((x7.toNat : Nat) : Int) 0 := by
                      rw [q118, T112, e112, sd_um, e111, show v105.toNat = 76 + x7.toNat by omega, show ((x7.toNat : Nat) : Int) = x7 by omega]
                    have G121 : sd_mJ (sd_Tr M) (M 60) (M118 60) v121 x3 x4 (x7 + 1) x6 (decide (x5 = 1)) := by
                      rw [W118]
                      exact sd_mJ_y g61_10 ⟨by omega, by omega⟩ (by omega) (by omega) rfl e121 ⟨by rw [← show (76 + x7).toNat = 76 + x7.toNat by omega]; omega, fun z => decide_eq_true (by omega)⟩
                    exact L124 _ _ _ _ _ _ _ _ hS (by first | omega | assumption) (by first | omega | assumption) (by first | omega | assumption) (by first | omega | assumption) (by first | omega | assumption) (by first | omega | assumption) (by first | omega | assumption) (by first | omega | assumption) (by first | omega | assumption) (by first | omega | assumption) (by first | omega | assumption) (by first | omega | assumption) (by first | omega | assumption) (by first | omega | assumption)
                  · skip
                    refine And.intro (fun h91 => ?_) (fun h91 => ?_)
                    · skip
                      skip
                      refine pz_nrc (c := 60) rfl ?_
                      intro v105 e105 a105 b105
                      rw [pz_wi (by omega) (by omega)] at e105
                      clear a105 b105
                      refine pz_nrc (c := 60) rfl ?_
                      refine And.intro (by omega) (And.intro (show _ < (1725 : Int) from by omega) ?_)
                      intro v111 e111 a111 b111
                      replace e111 : v111 = N61 60 0 := e111
                      refine And.intro (by omega) (And.intro (show _ < (1725 : Int) from by omega) ?_)
                      intro M112 e112
                      have hS : pz_rl pz_QD M M112 := by
                        rw [e112]
                        exact pz_rl_u hS (by unfold pz_QD; omega) (pz_iom_w1 (by omega) (by omega))
                      have hI : pz_im M112 := hS.1 hI0
                      refine And.intro (hI) ?_
                      intro M118 q118
                      obtain ⟨q118, z118⟩ := q118
                      have hS : pz_rl pz_QD M M118 := hS.tr z118
                      have hI : pz_im M118 := hS.1 hI0
                      intro v121 e121 a121 b121
                      have T112 : sd_Tr M112 = sd_Tr M := by
                        unfold sd_Tr
                        rw [e112, pz_una (by decide), hS61.2 1 26 (by unfold pz_QD; omega)]
                      have W118 : M118 60 = sd_note (sd_Tr M) (sd_u (N61 60) (76 + x7.toNat) (N61 60 0)) 5 ((x7.toNat : Nat) : Int) 0 := by
                        rw [q118, T112, e112, sd_um, e111, show v105.toNat = 76 + x7.toNat by omega, show ((x7.toNat : Nat) : Int) = x7 by omega]
                      have G121 : sd_mJ (sd_Tr M) (M 60) (M118 60) v121 x3 x4 (x7 + 1) x6 (decide (x5 = 1)) := by
                        rw [W118]
                        exact sd_mJ_y g61_10 ⟨by omega, by omega⟩ (by omega) (by omega) rfl e121 ⟨by rw [← show (76 + x7).toNat = 76 + x7.toNat by omega]; omega, fun z => decide_eq_true (by omega)⟩
                      exact L124 _ _ _ _ _ _ _ _ hS (by first | omega | assumption) (by first | omega | assumption) (by first | omega | assumption) (by first | omega | assumption) (by first | omega | assumption) (by first | omega | assumption) (by first | omega | assumption) (by first | omega | assumption) (by first | omega | assumption) (by first | omega | assumption) (by first | omega | assumption) (by first | omega | assumption) (by first | omega | assumption) (by first | omega | assumption)
                    · skip
                      have G91 : sd_mJ (sd_Tr M) (M 60) (N61 60) x2 x3 x4 (x7 + 1) x6 (decide (x5 = 1)) := sd_mJ_n g61_10 ⟨by omega, by omega⟩ rfl (fun z => absurd (z.2 (by omega)) (by rw [decide_eq_false (by omega)]; decide))
                      exact L124 _ _ _ _ _ _ _ _ hS (by first | omega | assumption) (by first | omega | assumption) (by first | omega | assumption) (by first | omega | assumption) (by first | omega | assumption) (by first | omega | assumption) (by first | omega | assumption) (by first | omega | assumption) (by first | omega | assumption) (by first | omega | assumption) (by first | omega | assumption) (by first | omega | assumption) (by first | omega | assumption) (by first | omega | assumption)
        refine hgo (fun p => Nat.beq p 9 || Nat.beq p 61 || Nat.beq p 124) 84 9 _ _ _ ?_
        refine pz_nrc (c := 60) rfl ?_
        refine And.intro (by omega) (And.intro (show _ < (1725 : Int) from by omega) ?_)
        intro v16 e16 a16 b16
        replace e16 : v16 = N9 60 88 := e16
        have I16 : 0 ≤ v16 ∧ v16 ≤ 12 := by
          rw [e16]
          exact hI.1.1
        clear a16 b16
        refine And.intro (fun h17 => ?_) (fun h17 => ?_)
        · skip
          refine And.intro rfl ?_
          have n9 : (sd_n (M 60) : Int) = M 60 88 := by
            unfold sd_n
            omega
          have z := sd_mI_z g9_2 (by omega)
          refine ⟨?_, hS⟩
          rw [← z]
          exact ⟨rfl, rfl⟩
        · skip
          refine And.intro (And.intro hI (And.intro (by omega) (by omega))) ?_
          intro v23 M23 a23 b23 q23
          obtain ⟨q23, z23⟩ := q23
          subst z23
          have E23 : v23 = (sd_end (sd_bb (M 60)) (sd_n (M 60)) x3.toNat : Int) := by
            rw [q23.2 _ g9_3 (by omega) (by omega), F88, sd_end_bn]
            rfl
          refine pz_nrc (c := 60) rfl ?_
          refine And.intro (by omega) (And.intro (show _ < (1725 : Int) from by omega) ?_)
          intro v36 e36 a36 b36
          replace e36 : v36 = N9 60 88 := e36
          have I36 : 0 ≤ v36 ∧ v36 ≤ 12 := by
            rw [e36]
            exact hI.1.1
          clear a36 b36
          intro v38 e38 a38 b38
          rw [pz_wi (by omega) (by omega)] at e38
          clear a38 b38
          refine And.intro (fun h39 => ?_) (fun h39 => ?_)
          · skip
            refine And.intro (And.intro hI (And.intro (by omega) (by omega))) ?_
            intro v53 M53 a53 b53 q53
            obtain ⟨q53, z53⟩ := q53
            subst z53
            have E53 := q53.2 (by omega) (by omega)
            have n9 : (sd_n (M 60) : Int) = M 60 88 := by
              unfold sd_n
              omega
            first
              | (have G53 : sd_mJ (sd_Tr M) (M 60) (N9 60) x2 x3 v23 x3 v53 (decide ((1 : Int) = 1)) := sd_mJ_0 g9_2 (by omega) (by omega) E23 (by rw [decide_eq_true (rfl : (1 : Int) = 1)]; exact (decide_eq_true (by omega)).symm) E53)
              | (have G53 : sd_mJ (sd_Tr M) (M 60) (N9 60) x2 x3 v23 x3 v53 (decide ((0 : Int) = 1)) := sd_mJ_0 g9_2 (by omega) (by omega) E23 (by rw [decide_eq_false (show ¬ (0 : Int) = 1 by decide)]; exact (decide_eq_false (by omega)).symm) E53)
            exact L61 _ _ _ _ _ _ _ _ _ (Nat.lt_succ_self _) hS (by first | omega | assumption) (by first | omega | assumption) (by first | omega | assumption) (by first | omega | assumption) (by first | omega | assumption) (by first | omega | assumption) (by first | omega | assumption) (by first | omega | assumption) (by first | omega | assumption) (by first | omega | assumption) (by first | omega | assumption)
          · skip
            refine And.intro (And.intro hI (And.intro (by omega) (by omega))) ?_
            intro v53 M53 a53 b53 q53
            obtain ⟨q53, z53⟩ := q53
            subst z53
            have E53 := q53.2 (by omega) (by omega)
            have n9 : (sd_n (M 60) : Int) = M 60 88 := by
              unfold sd_n
              omega
            first
              | (have G53 : sd_mJ (sd_Tr M) (M 60) (N9 60) x2 x3 v23 x3 v53 (decide ((1 : Int) = 1)) := sd_mJ_0 g9_2 (by omega) (by omega) E23 (by rw [decide_eq_true (rfl : (1 : Int) = 1)]; exact (decide_eq_true (by omega)).symm) E53)
              | (have G53 : sd_mJ (sd_Tr M) (M 60) (N9 60) x2 x3 v23 x3 v53 (decide ((0 : Int) = 1)) := sd_mJ_0 g9_2 (by omega) (by omega) E23 (by rw [decide_eq_false (show ¬ (0 : Int) = 1 by decide)]; exact (decide_eq_false (by omega)).symm) E53)
            exact L61 _ _ _ _ _ _ _ _ _ (Nat.lt_succ_self _) hS (by first | omega | assumption) (by first | omega | assumption) (by first | omega | assumption) (by first | omega | assumption) (by first | omega | assumption) (by first | omega | assumption) (by first | omega | assumption) (by first | omega | assumption) (by first | omega | assumption) (by first | omega | assumption) (by first | omega | assumption)
    refine hgo (fun p => Nat.beq p 9 || Nat.beq p 61 || Nat.beq p 124) 84 0 _ [] M ?_
    refine And.intro (hI) ?_
    intro v1 M1 a1 b1 q1
    obtain ⟨q1, z1⟩ := q1
    subst z1
    skip
    exact L9 _ _ _ _ _ _ _ _ _ (Nat.lt_succ_self _) hS (by first | omega | assumption | exact sd_mI_0 (by omega)) (by first | omega | assumption | exact sd_mI_0 (by omega)) (by first | omega | assumption | exact sd_mI_0 (by omega))
theorem v3_X12_moves {fr lo i : Nat} {own : String} (h1 : 2 + 1 ≤ fr) (h2 : 8 + (8 + 11) + 44 ≤ lo) (h3 : .methodLink own i yX12_moves ∈ lw_tbl) : pz_cV fr lo own i k3_X12_moves :=
  pz_cVk (maxL := 8) (fr' := 2) (lo' := 44) 0 12 h3_X12_moves rfl ⟨by decide +kernel, by decide +kernel, by decide +kernel⟩ ⟨(pz_mt 1568 (by decide +kernel)), (pz_mt 1567 (by decide +kernel)), (pz_ms 67 (by decide +kernel)), (pz_mt 13 (by decide +kernel))⟩ (Or.inl ⟨TX12, 28, rfl⟩) (fun a M _ h => by
    have h : (match (generalizing := false) a with | [.inr (.inr (12, th))] => pz_im M | _ => False) := h
    split at h
    · exact ⟨_, _, rfl⟩
    · exact h.elim) h1 h2 h3
