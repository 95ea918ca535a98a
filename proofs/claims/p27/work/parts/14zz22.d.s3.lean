noncomputable def k3_X12_state : pz_C := (2, 1, fun a M => (match a with | [.inr (.inr (12, th)), .inl x] => pz_im M | _ => False), fun a M r M' => (match a, r with | [.inr (.inr (12, th)), .inl x], some (.inl v) => (v = M 60 2 ∧ M' = pz_u (pz_u M 60 2 x) 1 4 0) ∧ pz_rl pz_QX M M' | _, _ => False))
noncomputable abbrev ct3_X12_state : List (Bool × Nat × pz_C) := [(true, 71, k_X12_forgets)]
set_option maxRecDepth 100000 in
set_option maxHeartbeats 4000000 in
theorem h3_X12_state : pz_H yX12_state cX12_state 3 (some .int) k3_X12_state 1 20 := by
  refine pz_mk (own := RX12) (tb := t_X12_state) (fl := pz_flf fl_RX12) (ci := pz_cif ci_RX12) (ct := pz_ctf ct3_X12_state) (rz := false) (by decide +kernel) rfl t_X12_state_ok (pz_flk fl_RX12_ok) (pz_cik ci_RX12_ok) ?_ ?_ (Or.inl ⟨rfl, rfl⟩) ?_ ?_
  · exact fun i k' h => pz_ctk (l := ct3_X12_state) (P := fun b i k => b = true → pz_cV 1 20 RX12 i k) (List.forall_mem_cons.mpr ⟨(fun _ => v_X12_forgets (by decide) (by decide) (pz_mt 1209 (by decide +kernel))), fun _ h => absurd h List.not_mem_nil⟩) true i k' h rfl
  · exact fun i k' h => pz_ctk (l := ct3_X12_state) (P := fun b i k => b = false → (pz_cS 1 20 RX12 i k ∨ (k = pz_kac ∧ 1 ≤ 1 ∧ 60 ≤ 20 ∧ Cond.methodLink RX12 i arraycopyName ∈ pz_tbl))) (List.forall_mem_cons.mpr ⟨((fun z => by cases z)), fun _ h => absurd h List.not_mem_nil⟩) false i k' h rfl
  · intro a M hlen hpre
    obtain ⟨th, x, rfl, hpre⟩ : ∃ th x, a = [.inr (.inr (12, th)), .inl x] ∧ (pz_im M) := by
      have hpre : (match (generalizing := false) a with | [.inr (.inr (12, th)), .inl x] => pz_im M | _ => False) := hpre
      split at hpre
      · exact ⟨_, _, rfl, hpre⟩
      · exact hpre.elim
    exact Nat.le_of_ble_eq_true rfl
  · intro a M hlen hcan hM hpre Ok hgo
    obtain ⟨th, x, rfl, hpre⟩ : ∃ th x, a = [.inr (.inr (12, th)), .inl x] ∧ (pz_im M) := by
      have hpre : (match (generalizing := false) a with | [.inr (.inr (12, th)), .inl x] => pz_im M | _ => False) := hpre
      split at hpre
      · exact ⟨_, _, rfl, hpre⟩
      · exact hpre.elim
    obtain ⟨k_th, hc_th⟩ := pz_tlm hcan
    have k_th : pz_kd th = 12 ∧ th < 231 := k_th
    have R_th := pz_kd12 k_th.1
    subst R_th
    clear k_th
    obtain ⟨k_x, hc_x⟩ := pz_tlm hc_th
    have l_x : -2147483648 ≤ x := k_x.1
    have u_x : x ≤ 2147483647 := k_x.2
    have hI : pz_im M := hpre
    have hI0 := hI
    have hS : pz_rl pz_QX M M := pz_rl.rf
    refine hgo (fun _ => false) 16 0 _ [] M ?_
    refine pz_nrc (c := 60) rfl ?_
    refine And.intro (by omega) (And.intro (show _ < (1725 : Int) from by omega) ?_)
    intro v5 e5 a5 b5
    replace e5 : v5 = M 60 2 := e5
    refine pz_nrc (c := 60) rfl ?_
    refine And.intro (by omega) (And.intro (show _ < (1725 : Int) from by omega) ?_)
    intro M13 e13
    have hS : pz_rl pz_QX M M13 := by
      rw [e13]
      exact pz_rl_u hS (by unfold pz_QX; omega) (pz_iom_w0 (by omega))
    have hI : pz_im M13 := hS.1 hI0
    refine And.intro (hI) ?_
    intro M15 q15
    obtain ⟨q15, z15⟩ := q15
    have hS : pz_rl pz_QX M M15 := hS.tr (pz_rl_fg (by unfold pz_QX; omega) q15 z15)
    have T15a := z15.2
    have T15b := z15.1.2
    have hI : pz_im M15 := hS.1 hI0
    refine And.intro rfl ?_
    exact ⟨⟨e5, by rw [q15, e13]; rfl⟩, hS⟩
theorem v3_X12_state {fr lo i : Nat} {own : String} (h1 : 1 + 1 ≤ fr) (h2 : 8 + (3 + 11) + 20 ≤ lo) (h3 : .methodLink own i yX12_state ∈ lw_tbl) : pz_cV fr lo own i k3_X12_state :=
  pz_cVk (maxL := 3) (fr' := 1) (lo' := 20) 1 12 h3_X12_state rfl ⟨by decide +kernel, by decide +kernel, by decide +kernel⟩ ⟨(pz_mt 1208 (by decide +kernel)), (pz_mt 1206 (by decide +kernel)), (pz_mt 1207 (by decide +kernel)), (pz_mt 13 (by decide +kernel))⟩ (Or.inl ⟨TX12, 28, rfl⟩) (fun a M _ h => by
    have h : (match (generalizing := false) a with | [.inr (.inr (12, th)), .inl x] => pz_im M | _ => False) := h
    split at h
    · exact ⟨_, _, rfl⟩
    · exact h.elim) h1 h2 h3
noncomputable def k3_X12_end : pz_C := (2, 1, fun a M => (match a with | [.inr (.inr (12, th)), .inl n] => pz_im M | _ => False), fun a M r M' => (match a, r with | [.inr (.inr (12, th)), .inl n], some (.inl v) => ((if 0 ≤ n ∧ n ≤ M 1 16 then v = 1 ∧ M' 1 16 = n else v = 0 ∧ M' 1 16 = M 1 16)) ∧ pz_rl pz_QN M M' | _, _ => False))
noncomputable abbrev ct3_X12_end : List (Bool × Nat × pz_C) := [(false, 54, k_X12_isIn)]
set_option maxRecDepth 100000 in
set_option maxHeartbeats 4000000 in
theorem h3_X12_end : pz_H yX12_end cX12_end 2 (some .boolean) k3_X12_end 1 22 := by
  refine pz_mk (own := RX12) (tb := t_X12_end) (fl := pz_flf fl_RX12) (ci := pz_cif ci_RX12) (ct := pz_ctf ct3_X12_end) (rz := true) (by decide +kernel) rfl t_X12_end_ok (pz_flk fl_RX12_ok) (pz_cik ci_RX12_ok) ?_ ?_ (Or.inr ⟨rfl, rfl⟩) ?_ ?_
  · exact fun i k' h => pz_ctk (l := ct3_X12_end) (P := fun b i k => b = true → pz_cV 1 22 RX12 i k) (List.forall_mem_cons.mpr ⟨((fun z => by cases z)), fun _ h => absurd h List.not_mem_nil⟩) true i k' h rfl
  · exact fun i k' h => pz_ctk (l := ct3_X12_end) (P := fun b i k => b = false → (pz_cS 1 22 RX12 i k ∨ (k = pz_kac ∧ 1 ≤ 1 ∧ 60 ≤ 22 ∧ Cond.methodLink RX12 i arraycopyName ∈ pz_tbl))) (List.forall_mem_cons.mpr ⟨(fun _ => Or.inl (s_X12_isIn (by decide) (by decide) (Or.inl (pz_mt 1217 (by decide +kernel))))), fun _ h => absurd h List.not_mem_nil⟩) false i k' h rfl
  · intro a M hlen hpre
    obtain ⟨th, n, rfl, hpre⟩ : ∃ th n, a = [.inr (.inr (12, th)), .inl n] ∧ (pz_im M) := by
      have hpre : (match (generalizing := false) a with | [.inr (.inr (12, th)), .inl n] => pz_im M | _ => False) := hpre
      split at hpre
      · exact ⟨_, _, rfl, hpre⟩
      · exact hpre.elim
    exact Nat.le_of_ble_eq_true rfl
  · intro a M hlen hcan hM hpre Ok hgo
    obtain ⟨th, n, rfl, hpre⟩ : ∃ th n, a = [.inr (.inr (12, th)), .inl n] ∧ (pz_im M) := by
      have hpre : (match (generalizing := false) a with | [.inr (.inr (12, th)), .inl n] => pz_im M | _ => False) := hpre
      split at hpre
      · exact ⟨_, _, rfl, hpre⟩
      · exact hpre.elim
    obtain ⟨k_th, hc_th⟩ := pz_tlm hcan
    have k_th : pz_kd th = 12 ∧ th < 231 := k_th
    have R_th := pz_kd12 k_th.1
    subst R_th
    clear k_th
    obtain ⟨k_n, hc_n⟩ := pz_tlm hc_th
    have l_n : -2147483648 ≤ n := k_n.1
    have u_n : n ≤ 2147483647 := k_n.2
    have hI : pz_im M := hpre
    have hI0 := hI
    have hS : pz_rl pz_QN M M := pz_rl.rf
    refine hgo (fun _ => false) 15 0 _ [] M ?_
    intro v3 e3 a3 b3
    have I3 : 0 ≤ v3 ∧ v3 ≤ 400 := by
      rw [e3]
      exact hI.2.1.2.1
    clear a3 b3
    have N3 := hI.2.1.2.1
    refine And.intro (True.intro) ?_
    intro v6 M6 a6 b6 q6
    obtain ⟨q6, z6⟩ := q6
    subst z6
    clear a6 b6
    refine And.intro (fun h9 => ?_) (fun h9 => ?_)
    · skip
      replace q6 := q6.resolve_right (fun z => h9 z.1)
      clear h9
      intro M16 e16
      have hS : pz_rl pz_QN M M16 := by
        rw [e16]
        exact pz_rl_u hS (by unfold pz_QN; decide) (pz_iom_16 (by omega))
      have hI : pz_im M16 := hS.1 hI0
      have T16_0 : M16 1 16 = n := by rw [e16]; exact pz_uu
      refine And.intro (by omega) ?_
      refine And.intro rfl ?_
      refine And.intro ?_ hS
      split <;> omega
    · skip
      replace q6 := q6.resolve_left (fun z => absurd (z.1.symm.trans h9) (by decide))
      clear h9
      refine And.intro (by omega) ?_
      refine And.intro rfl ?_
      refine And.intro ?_ hS
      split <;> omega
theorem v3_X12_end {fr lo i : Nat} {own : String} (h1 : 1 + 1 ≤ fr) (h2 : 8 + (2 + 11) + 22 ≤ lo) (h3 : .methodLink own i yX12_end ∈ lw_tbl) : pz_cV fr lo own i k3_X12_end :=
  pz_cVk (maxL := 2) (fr' := 1) (lo' := 22) 1 12 h3_X12_end rfl ⟨by decide +kernel, by decide +kernel, by decide +kernel⟩ ⟨(pz_mt 1238 (by decide +kernel)), (pz_mt 1236 (by decide +kernel)), (pz_mt 1237 (by decide +kernel)), (pz_mt 13 (by decide +kernel))⟩ (Or.inl ⟨TX12, 28, rfl⟩) (fun a M _ h => by
    have h : (match (generalizing := false) a with | [.inr (.inr (12, th)), .inl n] => pz_im M | _ => False) := h
    split at h
    · exact ⟨_, _, rfl⟩
    · exact h.elim) h1 h2 h3
noncomputable def k3_X12_ask : pz_C := (3, 1, fun a M => (match a with | [.inr (.inr (12, th)), .inl i, .inl n] => pz_im M | _ => False), fun a M r M' => (match a, r with | [.inr (.inr (12, th)), .inl i, .inl n], some (.inl v) => (sd_ma M M' v (-1) (fun F => 0 ≤ i ∧ (1 ≤ n ∧ n ≤ 99) ∧ sd_ca F i.toNat) (fun ls F => sd_gi ls F (i.toNat + 1) n) (fun ls F => sd_ask true ls F i.toNat n)) ∧ pz_rl pz_QX M M' | _, _ => False))
noncomputable abbrev ct3_X12_ask : List (Bool × Nat × pz_C) := [(true, 327, k3_X12_canAsk), (false, 54, k_X12_isIn), (true, 330, k3_X12_keeps), (true, 333, k3_X12_asks)]
set_option maxRecDepth 100000 in
set_option maxHeartbeats 4000000 in
theorem h3_X12_ask : pz_H yX12_ask cX12_ask 3 (some .int) k3_X12_ask 6 140 := by
  refine pz_mk (own := RX12) (tb := t_X12_ask) (fl := pz_flf fl_RX12) (ci := pz_cif ci_RX12) (ct := pz_ctf ct3_X12_ask) (rz := false) (by decide +kernel) rfl t_X12_ask_ok (pz_flk fl_RX12_ok) (pz_cik ci_RX12_ok) ?_ ?_ (Or.inl ⟨rfl, rfl⟩) ?_ ?_
  · exact fun i k' h => pz_ctk (l := ct3_X12_ask) (P := fun b i k => b = true → pz_cV 6 140 RX12 i k) (List.forall_mem_cons.mpr ⟨(fun _ => v3_X12_canAsk (by decide) (by decide) (pz_mt 1411 (by decide +kernel))), List.forall_mem_cons.mpr ⟨((fun z => by cases z)), List.forall_mem_cons.mpr ⟨(fun _ => v3_X12_keeps (by decide) (by decide) (pz_mt 1427 (by decide +kernel))), List.forall_mem_cons.mpr ⟨(fun _ => v3_X12_asks (by decide) (by decide) (pz_mt 1431 (by decide +kernel))), fun _ h => absurd h List.not_mem_nil⟩⟩⟩⟩) true i k' h rfl
  · exact fun i k' h => pz_ctk (l := ct3_X12_ask) (P := fun b i k => b = false → (pz_cS 6 140 RX12 i k ∨ (k = pz_kac ∧ 1 ≤ 6 ∧ 60 ≤ 140 ∧ Cond.methodLink RX12 i arraycopyName ∈ pz_tbl))) (List.forall_mem_cons.mpr ⟨((fun z => by cases z)), List.forall_mem_cons.mpr ⟨(fun _ => Or.inl (s_X12_isIn (by decide) (by decide) (Or.inl (pz_mt 1217 (by decide +kernel))))), List.forall_mem_cons.mpr ⟨((fun z => by cases z)), List.forall_mem_cons.mpr ⟨((fun z => by cases z)), fun _ h => absurd h List.not_mem_nil⟩⟩⟩⟩) false i k' h rfl
  · intro a M hlen hpre
    obtain ⟨th, i, n, rfl, hpre⟩ : ∃ th i n, a = [.inr (.inr (12, th)), .inl i, .inl n] ∧ (pz_im M) := by
      have hpre : (match (generalizing := false) a with | [.inr (.inr (12, th)), .inl i, .inl n] => pz_im M | _ => False) := hpre
      split at hpre
      · exact ⟨_, _, _, rfl, hpre⟩
      · exact hpre.elim
    exact Nat.le_of_ble_eq_true rfl
  · intro a M hlen hcan hM hpre Ok hgo
    obtain ⟨th, i, n, rfl, hpre⟩ : ∃ th i n, a = [.inr (.inr (12, th)), .inl i, .inl n] ∧ (pz_im M) := by
      have hpre : (match (generalizing := false) a with | [.inr (.inr (12, th)), .inl i, .inl n] => pz_im M | _ => False) := hpre
      split at hpre
      · exact ⟨_, _, _, rfl, hpre⟩
      · exact hpre.elim
    obtain ⟨k_th, hc_th⟩ := pz_tlm hcan
    have k_th : pz_kd th = 12 ∧ th < 231 := k_th
    have R_th := pz_kd12 k_th.1
    subst R_th
    clear k_th
    obtain ⟨k_i, hc_i⟩ := pz_tlm hc_th
    have l_i : -2147483648 ≤ i := k_i.1
    have u_i : i ≤ 2147483647 := k_i.2
    obtain ⟨k_n, hc_n⟩ := pz_tlm hc_i
    have l_n : -2147483648 ≤ n := k_n.1
    have u_n : n ≤ 2147483647 := k_n.2
    have hI : pz_im M := hpre
    have hI0 := hI
    have hS : pz_rl pz_QX M M := pz_rl.rf
    have I88 := hI.1.1
    refine hgo (fun _ => false) 20 0 _ [] M ?_
    refine And.intro (hI) ?_
    intro v2 M2 a2 b2 q2
    obtain ⟨q2, z2⟩ := q2
    subst z2
    clear a2 b2
    refine And.intro (fun h5 => ?_) (fun h5 => ?_)
    · skip
      replace q2 := q2.resolve_left (fun z => absurd (z.1.symm.trans h5) (by decide))
      refine And.intro rfl ?_
      refine ⟨⟨fun _ => ⟨rfl, rfl⟩, fun hp => ?_⟩, hS⟩
      have hp : 0 ≤ i ∧ (1 ≤ n ∧ n ≤ 99) ∧ sd_ca (M 60) i.toNat := hp
      exfalso
      unfold sd_ca sd_in at hp
      rw [show (52 + (i + 1)).toNat = 52 + (i.toNat + 1) by omega, show (76 + (i + 1)).toNat = 76 + (i.toNat + 1) by omega] at q2
      omega
    · skip
      replace q2 := q2.resolve_right (fun z => h5 z.1)
      refine And.intro (True.intro) ?_
      intro v12 M12 a12 b12 q12
      obtain ⟨q12, z12⟩ := q12
      subst z12
      clear a12 b12
      refine And.intro (fun h15 => ?_) (fun h15 => ?_)
      · skip
        replace q12 := q12.resolve_right (fun z => h15 z.1)
        clear h15
        refine And.intro (hI) ?_
        intro M21 q21
        obtain ⟨q21, z21⟩ := q21
        have hS : pz_rl pz_QX M M21 := hS.tr (pz_rl.wk (by intro b j q; unfold pz_QE at q; unfold pz_QX; omega) z21)
        have hI : pz_im M21 := hS.1 hI0
        refine And.intro (And.intro hI (And.intro (by omega) (by omega))) ?_
        intro v27 M27 a27 b27 q27
        obtain ⟨q27, z27⟩ := q27
        have hS : pz_rl pz_QX M M27 := hS.tr (pz_rl.wk (by intro b j q; unfold pz_QD at q; unfold pz_QX; omega) z27)
        have hI : pz_im M27 := hS.1 hI0
        refine And.intro rfl ?_
        refine ⟨⟨fun hn => absurd ?_ hn, fun hp => ?_⟩, hS⟩
        · show 0 ≤ i ∧ (1 ≤ n ∧ n ≤ 99) ∧ sd_ca (M 60) i.toNat
          rw [show (52 + (i + 1)).toNat = 52 + (i.toNat + 1) by omega, show (76 + (i + 1)).toNat = 76 + (i.toNat + 1) by omega] at q2
          unfold sd_ca sd_in
          omega
        · have W : M21 60 = M 60 := funext fun j => z21.2 60 j (by unfold pz_QE; omega)
          have T : sd_Tr M21 = true := by
            unfold sd_Tr
            exact decide_eq_true (by rw [q21.1]; decide)
          have FR : ∀ b j : Nat, b = 62 ∨ (b = 1 ∧ j = 4) → M27 b j = M21 b j := fun b j y => z27.2 b j (by unfold pz_QD; omega)
          refine ⟨⟨(FR 1 4 (by omega)).trans q21.2.1, fun k => (FR 62 k (by omega)).trans (q21.2.2 k)⟩, fun ls hl hq hW => ?_⟩
          rw [W, T] at q27
          exact q27 ls hl hq hW (by have := hp.2.2.1; have := hp.1; omega) hp.2.1
      · skip
        replace q12 := q12.resolve_left (fun z => absurd (z.1.symm.trans h15) (by decide))
        clear h15
        refine And.intro rfl ?_
        refine ⟨⟨fun _ => ⟨rfl, rfl⟩, fun hp => ?_⟩, hS⟩
        have hp : 0 ≤ i ∧ (1 ≤ n ∧ n ≤ 99) ∧ sd_ca (M 60) i.toNat := hp
        exfalso
        unfold sd_ca sd_in at hp
        rw [show (52 + (i + 1)).toNat = 52 + (i.toNat + 1) by omega, show (76 + (i + 1)).toNat = 76 + (i.toNat + 1) by omega] at q2
        omega
theorem v3_X12_ask {fr lo i : Nat} {own : String} (h1 : 6 + 1 ≤ fr) (h2 : 8 + (3 + 11) + 140 ≤ lo) (h3 : .methodLink own i yX12_ask ∈ lw_tbl) : pz_cV fr lo own i k3_X12_ask :=
  pz_cVk (maxL := 3) (fr' := 6) (lo' := 140) 2 12 h3_X12_ask rfl ⟨by decide +kernel, by decide +kernel, by decide +kernel⟩ ⟨(pz_mt 1410 (by decide +kernel)), (pz_mt 1408 (by decide +kernel)), (pz_mt 1409 (by decide +kernel)), (pz_mt 13 (by decide +kernel))⟩ (Or.inl ⟨TX12, 28, rfl⟩) (fun a M _ h => by
    have h : (match (generalizing := false) a with | [.inr (.inr (12, th)), .inl i, .inl n] => pz_im M | _ => False) := h
    split at h
    · exact ⟨_, _, rfl⟩
    · exact h.elim) h1 h2 h3
noncomputable def k3_X12_bridge : pz_C := (2, 1, fun a M => (match a with | [.inr (.inr (12, th)), .inl i] => pz_im M | _ => False), fun a M r M' => (match a, r with | [.inr (.inr (12, th)), .inl i], some (.inl v) => (sd_ma M M' v (0) (fun F => 0 ≤ i ∧ sd_cb F i.toNat) (fun ls F => 1) (fun ls F => sd_bri true F i.toNat)) ∧ pz_rl pz_QX M M' | _, _ => False))
noncomputable abbrev ct3_X12_bridge : List (Bool × Nat × pz_C) := [(true, 336, k3_X12_canBridge), (true, 330, k3_X12_keeps), (true, 339, k3_X12_bridges0)]
set_option maxRecDepth 100000 in
set_option maxHeartbeats 4000000 in
theorem h3_X12_bridge : pz_H yX12_bridge cX12_bridge 2 (some .boolean) k3_X12_bridge 4 85 := by
  refine pz_mk (own := RX12) (tb := t_X12_bridge) (fl := pz_flf fl_RX12) (ci := pz_cif ci_RX12) (ct := pz_ctf ct3_X12_bridge) (rz := true) (by decide +kernel) rfl t_X12_bridge_ok (pz_flk fl_RX12_ok) (pz_cik ci_RX12_ok) ?_ ?_ (Or.inr ⟨rfl, rfl⟩) ?_ ?_
  · exact fun i k' h => pz_ctk (l := ct3_X12_bridge) (P := fun b i k => b = true → pz_cV 4 85 RX12 i k) (List.forall_mem_cons.mpr ⟨(fun _ => v3_X12_canBridge (by decide) (by decide) (pz_mt 1491 (by decide +kernel))), List.forall_mem_cons.mpr ⟨(fun _ => v3_X12_keeps (by decide) (by decide) (pz_mt 1427 (by decide +kernel))), List.forall_mem_cons.mpr ⟨(fun _ => v3_X12_bridges0 (by decide) (by decide) (pz_mt 1495 (by decide +kernel))), fun _ h => absurd h List.not_mem_nil⟩⟩⟩) true i k' h rfl
  · exact fun i k' h => pz_ctk (l := ct3_X12_bridge) (P := fun b i k => b = false → (pz_cS 4 85 RX12 i k ∨ (k = pz_kac ∧ 1 ≤ 4 ∧ 60 ≤ 85 ∧ Cond.methodLink RX12 i arraycopyName ∈ pz_tbl))) (List.forall_mem_cons.mpr ⟨((fun z => by cases z)), List.forall_mem_cons.mpr ⟨((fun z => by cases z)), List.forall_mem_cons.mpr ⟨((fun z => by cases z)), fun _ h => absurd h List.not_mem_nil⟩⟩⟩) false i k' h rfl
  · intro a M hlen hpre
    obtain ⟨th, i, rfl, hpre⟩ : ∃ th i, a = [.inr (.inr (12, th)), .inl i] ∧ (pz_im M) := by
      have hpre : (match (generalizing := false) a with | [.inr (.inr (12, th)), .inl i] => pz_im M | _ => False) := hpre
      split at hpre
      · exact ⟨_, _, rfl, hpre⟩
      · exact hpre.elim
    exact Nat.le_of_ble_eq_true rfl
  · intro a M hlen hcan hM hpre Ok hgo
    obtain ⟨th, i, rfl, hpre⟩ : ∃ th i, a = [.inr (.inr (12, th)), .inl i] ∧ (pz_im M) := by
      have hpre : (match (generalizing := false) a with | [.inr (.inr (12, th)), .inl i] => pz_im M | _ => False) := hpre
      split at hpre
      · exact ⟨_, _, rfl, hpre⟩
      · exact hpre.elim
    obtain ⟨k_th, hc_th⟩ := pz_tlm hcan
    have k_th : pz_kd th = 12 ∧ th < 231 := k_th
    have R_th := pz_kd12 k_th.1
    subst R_th
    clear k_th
    obtain ⟨k_i, hc_i⟩ := pz_tlm hc_th
    have l_i : -2147483648 ≤ i := k_i.1
    have u_i : i ≤ 2147483647 := k_i.2
    have hI : pz_im M := hpre
    have hI0 := hI
    have hS : pz_rl pz_QX M M := pz_rl.rf
    have I88 := hI.1.1
    refine hgo (fun _ => false) 15 0 _ [] M ?_
    refine And.intro (hI) ?_
    intro v2 M2 a2 b2 q2
    obtain ⟨q2, z2⟩ := q2
    subst z2
    clear a2 b2
    refine And.intro (fun h5 => ?_) (fun h5 => ?_)
    · skip
      replace q2 := q2.resolve_right (fun z => h5 z.1)
      refine And.intro (hI) ?_
      intro M11 q11
      obtain ⟨q11, z11⟩ := q11
      have hS : pz_rl pz_QX M M11 := hS.tr (pz_rl.wk (by intro b j q; unfold pz_QE at q; unfold pz_QX; omega) z11)
      have hI : pz_im M11 := hS.1 hI0
      refine And.intro (And.intro hI (And.intro (by omega) (by omega))) ?_
      intro M16 q16
      obtain ⟨q16, z16⟩ := q16
      have hS : pz_rl pz_QX M M16 := hS.tr (pz_rl.wk (by intro b j q; unfold pz_QD at q; unfold pz_QX; omega) z16)
      have hI : pz_im M16 := hS.1 hI0
      refine And.intro (by omega) ?_
      refine And.intro rfl ?_
      refine ⟨⟨fun hn => absurd ?_ hn, fun hp => ?_⟩, hS⟩
      · show 0 ≤ i ∧ sd_cb (M 60) i.toNat
        rw [show (52 + i).toNat = 52 + i.toNat by omega, show (76 + i).toNat = 76 + i.toNat by omega, show (64 + i).toNat = 64 + i.toNat by omega] at q2
        unfold sd_cb sd_in
        omega
      · have W : M11 60 = M 60 := funext fun j => z11.2 60 j (by unfold pz_QE; omega)
        have T : sd_Tr M11 = true := by
          unfold sd_Tr
          exact decide_eq_true (by rw [q11.1]; decide)
        have FR : ∀ b j : Nat, b = 62 ∨ (b = 1 ∧ j = 4) → M16 b j = M11 b j := fun b j y => z16.2 b j (by unfold pz_QD; omega)
        refine ⟨⟨(FR 1 4 (by omega)).trans q11.2.1, fun k => (FR 62 k (by omega)).trans (q11.2.2 k)⟩, fun ls hl hq hW => ?_⟩
        rw [W, T] at q16
        exact ⟨rfl, q16⟩
    · skip
      replace q2 := q2.resolve_left (fun z => absurd (z.1.symm.trans h5) (by decide))
      refine And.intro (by omega) ?_
      refine And.intro rfl ?_
      refine ⟨⟨fun _ => ⟨rfl, rfl⟩, fun hp => ?_⟩, hS⟩
      have hp : 0 ≤ i ∧ sd_cb (M 60) i.toNat := hp
      exfalso
      unfold sd_cb sd_in at hp
      rw [show (52 + i).toNat = 52 + i.toNat by omega, show (76 + i).toNat = 76 + i.toNat by omega, show (64 + i).toNat = 64 + i.toNat by omega] at q2
      omega
theorem v3_X12_bridge {fr lo i : Nat} {own : String} (h1 : 4 + 1 ≤ fr) (h2 : 8 + (2 + 11) + 85 ≤ lo) (h3 : .methodLink own i yX12_bridge ∈ lw_tbl) : pz_cV fr lo own i k3_X12_bridge :=
  pz_cVk (maxL := 2) (fr' := 4) (lo' := 85) 1 12 h3_X12_bridge rfl ⟨by decide +kernel, by decide +kernel, by decide +kernel⟩ ⟨(pz_mt 1490 (by decide +kernel)), (pz_mt 1488 (by decide +kernel)), (pz_mt 1489 (by decide +kernel)), (pz_mt 13 (by decide +kernel))⟩ (Or.inl ⟨TX12, 28, rfl⟩) (fun a M _ h => by
    have h : (match (generalizing := false) a with | [.inr (.inr (12, th)), .inl i] => pz_im M | _ => False) := h
    split at h
    · exact ⟨_, _, rfl⟩
    · exact h.elim) h1 h2 h3
noncomputable def k3_X12_pay : pz_C := (4, 1, fun a M => (match a with | [.inr (.inr (12, th)), .inl i, .inl j, .inl n] => pz_im M | _ => False), fun a M r M' => (match a, r with | [.inr (.inr (12, th)), .inl i, .inl j, .inl n], some (.inl v) => (sd_ma M M' v (0) (fun F => 0 ≤ i ∧ 0 ≤ j ∧ (1 ≤ n ∧ n ≤ 99) ∧ sd_c0 F i.toNat j.toNat n) (fun ls F => 1) (fun ls F => sd_pys true F i.toNat j.toNat n)) ∧ pz_rl pz_QX M M' | _, _ => False))
noncomputable abbrev ct3_X12_pay : List (Bool × Nat × pz_C) := [(false, 54, k_X12_isIn), (true, 343, k3_X12_canPay0), (true, 330, k3_X12_keeps), (true, 346, k3_X12_pays)]
set_option maxRecDepth 100000 in
set_option maxHeartbeats 4000000 in
theorem h3_X12_pay : pz_H yX12_pay cX12_pay 4 (some .boolean) k3_X12_pay 3 66 := by
  refine pz_mk (own := RX12) (tb := t_X12_pay) (fl := pz_flf fl_RX12) (ci := pz_cif ci_RX12) (ct := pz_ctf ct3_X12_pay) (rz := true) (by decide +kernel) rfl t_X12_pay_ok (pz_flk fl_RX12_ok) (pz_cik ci_RX12_ok) ?_ ?_ (Or.inr ⟨rfl, rfl⟩) ?_ ?_
  · exact fun i k' h => pz_ctk (l := ct3_X12_pay) (P := fun b i k => b = true → pz_cV 3 66 RX12 i k) (List.forall_mem_cons.mpr ⟨((fun z => by cases z)), List.forall_mem_cons.mpr ⟨(fun _ => v3_X12_canPay0 (by decide) (by decide) (pz_mt 1503 (by decide +kernel))), List.forall_mem_cons.mpr ⟨(fun _ => v3_X12_keeps (by decide) (by decide) (pz_mt 1427 (by decide +kernel))), List.forall_mem_cons.mpr ⟨(fun _ => v3_X12_pays (by decide) (by decide) (pz_mt 1507 (by decide +kernel))), fun _ h => absurd h List.not_mem_nil⟩⟩⟩⟩) true i k' h rfl
  · exact fun i k' h => pz_ctk (l := ct3_X12_pay) (P := fun b i k => b = false → (pz_cS 3 66 RX12 i k ∨ (k = pz_kac ∧ 1 ≤ 3 ∧ 60 ≤ 66 ∧ Cond.methodLink RX12 i arraycopyName ∈ pz_tbl))) (List.forall_mem_cons.mpr ⟨(fun _ => Or.inl (s_X12_isIn (by decide) (by decide) (Or.inl (pz_mt 1217 (by decide +kernel))))), List.forall_mem_cons.mpr ⟨((fun z => by cases z)), List.forall_mem_cons.mpr ⟨((fun z => by cases z)), List.forall_mem_cons.mpr ⟨((fun z => by cases z)), fun _ h => absurd h List.not_mem_nil⟩⟩⟩⟩) false i k' h rfl
  · intro a M hlen hpre
    obtain ⟨th, i, j, n, rfl, hpre⟩ : ∃ th i j n, a = [.inr (.inr (12, th)), .inl i, .inl j, .inl n] ∧ (pz_im M) := by
      have hpre : (match (generalizing := false) a with | [.inr (.inr (12, th)), .inl i, .inl j, .inl n] => pz_im M | _ => False) := hpre
      split at hpre
      · exact ⟨_, _, _, _, rfl, hpre⟩
      · exact hpre.elim
    exact Nat.le_of_ble_eq_true rfl
  · intro a M hlen hcan hM hpre Ok hgo
    obtain ⟨th, i, j, n, rfl, hpre⟩ : ∃ th i j n, a = [.inr (.inr (12, th)), .inl i, .inl j, .inl n] ∧ (pz_im M) := by
      have hpre : (match (generalizing := false) a with | [.inr (.inr (12, th)), .inl i, .inl j, .inl n] => pz_im M | _ => False) := hpre
      split at hpre
      · exact ⟨_, _, _, _, rfl, hpre⟩
      · exact hpre.elim
    obtain ⟨k_th, hc_th⟩ := pz_tlm hcan
    have k_th : pz_kd th = 12 ∧ th < 231 := k_th
    have R_th := pz_kd12 k_th.1
    subst R_th
    clear k_th
    obtain ⟨k_i, hc_i⟩ := pz_tlm hc_th
    have l_i : -2147483648 ≤ i := k_i.1
    have u_i : i ≤ 2147483647 := k_i.2
    obtain ⟨k_j, hc_j⟩ := pz_tlm hc_i
    have l_j : -2147483648 ≤ j := k_j.1
    have u_j : j ≤ 2147483647 := k_j.2
    obtain ⟨k_n, hc_n⟩ := pz_tlm hc_j
    have l_n : -2147483648 ≤ n := k_n.1
    have u_n : n ≤ 2147483647 := k_n.2
    have hI : pz_im M := hpre
    have hI0 := hI
    have hS : pz_rl pz_QX M M := pz_rl.rf
    have I88 := hI.1.1
    refine hgo (fun _ => false) 24 0 _ [] M ?_
    refine And.intro (True.intro) ?_
    intro v4 M4 a4 b4 q4
    obtain ⟨q4, z4⟩ := q4
    subst z4
    clear a4 b4
    refine And.intro (fun h7 => ?_) (fun h7 => ?_)
    · skip
      replace q4 := q4.resolve_left (fun z => absurd (z.1.symm.trans h7) (by decide))
      clear h7
      refine And.intro (by omega) ?_
      refine And.intro rfl ?_
      refine ⟨⟨fun _ => ⟨rfl, rfl⟩, fun hp => ?_⟩, hS⟩
      have hp : 0 ≤ i ∧ 0 ≤ j ∧ (1 ≤ n ∧ n ≤ 99) ∧ sd_c0 (M 60) i.toNat j.toNat n := hp
      exfalso
      unfold sd_c0 at hp
      first
        | omega
        | (rw [show (16 + i).toNat = 16 + i.toNat by omega, show (16 + j).toNat = 16 + j.toNat by omega] at q14
           omega)
    · skip
      replace q4 := q4.resolve_right (fun z => h7 z.1)
      clear h7
      refine And.intro (hI) ?_
      intro v14 M14 a14 b14 q14
      obtain ⟨q14, z14⟩ := q14
      subst z14
      clear a14 b14
      refine And.intro (fun h17 => ?_) (fun h17 => ?_)
      · skip
        replace q14 := q14.resolve_right (fun z => h17 z.1)
        refine And.intro (hI) ?_
        intro M23 q23
        obtain ⟨q23, z23⟩ := q23
        have hS : pz_rl pz_QX M M23 := hS.tr (pz_rl.wk (by intro b j q; unfold pz_QE at q; unfold pz_QX; omega) z23)
        have hI : pz_im M23 := hS.1 hI0
        refine And.intro (And.intro hI (And.intro (by omega) (And.intro (by omega) (And.intro (by omega) (by omega))))) ?_
        intro M30 q30
        obtain ⟨q30, z30⟩ := q30
        have hS : pz_rl pz_QX M M30 := hS.tr (pz_rl.wk (by intro b j q; unfold pz_QD at q; unfold pz_QX; omega) z30)
        have hI : pz_im M30 := hS.1 hI0
        refine And.intro (by omega) ?_
        refine And.intro rfl ?_
        refine ⟨⟨fun hn => absurd ?_ hn, fun hp => ?_⟩, hS⟩
        · show 0 ≤ i ∧ 0 ≤ j ∧ (1 ≤ n ∧ n ≤ 99) ∧ sd_c0 (M 60) i.toNat j.toNat n
          rw [show (16 + i).toNat = 16 + i.toNat by omega, show (16 + j).toNat = 16 + j.toNat by omega] at q14
          unfold sd_c0
          omega
        · have W : M23 60 = M 60 := funext fun j => z23.2 60 j (by unfold pz_QE; omega)
          have T : sd_Tr M23 = true := by
            unfold sd_Tr
            exact decide_eq_true (by rw [q23.1]; decide)
          have FR : ∀ b j : Nat, b = 62 ∨ (b = 1 ∧ j = 4) → M30 b j = M23 b j := fun b j y => z30.2 b j (by unfold pz_QD; omega)
          refine ⟨⟨(FR 1 4 (by omega)).trans q23.2.1, fun k => (FR 62 k (by omega)).trans (q23.2.2 k)⟩, fun ls hl hq hW => ?_⟩
          rw [W, T] at q30
          exact ⟨rfl, q30 hW hp.2.2.2 hp.2.2.1⟩
      · skip
        replace q14 := q14.resolve_left (fun z => absurd (z.1.symm.trans h17) (by decide))
        refine And.intro (by omega) ?_
        refine And.intro rfl ?_
        refine ⟨⟨fun _ => ⟨rfl, rfl⟩, fun hp => ?_⟩, hS⟩
        have hp : 0 ≤ i ∧ 0 ≤ j ∧ (1 ≤ n ∧ n ≤ 99) ∧ sd_c0 (M 60) i.toNat j.toNat n := hp
        exfalso
        unfold sd_c0 at hp
        first
          | omega
          | (rw [show (16 + i).toNat = 16 + i.toNat by omega, show (16 + j).toNat = 16 + j.toNat by omega] at q14
             omega)
theorem v3_X12_pay {fr lo i : Nat} {own : String} (h1 : 3 + 1 ≤ fr) (h2 : 8 + (4 + 11) + 66 ≤ lo) (h3 : .methodLink own i yX12_pay ∈ lw_tbl) : pz_cV fr lo own i k3_X12_pay :=
  pz_cVk (maxL := 4) (fr' := 3) (lo' := 66) 3 12 h3_X12_pay rfl ⟨by decide +kernel, by decide +kernel, by decide +kernel⟩ ⟨(pz_mt 1502 (by decide +kernel)), (pz_mt 1500 (by decide +kernel)), (pz_mt 1501 (by decide +kernel)), (pz_mt 13 (by decide +kernel))⟩ (Or.inl ⟨TX12, 28, rfl⟩) (fun a M _ h => by
    have h : (match (generalizing := false) a with | [.inr (.inr (12, th)), .inl i, .inl j, .inl n] => pz_im M | _ => False) := h
    split at h
    · exact ⟨_, _, rfl⟩
    · exact h.elim) h1 h2 h3
noncomputable def k3_X12_paper : pz_C := (2, 1, fun a M => (match a with | [.inr (.inr (12, th)), .inl i] => pz_im M | _ => False), fun a M r M' => (match a, r with | [.inr (.inr (12, th)), .inl i], some (.inl v) => (sd_ma M M' v (0) (fun F => 0 ≤ i ∧ sd_cp F i.toNat) (fun ls F => 1) (fun ls F => sd_get true F i.toNat)) ∧ pz_rl pz_QX M M' | _, _ => False))
noncomputable abbrev ct3_X12_paper : List (Bool × Nat × pz_C) := [(true, 349, k3_X12_canPaper), (true, 330, k3_X12_keeps), (true, 352, k3_X12_getsReady)]
set_option maxRecDepth 100000 in
set_option maxHeartbeats 4000000 in
theorem h3_X12_paper : pz_H yX12_paper cX12_paper 2 (some .boolean) k3_X12_paper 4 85 := by
  refine pz_mk (own := RX12) (tb := t_X12_paper) (fl := pz_flf fl_RX12) (ci := pz_cif ci_RX12) (ct := pz_ctf ct3_X12_paper) (rz := true) (by decide +kernel) rfl t_X12_paper_ok (pz_flk fl_RX12_ok) (pz_cik ci_RX12_ok) ?_ ?_ (Or.inr ⟨rfl, rfl⟩) ?_ ?_
  · exact fun i k' h => pz_ctk (l := ct3_X12_paper) (P := fun b i k => b = true → pz_cV 4 85 RX12 i k) (List.forall_mem_cons.mpr ⟨(fun _ => v3_X12_canPaper (by decide) (by decide) (pz_mt 1515 (by decide +kernel))), List.forall_mem_cons.mpr ⟨(fun _ => v3_X12_keeps (by decide) (by decide) (pz_mt 1427 (by decide +kernel))), List.forall_mem_cons.mpr ⟨(fun _ => v3_X12_getsReady (by decide) (by decide) (pz_mt 1519 (by decide +kernel))), fun _ h => absurd h List.not_mem_nil⟩⟩⟩) true i k' h rfl
  · exact fun i k' h => pz_ctk (l := ct3_X12_paper) (P := fun b i k => b = false → (pz_cS 4 85 RX12 i k ∨ (k = pz_kac ∧ 1 ≤ 4 ∧ 60 ≤ 85 ∧ Cond.methodLink RX12 i arraycopyName ∈ pz_tbl))) (List.forall_mem_cons.mpr ⟨((fun z => by cases z)), List.forall_mem_cons.mpr ⟨((fun z => by cases z)), List.forall_mem_cons.mpr ⟨((fun z => by cases z)), fun _ h => absurd h List.not_mem_nil⟩⟩⟩) false i k' h rfl
  · intro a M hlen hpre
    obtain ⟨th, i, rfl, hpre⟩ : ∃ th i, a = [.inr (.inr (12, th)), .inl i] ∧ (pz_im M) := by
      have hpre : (match (generalizing := false) a with | [.inr (.inr (12, th)), .inl i] => pz_im M | _ => False) := hpre
      split at hpre
      · exact ⟨_, _, rfl, hpre⟩
      · exact hpre.elim
    exact Nat.le_of_ble_eq_true rfl
  · intro a M hlen hcan hM hpre Ok hgo
    obtain ⟨th, i, rfl, hpre⟩ : ∃ th i, a = [.inr (.inr (12, th)), .inl i] ∧ (pz_im M) := by
      have hpre : (match (generalizing := false) a with | [.inr (.inr (12, th)), .inl i] => pz_im M | _ => False) := hpre
      split at hpre
      · exact ⟨_, _, rfl, hpre⟩
      · exact hpre.elim
    obtain ⟨k_th, hc_th⟩ := pz_tlm hcan
    have k_th : pz_kd th = 12 ∧ th < 231 := k_th
    have R_th := pz_kd12 k_th.1
    subst R_th
    clear k_th
    obtain ⟨k_i, hc_i⟩ := pz_tlm hc_th
    have l_i : -2147483648 ≤ i := k_i.1
    have u_i : i ≤ 2147483647 := k_i.2
    have hI : pz_im M := hpre
    have hI0 := hI
    have hS : pz_rl pz_QX M M := pz_rl.rf
    have I88 := hI.1.1
    refine hgo (fun _ => false) 15 0 _ [] M ?_
    refine And.intro (hI) ?_
    intro v2 M2 a2 b2 q2
    obtain ⟨q2, z2⟩ := q2
    subst z2
    clear a2 b2
    refine And.intro (fun h5 => ?_) (fun h5 => ?_)
    · skip
      replace q2 := q2.resolve_right (fun z => h5 z.1)
      refine And.intro (hI) ?_
      intro M11 q11
      obtain ⟨q11, z11⟩ := q11
      have hS : pz_rl pz_QX M M11 := hS.tr (pz_rl.wk (by intro b j q; unfold pz_QE at q; unfold pz_QX; omega) z11)
      have hI : pz_im M11 := hS.1 hI0
      refine And.intro (And.intro hI (And.intro (by omega) (by omega))) ?_
      intro M16 q16
      obtain ⟨q16, z16⟩ := q16
      have hS : pz_rl pz_QX M M16 := hS.tr (pz_rl.wk (by intro b j q; unfold pz_QD at q; unfold pz_QX; omega) z16)
      have hI : pz_im M16 := hS.1 hI0
      refine And.intro (by omega) ?_
      refine And.intro rfl ?_
      refine ⟨⟨fun hn => absurd ?_ hn, fun hp => ?_⟩, hS⟩
      · show 0 ≤ i ∧ sd_cp (M 60) i.toNat
        rw [show (52 + i).toNat = 52 + i.toNat by omega, show (76 + i).toNat = 76 + i.toNat by omega, show (40 + i).toNat = 40 + i.toNat by omega] at q2
        unfold sd_cp sd_in
        omega
      · have W : M11 60 = M 60 := funext fun j => z11.2 60 j (by unfold pz_QE; omega)
        have T : sd_Tr M11 = true := by
          unfold sd_Tr
          exact decide_eq_true (by rw [q11.1]; decide)
        have FR : ∀ b j : Nat, b = 62 ∨ (b = 1 ∧ j = 4) → M16 b j = M11 b j := fun b j y => z16.2 b j (by unfold pz_QD; omega)
        refine ⟨⟨(FR 1 4 (by omega)).trans q11.2.1, fun k => (FR 62 k (by omega)).trans (q11.2.2 k)⟩, fun ls hl hq hW => ?_⟩
        rw [W, T] at q16
        exact ⟨rfl, q16⟩
    · skip
      replace q2 := q2.resolve_left (fun z => absurd (z.1.symm.trans h5) (by decide))
      refine And.intro (by omega) ?_
      refine And.intro rfl ?_
      refine ⟨⟨fun _ => ⟨rfl, rfl⟩, fun hp => ?_⟩, hS⟩
      have hp : 0 ≤ i ∧ sd_cp (M 60) i.toNat := hp
      exfalso
      unfold sd_cp sd_in at hp
      rw [show (52 + i).toNat = 52 + i.toNat by omega, show (76 + i).toNat = 76 + i.toNat by omega, show (40 + i).toNat = 40 + i.toNat by omega] at q2
      omega
theorem v3_X12_paper {fr lo i : Nat} {own : String} (h1 : 4 + 1 ≤ fr) (h2 : 8 + (2 + 11) + 85 ≤ lo) (h3 : .methodLink own i yX12_paper ∈ lw_tbl) : pz_cV fr lo own i k3_X12_paper :=
  pz_cVk (maxL := 2) (fr' := 4) (lo' := 85) 1 12 h3_X12_paper rfl ⟨by decide +kernel, by decide +kernel, by decide +kernel⟩ ⟨(pz_mt 1514 (by decide +kernel)), (pz_mt 1512 (by decide +kernel)), (pz_mt 1513 (by decide +kernel)), (pz_mt 13 (by decide +kernel))⟩ (Or.inl ⟨TX12, 28, rfl⟩) (fun a M _ h => by
    have h : (match (generalizing := false) a with | [.inr (.inr (12, th)), .inl i] => pz_im M | _ => False) := h
    split at h
    · exact ⟨_, _, rfl⟩
    · exact h.elim) h1 h2 h3
noncomputable def k3_X12_join : pz_C := (2, 1, fun a M => (match a with | [.inr (.inr (12, th)), .inl i] => pz_im M | _ => False), fun a M r M' => (match a, r with | [.inr (.inr (12, th)), .inl i], some (.inl v) => (sd_ma M M' v (0) (fun F => 0 ≤ i ∧ i < F 88 ∧ F (52 + i.toNat) = 1) (fun ls F => 1) (fun ls F => sd_joi true F i.toNat)) ∧ pz_rl pz_QX M M' | _, _ => False))
noncomputable abbrev ct3_X12_join : List (Bool × Nat × pz_C) := [(true, 58, k_X12_isLink), (true, 62, k3_X12_isOut), (true, 330, k3_X12_keeps), (true, 323, k3_X12_notes)]
set_option maxRecDepth 100000 in
set_option maxHeartbeats 4000000 in
theorem h3_X12_join : pz_H yX12_join cX12_join 2 (some .boolean) k3_X12_join 2 43 := by
  refine pz_mk (own := RX12) (tb := t_X12_join) (fl := pz_flf fl_RX12) (ci := pz_cif ci_RX12) (ct := pz_ctf ct3_X12_join) (rz := true) (by decide +kernel) rfl t_X12_join_ok (pz_flk fl_RX12_ok) (pz_cik ci_RX12_ok) ?_ ?_ (Or.inr ⟨rfl, rfl⟩) ?_ ?_
  · exact fun i k' h => pz_ctk (l := ct3_X12_join) (P := fun b i k => b = true → pz_cV 2 43 RX12 i k) (List.forall_mem_cons.mpr ⟨(fun _ => v_X12_isLink (by decide) (by decide) (pz_mt 1224 (by decide +kernel))), List.forall_mem_cons.mpr ⟨(fun _ => v3_X12_isOut (by decide) (by decide) (pz_mt 1419 (by decide +kernel))), List.forall_mem_cons.mpr ⟨(fun _ => v3_X12_keeps (by decide) (by decide) (pz_mt 1427 (by decide +kernel))), List.forall_mem_cons.mpr ⟨(fun _ => v3_X12_notes (by decide) (by decide) (pz_mt 1483 (by decide +kernel))), fun _ h => absurd h List.not_mem_nil⟩⟩⟩⟩) true i k' h rfl
  · exact fun i k' h => pz_ctk (l := ct3_X12_join) (P := fun b i k => b = false → (pz_cS 2 43 RX12 i k ∨ (k = pz_kac ∧ 1 ≤ 2 ∧ 60 ≤ 43 ∧ Cond.methodLink RX12 i arraycopyName ∈ pz_tbl))) (List.forall_mem_cons.mpr ⟨((fun z => by cases z)), List.forall_mem_cons.mpr ⟨((fun z => by cases z)), List.forall_mem_cons.mpr ⟨((fun z => by cases z)), List.forall_mem_cons.mpr ⟨((fun z => by cases z)), fun _ h => absurd h List.not_mem_nil⟩⟩⟩⟩) false i k' h rfl
  · intro a M hlen hpre
    obtain ⟨th, i, rfl, hpre⟩ : ∃ th i, a = [.inr (.inr (12, th)), .inl i] ∧ (pz_im M) := by
      have hpre : (match (generalizing := false) a with | [.inr (.inr (12, th)), .inl i] => pz_im M | _ => False) := hpre
      split at hpre
      · exact ⟨_, _, rfl, hpre⟩
      · exact hpre.elim
    exact Nat.le_of_ble_eq_true rfl
  · intro a M hlen hcan hM hpre Ok hgo
    obtain ⟨th, i, rfl, hpre⟩ : ∃ th i, a = [.inr (.inr (12, th)), .inl i] ∧ (pz_im M) := by
      have hpre : (match (generalizing := false) a with | [.inr (.inr (12, th)), .inl i] => pz_im M | _ => False) := hpre
      split at hpre
      · exact ⟨_, _, rfl, hpre⟩
      · exact hpre.elim
    obtain ⟨k_th, hc_th⟩ := pz_tlm hcan
    have k_th : pz_kd th = 12 ∧ th < 231 := k_th
    have R_th := pz_kd12 k_th.1
    subst R_th
    clear k_th
    obtain ⟨k_i, hc_i⟩ := pz_tlm hc_th
    have l_i : -2147483648 ≤ i := k_i.1
    have u_i : i ≤ 2147483647 := k_i.2
    have hI : pz_im M := hpre
    have hI0 := hI
    have hS : pz_rl pz_QX M M := pz_rl.rf
    have I88 := hI.1.1
    refine hgo (fun _ => false) 35 0 _ [] M ?_
    refine And.intro (hI) ?_
    intro v2 M2 a2 b2 q2
    obtain ⟨q2, z2⟩ := q2
    subst z2
    clear a2 b2
    refine And.intro (fun h5 => ?_) (fun h5 => ?_)
    · skip
      replace q2 := q2.resolve_left (fun z => absurd (z.1.symm.trans h5) (by decide))
      clear h5
      refine And.intro (by omega) ?_
      refine And.intro rfl ?_
      refine ⟨⟨fun _ => ⟨rfl, rfl⟩, fun hp => ?_⟩, hS⟩
      have hp : 0 ≤ i ∧ i < M 60 88 ∧ M 60 (52 + i.toNat) = 1 := hp
      exfalso
      first
        | omega
        | (rw [show (52 + i).toNat = 52 + i.toNat by omega] at q10
           omega)
    · skip
      replace q2 := q2.resolve_right (fun z => h5 z.1)
      clear h5
      refine And.intro (And.intro hI (And.intro (by omega) (by omega))) ?_
      intro v10 M10 a10 b10 q10
      obtain ⟨q10, z10⟩ := q10
      subst z10
      clear a10 b10
      refine And.intro (fun h13 => ?_) (fun h13 => ?_)
      · skip
        replace q10 := q10.resolve_right (fun z => h13 z.1)
        refine And.intro (hI) ?_
        intro M19 q19
        obtain ⟨q19, z19⟩ := q19
        have hS : pz_rl pz_QX M M19 := hS.tr (pz_rl.wk (by intro b j q; unfold pz_QE at q; unfold pz_QX; omega) z19)
        have hI : pz_im M19 := hS.1 hI0
        refine pz_nrc (c := 60) rfl ?_
        intro v29 e29 a29 b29
        rw [pz_wi (by omega) (by omega)] at e29
        clear a29 b29
        refine And.intro (by omega) (And.intro (show _ < (1725 : Int) from by omega) ?_)
        intro M31 e31
        have hS : pz_rl pz_QX M M31 := by
          rw [e31]
          exact pz_rl_u hS (by unfold pz_QX; omega) (pz_iom_w1 (by omega) (by omega))
        have hI : pz_im M31 := hS.1 hI0
        refine pz_nrc (c := 60) rfl ?_
        intro v39 e39 a39 b39
        rw [pz_wi (by omega) (by omega)] at e39
        clear a39 b39
        refine And.intro (by omega) (And.intro (show _ < (1725 : Int) from by omega) ?_)
        intro M41 e41
        have hS : pz_rl pz_QX M M41 := by
          rw [e41]
          exact pz_rl_u hS (by unfold pz_QX; omega) (pz_iom_w1 (by omega) (by omega))
        have hI : pz_im M41 := hS.1 hI0
        refine And.intro (hI) ?_
        intro M47 q47
        obtain ⟨q47, z47⟩ := q47
        have hS : pz_rl pz_QX M M47 := hS.tr (pz_rl.wk (by intro b j q; unfold pz_QD at q; unfold pz_QX; omega) z47)
        have hI : pz_im M47 := hS.1 hI0
        refine And.intro (by omega) ?_
        refine And.intro rfl ?_
        refine ⟨⟨fun hn => absurd ?_ hn, fun hp => ?_⟩, hS⟩
        · show 0 ≤ i ∧ i < M 60 88 ∧ M 60 (52 + i.toNat) = 1
          rw [show (52 + i).toNat = 52 + i.toNat by omega] at q10
          omega
        · have W : M19 60 = M 60 := funext fun j => z19.2 60 j (by unfold pz_QE; omega)
          have T : sd_Tr M19 = true := by
            unfold sd_Tr
            exact decide_eq_true (by rw [q19.1]; decide)
          have FR : ∀ b j : Nat, b = 62 ∨ (b = 1 ∧ j = 4) → M47 b j = M19 b j := fun b j y => (z47.2 b j (by unfold pz_QD; omega)).trans (by rw [e41, pz_una (by omega), e31, pz_una (by omega)])
          refine ⟨⟨(FR 1 4 (by omega)).trans q19.2.1, fun k => (FR 62 k (by omega)).trans (q19.2.2 k)⟩, fun ls hl hq hW => ?_⟩
          have T41 : sd_Tr M41 = true := by
            unfold sd_Tr
            rw [e41, pz_una (by decide), e31, pz_una (by decide)]
            exact T
          rw [T41, e41, sd_um, e31, sd_um, W, show v29.toNat = 52 + i.toNat by omega, show v39.toNat = 40 + i.toNat by omega] at q47
          refine ⟨rfl, ?_⟩
          rw [q47]
          show sd_note true _ 6 i 0 = sd_note true _ 6 ((i.toNat : Nat) : Int) 0
          rw [show ((i.toNat : Nat) : Int) = i by omega]
      · skip
        replace q10 := q10.resolve_left (fun z => absurd (z.1.symm.trans h13) (by decide))
        refine And.intro (by omega) ?_
        refine And.intro rfl ?_
        refine ⟨⟨fun _ => ⟨rfl, rfl⟩, fun hp => ?_⟩, hS⟩
        have hp : 0 ≤ i ∧ i < M 60 88 ∧ M 60 (52 + i.toNat) = 1 := hp
        exfalso
        first
          | omega
          | (rw [show (52 + i).toNat = 52 + i.toNat by omega] at q10
             omega)
theorem v3_X12_join {fr lo i : Nat} {own : String} (h1 : 2 + 1 ≤ fr) (h2 : 8 + (2 + 11) + 43 ≤ lo) (h3 : .methodLink own i yX12_join ∈ lw_tbl) : pz_cV fr lo own i k3_X12_join :=
  pz_cVk (maxL := 2) (fr' := 2) (lo' := 43) 1 12 h3_X12_join rfl ⟨by decide +kernel, by decide +kernel, by decide +kernel⟩ ⟨(pz_mt 1526 (by decide +kernel)), (pz_mt 1524 (by decide +kernel)), (pz_mt 1525 (by decide +kernel)), (pz_mt 13 (by decide +kernel))⟩ (Or.inl ⟨TX12, 28, rfl⟩) (fun a M _ h => by
    have h : (match (generalizing := false) a with | [.inr (.inr (12, th)), .inl i] => pz_im M | _ => False) := h
    split at h
    · exact ⟨_, _, rfl⟩
    · exact h.elim) h1 h2 h3
noncomputable def k3_X12_days : pz_C := (2, 1, fun a M => (match a with | [.inr (.inr (12, th)), .inl n] => pz_im M | _ => False), fun a M r M' => (match a, r with | [.inr (.inr (12, th)), .inl n], some (.inl v) => (sd_dm M M' n v) ∧ pz_rl pz_QX M M' | _, _ => False))
noncomputable abbrev ct3_X12_days : List (Bool × Nat × pz_C) := [(false, 54, k_X12_isIn), (true, 330, k3_X12_keeps), (true, 388, k3_X12_aDay)]
set_option maxRecDepth 100000 in
set_option maxHeartbeats 4000000 in
theorem h3_X12_days : pz_H yX12_days cX12_days 4 (some .int) k3_X12_days 8 184 := by
  refine pz_mk (own := RX12) (tb := t_X12_days) (fl := pz_flf fl_RX12) (ci := pz_cif ci_RX12) (ct := pz_ctf ct3_X12_days) (rz := false) (by decide +kernel) rfl t_X12_days_ok (pz_flk fl_RX12_ok) (pz_cik ci_RX12_ok) ?_ ?_ (Or.inl ⟨rfl, rfl⟩) ?_ ?_
  · exact fun i k' h => pz_ctk (l := ct3_X12_days) (P := fun b i k => b = true → pz_cV 8 184 RX12 i k) (List.forall_mem_cons.mpr ⟨((fun z => by cases z)), List.forall_mem_cons.mpr ⟨(fun _ => v3_X12_keeps (by decide) (by decide) (pz_mt 1427 (by decide +kernel))), List.forall_mem_cons.mpr ⟨(fun _ => v3_X12_aDay (by decide) (by decide) (pz_mt 1531 (by decide +kernel))), fun _ h => absurd h List.not_mem_nil⟩⟩⟩) true i k' h rfl
  · exact fun i k' h => pz_ctk (l := ct3_X12_days) (P := fun b i k => b = false → (pz_cS 8 184 RX12 i k ∨ (k = pz_kac ∧ 1 ≤ 8 ∧ 60 ≤ 184 ∧ Cond.methodLink RX12 i arraycopyName ∈ pz_tbl))) (List.forall_mem_cons.mpr ⟨(fun _ => Or.inl (s_X12_isIn (by decide) (by decide) (Or.inl (pz_mt 1217 (by decide +kernel))))), List.forall_mem_cons.mpr ⟨((fun z => by cases z)), List.forall_mem_cons.mpr ⟨((fun z => by cases z)), fun _ h => absurd h List.not_mem_nil⟩⟩⟩) false i k' h rfl
  · intro a M hlen hpre
    obtain ⟨th, n, rfl, hpre⟩ : ∃ th n, a = [.inr (.inr (12, th)), .inl n] ∧ (pz_im M) := by
      have hpre : (match (generalizing := false) a with | [.inr (.inr (12, th)), .inl n] => pz_im M | _ => False) := hpre
      split at hpre
      · exact ⟨_, _, rfl, hpre⟩
      · exact hpre.elim
    exact Nat.le_of_ble_eq_true rfl
  · intro a M hlen hcan hM hpre Ok hgo
    obtain ⟨th, n, rfl, hpre⟩ : ∃ th n, a = [.inr (.inr (12, th)), .inl n] ∧ (pz_im M) := by
      have hpre : (match (generalizing := false) a with | [.inr (.inr (12, th)), .inl n] => pz_im M | _ => False) := hpre
      split at hpre
      · exact ⟨_, _, rfl, hpre⟩
      · exact hpre.elim
    obtain ⟨k_th, hc_th⟩ := pz_tlm hcan
    have k_th : pz_kd th = 12 ∧ th < 231 := k_th
    have R_th := pz_kd12 k_th.1
    subst R_th
    clear k_th
    obtain ⟨k_n, hc_n⟩ := pz_tlm hc_th
    have l_n : -2147483648 ≤ n := k_n.1
    have u_n : n ≤ 2147483647 := k_n.2
    have hI : pz_im M := hpre
    have hI0 := hI
    have hS : pz_rl pz_QX M M := pz_rl.rf
    have L30 : ∀ (fu : Nat) (x2 : Int) (x3 : Int) (N30 : pz_M), (60 - x3).toNat < fu → (pz_rl pz_QX M N30) → (0 ≤ x3) → (n ≤ 60) → (x3 ≤ n) → (1 ≤ n) → (sd_dmI M N30 n x3 x2) → (pz_w (M 60 0 + n) ≤ 9999) → Ok 30 [some (.inr (.inr (12, 1))), some (.inl n), some (.inl x2), some (.inl x3)] [] N30 := by
      intro fu
      induction fu with
      | zero => exact fun _ _ _ hn => absurd hn (Nat.not_lt_zero _)
      | succ fu ih30 =>
        intro x2 x3 N30 hn30 hS g30_1 g30_2 g30_3 g30_4 g30_5 g30_6
        have hI : pz_im N30 := hS.1 hI0
        have hS30 := hS
        refine hgo (fun p => Nat.beq p 30) 35 30 _ _ _ ?_
        refine And.intro (fun h32 => ?_) (fun h32 => ?_)
        · skip
          refine And.intro rfl ?_
          have G53 : sd_dmI M N30 n x3 x2 := by assumption
          refine ⟨⟨fun hn => absurd ?_ hn, fun _ => sd_dmI_z G53 (by omega)⟩, hS⟩
          unfold sd_dn
          omega
        · skip
          refine And.intro (hI) ?_
          intro M36 q36
          obtain ⟨q36, z36⟩ := q36
          have hS : pz_rl pz_QX M M36 := hS.tr (pz_rl.wk (by intro b j q; unfold pz_QE at q; unfold pz_QX; omega) z36)
          have hI : pz_im M36 := hS.1 hI0
          refine And.intro (hI) ?_
          intro v41 M41 a41 b41 q41
          obtain ⟨q41, z41⟩ := q41
          have hS : pz_rl pz_QX M M41 := hS.tr (pz_rl.wk (by intro b j q; unfold pz_QD at q; unfold pz_QX; omega) z41)
          have hI : pz_im M41 := hS.1 hI0
          intro v44 e44 a44 b44
          intro v46 e46 a46 b46
          rw [pz_wi (by omega) (by omega)] at e46
          have G46 : sd_dmI M M41 n v46 v44 := sd_dmI_s (by assumption) (by omega) e46 q36 z36 q41 z41 e44
          exact ih30 _ _ _ (by omega) hS (by first | omega | assumption | exact sd_dmI_0) (by first | omega | assumption | exact sd_dmI_0) (by first | omega | assumption | exact sd_dmI_0) (by first | omega | assumption | exact sd_dmI_0) (by first | omega | assumption | exact sd_dmI_0) (by first | omega | assumption | exact sd_dmI_0)
    refine hgo (fun p => Nat.beq p 30) 35 0 _ [] M ?_
    refine And.intro (True.intro) ?_
    intro v4 M4 a4 b4 q4
    obtain ⟨q4, z4⟩ := q4
    subst z4
    clear a4 b4
    refine And.intro (fun h7 => ?_) (fun h7 => ?_)
    · skip
      replace q4 := q4.resolve_left (fun z => absurd (z.1.symm.trans h7) (by decide))
      clear h7
      refine And.intro rfl ?_
      refine ⟨⟨fun _ => ⟨rfl, rfl⟩, fun hp => ?_⟩, hS⟩
      unfold sd_dn at hp
      exfalso
      first
        | omega
        | (rw [e17, e15] at h21
           omega)
    · skip
      replace q4 := q4.resolve_right (fun z => h7 z.1)
      clear h7
      refine pz_nrc (c := 60) rfl ?_
      refine And.intro (by omega) (And.intro (show _ < (1725 : Int) from by omega) ?_)
      intro v15 e15 a15 b15
      replace e15 : v15 = M 60 0 := e15
      intro v17 e17 a17 b17
      refine And.intro (fun h21 => ?_) (fun h21 => ?_)
      · skip
        rw [e17, e15] at h21
        exact L30 _ _ _ _ (Nat.lt_succ_self _) hS (by first | omega | assumption | exact sd_dmI_0) (by first | omega | assumption | exact sd_dmI_0) (by first | omega | assumption | exact sd_dmI_0) (by first | omega | assumption | exact sd_dmI_0) (by first | omega | assumption | exact sd_dmI_0) (by first | omega | assumption | exact sd_dmI_0)
      · skip
        skip
        refine And.intro rfl ?_
        refine ⟨⟨fun _ => ⟨rfl, rfl⟩, fun hp => ?_⟩, hS⟩
        unfold sd_dn at hp
        exfalso
        first
          | omega
          | (rw [e17, e15] at h21
             omega)
theorem v3_X12_days {fr lo i : Nat} {own : String} (h1 : 8 + 1 ≤ fr) (h2 : 8 + (4 + 11) + 184 ≤ lo) (h3 : .methodLink own i yX12_days ∈ lw_tbl) : pz_cV fr lo own i k3_X12_days :=
  pz_cVk (maxL := 4) (fr' := 8) (lo' := 184) 1 12 h3_X12_days rfl ⟨by decide +kernel, by decide +kernel, by decide +kernel⟩ ⟨(pz_mt 1530 (by decide +kernel)), (pz_mt 1528 (by decide +kernel)), (pz_mt 1529 (by decide +kernel)), (pz_mt 13 (by decide +kernel))⟩ (Or.inl ⟨TX12, 28, rfl⟩) (fun a M _ h => by
    have h : (match (generalizing := false) a with | [.inr (.inr (12, th)), .inl n] => pz_im M | _ => False) := h
    split at h
    · exact ⟨_, _, rfl⟩
    · exact h.elim) h1 h2 h3
