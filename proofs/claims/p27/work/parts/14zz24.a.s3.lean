noncomputable def k3_X11_of : pz_C := (3, 1, fun a M => (match a with | [.inr (.inr (11, th)), .inl i, .inl w] => pz_ic M | _ => False), fun a M r M' => (match a, r with | [.inr (.inr (11, th)), .inl i, .inl w], some (.inl v) => (sd_wc M v (fun ls F => sd_of ls F i w)) ∧ pq_pr pq_Pk M M' | _, _ => False))
noncomputable abbrev ct3_X11_of : List (Bool × Nat × pz_C) := [(true, 118, k_X0_has), (true, 107, k_X0_at), (true, 212, k3_X3_tells), (true, 218, k3_X0_canPay), (true, 221, k3_X0_lacks)]
set_option maxRecDepth 100000 in
set_option maxHeartbeats 4000000 in
theorem h3_X11_of : pz_H yX11_of cX11_of 4 (some .int) k3_X11_of 4 97 := by
  refine pz_mk (own := RX11) (tb := t_X11_of) (fl := pz_flf fl_RX11) (ci := pz_cif ci_RX11) (ct := pz_ctf ct3_X11_of) (rz := false) (by decide +kernel) rfl t_X11_of_ok (pz_flk fl_RX11_ok) (pz_cik ci_RX11_ok) ?_ ?_ (Or.inl ⟨rfl, rfl⟩) ?_ ?_
  · exact fun i k' h => pz_ctk (l := ct3_X11_of) (P := fun b i k => b = true → pz_cV 4 97 RX11 i k) (List.forall_mem_cons.mpr ⟨(fun _ => v_X0_has (by decide) (by decide) (pz_mt 444 (by decide +kernel))), List.forall_mem_cons.mpr ⟨(fun _ => v_X0_at (by decide) (by decide) (pz_mt 428 (by decide +kernel))), List.forall_mem_cons.mpr ⟨(fun _ => v3_X3_tells (by decide) (by decide) (pz_mt 838 (by decide +kernel))), List.forall_mem_cons.mpr ⟨(fun _ => v3_X0_canPay (by decide) (by decide) (pz_mt 839 (by decide +kernel))), List.forall_mem_cons.mpr ⟨(fun _ => v3_X0_lacks (by decide) (by decide) (pz_mt 840 (by decide +kernel))), fun _ h => absurd h List.not_mem_nil⟩⟩⟩⟩⟩) true i k' h rfl
  · exact fun i k' h => pz_ctk (l := ct3_X11_of) (P := fun b i k => b = false → (pz_cS 4 97 RX11 i k ∨ (k = pz_kac ∧ 1 ≤ 4 ∧ 60 ≤ 97 ∧ Cond.methodLink RX11 i arraycopyName ∈ pz_tbl))) (List.forall_mem_cons.mpr ⟨((fun z => by cases z)), List.forall_mem_cons.mpr ⟨((fun z => by cases z)), List.forall_mem_cons.mpr ⟨((fun z => by cases z)), List.forall_mem_cons.mpr ⟨((fun z => by cases z)), List.forall_mem_cons.mpr ⟨((fun z => by cases z)), fun _ h => absurd h List.not_mem_nil⟩⟩⟩⟩⟩) false i k' h rfl
  · intro a M hlen hpre
    obtain ⟨th, i, w, rfl, hpre⟩ : ∃ th i w, a = [.inr (.inr (11, th)), .inl i, .inl w] ∧ (pz_ic M) := by
      have hpre : (match (generalizing := false) a with | [.inr (.inr (11, th)), .inl i, .inl w] => pz_ic M | _ => False) := hpre
      split at hpre
      · exact ⟨_, _, _, rfl, hpre⟩
      · exact hpre.elim
    exact Nat.le_of_ble_eq_true rfl
  · intro a M hlen hcan hM hpre Ok hgo
    obtain ⟨th, i, w, rfl, hpre⟩ : ∃ th i w, a = [.inr (.inr (11, th)), .inl i, .inl w] ∧ (pz_ic M) := by
      have hpre : (match (generalizing := false) a with | [.inr (.inr (11, th)), .inl i, .inl w] => pz_ic M | _ => False) := hpre
      split at hpre
      · exact ⟨_, _, _, rfl, hpre⟩
      · exact hpre.elim
    obtain ⟨k_th, hc_th⟩ := pz_tlm hcan
    have k_th : pz_kd th = 11 ∧ th < 231 := k_th
    have R_th := pz_kd11 k_th.1
    subst R_th
    obtain ⟨k_i, hc_i⟩ := pz_tlm hc_th
    have l_i : -2147483648 ≤ i := k_i.1
    have u_i : i ≤ 2147483647 := k_i.2
    obtain ⟨k_w, hc_w⟩ := pz_tlm hc_i
    have l_w : -2147483648 ≤ w := k_w.1
    have u_w : w ≤ 2147483647 := k_w.2
    have hI : pz_ic M := hpre
    have hI0 := hI
    have hS : pq_pr pq_Pk M M := pq_pr.rf
    refine hgo (fun _ => false) 92 0 _ [] M ?_
    refine pz_nrc (c := 71) rfl ?_
    refine And.intro (True.intro) ?_
    intro v5 M5 a5 b5 q5
    obtain ⟨q5, z5⟩ := q5
    subst z5
    refine And.intro (fun h8 => ?_) (fun h8 => ?_)
    · skip
      refine pz_nrc (c := 71) rfl ?_
      refine And.intro (True.intro) ?_
      intro r19 M19 k19 q19
      have R19 := pz_kd5 k19
      obtain ⟨q19, z19⟩ := q19
      subst z19
      have A19 := pz_at_lk (c := 71) (⟨by decide, by decide⟩ : 71 ≤ 71 ∧ 71 < 80) q19
      refine And.intro ?_ ?_
      · skip
        refine And.intro (fun h24 => ?_) ?_
        · skip
          intro v97 e97 a97 b97
          refine And.intro rfl ?_
          refine ⟨fun ls l1 F hT hF hW => ?_, hS⟩
          have hn := hF.1
          have hm := hW.1
          show _ = sd_of ls F i w
          unfold sd_of
          have p0 : 0 ≤ i ∧ i < F 88 := by
            split at q5 <;> omega
          have b := sd_at (⟨by decide, by decide⟩ : 71 ≤ 71 ∧ 71 < 80) hF hW p0.1 p0.2 A19
          rw [if_pos p0]
          repeat first | rw [if_pos (by omega)] | rw [if_neg (by omega)]
          exact e97.trans b.1
        refine And.intro (fun h24 => ?_) ?_
        · skip
          intro v102 e102 a102 b102
          refine And.intro rfl ?_
          refine ⟨fun ls l1 F hT hF hW => ?_, hS⟩
          have hn := hF.1
          have hm := hW.1
          show _ = sd_of ls F i w
          unfold sd_of
          have p0 : 0 ≤ i ∧ i < F 88 := by
            split at q5 <;> omega
          have b := sd_at (⟨by decide, by decide⟩ : 71 ≤ 71 ∧ 71 < 80) hF hW p0.1 p0.2 A19
          rw [if_pos p0]
          repeat first | rw [if_pos (by omega)] | rw [if_neg (by omega)]
          exact e102.trans b.2.1
        refine And.intro (fun h24 => ?_) ?_
        · skip
          intro v107 e107 a107 b107
          refine And.intro rfl ?_
          refine ⟨fun ls l1 F hT hF hW => ?_, hS⟩
          have hn := hF.1
          have hm := hW.1
          show _ = sd_of ls F i w
          unfold sd_of
          have p0 : 0 ≤ i ∧ i < F 88 := by
            split at q5 <;> omega
          have b := sd_at (⟨by decide, by decide⟩ : 71 ≤ 71 ∧ 71 < 80) hF hW p0.1 p0.2 A19
          rw [if_pos p0]
          repeat first | rw [if_pos (by omega)] | rw [if_neg (by omega)]
          exact e107.trans b.2.2.1
        refine And.intro (fun h24 => ?_) ?_
        · skip
          intro v112 e112 a112 b112
          refine And.intro rfl ?_
          refine ⟨fun ls l1 F hT hF hW => ?_, hS⟩
          have hn := hF.1
          have hm := hW.1
          show _ = sd_of ls F i w
          unfold sd_of
          have p0 : 0 ≤ i ∧ i < F 88 := by
            split at q5 <;> omega
          have b := sd_at (⟨by decide, by decide⟩ : 71 ≤ 71 ∧ 71 < 80) hF hW p0.1 p0.2 A19
          rw [if_pos p0]
          repeat first | rw [if_pos (by omega)] | rw [if_neg (by omega)]
          exact e112.trans b.2.2.2.1
        refine And.intro (fun h24 => ?_) ?_
        · skip
          intro v117 e117 a117 b117
          refine And.intro rfl ?_
          refine ⟨fun ls l1 F hT hF hW => ?_, hS⟩
          have hn := hF.1
          have hm := hW.1
          show _ = sd_of ls F i w
          unfold sd_of
          have p0 : 0 ≤ i ∧ i < F 88 := by
            split at q5 <;> omega
          have b := sd_at (⟨by decide, by decide⟩ : 71 ≤ 71 ∧ 71 < 80) hF hW p0.1 p0.2 A19
          rw [if_pos p0]
          repeat first | rw [if_pos (by omega)] | rw [if_neg (by omega)]
          exact e117.trans b.2.2.2.2.1
        refine And.intro (fun h24 => ?_) ?_
        · skip
          intro v122 e122 a122 b122
          refine And.intro rfl ?_
          refine ⟨fun ls l1 F hT hF hW => ?_, hS⟩
          have hn := hF.1
          have hm := hW.1
          show _ = sd_of ls F i w
          unfold sd_of
          have p0 : 0 ≤ i ∧ i < F 88 := by
            split at q5 <;> omega
          have b := sd_at (⟨by decide, by decide⟩ : 71 ≤ 71 ∧ 71 < 80) hF hW p0.1 p0.2 A19
          rw [if_pos p0]
          repeat first | rw [if_pos (by omega)] | rw [if_neg (by omega)]
          exact e122.trans b.2.2.2.2.2.1
        refine And.intro (fun h24 => ?_) ?_
        · skip
          intro v127 e127 a127 b127
          refine And.intro rfl ?_
          refine ⟨fun ls l1 F hT hF hW => ?_, hS⟩
          have hn := hF.1
          have hm := hW.1
          show _ = sd_of ls F i w
          unfold sd_of
          have p0 : 0 ≤ i ∧ i < F 88 := by
            split at q5 <;> omega
          have b := sd_at (⟨by decide, by decide⟩ : 71 ≤ 71 ∧ 71 < 80) hF hW p0.1 p0.2 A19
          rw [if_pos p0]
          repeat first | rw [if_pos (by omega)] | rw [if_neg (by omega)]
          exact e127.trans b.2.2.2.2.2.2.1
        refine And.intro (fun h24 => ?_) ?_
        · skip
          intro v132 e132 a132 b132
          refine And.intro rfl ?_
          refine ⟨fun ls l1 F hT hF hW => ?_, hS⟩
          have hn := hF.1
          have hm := hW.1
          show _ = sd_of ls F i w
          unfold sd_of
          have p0 : 0 ≤ i ∧ i < F 88 := by
            split at q5 <;> omega
          have b := sd_at (⟨by decide, by decide⟩ : 71 ≤ 71 ∧ 71 < 80) hF hW p0.1 p0.2 A19
          rw [if_pos p0]
          repeat first | rw [if_pos (by omega)] | rw [if_neg (by omega)]
          exact e132.trans b.2.2.2.2.2.2.2
        refine And.intro (fun h24 => ?_) ?_
        · skip
          refine pz_nrc (c := 8) rfl ?_
          intro r140 e140 k140
          have R140 := pz_kd3 k140
          have L140 : r140 = 10 := by rw [e140]; rfl
          refine pz_nrc (c := 71) rfl ?_
          refine And.intro (hI) ?_
          intro v149 M149 a149 b149 q149
          obtain ⟨q149, z149⟩ := q149
          have hS : pq_pr pq_Pk M M149 := hS.tr z149.wpk
          have hI : pz_ic M149 := hS.1 hI0
          rw [L140] at q149
          refine And.intro rfl ?_
          refine ⟨fun ls l1 F hT hF hW => ?_, hS⟩
          have hn := hF.1
          have hm := hW.1
          show _ = sd_of ls F i w
          unfold sd_of
          have p0 : 0 ≤ i ∧ i < F 88 := by
            split at q5 <;> omega
          rw [if_pos p0]
          repeat first | rw [if_pos (by omega)] | rw [if_neg (by omega)]
          exact sd_tel0 (⟨by decide, by decide⟩ : 71 ≤ 71 ∧ 71 < 80) hT hF hW p0.1 p0.2 q149.2
        refine And.intro (fun h24 => ?_) ?_
        · skip
          refine pz_nrc (c := 8) rfl ?_
          intro r157 e157 k157
          have R157 := pz_kd3 k157
          have L157 : r157 = 10 := by rw [e157]; rfl
          refine pz_nrc (c := 71) rfl ?_
          refine And.intro (hI) ?_
          intro v166 M166 a166 b166 q166
          obtain ⟨q166, z166⟩ := q166
          have hS : pq_pr pq_Pk M M166 := hS.tr z166.wpk
          have hI : pz_ic M166 := hS.1 hI0
          rw [L157] at q166
          refine And.intro rfl ?_
          refine ⟨fun ls l1 F hT hF hW => ?_, hS⟩
          have hn := hF.1
          have hm := hW.1
          show _ = sd_of ls F i w
          unfold sd_of
          have p0 : 0 ≤ i ∧ i < F 88 := by
            split at q5 <;> omega
          rw [if_pos p0]
          repeat first | rw [if_pos (by omega)] | rw [if_neg (by omega)]
          exact sd_tel1 (⟨by decide, by decide⟩ : 71 ≤ 71 ∧ 71 < 80) hT hF hW p0.1 p0.2 q166.2
        refine And.intro (fun h24 => ?_) ?_
        · skip
          refine pz_nrc (c := 8) rfl ?_
          intro r174 e174 k174
          have R174 := pz_kd3 k174
          have L174 : r174 = 10 := by rw [e174]; rfl
          refine pz_nrc (c := 71) rfl ?_
          refine And.intro (hI) ?_
          intro v183 M183 a183 b183 q183
          obtain ⟨q183, z183⟩ := q183
          have hS : pq_pr pq_Pk M M183 := hS.tr z183.wpk
          have hI : pz_ic M183 := hS.1 hI0
          rw [L174] at q183
          refine And.intro rfl ?_
          refine ⟨fun ls l1 F hT hF hW => ?_, hS⟩
          have hn := hF.1
          have hm := hW.1
          show _ = sd_of ls F i w
          unfold sd_of
          have p0 : 0 ≤ i ∧ i < F 88 := by
            split at q5 <;> omega
          rw [if_pos p0]
          repeat first | rw [if_pos (by omega)] | rw [if_neg (by omega)]
          exact sd_tel2 (⟨by decide, by decide⟩ : 71 ≤ 71 ∧ 71 < 80) hT hF hW p0.1 p0.2 q183.2
        refine And.intro (fun h24 => ?_) ?_
        · skip
          refine pz_nrc (c := 8) rfl ?_
          intro r191 e191 k191
          have R191 := pz_kd3 k191
          have L191 : r191 = 10 := by rw [e191]; rfl
          refine pz_nrc (c := 71) rfl ?_
          refine And.intro (hI) ?_
          intro v200 M200 a200 b200 q200
          obtain ⟨q200, z200⟩ := q200
          have hS : pq_pr pq_Pk M M200 := hS.tr z200.wpk
          have hI : pz_ic M200 := hS.1 hI0
          rw [L191] at q200
          refine And.intro rfl ?_
          refine ⟨fun ls l1 F hT hF hW => ?_, hS⟩
          have hn := hF.1
          have hm := hW.1
          show _ = sd_of ls F i w
          unfold sd_of
          have p0 : 0 ≤ i ∧ i < F 88 := by
            split at q5 <;> omega
          rw [if_pos p0]
          repeat first | rw [if_pos (by omega)] | rw [if_neg (by omega)]
          exact sd_tel3 (⟨by decide, by decide⟩ : 71 ≤ 71 ∧ 71 < 80) hT hF hW p0.1 p0.2 q200.2
        refine And.intro (fun h24 => ?_) ?_
        · skip
          refine pz_nrc (c := 71) rfl ?_
          refine And.intro (hI) ?_
          intro v209 M209 a209 b209 q209
          obtain ⟨q209, z209⟩ := q209
          subst z209
          refine And.intro (fun h212 => ?_) (fun h212 => ?_)
          · skip
            refine And.intro rfl ?_
            refine ⟨fun ls l1 F hT hF hW => ?_, hS⟩
            have hn := hF.1
            have hm := hW.1
            show _ = sd_of ls F i w
            unfold sd_of
            have p0 : 0 ≤ i ∧ i < F 88 := by
              split at q5 <;> omega
            rw [if_pos p0]
            repeat first | rw [if_pos (by omega)] | rw [if_neg (by omega)]
            have a := q209.2 F hF hW p0.1 p0.2
            first
              | exact (if_pos (a.mp (by omega))).symm
              | exact (if_neg (fun z => absurd (a.mpr z) (by omega))).symm
          · skip
            refine And.intro rfl ?_
            refine ⟨fun ls l1 F hT hF hW => ?_, hS⟩
            have hn := hF.1
            have hm := hW.1
            show _ = sd_of ls F i w
            unfold sd_of
            have p0 : 0 ≤ i ∧ i < F 88 := by
              split at q5 <;> omega
            rw [if_pos p0]
            repeat first | rw [if_pos (by omega)] | rw [if_neg (by omega)]
            have a := q209.2 F hF hW p0.1 p0.2
            first
              | exact (if_pos (a.mp (by omega))).symm
              | exact (if_neg (fun z => absurd (a.mpr z) (by omega))).symm
        refine And.intro (fun h24 => ?_) ?_
        · skip
          refine pz_nrc (c := 71) rfl ?_
          refine And.intro (hI) ?_
          intro v226 M226 a226 b226 q226
          obtain ⟨q226, z226⟩ := q226
          subst z226
          refine And.intro rfl ?_
          refine ⟨fun ls l1 F hT hF hW => ?_, hS⟩
          have hn := hF.1
          have hm := hW.1
          show _ = sd_of ls F i w
          unfold sd_of
          have p0 : 0 ≤ i ∧ i < F 88 := by
            split at q5 <;> omega
          rw [if_pos p0]
          repeat first | rw [if_pos (by omega)] | rw [if_neg (by omega)]
          exact q226.trans (sd_lc hF hW p0.1 p0.2)
        exact True.intro
      · intro h24
        refine And.intro rfl ?_
        refine ⟨fun ls l1 F hT hF hW => ?_, hS⟩
        have hn := hF.1
        have hm := hW.1
        show _ = sd_of ls F i w
        unfold sd_of
        have p0 : 0 ≤ i ∧ i < F 88 := by
          split at q5 <;> omega
        rw [if_pos p0]
        repeat first | rw [if_pos (by omega)] | rw [if_neg (by omega)]
    · skip
      refine And.intro rfl ?_
      refine ⟨fun ls l1 F hT hF hW => ?_, hS⟩
      have hn := hF.1
      have hm := hW.1
      show _ = sd_of ls F i w
      unfold sd_of
      rw [if_neg (fun z => by split at q5 <;> omega)]
theorem v3_X11_of {fr lo i : Nat} {own : String} (h1 : 4 + 1 ≤ fr) (h2 : 8 + (4 + 11) + 97 ≤ lo) (h3 : .methodLink own i yX11_of ∈ lw_tbl) : pz_cV fr lo own i k3_X11_of :=
  pz_cVk (maxL := 4) (fr' := 4) (lo' := 97) 2 11 h3_X11_of rfl ⟨by decide +kernel, by decide +kernel, by decide +kernel⟩ ⟨(pz_mt 836 (by decide +kernel)), (pz_mt 834 (by decide +kernel)), (pz_mt 835 (by decide +kernel)), (pz_mt 1 (by decide +kernel))⟩ (Or.inl ⟨TX11, 14, rfl⟩) (fun a M _ h => by
    have h : (match (generalizing := false) a with | [.inr (.inr (11, th)), .inl i, .inl w] => pz_ic M | _ => False) := h
    split at h
    · exact ⟨_, _, rfl⟩
    · exact h.elim) h1 h2 h3
noncomputable def k3_X12_of : pz_C := (3, 1, fun a M => (match a with | [.inr (.inr (12, th)), .inl i, .inl n] => pz_im M | _ => False), fun a M r M' => (match a, r with | [.inr (.inr (12, th)), .inl i, .inl n], some (.inl v) => (sd_wm M v (fun ls F => sd_of ls F i n)) ∧ pz_rl pz_QV M M' | _, _ => False))
noncomputable abbrev ct3_X12_of : List (Bool × Nat × pz_C) := [(true, 58, k_X12_isLink), (true, 370, k3_X12_readyOf), (true, 376, k3_X12_leaveOf), (true, 320, k3_X12_giveOf), (true, 385, k3_X12_costOf), (true, 361, k3_X12_canPay), (true, 300, k3_X12_lacksOf), (false, 54, k_X12_isIn)]
set_option maxRecDepth 100000 in
set_option maxHeartbeats 4000000 in
theorem h3_X12_of : pz_H yX12_of cX12_of 3 (some .int) k3_X12_of 5 116 := by
  refine pz_mk (own := RX12) (tb := t_X12_of) (fl := pz_flf fl_RX12) (ci := pz_cif ci_RX12) (ct := pz_ctf ct3_X12_of) (rz := false) (by decide +kernel) rfl t_X12_of_ok (pz_flk fl_RX12_ok) (pz_cik ci_RX12_ok) ?_ ?_ (Or.inl ⟨rfl, rfl⟩) ?_ ?_
  · exact fun i k' h => pz_ctk (l := ct3_X12_of) (P := fun b i k => b = true → pz_cV 5 116 RX12 i k) (List.forall_mem_cons.mpr ⟨(fun _ => v_X12_isLink (by decide) (by decide) (pz_mt 1224 (by decide +kernel))), List.forall_mem_cons.mpr ⟨(fun _ => v3_X12_readyOf (by decide) (by decide) (pz_mt 1539 (by decide +kernel))), List.forall_mem_cons.mpr ⟨(fun _ => v3_X12_leaveOf (by decide) (by decide) (pz_mt 1553 (by decide +kernel))), List.forall_mem_cons.mpr ⟨(fun _ => v3_X12_giveOf (by decide) (by decide) (pz_mt 1435 (by decide +kernel))), List.forall_mem_cons.mpr ⟨(fun _ => v3_X12_costOf (by decide) (by decide) (pz_mt 1577 (by decide +kernel))), List.forall_mem_cons.mpr ⟨(fun _ => v3_X12_canPay (by decide) (by decide) (pz_mt 1573 (by decide +kernel))), List.forall_mem_cons.mpr ⟨(fun _ => v3_X12_lacksOf (by decide) (by decide) (pz_mt 1443 (by decide +kernel))), List.forall_mem_cons.mpr ⟨((fun z => by cases z)), fun _ h => absurd h List.not_mem_nil⟩⟩⟩⟩⟩⟩⟩⟩) true i k' h rfl
  · exact fun i k' h => pz_ctk (l := ct3_X12_of) (P := fun b i k => b = false → (pz_cS 5 116 RX12 i k ∨ (k = pz_kac ∧ 1 ≤ 5 ∧ 60 ≤ 116 ∧ Cond.methodLink RX12 i arraycopyName ∈ pz_tbl))) (List.forall_mem_cons.mpr ⟨((fun z => by cases z)), List.forall_mem_cons.mpr ⟨((fun z => by cases z)), List.forall_mem_cons.mpr ⟨((fun z => by cases z)), List.forall_mem_cons.mpr ⟨((fun z => by cases z)), List.forall_mem_cons.mpr ⟨((fun z => by cases z)), List.forall_mem_cons.mpr ⟨((fun z => by cases z)), List.forall_mem_cons.mpr ⟨((fun z => by cases z)), List.forall_mem_cons.mpr ⟨(fun _ => Or.inl (s_X12_isIn (by decide) (by decide) (Or.inl (pz_mt 1217 (by decide +kernel))))), fun _ h => absurd h List.not_mem_nil⟩⟩⟩⟩⟩⟩⟩⟩) false i k' h rfl
  · intro a M hlen hpre
    obtain ⟨th, i, n, rfl, hpre⟩ : ∃ th i n, a = [.inr (.inr (12, th)), .inl i, .inl n] ∧ (pz_im M) := by
      have hpre : (match (generalizing := false) a with | [.inr (.inr (12, th)), .inl i, .inl n] => pz_im M | _ => False) := hpre
      split at hpre
      · exact ⟨_, _, _, rfl, hpre⟩
      · exact hpre.elim
    exact Nat.le_of_ble_eq_true rfl
  · intro a M hlen hcan hM hpre Ok hgo
    obtain ⟨th, i, n, rfl, hpre⟩ : ∃ th i n, a = [.inr (.inr (12, th)), .inl i, .inl n] ∧ (pz_im M) := by
      have hpre : (match (generalizing := false) a with | [.inr (.inr (12, th)), .inl i, .inl n] => pz_im M | _ => False) := hpre
      split at hpre
      · exact ⟨_, _, _, rfl, hpre⟩
      · exact hpre.elim
    obtain ⟨k_th, hc_th⟩ := pz_tlm hcan
    have k_th : pz_kd th = 12 ∧ th < 231 := k_th
    have R_th := pz_kd12 k_th.1
    subst R_th
    clear k_th
    obtain ⟨k_i, hc_i⟩ := pz_tlm hc_th
    have l_i : -2147483648 ≤ i := k_i.1
    have u_i : i ≤ 2147483647 := k_i.2
    obtain ⟨k_n, hc_n⟩ := pz_tlm hc_i
    have l_n : -2147483648 ≤ n := k_n.1
    have u_n : n ≤ 2147483647 := k_n.2
    have hI : pz_im M := hpre
    have hI0 := hI
    have hS : pz_rl pz_QV M M := pz_rl.rf
    have I88 := hI.1.1
    refine hgo (fun _ => false) 70 0 _ [] M ?_
    refine And.intro (hI) ?_
    intro v2 M2 a2 b2 q2
    obtain ⟨q2, z2⟩ := q2
    subst z2
    clear a2 b2
    refine And.intro (fun h5 => ?_) (fun h5 => ?_)
    · skip
      replace q2 := q2.resolve_right (fun z => h5 z.1)
      clear h5
      refine And.intro ?_ ?_
      · skip
        refine And.intro (fun h13 => ?_) ?_
        · skip
          refine pz_nrc (c := 60) rfl ?_
          intro v79 e79 a79 b79
          rw [pz_wi (by omega) (by omega)] at e79
          clear a79 b79
          refine And.intro (by omega) (And.intro (show _ < (1725 : Int) from by omega) ?_)
          intro v80 e80 a80 b80
          rw [show v79.toNat = 93 + i.toNat by omega] at e80
          refine And.intro rfl ?_
          refine ⟨fun ls hl hq hW => ?_, hS⟩
          have hm := hW.1
          show _ = sd_of ls (M 60) i n
          unfold sd_of
          rw [if_pos (by omega)]
          repeat first | rw [if_pos (by omega)] | rw [if_neg (by omega)]
          exact e80
        refine And.intro (fun h13 => ?_) ?_
        · skip
          refine And.intro (True.intro) ?_
          intro v130 M130 a130 b130 q130
          obtain ⟨q130, z130⟩ := q130
          subst z130
          clear a130 b130
          refine And.intro (fun h133 => ?_) (fun h133 => ?_)
          · skip
            replace q130 := q130.resolve_left (fun z => absurd (z.1.symm.trans h133) (by decide))
            clear h133
            refine And.intro rfl ?_
            refine ⟨fun ls hl hq hW => ?_, hS⟩
            have hm := hW.1
            show _ = sd_of ls (M 60) i n
            unfold sd_of
            rw [if_pos (by omega)]
            first
              | (exfalso; omega)
              | (have hn9 : n = 0 ∨ n = 1 ∨ n = 2 ∨ n = 4 ∨ n = 5 ∨ n = 6 ∨ n = 7 := by omega
                 rcases hn9 with h9 | h9 | h9 | h9 | h9 | h9 | h9
                 all_goals (repeat first | rw [if_pos (by omega)] | rw [if_neg (by omega)])
                 all_goals (rw [e159]; congr 1; omega))
              | (repeat first | rw [if_pos (by omega)] | rw [if_neg (by omega)])
          · skip
            replace q130 := q130.resolve_right (fun z => h133 z.1)
            clear h133
            refine pz_nrc (c := 60) rfl ?_
            refine And.intro (fun h145 => ?_) (fun h145 => ?_)
            · skip
              intro v154 e154 a154 b154
              rw [pz_wi (by omega) (by omega)] at e154
              clear a154 b154
              intro v155 e155 a155 b155
              rw [pz_wi (by omega) (by omega)] at e155
              clear a155 b155
              intro v156 e156 a156 b156
              rw [pz_wi (by omega) (by omega)] at e156
              clear a156 b156
              intro v158 e158 a158 b158
              rw [pz_wi (by omega) (by omega)] at e158
              clear a158 b158
              refine And.intro (by omega) (And.intro (show _ < (1725 : Int) from by omega) ?_)
              intro v159 e159 a159 b159
              refine And.intro rfl ?_
              refine ⟨fun ls hl hq hW => ?_, hS⟩
              have hm := hW.1
              show _ = sd_of ls (M 60) i n
              unfold sd_of
              rw [if_pos (by omega)]
              first
                | (exfalso; omega)
                | (have hn9 : n = 0 ∨ n = 1 ∨ n = 2 ∨ n = 4 ∨ n = 5 ∨ n = 6 ∨ n = 7 := by omega
                   rcases hn9 with h9 | h9 | h9 | h9 | h9 | h9 | h9
                   all_goals (repeat first | rw [if_pos (by omega)] | rw [if_neg (by omega)])
                   all_goals (rw [e159]; congr 1; omega))
                | (repeat first | rw [if_pos (by omega)] | rw [if_neg (by omega)])
            · skip
              intro v155 e155 a155 b155
              rw [pz_wi (by omega) (by omega)] at e155
              clear a155 b155
              intro v156 e156 a156 b156
              rw [pz_wi (by omega) (by omega)] at e156
              clear a156 b156
              intro v158 e158 a158 b158
              rw [pz_wi (by omega) (by omega)] at e158
              clear a158 b158
              refine And.intro (by omega) (And.intro (show _ < (1725 : Int) from by omega) ?_)
              intro v159 e159 a159 b159
              refine And.intro rfl ?_
              refine ⟨fun ls hl hq hW => ?_, hS⟩
              have hm := hW.1
              show _ = sd_of ls (M 60) i n
              unfold sd_of
              rw [if_pos (by omega)]
              first
                | (exfalso; omega)
                | (have hn9 : n = 0 ∨ n = 1 ∨ n = 2 ∨ n = 4 ∨ n = 5 ∨ n = 6 ∨ n = 7 := by omega
                   rcases hn9 with h9 | h9 | h9 | h9 | h9 | h9 | h9
                   all_goals (repeat first | rw [if_pos (by omega)] | rw [if_neg (by omega)])
                   all_goals (rw [e159]; congr 1; omega))
                | (repeat first | rw [if_pos (by omega)] | rw [if_neg (by omega)])
        refine And.intro (fun h13 => ?_) ?_
        · skip
          refine And.intro (True.intro) ?_
          intro v130 M130 a130 b130 q130
          obtain ⟨q130, z130⟩ := q130
          subst z130
          clear a130 b130
          refine And.intro (fun h133 => ?_) (fun h133 => ?_)
          · skip
            replace q130 := q130.resolve_left (fun z => absurd (z.1.symm.trans h133) (by decide))
            clear h133
            refine And.intro rfl ?_
            refine ⟨fun ls hl hq hW => ?_, hS⟩
            have hm := hW.1
            show _ = sd_of ls (M 60) i n
            unfold sd_of
            rw [if_pos (by omega)]
            first
              | (exfalso; omega)
              | (have hn9 : n = 0 ∨ n = 1 ∨ n = 2 ∨ n = 4 ∨ n = 5 ∨ n = 6 ∨ n = 7 := by omega
                 rcases hn9 with h9 | h9 | h9 | h9 | h9 | h9 | h9
                 all_goals (repeat first | rw [if_pos (by omega)] | rw [if_neg (by omega)])
                 all_goals (rw [e159]; congr 1; omega))
              | (repeat first | rw [if_pos (by omega)] | rw [if_neg (by omega)])
          · skip
            replace q130 := q130.resolve_right (fun z => h133 z.1)
            clear h133
            refine pz_nrc (c := 60) rfl ?_
            refine And.intro (fun h145 => ?_) (fun h145 => ?_)
            · skip
              intro v154 e154 a154 b154
              rw [pz_wi (by omega) (by omega)] at e154
              clear a154 b154
              intro v155 e155 a155 b155
              rw [pz_wi (by omega) (by omega)] at e155
              clear a155 b155
              intro v156 e156 a156 b156
              rw [pz_wi (by omega) (by omega)] at e156
              clear a156 b156
              intro v158 e158 a158 b158
              rw [pz_wi (by omega) (by omega)] at e158
              clear a158 b158
              refine And.intro (by omega) (And.intro (show _ < (1725 : Int) from by omega) ?_)
              intro v159 e159 a159 b159
              refine And.intro rfl ?_
              refine ⟨fun ls hl hq hW => ?_, hS⟩
              have hm := hW.1
              show _ = sd_of ls (M 60) i n
              unfold sd_of
              rw [if_pos (by omega)]
              first
                | (exfalso; omega)
                | (have hn9 : n = 0 ∨ n = 1 ∨ n = 2 ∨ n = 4 ∨ n = 5 ∨ n = 6 ∨ n = 7 := by omega
                   rcases hn9 with h9 | h9 | h9 | h9 | h9 | h9 | h9
                   all_goals (repeat first | rw [if_pos (by omega)] | rw [if_neg (by omega)])
                   all_goals (rw [e159]; congr 1; omega))
                | (repeat first | rw [if_pos (by omega)] | rw [if_neg (by omega)])
            · skip
              intro v155 e155 a155 b155
              rw [pz_wi (by omega) (by omega)] at e155
              clear a155 b155
              intro v156 e156 a156 b156
              rw [pz_wi (by omega) (by omega)] at e156
              clear a156 b156
              intro v158 e158 a158 b158
              rw [pz_wi (by omega) (by omega)] at e158
              clear a158 b158
              refine And.intro (by omega) (And.intro (show _ < (1725 : Int) from by omega) ?_)
              intro v159 e159 a159 b159
              refine And.intro rfl ?_
              refine ⟨fun ls hl hq hW => ?_, hS⟩
              have hm := hW.1
              show _ = sd_of ls (M 60) i n
              unfold sd_of
              rw [if_pos (by omega)]
              first
                | (exfalso; omega)
                | (have hn9 : n = 0 ∨ n = 1 ∨ n = 2 ∨ n = 4 ∨ n = 5 ∨ n = 6 ∨ n = 7 := by omega
                   rcases hn9 with h9 | h9 | h9 | h9 | h9 | h9 | h9
                   all_goals (repeat first | rw [if_pos (by omega)] | rw [if_neg (by omega)])
                   all_goals (rw [e159]; congr 1; omega))
                | (repeat first | rw [if_pos (by omega)] | rw [if_neg (by omega)])
        refine And.intro (fun h13 => ?_) ?_
        · skip
          refine And.intro (True.intro) ?_
          intro v130 M130 a130 b130 q130
          obtain ⟨q130, z130⟩ := q130
          subst z130
          clear a130 b130
          refine And.intro (fun h133 => ?_) (fun h133 => ?_)
          · skip
            replace q130 := q130.resolve_left (fun z => absurd (z.1.symm.trans h133) (by decide))
            clear h133
            refine And.intro rfl ?_
            refine ⟨fun ls hl hq hW => ?_, hS⟩
            have hm := hW.1
            show _ = sd_of ls (M 60) i n
            unfold sd_of
            rw [if_pos (by omega)]
            first
              | (exfalso; omega)
              | (have hn9 : n = 0 ∨ n = 1 ∨ n = 2 ∨ n = 4 ∨ n = 5 ∨ n = 6 ∨ n = 7 := by omega
                 rcases hn9 with h9 | h9 | h9 | h9 | h9 | h9 | h9
                 all_goals (repeat first | rw [if_pos (by omega)] | rw [if_neg (by omega)])
                 all_goals (rw [e159]; congr 1; omega))
              | (repeat first | rw [if_pos (by omega)] | rw [if_neg (by omega)])
          · skip
            replace q130 := q130.resolve_right (fun z => h133 z.1)
            clear h133
            refine pz_nrc (c := 60) rfl ?_
            refine And.intro (fun h145 => ?_) (fun h145 => ?_)
            · skip
              intro v154 e154 a154 b154
              rw [pz_wi (by omega) (by omega)] at e154
              clear a154 b154
              intro v155 e155 a155 b155
              rw [pz_wi (by omega) (by omega)] at e155
              clear a155 b155
              intro v156 e156 a156 b156
              rw [pz_wi (by omega) (by omega)] at e156
              clear a156 b156
              intro v158 e158 a158 b158
              rw [pz_wi (by omega) (by omega)] at e158
              clear a158 b158
              refine And.intro (by omega) (And.intro (show _ < (1725 : Int) from by omega) ?_)
              intro v159 e159 a159 b159
              refine And.intro rfl ?_
              refine ⟨fun ls hl hq hW => ?_, hS⟩
              have hm := hW.1
              show _ = sd_of ls (M 60) i n
              unfold sd_of
              rw [if_pos (by omega)]
              first
                | (exfalso; omega)
                | (have hn9 : n = 0 ∨ n = 1 ∨ n = 2 ∨ n = 4 ∨ n = 5 ∨ n = 6 ∨ n = 7 := by omega
                   rcases hn9 with h9 | h9 | h9 | h9 | h9 | h9 | h9
                   all_goals (repeat first | rw [if_pos (by omega)] | rw [if_neg (by omega)])
                   all_goals (rw [e159]; congr 1; omega))
                | (repeat first | rw [if_pos (by omega)] | rw [if_neg (by omega)])
            · skip
              intro v155 e155 a155 b155
              rw [pz_wi (by omega) (by omega)] at e155
              clear a155 b155
              intro v156 e156 a156 b156
              rw [pz_wi (by omega) (by omega)] at e156
              clear a156 b156
              intro v158 e158 a158 b158
              rw [pz_wi (by omega) (by omega)] at e158
              clear a158 b158
              refine And.intro (by omega) (And.intro (show _ < (1725 : Int) from by omega) ?_)
              intro v159 e159 a159 b159
              refine And.intro rfl ?_
              refine ⟨fun ls hl hq hW => ?_, hS⟩
              have hm := hW.1
              show _ = sd_of ls (M 60) i n
              unfold sd_of
              rw [if_pos (by omega)]
              first
                | (exfalso; omega)
                | (have hn9 : n = 0 ∨ n = 1 ∨ n = 2 ∨ n = 4 ∨ n = 5 ∨ n = 6 ∨ n = 7 := by omega
                   rcases hn9 with h9 | h9 | h9 | h9 | h9 | h9 | h9
                   all_goals (repeat first | rw [if_pos (by omega)] | rw [if_neg (by omega)])
                   all_goals (rw [e159]; congr 1; omega))
                | (repeat first | rw [if_pos (by omega)] | rw [if_neg (by omega)])
        refine And.intro (fun h13 => ?_) ?_
        · skip
          refine And.intro (True.intro) ?_
          intro v130 M130 a130 b130 q130
          obtain ⟨q130, z130⟩ := q130
          subst z130
          clear a130 b130
          refine And.intro (fun h133 => ?_) (fun h133 => ?_)
          · skip
            replace q130 := q130.resolve_left (fun z => absurd (z.1.symm.trans h133) (by decide))
            clear h133
            refine And.intro rfl ?_
            refine ⟨fun ls hl hq hW => ?_, hS⟩
            have hm := hW.1
            show _ = sd_of ls (M 60) i n
            unfold sd_of
            rw [if_pos (by omega)]
            first
              | (exfalso; omega)
              | (have hn9 : n = 0 ∨ n = 1 ∨ n = 2 ∨ n = 4 ∨ n = 5 ∨ n = 6 ∨ n = 7 := by omega
                 rcases hn9 with h9 | h9 | h9 | h9 | h9 | h9 | h9
                 all_goals (repeat first | rw [if_pos (by omega)] | rw [if_neg (by omega)])
                 all_goals (rw [e159]; congr 1; omega))
              | (repeat first | rw [if_pos (by omega)] | rw [if_neg (by omega)])
          · skip
            replace q130 := q130.resolve_right (fun z => h133 z.1)
            clear h133
            refine pz_nrc (c := 60) rfl ?_
            refine And.intro (fun h145 => ?_) (fun h145 => ?_)
            · skip
              intro v154 e154 a154 b154
              rw [pz_wi (by omega) (by omega)] at e154
              clear a154 b154
              intro v155 e155 a155 b155
              rw [pz_wi (by omega) (by omega)] at e155
              clear a155 b155
              intro v156 e156 a156 b156
              rw [pz_wi (by omega) (by omega)] at e156
              clear a156 b156
              intro v158 e158 a158 b158
              rw [pz_wi (by omega) (by omega)] at e158
              clear a158 b158
              refine And.intro (by omega) (And.intro (show _ < (1725 : Int) from by omega) ?_)
              intro v159 e159 a159 b159
              refine And.intro rfl ?_
              refine ⟨fun ls hl hq hW => ?_, hS⟩
              have hm := hW.1
              show _ = sd_of ls (M 60) i n
              unfold sd_of
              rw [if_pos (by omega)]
              first
                | (exfalso; omega)
                | (have hn9 : n = 0 ∨ n = 1 ∨ n = 2 ∨ n = 4 ∨ n = 5 ∨ n = 6 ∨ n = 7 := by omega
                   rcases hn9 with h9 | h9 | h9 | h9 | h9 | h9 | h9
                   all_goals (repeat first | rw [if_pos (by omega)] | rw [if_neg (by omega)])
                   all_goals (rw [e159]; congr 1; omega))
                | (repeat first | rw [if_pos (by omega)] | rw [if_neg (by omega)])
            · skip
              intro v155 e155 a155 b155
              rw [pz_wi (by omega) (by omega)] at e155
              clear a155 b155
              intro v156 e156 a156 b156
              rw [pz_wi (by omega) (by omega)] at e156
              clear a156 b156
              intro v158 e158 a158 b158
              rw [pz_wi (by omega) (by omega)] at e158
              clear a158 b158
              refine And.intro (by omega) (And.intro (show _ < (1725 : Int) from by omega) ?_)
              intro v159 e159 a159 b159
              refine And.intro rfl ?_
              refine ⟨fun ls hl hq hW => ?_, hS⟩
              have hm := hW.1
              show _ = sd_of ls (M 60) i n
              unfold sd_of
              rw [if_pos (by omega)]
              first
                | (exfalso; omega)
                | (have hn9 : n = 0 ∨ n = 1 ∨ n = 2 ∨ n = 4 ∨ n = 5 ∨ n = 6 ∨ n = 7 := by omega
                   rcases hn9 with h9 | h9 | h9 | h9 | h9 | h9 | h9
                   all_goals (repeat first | rw [if_pos (by omega)] | rw [if_neg (by omega)])
                   all_goals (rw [e159]; congr 1; omega))
                | (repeat first | rw [if_pos (by omega)] | rw [if_neg (by omega)])
        refine And.intro (fun h13 => ?_) ?_
        · skip
          refine And.intro (And.intro hI (And.intro (by omega) (by omega))) ?_
          intro v84 M84 a84 b84 q84
          obtain ⟨q84, z84⟩ := q84
          have hS : pz_rl pz_QV M M84 := hS.tr (pz_rl.wk (by intro b j q; unfold pz_QS at q; unfold pz_QV; omega) z84)
          have hI : pz_im M84 := hS.1 hI0
          clear a84 b84
          refine And.intro rfl ?_
          refine ⟨fun ls hl hq hW => ?_, hS⟩
          have hm := hW.1
          show _ = sd_of ls (M 60) i n
          unfold sd_of
          rw [if_pos (by omega)]
          repeat first | rw [if_pos (by omega)] | rw [if_neg (by omega)]
          exact q84.1 (by omega) ls hl hq
        refine And.intro (fun h13 => ?_) ?_
        · skip
          refine And.intro (And.intro hI (And.intro (by omega) (by omega))) ?_
          intro v90 M90 a90 b90 q90
          obtain ⟨q90, z90⟩ := q90
          have hS : pz_rl pz_QV M M90 := hS.tr (pz_rl.wk (by intro b j q; unfold pz_QS at q; unfold pz_QV; omega) z90)
          have hI : pz_im M90 := hS.1 hI0
          clear a90 b90
          refine And.intro rfl ?_
          refine ⟨fun ls hl hq hW => ?_, hS⟩
          have hm := hW.1
          show _ = sd_of ls (M 60) i n
          unfold sd_of
          rw [if_pos (by omega)]
          repeat first | rw [if_pos (by omega)] | rw [if_neg (by omega)]
          exact q90.1 (by omega) ls hl hq
        refine And.intro (fun h13 => ?_) ?_
        · skip
          refine And.intro (And.intro hI (And.intro (by omega) (by omega))) ?_
          intro v96 M96 a96 b96 q96
          obtain ⟨q96, z96⟩ := q96
          have hS : pz_rl pz_QV M M96 := hS.tr (pz_rl.wk (by intro b j q; unfold pz_QS at q; unfold pz_QV; omega) z96)
          have hI : pz_im M96 := hS.1 hI0
          clear a96 b96
          refine And.intro rfl ?_
          refine ⟨fun ls hl hq hW => ?_, hS⟩
          have hm := hW.1
          show _ = sd_of ls (M 60) i n
          unfold sd_of
          rw [if_pos (by omega)]
          repeat first | rw [if_pos (by omega)] | rw [if_neg (by omega)]
          exact q96.1 (by omega) ls hl hq
        refine And.intro (fun h13 => ?_) ?_
        · skip
          refine And.intro (And.intro hI (And.intro (by omega) (by omega))) ?_
          intro v102 M102 a102 b102 q102
          obtain ⟨q102, z102⟩ := q102
          have hS : pz_rl pz_QV M M102 := hS.tr (pz_rl.wk (by intro b j q; unfold pz_QS at q; unfold pz_QV; omega) z102)
          have hI : pz_im M102 := hS.1 hI0
          clear a102 b102
          refine And.intro rfl ?_
          refine ⟨fun ls hl hq hW => ?_, hS⟩
          have hm := hW.1
          show _ = sd_of ls (M 60) i n
          unfold sd_of
          rw [if_pos (by omega)]
          repeat first | rw [if_pos (by omega)] | rw [if_neg (by omega)]
          exact q102.1 (by omega) ls hl hq
        refine And.intro (fun h13 => ?_) ?_
        · skip
          refine And.intro (And.intro hI (And.intro (by omega) (by omega))) ?_
          intro v108 M108 a108 b108 q108
          obtain ⟨q108, z108⟩ := q108
          subst z108
          refine And.intro (fun h111 => ?_) (fun h111 => ?_)
          · skip
            refine And.intro rfl ?_
            refine ⟨fun ls hl hq hW => ?_, hS⟩
            have hm := hW.1
            show _ = sd_of ls (M 60) i n
            unfold sd_of
            rw [if_pos (by omega)]
            repeat first | rw [if_pos (by omega)] | rw [if_neg (by omega)]
            have a := q108.2.trans (sd_py_i (F := M 60) (by omega))
            first
              | exact (if_pos (a.mp (by omega))).symm
              | exact (if_neg (fun z => absurd (a.mpr z) (by omega))).symm
          · skip
            refine And.intro rfl ?_
            refine ⟨fun ls hl hq hW => ?_, hS⟩
            have hm := hW.1
            show _ = sd_of ls (M 60) i n
            unfold sd_of
            rw [if_pos (by omega)]
            repeat first | rw [if_pos (by omega)] | rw [if_neg (by omega)]
            have a := q108.2.trans (sd_py_i (F := M 60) (by omega))
            first
              | exact (if_pos (a.mp (by omega))).symm
              | exact (if_neg (fun z => absurd (a.mpr z) (by omega))).symm
        refine And.intro (fun h13 => ?_) ?_
        · skip
          refine And.intro (And.intro hI (And.intro (by omega) (by omega))) ?_
          intro v122 M122 a122 b122 q122
          obtain ⟨q122, z122⟩ := q122
          subst z122
          refine And.intro rfl ?_
          refine ⟨fun ls hl hq hW => ?_, hS⟩
          have hm := hW.1
          show _ = sd_of ls (M 60) i n
          unfold sd_of
          rw [if_pos (by omega)]
          repeat first | rw [if_pos (by omega)] | rw [if_neg (by omega)]
          exact q122 (by omega)
        exact True.intro
      · intro h13
        refine And.intro (True.intro) ?_
        intro v130 M130 a130 b130 q130
        obtain ⟨q130, z130⟩ := q130
        subst z130
        clear a130 b130
        refine And.intro (fun h133 => ?_) (fun h133 => ?_)
        · skip
          replace q130 := q130.resolve_left (fun z => absurd (z.1.symm.trans h133) (by decide))
          clear h133
          refine And.intro rfl ?_
          refine ⟨fun ls hl hq hW => ?_, hS⟩
          have hm := hW.1
          show _ = sd_of ls (M 60) i n
          unfold sd_of
          rw [if_pos (by omega)]
          first
            | (exfalso; omega)
            | (have hn9 : n = 0 ∨ n = 1 ∨ n = 2 ∨ n = 4 ∨ n = 5 ∨ n = 6 ∨ n = 7 := by omega
               rcases hn9 with h9 | h9 | h9 | h9 | h9 | h9 | h9
               all_goals (repeat first | rw [if_pos (by omega)] | rw [if_neg (by omega)])
               all_goals (rw [e159]; congr 1; omega))
            | (repeat first | rw [if_pos (by omega)] | rw [if_neg (by omega)])
        · skip
          replace q130 := q130.resolve_right (fun z => h133 z.1)
          clear h133
          refine pz_nrc (c := 60) rfl ?_
          refine And.intro (fun h145 => ?_) (fun h145 => ?_)
          · skip
            intro v154 e154 a154 b154
            rw [pz_wi (by omega) (by omega)] at e154
            clear a154 b154
            intro v155 e155 a155 b155
            rw [pz_wi (by omega) (by omega)] at e155
            clear a155 b155
            intro v156 e156 a156 b156
            rw [pz_wi (by omega) (by omega)] at e156
            clear a156 b156
            intro v158 e158 a158 b158
            rw [pz_wi (by omega) (by omega)] at e158
            clear a158 b158
            refine And.intro (by omega) (And.intro (show _ < (1725 : Int) from by omega) ?_)
            intro v159 e159 a159 b159
            refine And.intro rfl ?_
            refine ⟨fun ls hl hq hW => ?_, hS⟩
            have hm := hW.1
            show _ = sd_of ls (M 60) i n
            unfold sd_of
            rw [if_pos (by omega)]
            first
              | (exfalso; omega)
              | (have hn9 : n = 0 ∨ n = 1 ∨ n = 2 ∨ n = 4 ∨ n = 5 ∨ n = 6 ∨ n = 7 := by omega
                 rcases hn9 with h9 | h9 | h9 | h9 | h9 | h9 | h9
                 all_goals (repeat first | rw [if_pos (by omega)] | rw [if_neg (by omega)])
                 all_goals (rw [e159]; congr 1; omega))
              | (repeat first | rw [if_pos (by omega)] | rw [if_neg (by omega)])
          · skip
            intro v155 e155 a155 b155
            rw [pz_wi (by omega) (by omega)] at e155
            clear a155 b155
            intro v156 e156 a156 b156
            rw [pz_wi (by omega) (by omega)] at e156
            clear a156 b156
            intro v158 e158 a158 b158
            rw [pz_wi (by omega) (by omega)] at e158
            clear a158 b158
            refine And.intro (by omega) (And.intro (show _ < (1725 : Int) from by omega) ?_)
            intro v159 e159 a159 b159
            refine And.intro rfl ?_
            refine ⟨fun ls hl hq hW => ?_, hS⟩
            have hm := hW.1
            show _ = sd_of ls (M 60) i n
            unfold sd_of
            rw [if_pos (by omega)]
            first
              | (exfalso; omega)
              | (have hn9 : n = 0 ∨ n = 1 ∨ n = 2 ∨ n = 4 ∨ n = 5 ∨ n = 6 ∨ n = 7 := by omega
                 rcases hn9 with h9 | h9 | h9 | h9 | h9 | h9 | h9
                 all_goals (repeat first | rw [if_pos (by omega)] | rw [if_neg (by omega)])
                 all_goals (rw [e159]; congr 1; omega))
              | (repeat first | rw [if_pos (by omega)] | rw [if_neg (by omega)])
    · skip
      replace q2 := q2.resolve_left (fun z => absurd (z.1.symm.trans h5) (by decide))
      clear h5
      refine And.intro rfl ?_
      refine ⟨fun ls hl hq hW => ?_, hS⟩
      have hm := hW.1
      show _ = sd_of ls (M 60) i n
      unfold sd_of
      rw [if_neg (by omega)]
theorem v3_X12_of {fr lo i : Nat} {own : String} (h1 : 5 + 1 ≤ fr) (h2 : 8 + (3 + 11) + 116 ≤ lo) (h3 : .methodLink own i yX12_of ∈ lw_tbl) : pz_cV fr lo own i k3_X12_of :=
  pz_cVk (maxL := 3) (fr' := 5) (lo' := 116) 2 12 h3_X12_of rfl ⟨by decide +kernel, by decide +kernel, by decide +kernel⟩ ⟨(pz_mt 1584 (by decide +kernel)), (pz_mt 1582 (by decide +kernel)), (pz_mt 1583 (by decide +kernel)), (pz_mt 13 (by decide +kernel))⟩ (Or.inl ⟨TX12, 28, rfl⟩) (fun a M _ h => by
    have h : (match (generalizing := false) a with | [.inr (.inr (12, th)), .inl i, .inl n] => pz_im M | _ => False) := h
    split at h
    · exact ⟨_, _, rfl⟩
    · exact h.elim) h1 h2 h3
noncomputable def k3_X11_gap : pz_C := (2, 1, fun a M => (match a with | [.inr (.inr (11, th)), .inl i] => pz_ic M | _ => False), fun a M r M' => (match a, r with | [.inr (.inr (11, th)), .inl i], some (.inl v) => (sd_wc M v (fun _ F => sd_gap F i)) ∧ M = M' | _, _ => False))
noncomputable abbrev ct3_X11_gap : List (Bool × Nat × pz_C) := [(true, 118, k_X0_has), (true, 346, k3_X0_lackOfMoney)]
set_option maxRecDepth 100000 in
set_option maxHeartbeats 4000000 in
theorem h3_X11_gap : pz_H yX11_gap cX11_gap 2 (some .int) k3_X11_gap 2 43 := by
  refine pz_mk (own := RX11) (tb := t_X11_gap) (fl := pz_flf fl_RX11) (ci := pz_cif ci_RX11) (ct := pz_ctf ct3_X11_gap) (rz := false) (by decide +kernel) rfl t_X11_gap_ok (pz_flk fl_RX11_ok) (pz_cik ci_RX11_ok) ?_ ?_ (Or.inl ⟨rfl, rfl⟩) ?_ ?_
  · exact fun i k' h => pz_ctk (l := ct3_X11_gap) (P := fun b i k => b = true → pz_cV 2 43 RX11 i k) (List.forall_mem_cons.mpr ⟨(fun _ => v_X0_has (by decide) (by decide) (pz_mt 444 (by decide +kernel))), List.forall_mem_cons.mpr ⟨(fun _ => v3_X0_lackOfMoney (by decide) (by decide) (pz_mt 1085 (by decide +kernel))), fun _ h => absurd h List.not_mem_nil⟩⟩) true i k' h rfl
  · exact fun i k' h => pz_ctk (l := ct3_X11_gap) (P := fun b i k => b = false → (pz_cS 2 43 RX11 i k ∨ (k = pz_kac ∧ 1 ≤ 2 ∧ 60 ≤ 43 ∧ Cond.methodLink RX11 i arraycopyName ∈ pz_tbl))) (List.forall_mem_cons.mpr ⟨((fun z => by cases z)), List.forall_mem_cons.mpr ⟨((fun z => by cases z)), fun _ h => absurd h List.not_mem_nil⟩⟩) false i k' h rfl
  · intro a M hlen hpre
    obtain ⟨th, i, rfl, hpre⟩ : ∃ th i, a = [.inr (.inr (11, th)), .inl i] ∧ (pz_ic M) := by
      have hpre : (match (generalizing := false) a with | [.inr (.inr (11, th)), .inl i] => pz_ic M | _ => False) := hpre
      split at hpre
      · exact ⟨_, _, rfl, hpre⟩
      · exact hpre.elim
    exact Nat.le_of_ble_eq_true rfl
  · intro a M hlen hcan hM hpre Ok hgo
    obtain ⟨th, i, rfl, hpre⟩ : ∃ th i, a = [.inr (.inr (11, th)), .inl i] ∧ (pz_ic M) := by
      have hpre : (match (generalizing := false) a with | [.inr (.inr (11, th)), .inl i] => pz_ic M | _ => False) := hpre
      split at hpre
      · exact ⟨_, _, rfl, hpre⟩
      · exact hpre.elim
    obtain ⟨k_th, hc_th⟩ := pz_tlm hcan
    have k_th : pz_kd th = 11 ∧ th < 231 := k_th
    have R_th := pz_kd11 k_th.1
    subst R_th
    obtain ⟨k_i, hc_i⟩ := pz_tlm hc_th
    have l_i : -2147483648 ≤ i := k_i.1
    have u_i : i ≤ 2147483647 := k_i.2
    have hI : pz_ic M := hpre
    refine hgo (fun _ => false) 14 0 _ [] M ?_
    refine pz_nrc (c := 71) rfl ?_
    refine And.intro (True.intro) ?_
    intro v5 M5 a5 b5 q5
    obtain ⟨q5, z5⟩ := q5
    subst z5
    refine And.intro (fun h8 => ?_) (fun h8 => ?_)
    · skip
      refine And.intro rfl ?_
      first
        | (refine ⟨fun ls l1 F hT hF hW => ?_, rfl⟩
           have hn := hF.1
           have hm := hW.1
           show _ = sd_gap F i
           unfold sd_gap
           have p0 : 0 ≤ i ∧ i < F 88 := by
             split at q5 <;> omega
           rw [if_pos p0]
           exact q16.2 F hF hW p0.1 p0.2)
        | (refine ⟨fun ls l1 F hT hF hW => ?_, rfl⟩
           have hn := hF.1
           have hm := hW.1
           show _ = sd_gap F i
           unfold sd_gap
           rw [if_neg (fun z => by split at q5 <;> omega)])
    · skip
      refine pz_nrc (c := 71) rfl ?_
      refine And.intro (hI) ?_
      intro v16 M16 a16 b16 q16
      obtain ⟨q16, z16⟩ := q16
      subst z16
      refine And.intro rfl ?_
      first
        | (refine ⟨fun ls l1 F hT hF hW => ?_, rfl⟩
           have hn := hF.1
           have hm := hW.1
           show _ = sd_gap F i
           unfold sd_gap
           have p0 : 0 ≤ i ∧ i < F 88 := by
             split at q5 <;> omega
           rw [if_pos p0]
           exact q16.2 F hF hW p0.1 p0.2)
        | (refine ⟨fun ls l1 F hT hF hW => ?_, rfl⟩
           have hn := hF.1
           have hm := hW.1
           show _ = sd_gap F i
           unfold sd_gap
           rw [if_neg (fun z => by split at q5 <;> omega)])
theorem v3_X11_gap {fr lo i : Nat} {own : String} (h1 : 2 + 1 ≤ fr) (h2 : 8 + (2 + 11) + 43 ≤ lo) (h3 : .methodLink own i yX11_gap ∈ lw_tbl) : pz_cV fr lo own i k3_X11_gap :=
  pz_cVk (maxL := 2) (fr' := 2) (lo' := 43) 1 11 h3_X11_gap rfl ⟨by decide +kernel, by decide +kernel, by decide +kernel⟩ ⟨(pz_mt 1084 (by decide +kernel)), (pz_mt 1082 (by decide +kernel)), (pz_mt 1083 (by decide +kernel)), (pz_mt 1 (by decide +kernel))⟩ (Or.inl ⟨TX11, 14, rfl⟩) (fun a M _ h => by
    have h : (match (generalizing := false) a with | [.inr (.inr (11, th)), .inl i] => pz_ic M | _ => False) := h
    split at h
    · exact ⟨_, _, rfl⟩
    · exact h.elim) h1 h2 h3
noncomputable def k3_X12_gap : pz_C := (2, 1, fun a M => (match a with | [.inr (.inr (12, th)), .inl i] => pz_im M | _ => False), fun a M r M' => (match a, r with | [.inr (.inr (12, th)), .inl i], some (.inl v) => (sd_wm M v (fun _ F => sd_gap F i)) ∧ M = M' | _, _ => False))
noncomputable abbrev ct3_X12_gap : List (Bool × Nat × pz_C) := [(true, 58, k_X12_isLink), (true, 361, k3_X12_canPay)]
set_option maxRecDepth 100000 in
set_option maxHeartbeats 4000000 in
theorem h3_X12_gap : pz_H yX12_gap cX12_gap 2 (some .int) k3_X12_gap 2 43 := by
  refine pz_mk (own := RX12) (tb := t_X12_gap) (fl := pz_flf fl_RX12) (ci := pz_cif ci_RX12) (ct := pz_ctf ct3_X12_gap) (rz := false) (by decide +kernel) rfl t_X12_gap_ok (pz_flk fl_RX12_ok) (pz_cik ci_RX12_ok) ?_ ?_ (Or.inl ⟨rfl, rfl⟩) ?_ ?_
  · exact fun i k' h => pz_ctk (l := ct3_X12_gap) (P := fun b i k => b = true → pz_cV 2 43 RX12 i k) (List.forall_mem_cons.mpr ⟨(fun _ => v_X12_isLink (by decide) (by decide) (pz_mt 1224 (by decide +kernel))), List.forall_mem_cons.mpr ⟨(fun _ => v3_X12_canPay (by decide) (by decide) (pz_mt 1573 (by decide +kernel))), fun _ h => absurd h List.not_mem_nil⟩⟩) true i k' h rfl
  · exact fun i k' h => pz_ctk (l := ct3_X12_gap) (P := fun b i k => b = false → (pz_cS 2 43 RX12 i k ∨ (k = pz_kac ∧ 1 ≤ 2 ∧ 60 ≤ 43 ∧ Cond.methodLink RX12 i arraycopyName ∈ pz_tbl))) (List.forall_mem_cons.mpr ⟨((fun z => by cases z)), List.forall_mem_cons.mpr ⟨((fun z => by cases z)), fun _ h => absurd h List.not_mem_nil⟩⟩) false i k' h rfl
  · intro a M hlen hpre
    obtain ⟨th, i, rfl, hpre⟩ : ∃ th i, a = [.inr (.inr (12, th)), .inl i] ∧ (pz_im M) := by
      have hpre : (match (generalizing := false) a with | [.inr (.inr (12, th)), .inl i] => pz_im M | _ => False) := hpre
      split at hpre
      · exact ⟨_, _, rfl, hpre⟩
      · exact hpre.elim
    exact Nat.le_of_ble_eq_true rfl
  · intro a M hlen hcan hM hpre Ok hgo
    obtain ⟨th, i, rfl, hpre⟩ : ∃ th i, a = [.inr (.inr (12, th)), .inl i] ∧ (pz_im M) := by
      have hpre : (match (generalizing := false) a with | [.inr (.inr (12, th)), .inl i] => pz_im M | _ => False) := hpre
      split at hpre
      · exact ⟨_, _, rfl, hpre⟩
      · exact hpre.elim
    obtain ⟨k_th, hc_th⟩ := pz_tlm hcan
    have k_th : pz_kd th = 12 ∧ th < 231 := k_th
    have R_th := pz_kd12 k_th.1
    subst R_th
    clear k_th
    obtain ⟨k_i, hc_i⟩ := pz_tlm hc_th
    have l_i : -2147483648 ≤ i := k_i.1
    have u_i : i ≤ 2147483647 := k_i.2
    have hI : pz_im M := hpre
    have I88 := hI.1.1
    refine hgo (fun _ => false) 41 0 _ [] M ?_
    refine And.intro (hI) ?_
    intro v2 M2 a2 b2 q2
    obtain ⟨q2, z2⟩ := q2
    subst z2
    clear a2 b2
    refine And.intro (fun h5 => ?_) (fun h5 => ?_)
    · skip
      replace q2 := q2.resolve_right (fun z => h5 z.1)
      clear h5
      refine And.intro (And.intro hI (And.intro (by omega) (by omega))) ?_
      intro v14 M14 a14 b14 q14
      obtain ⟨q14, z14⟩ := q14
      subst z14
      refine And.intro (fun h17 => ?_) (fun h17 => ?_)
      · skip
        refine pz_nrc (c := 60) rfl ?_
        intro v30 e30 a30 b30
        rw [pz_wi (by omega) (by omega)] at e30
        clear a30 b30
        intro v32 e32 a32 b32
        rw [pz_wi (by omega) (by omega)] at e32
        clear a32 b32
        refine And.intro (by omega) (And.intro (show _ < (1725 : Int) from by omega) ?_)
        intro v33 e33 a33 b33
        rw [show v32.toNat = 5 + i.toNat by omega] at e33
        refine pz_nrc (c := 60) rfl ?_
        intro v41 e41 a41 b41
        rw [pz_wi (by omega) (by omega)] at e41
        clear a41 b41
        refine And.intro (by omega) (And.intro (show _ < (1725 : Int) from by omega) ?_)
        intro v42 e42 a42 b42
        rw [show v41.toNat = 16 + i.toNat by omega] at e42
        intro v43 e43 a43 b43
        refine And.intro (fun h45 => ?_) (fun h45 => ?_)
        · skip
          replace h45 : 1 ≤ i := by omega
          refine pz_nrc (c := 60) rfl ?_
          intro v58 e58 a58 b58
          rw [pz_wi (by omega) (by omega)] at e58
          clear a58 b58
          refine And.intro (by omega) (And.intro (show _ < (1725 : Int) from by omega) ?_)
          intro v59 e59 a59 b59
          rw [show v58.toNat = 4 + i.toNat by omega] at e59
          intro v60 e60 a60 b60
          refine And.intro rfl ?_
          refine ⟨fun ls hl hq hW => ?_, rfl⟩
          have hm := hW.1
          show _ = sd_gap (M 60) i
          unfold sd_gap
          first
            | (rw [if_neg (by omega)]; done)
            | (have a := q14.2.trans (sd_py_i (F := M 60) (by omega))
               rw [if_pos (by omega)]
               have l := sd_lm_py (i := i.toNat) hW (by omega)
               first
                 | (rw [l.mpr (a.mp (by omega))]; done)
                 | (have np : ¬ sd_py (M 60) i.toNat := fun z => absurd (a.mpr z) (by omega)
                    obtain ⟨P0, P1, -⟩ := hW.2.2 i.toNat (by omega)
                    have ni : ¬ (i.toNat : Int) = M 60 88 - 1 := fun z => np (Or.inl z)
                    have P2 := (hW.2.2 (i.toNat + 1) (by omega)).1
                    rw [show 4 + (i.toNat + 1) = 5 + i.toNat by omega] at P2
                    have nz : sd_lm (M 60) i.toNat ≠ 0 := fun z => np (l.mp z)
                    unfold sd_lm at nz ⊢
                    rw [if_neg ni] at nz ⊢
                    rw [pz_wi (by omega) (by omega)] at e43
                    rw [pz_wi (by omega) (by omega)] at e60
                    first
                      | (rw [if_pos (by omega)] at nz ⊢
                         omega)
                      | (rw [if_neg (by omega)] at nz ⊢
                         omega)))
        · skip
          intro v60 e60 a60 b60
          refine And.intro rfl ?_
          refine ⟨fun ls hl hq hW => ?_, rfl⟩
          have hm := hW.1
          show _ = sd_gap (M 60) i
          unfold sd_gap
          first
            | (rw [if_neg (by omega)]; done)
            | (have a := q14.2.trans (sd_py_i (F := M 60) (by omega))
               rw [if_pos (by omega)]
               have l := sd_lm_py (i := i.toNat) hW (by omega)
               first
                 | (rw [l.mpr (a.mp (by omega))]; done)
                 | (have np : ¬ sd_py (M 60) i.toNat := fun z => absurd (a.mpr z) (by omega)
                    obtain ⟨P0, P1, -⟩ := hW.2.2 i.toNat (by omega)
                    have ni : ¬ (i.toNat : Int) = M 60 88 - 1 := fun z => np (Or.inl z)
                    have P2 := (hW.2.2 (i.toNat + 1) (by omega)).1
                    rw [show 4 + (i.toNat + 1) = 5 + i.toNat by omega] at P2
                    have nz : sd_lm (M 60) i.toNat ≠ 0 := fun z => np (l.mp z)
                    unfold sd_lm at nz ⊢
                    rw [if_neg ni] at nz ⊢
                    rw [pz_wi (by omega) (by omega)] at e43
                    rw [pz_wi (by omega) (by omega)] at e60
                    first
                      | (rw [if_pos (by omega)] at nz ⊢
                         omega)
                      | (rw [if_neg (by omega)] at nz ⊢
                         omega)))
      · skip
        refine And.intro rfl ?_
        refine ⟨fun ls hl hq hW => ?_, rfl⟩
        have hm := hW.1
        show _ = sd_gap (M 60) i
        unfold sd_gap
        first
          | (rw [if_neg (by omega)]; done)
          | (have a := q14.2.trans (sd_py_i (F := M 60) (by omega))
             rw [if_pos (by omega)]
             have l := sd_lm_py (i := i.toNat) hW (by omega)
             first
               | (rw [l.mpr (a.mp (by omega))]; done)
               | (have np : ¬ sd_py (M 60) i.toNat := fun z => absurd (a.mpr z) (by omega)
                  obtain ⟨P0, P1, -⟩ := hW.2.2 i.toNat (by omega)
                  have ni : ¬ (i.toNat : Int) = M 60 88 - 1 := fun z => np (Or.inl z)
                  have P2 := (hW.2.2 (i.toNat + 1) (by omega)).1
                  rw [show 4 + (i.toNat + 1) = 5 + i.toNat by omega] at P2
                  have nz : sd_lm (M 60) i.toNat ≠ 0 := fun z => np (l.mp z)
                  unfold sd_lm at nz ⊢
                  rw [if_neg ni] at nz ⊢
                  rw [pz_wi (by omega) (by omega)] at e43
                  rw [pz_wi (by omega) (by omega)] at e60
                  first
                    | (rw [if_pos (by omega)] at nz ⊢
                       omega)
                    | (rw [if_neg (by omega)] at nz ⊢
                       omega)))
    · skip
      replace q2 := q2.resolve_left (fun z => absurd (z.1.symm.trans h5) (by decide))
      clear h5
      refine And.intro rfl ?_
      refine ⟨fun ls hl hq hW => ?_, rfl⟩
      have hm := hW.1
      show _ = sd_gap (M 60) i
      unfold sd_gap
      first
        | (rw [if_neg (by omega)]; done)
        | (have a := q14.2.trans (sd_py_i (F := M 60) (by omega))
           rw [if_pos (by omega)]
           have l := sd_lm_py (i := i.toNat) hW (by omega)
           first
             | (rw [l.mpr (a.mp (by omega))]; done)
             | (have np : ¬ sd_py (M 60) i.toNat := fun z => absurd (a.mpr z) (by omega)
                obtain ⟨P0, P1, -⟩ := hW.2.2 i.toNat (by omega)
                have ni : ¬ (i.toNat : Int) = M 60 88 - 1 := fun z => np (Or.inl z)
                have P2 := (hW.2.2 (i.toNat + 1) (by omega)).1
                rw [show 4 + (i.toNat + 1) = 5 + i.toNat by omega] at P2
                have nz : sd_lm (M 60) i.toNat ≠ 0 := fun z => np (l.mp z)
                unfold sd_lm at nz ⊢
                rw [if_neg ni] at nz ⊢
                rw [pz_wi (by omega) (by omega)] at e43
                rw [pz_wi (by omega) (by omega)] at e60
                first
                  | (rw [if_pos (by omega)] at nz ⊢
                     omega)
                  | (rw [if_neg (by omega)] at nz ⊢
                     omega)))
theorem v3_X12_gap {fr lo i : Nat} {own : String} (h1 : 2 + 1 ≤ fr) (h2 : 8 + (2 + 11) + 43 ≤ lo) (h3 : .methodLink own i yX12_gap ∈ lw_tbl) : pz_cV fr lo own i k3_X12_gap :=
  pz_cVk (maxL := 2) (fr' := 2) (lo' := 43) 1 12 h3_X12_gap rfl ⟨by decide +kernel, by decide +kernel, by decide +kernel⟩ ⟨(pz_mt 1703 (by decide +kernel)), (pz_mt 1701 (by decide +kernel)), (pz_mt 1702 (by decide +kernel)), (pz_mt 13 (by decide +kernel))⟩ (Or.inl ⟨TX12, 28, rfl⟩) (fun a M _ h => by
    have h : (match (generalizing := false) a with | [.inr (.inr (12, th)), .inl i] => pz_im M | _ => False) := h
    split at h
    · exact ⟨_, _, rfl⟩
    · exact h.elim) h1 h2 h3
