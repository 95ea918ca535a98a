section
noncomputable def k3_X11_of : pz_C := (3, 1, fun a M => (match a with | [.inr (.inr (11, th)), .inl i, .inl w] => pz_ic M | _ => False), fun a M r M' => (match a, r with | [.inr (.inr (11, th)), .inl i, .inl w], some (.inl v) => (sd_wc M v (fun ls F => sd_of ls F i w)) ∧ pq_pr pq_Pk M M' | _, _ => False))
noncomputable abbrev ct3_X11_of : List (Bool × Nat × pz_C) := [(true, 118, k_X0_has), (true, 107, k_X0_at), (true, 212, k3_X3_tells), (true, 218, k3_X0_canPay), (true, 221, k3_X0_lacks)]
set_option maxRecDepth 100000 in
set_option maxHeartbeats 4000000 in
theorem h3_X11_of : pz_H yX11_of cX11_of 4 (some .int) k3_X11_of 4 97 := by
  refine pz_mk (own := RX11) (tb := t_X11_of) (fl := pz_flf fl_RX11) (ci := pz_cif ci_RX11) (ct := pz_ctf ct3_X11_of) (rz := false) (pz_pfc_RX11 yX11_of rfl) rfl t_X11_of_ok (pz_flk fl_RX11_ok) (pz_cik ci_RX11_ok) ?_ ?_ (Or.inl ⟨rfl, rfl⟩) ?_ ?_
  · exact fun i k' h => pz_ctk (l := ct3_X11_of) (P := fun b i k => b = true → pz_cV 4 97 RX11 i k) (List.forall_mem_cons.mpr ⟨(fun _ => v_X0_has (by decide) (by decide) pz_wq444), List.forall_mem_cons.mpr ⟨(fun _ => v_X0_at (by decide) (by decide) pz_wq428), List.forall_mem_cons.mpr ⟨(fun _ => v3_X3_tells (by decide) (by decide) pz_wq838), List.forall_mem_cons.mpr ⟨(fun _ => v3_X0_canPay (by decide) (by decide) pz_wq839), List.forall_mem_cons.mpr ⟨(fun _ => v3_X0_lacks (by decide) (by decide) pz_wq840), fun _ h => absurd h List.not_mem_nil⟩⟩⟩⟩⟩) true i k' h rfl
  · exact fun i k' h => pz_ctk (l := ct3_X11_of) (P := fun b i k => b = false → (pz_cS 4 97 RX11 i k ∨ (k = pz_kac ∧ 1 ≤ 4 ∧ 60 ≤ 97 ∧ Cond.methodLink RX11 i arraycopyName ∈ pz_tbl))) (List.forall_mem_cons.mpr ⟨((fun z => by cases z)), List.forall_mem_cons.mpr ⟨((fun z => by cases z)), List.forall_mem_cons.mpr ⟨((fun z => by cases z)), List.forall_mem_cons.mpr ⟨((fun z => by cases z)), List.forall_mem_cons.mpr ⟨((fun z => by cases z)), fun _ h => absurd h List.not_mem_nil⟩⟩⟩⟩⟩) false i k' h rfl
  · intro a M hlen hpre
    obtain ⟨th, i, w, rfl, hpre⟩ : ∃ th i w, a = [.inr (.inr (11, th)), .inl i, .inl w] ∧ (pz_ic M) := by
      have hpre : (match (generalizing := false) a with | [.inr (.inr (11, th)), .inl i, .inl w] => pz_ic M | _ => False) := hpre
      split at hpre
      · exact ⟨_, _, _, rfl, hpre⟩
      · exact hpre.elim
    exact Nat.le_of_ble_eq_true rfl
  · intro a M hlen hcan hM hpre Ok hgo
    obtain ⟨th, i, w, rfl, hpre⟩ : ∃ th i w, a = [.inr (.inr (11, th)), .inl i, .inl w] ∧ (pz_ic M) := by
      have hpre : (match (generalizing := false) a with | [.inr (.inr (11, th)), .inl i, .inl w] => pz_ic M | _ => False) := hpre
      split at hpre
      · exact ⟨_, _, _, rfl, hpre⟩
      · exact hpre.elim
    obtain ⟨k_th, hc_th⟩ := pz_tlm hcan
    have k_th : pz_kd th = 11 ∧ th < 231 := k_th
    have R_th := pz_kd11 k_th.1
    subst R_th
    obtain ⟨k_i, hc_i⟩ := pz_tlm hc_th
    have l_i : -2147483648 ≤ i := k_i.1
    have u_i : i ≤ 2147483647 := k_i.2
    obtain ⟨k_w, hc_w⟩ := pz_tlm hc_i
    have l_w : -2147483648 ≤ w := k_w.1
    have u_w : w ≤ 2147483647 := k_w.2
    have hI : pz_ic M := hpre
    have hI0 := hI
    have hS : pq_pr pq_Pk M M := pq_pr.rf
    refine hgo (fun _ => false) 92 0 _ [] M ?_
    refine pz_nrc (c := 71) rfl ?_
    refine And.intro (True.intro) ?_
    intro v5 M5 a5 b5 q5
    obtain ⟨q5, z5⟩ := q5
    subst z5
    refine And.intro (fun h8 => ?_) (fun h8 => ?_)
    · skip
      refine pz_nrc (c := 71) rfl ?_
      refine And.intro (True.intro) ?_
      intro r19 M19 k19 q19
      have R19 := pz_kd5 k19
      obtain ⟨q19, z19⟩ := q19
      subst z19
      have A19 := pz_at_lk (c := 71) (⟨by decide, by decide⟩ : 71 ≤ 71 ∧ 71 < 80) q19
      refine And.intro ?_ ?_
      · skip
        refine And.intro (fun h24 => ?_) ?_
        · skip
          intro v97 e97 a97 b97
          refine And.intro rfl ?_
          refine ⟨fun ls l1 F hT hF hW => ?_, hS⟩
          have hn := hF.1
          have hm := hW.1
          show _ = sd_of ls F i w
          unfold sd_of
          have p0 : 0 ≤ i ∧ i < F 88 := by
            split at q5 <;> omega
          have b := sd_at (⟨by decide, by decide⟩ : 71 ≤ 71 ∧ 71 < 80) hF hW p0.1 p0.2 A19
          rw [if_pos p0]
          repeat first | rw [if_pos (by first | decide | omega)] | rw [if_neg (by first | decide | omega)]
          exact e97.trans b.1
        refine And.intro (fun h24 => ?_) ?_
        · skip
          intro v102 e102 a102 b102
          refine And.intro rfl ?_
          refine ⟨fun ls l1 F hT hF hW => ?_, hS⟩
          have hn := hF.1
          have hm := hW.1
          show _ = sd_of ls F i w
          unfold sd_of
          have p0 : 0 ≤ i ∧ i < F 88 := by
            split at q5 <;> omega
          have b := sd_at (⟨by decide, by decide⟩ : 71 ≤ 71 ∧ 71 < 80) hF hW p0.1 p0.2 A19
          rw [if_pos p0]
          repeat first | rw [if_pos (by first | decide | omega)] | rw [if_neg (by first | decide | omega)]
          exact e102.trans b.2.1
        refine And.intro (fun h24 => ?_) ?_
        · skip
          intro v107 e107 a107 b107
          refine And.intro rfl ?_
          refine ⟨fun ls l1 F hT hF hW => ?_, hS⟩
          have hn := hF.1
          have hm := hW.1
          show _ = sd_of ls F i w
          unfold sd_of
          have p0 : 0 ≤ i ∧ i < F 88 := by
            split at q5 <;> omega
          have b := sd_at (⟨by decide, by decide⟩ : 71 ≤ 71 ∧ 71 < 80) hF hW p0.1 p0.2 A19
          rw [if_pos p0]
          repeat first | rw [if_pos (by first | decide | omega)] | rw [if_neg (by first | decide | omega)]
          exact e107.trans b.2.2.1
        refine And.intro (fun h24 => ?_) ?_
        · skip
          intro v112 e112 a112 b112
          refine And.intro rfl ?_
          refine ⟨fun ls l1 F hT hF hW => ?_, hS⟩
          have hn := hF.1
          have hm := hW.1
          show _ = sd_of ls F i w
          unfold sd_of
          have p0 : 0 ≤ i ∧ i < F 88 := by
            split at q5 <;> omega
          have b := sd_at (⟨by decide, by decide⟩ : 71 ≤ 71 ∧ 71 < 80) hF hW p0.1 p0.2 A19
          rw [if_pos p0]
          repeat first | rw [if_pos (by first | decide | omega)] | rw [if_neg (by first | decide | omega)]
          exact e112.trans b.2.2.2.1
        refine And.intro (fun h24 => ?_) ?_
        · skip
          intro v117 e117 a117 b117
          refine And.intro rfl ?_
          refine ⟨fun ls l1 F hT hF hW => ?_, hS⟩
          have hn := hF.1
          have hm := hW.1
          show _ = sd_of ls F i w
          unfold sd_of
          have p0 : 0 ≤ i ∧ i < F 88 := by
            split at q5 <;> omega
          have b := sd_at (⟨by decide, by decide⟩ : 71 ≤ 71 ∧ 71 < 80) hF hW p0.1 p0.2 A19
          rw [if_pos p0]
          repeat first | rw [if_pos (by first | decide | omega)] | rw [if_neg (by first | decide | omega)]
          exact e117.trans b.2.2.2.2.1
        refine And.intro (fun h24 => ?_) ?_
        · skip
          intro v122 e122 a122 b122
          refine And.intro rfl ?_
          refine ⟨fun ls l1 F hT hF hW => ?_, hS⟩
          have hn := hF.1
          have hm := hW.1
          show _ = sd_of ls F i w
          unfold sd_of
          have p0 : 0 ≤ i ∧ i < F 88 := by
            split at q5 <;> omega
          have b := sd_at (⟨by decide, by decide⟩ : 71 ≤ 71 ∧ 71 < 80) hF hW p0.1 p0.2 A19
          rw [if_pos p0]
          repeat first | rw [if_pos (by first | decide | omega)] | rw [if_neg (by first | decide | omega)]
          exact e122.trans b.2.2.2.2.2.1
        refine And.intro (fun h24 => ?_) ?_
        · skip
          intro v127 e127 a127 b127
          refine And.intro rfl ?_
          refine ⟨fun ls l1 F hT hF hW => ?_, hS⟩
          have hn := hF.1
          have hm := hW.1
          show _ = sd_of ls F i w
          unfold sd_of
          have p0 : 0 ≤ i ∧ i < F 88 := by
            split at q5 <;> omega
          have b := sd_at (⟨by decide, by decide⟩ : 71 ≤ 71 ∧ 71 < 80) hF hW p0.1 p0.2 A19
          rw [if_pos p0]
          repeat first | rw [if_pos (by first | decide | omega)] | rw [if_neg (by first | decide | omega)]
          exact e127.trans b.2.2.2.2.2.2.1
        refine And.intro (fun h24 => ?_) ?_
        · skip
          intro v132 e132 a132 b132
          refine And.intro rfl ?_
          refine ⟨fun ls l1 F hT hF hW => ?_, hS⟩
          have hn := hF.1
          have hm := hW.1
          show _ = sd_of ls F i w
          unfold sd_of
          have p0 : 0 ≤ i ∧ i < F 88 := by
            split at q5 <;> omega
          have b := sd_at (⟨by decide, by decide⟩ : 71 ≤ 71 ∧ 71 < 80) hF hW p0.1 p0.2 A19
          rw [if_pos p0]
          repeat first | rw [if_pos (by first | decide | omega)] | rw [if_neg (by first | decide | omega)]
          exact e132.trans b.2.2.2.2.2.2.2
        refine And.intro (fun h24 => ?_) ?_
        · skip
          refine pz_nrc (c := 8) rfl ?_
          intro r140 e140 k140
          have R140 := pz_kd3 k140
          have L140 : r140 = 10 := by rw [e140]; rfl
          refine pz_nrc (c := 71) rfl ?_
          refine And.intro (hI) ?_
          intro v149 M149 a149 b149 q149
          obtain ⟨q149, z149⟩ := q149
          have hS : pq_pr pq_Pk M M149 := hS.tr z149.wpk
          have hI : pz_ic M149 := hS.1 hI0
          rw [L140] at q149
          refine And.intro rfl ?_
          refine ⟨fun ls l1 F hT hF hW => ?_, hS⟩
          have hn := hF.1
          have hm := hW.1
          show _ = sd_of ls F i w
          unfold sd_of
          have p0 : 0 ≤ i ∧ i < F 88 := by
            split at q5 <;> omega
          rw [if_pos p0]
          repeat first | rw [if_pos (by first | decide | omega)] | rw [if_neg (by first | decide | omega)]
          exact sd_tel0 (⟨by decide, by decide⟩ : 71 ≤ 71 ∧ 71 < 80) hT hF hW p0.1 p0.2 q149.2
        refine And.intro (fun h24 => ?_) ?_
        · skip
          refine pz_nrc (c := 8) rfl ?_
          intro r157 e157 k157
          have R157 := pz_kd3 k157
          have L157 : r157 = 10 := by rw [e157]; rfl
          refine pz_nrc (c := 71) rfl ?_
          refine And.intro (hI) ?_
          intro v166 M166 a166 b166 q166
          obtain ⟨q166, z166⟩ := q166
          have hS : pq_pr pq_Pk M M166 := hS.tr z166.wpk
          have hI : pz_ic M166 := hS.1 hI0
          rw [L157] at q166
          refine And.intro rfl ?_
          refine ⟨fun ls l1 F hT hF hW => ?_, hS⟩
          have hn := hF.1
          have hm := hW.1
          show _ = sd_of ls F i w
          unfold sd_of
          have p0 : 0 ≤ i ∧ i < F 88 := by
            split at q5 <;> omega
          rw [if_pos p0]
          repeat first | rw [if_pos (by first | decide | omega)] | rw [if_neg (by first | decide | omega)]
          exact sd_tel1 (⟨by decide, by decide⟩ : 71 ≤ 71 ∧ 71 < 80) hT hF hW p0.1 p0.2 q166.2
        refine And.intro (fun h24 => ?_) ?_
        · skip
          refine pz_nrc (c := 8) rfl ?_
          intro r174 e174 k174
          have R174 := pz_kd3 k174
          have L174 : r174 = 10 := by rw [e174]; rfl
          refine pz_nrc (c := 71) rfl ?_
          refine And.intro (hI) ?_
          intro v183 M183 a183 b183 q183
          obtain ⟨q183, z183⟩ := q183
          have hS : pq_pr pq_Pk M M183 := hS.tr z183.wpk
          have hI : pz_ic M183 := hS.1 hI0
          rw [L174] at q183
          refine And.intro rfl ?_
          refine ⟨fun ls l1 F hT hF hW => ?_, hS⟩
          have hn := hF.1
          have hm := hW.1
          show _ = sd_of ls F i w
          unfold sd_of
          have p0 : 0 ≤ i ∧ i < F 88 := by
            split at q5 <;> omega
          rw [if_pos p0]
          repeat first | rw [if_pos (by first | decide | omega)] | rw [if_neg (by first | decide | omega)]
          exact sd_tel2 (⟨by decide, by decide⟩ : 71 ≤ 71 ∧ 71 < 80) hT hF hW p0.1 p0.2 q183.2
        refine And.intro (fun h24 => ?_) ?_
        · skip
          refine pz_nrc (c := 8) rfl ?_
          intro r191 e191 k191
          have R191 := pz_kd3 k191
          have L191 : r191 = 10 := by rw [e191]; rfl
          refine pz_nrc (c := 71) rfl ?_
          refine And.intro (hI) ?_
          intro v200 M200 a200 b200 q200
          obtain ⟨q200, z200⟩ := q200
          have hS : pq_pr pq_Pk M M200 := hS.tr z200.wpk
          have hI : pz_ic M200 := hS.1 hI0
          rw [L191] at q200
          refine And.intro rfl ?_
          refine ⟨fun ls l1 F hT hF hW => ?_, hS⟩
          have hn := hF.1
          have hm := hW.1
          show _ = sd_of ls F i w
          unfold sd_of
          have p0 : 0 ≤ i ∧ i < F 88 := by
            split at q5 <;> omega
          rw [if_pos p0]
          repeat first | rw [if_pos (by first | decide | omega)] | rw [if_neg (by first | decide | omega)]
          exact sd_tel3 (⟨by decide, by decide⟩ : 71 ≤ 71 ∧ 71 < 80) hT hF hW p0.1 p0.2 q200.2
        refine And.intro (fun h24 => ?_) ?_
        · skip
          refine pz_nrc (c := 71) rfl ?_
          refine And.intro (hI) ?_
          intro v209 M209 a209 b209 q209
          obtain ⟨q209, z209⟩ := q209
          subst z209
          refine And.intro (fun h212 => ?_) (fun h212 => ?_)
          · skip
            refine And.intro rfl ?_
            refine ⟨fun ls l1 F hT hF hW => ?_, hS⟩
            have hn := hF.1
            have hm := hW.1
            show _ = sd_of ls F i w
            unfold sd_of
            have p0 : 0 ≤ i ∧ i < F 88 := by
              split at q5 <;> omega
            rw [if_pos p0]
            repeat first | rw [if_pos (by first | decide | omega)] | rw [if_neg (by first | decide | omega)]
            have a := q209.2 F hF hW p0.1 p0.2
            first
              | exact (if_pos (a.mp (by first | decide | omega))).symm
              | exact (if_neg (fun z => absurd (a.mpr z) (by first | decide | omega))).symm
          · skip
            refine And.intro rfl ?_
            refine ⟨fun ls l1 F hT hF hW => ?_, hS⟩
            have hn := hF.1
            have hm := hW.1
            show _ = sd_of ls F i w
            unfold sd_of
            have p0 : 0 ≤ i ∧ i < F 88 := by
              split at q5 <;> omega
            rw [if_pos p0]
            repeat first | rw [if_pos (by first | decide | omega)] | rw [if_neg (by first | decide | omega)]
            have a := q209.2 F hF hW p0.1 p0.2
            first
              | exact (if_pos (a.mp (by first | decide | omega))).symm
              | exact (if_neg (fun z => absurd (a.mpr z) (by first | decide | omega))).symm
        refine And.intro (fun h24 => ?_) ?_
        · skip
          refine pz_nrc (c := 71) rfl ?_
          refine And.intro (hI) ?_
          intro v226 M226 a226 b226 q226
          obtain ⟨q226, z226⟩ := q226
          subst z226
          refine And.intro rfl ?_
          refine ⟨fun ls l1 F hT hF hW => ?_, hS⟩
          have hn := hF.1
          have hm := hW.1
          show _ = sd_of ls F i w
          unfold sd_of
          have p0 : 0 ≤ i ∧ i < F 88 := by
            split at q5 <;> omega
          rw [if_pos p0]
          repeat first | rw [if_pos (by first | decide | omega)] | rw [if_neg (by first | decide | omega)]
          exact q226.trans (sd_lc hF hW p0.1 p0.2)
        exact True.intro
      · intro h24
        refine And.intro rfl ?_
        refine ⟨fun ls l1 F hT hF hW => ?_, hS⟩
        have hn := hF.1
        have hm := hW.1
        show _ = sd_of ls F i w
        unfold sd_of
        have p0 : 0 ≤ i ∧ i < F 88 := by
          split at q5 <;> omega
        rw [if_pos p0]
        repeat first | rw [if_pos (by first | decide | omega)] | rw [if_neg (by first | decide | omega)]
    · skip
      refine And.intro rfl ?_
      refine ⟨fun ls l1 F hT hF hW => ?_, hS⟩
      have hn := hF.1
      have hm := hW.1
      show _ = sd_of ls F i w
      unfold sd_of
      rw [if_neg (fun z => by split at q5 <;> omega)]
theorem v3_X11_of {fr lo i : Nat} {own : String} (h1 : 4 + 1 ≤ fr) (h2 : 8 + (4 + 11) + 97 ≤ lo) (h3 : .methodLink own i yX11_of ∈ lw_tbl) : pz_cV fr lo own i k3_X11_of :=
  pz_cVk (maxL := 4) (fr' := 4) (lo' := 97) 2 11 h3_X11_of rfl ⟨(pz_nhc_RX11 yX11_of rfl).1, (pz_nhc_RX11 yX11_of rfl).2, pz_ds10⟩ ⟨pz_wq836, pz_wq834, pz_wq835, pz_wq1⟩ (Or.inl ⟨TX11, 14, rfl⟩) (fun a M _ h => by
    have h : (match (generalizing := false) a with | [.inr (.inr (11, th)), .inl i, .inl w] => pz_ic M | _ => False) := h
    split at h
    · exact ⟨_, _, rfl⟩
    · exact h.elim) h1 h2 h3
noncomputable def k3_X12_of : pz_C := (3, 1, fun a M => (match a with | [.inr (.inr (12, th)), .inl i, .inl n] => pz_im M | _ => False), fun a M r M' => (match a, r with | [.inr (.inr (12, th)), .inl i, .inl n], some (.inl v) => (sd_wm M v (fun ls F => sd_of ls F i n)) ∧ pz_rl pz_QV M M' | _, _ => False))
noncomputable abbrev ct3_X12_of : List (Bool × Nat × pz_C) := [(true, 58, k_X12_isLink), (true, 370, k3_X12_readyOf), (true, 376, k3_X12_leaveOf), (true, 320, k3_X12_giveOf), (true, 385, k3_X12_costOf), (true, 361, k3_X12_canPay), (true, 300, k3_X12_lacksOf), (false, 54, k_X12_isIn)]
set_option maxRecDepth 100000 in
set_option maxHeartbeats 4000000 in
theorem h3_X12_of : pz_H yX12_of cX12_of 3 (some .int) k3_X12_of 5 116 := by
  refine pz_mk (own := RX12) (tb := t_X12_of) (fl := pz_flf fl_RX12) (ci := pz_cif ci_RX12) (ct := pz_ctf ct3_X12_of) (rz := false) (pz_pfc_RX12 yX12_of rfl) rfl t_X12_of_ok (pz_flk fl_RX12_ok) (pz_cik ci_RX12_ok) ?_ ?_ (Or.inl ⟨rfl, rfl⟩) ?_ ?_
  · exact fun i k' h => pz_ctk (l := ct3_X12_of) (P := fun b i k => b = true → pz_cV 5 116 RX12 i k) (List.forall_mem_cons.mpr ⟨(fun _ => v_X12_isLink (by decide) (by decide) pz_wq1224), List.forall_mem_cons.mpr ⟨(fun _ => v3_X12_readyOf (by decide) (by decide) pz_wq1539), List.forall_mem_cons.mpr ⟨(fun _ => v3_X12_leaveOf (by decide) (by decide) pz_wq1553), List.forall_mem_cons.mpr ⟨(fun _ => v3_X12_giveOf (by decide) (by decide) pz_wq1435), List.forall_mem_cons.mpr ⟨(fun _ => v3_X12_costOf (by decide) (by decide) pz_wq1577), List.forall_mem_cons.mpr ⟨(fun _ => v3_X12_canPay (by decide) (by decide) pz_wq1573), List.forall_mem_cons.mpr ⟨(fun _ => v3_X12_lacksOf (by decide) (by decide) pz_wq1443), List.forall_mem_cons.mpr ⟨((fun z => by cases z)), fun _ h => absurd h List.not_mem_nil⟩⟩⟩⟩⟩⟩⟩⟩) true i k' h rfl
  · exact fun i k' h => pz_ctk (l := ct3_X12_of) (P := fun b i k => b = false → (pz_cS 5 116 RX12 i k ∨ (k = pz_kac ∧ 1 ≤ 5 ∧ 60 ≤ 116 ∧ Cond.methodLink RX12 i arraycopyName ∈ pz_tbl))) (List.forall_mem_cons.mpr ⟨((fun z => by cases z)), List.forall_mem_cons.mpr ⟨((fun z => by cases z)), List.forall_mem_cons.mpr ⟨((fun z => by cases z)), List.forall_mem_cons.mpr ⟨((fun z => by cases z)), List.forall_mem_cons.mpr ⟨((fun z => by cases z)), List.forall_mem_cons.mpr ⟨((fun z => by cases z)), List.forall_mem_cons.mpr ⟨((fun z => by cases z)), List.forall_mem_cons.mpr ⟨(fun _ => Or.inl (s_X12_isIn (by decide) (by decide) (Or.inl pz_wq1217))), fun _ h => absurd h List.not_mem_nil⟩⟩⟩⟩⟩⟩⟩⟩) false i k' h rfl
  · intro a M hlen hpre
    obtain ⟨th, i, n, rfl, hpre⟩ : ∃ th i n, a = [.inr (.inr (12, th)), .inl i, .inl n] ∧ (pz_im M) := by
      have hpre : (match (generalizing := false) a with | [.inr (.inr (12, th)), .inl i, .inl n] => pz_im M | _ => False) := hpre
      split at hpre
      · exact ⟨_, _, _, rfl, hpre⟩
      · exact hpre.elim
    exact Nat.le_of_ble_eq_true rfl
  · intro a M hlen hcan hM hpre Ok hgo
    obtain ⟨th, i, n, rfl, hpre⟩ : ∃ th i n, a = [.inr (.inr (12, th)), .inl i, .inl n] ∧ (pz_im M) := by
      have hpre : (match (generalizing := false) a with | [.inr (.inr (12, th)), .inl i, .inl n] => pz_im M | _ => False) := hpre
      split at hpre
      · exact ⟨_, _, _, rfl, hpre⟩
      · exact hpre.elim
    obtain ⟨k_th, hc_th⟩ := pz_tlm hcan
    have k_th : pz_kd th = 12 ∧ th < 231 := k_th
    have R_th := pz_kd12 k_th.1
    subst R_th
    clear k_th
    obtain ⟨k_i, hc_i⟩ := pz_tlm hc_th
    have l_i : -2147483648 ≤ i := k_i.1
    have u_i : i ≤ 2147483647 := k_i.2
    obtain ⟨k_n, hc_n⟩ := pz_tlm hc_i
    have l_n : -2147483648 ≤ n := k_n.1
    have u_n : n ≤ 2147483647 := k_n.2
    have hI : pz_im M := hpre
    have hI0 := hI
    have hS : pz_rl pz_QV M M := pz_rl.rf
    have I88 := hI.1.1
    refine hgo (fun _ => false) 70 0 _ [] M ?_
    refine And.intro (hI) ?_
    intro v2 M2 a2 b2 q2
    obtain ⟨q2, z2⟩ := q2
    subst z2
    clear a2 b2
    refine And.intro (fun h5 => ?_) (fun h5 => ?_)
    · skip
      replace q2 := q2.resolve_right (fun z => h5 z.1)
      clear h5
      refine And.intro ?_ ?_
      · skip
        refine And.intro (fun h13 => ?_) ?_
        · skip
          refine pz_nrc (c := 60) rfl ?_
          intro v79 e79 a79 b79
          rw [pz_wi (by first | decide | omega) (by first | decide | omega)] at e79
          clear a79 b79
          have lo80 : (0 : Int) ≤ v79 := by omega
          have tn80 : (((v79).toNat : Nat) : Int) = v79 := Int.toNat_of_nonneg lo80
          refine And.intro (lo80) (And.intro (show _ < (1725 : Int) from by omega) ?_)
          intro v80 e80 a80 b80
          rw [show v79.toNat = 93 + i.toNat by omega] at e80
          refine And.intro rfl ?_
          refine ⟨fun ls hl hq hW => ?_, hS⟩
          have hm := hW.1
          show _ = sd_of ls (M 60) i n
          unfold sd_of
          rw [if_pos (by first | decide | omega)]
          repeat first | rw [if_pos (by first | decide | omega)] | rw [if_neg (by first | decide | omega)]
          exact e80
        refine And.intro (fun h13 => ?_) ?_
        · skip
          refine And.intro (True.intro) ?_
          intro v130 M130 a130 b130 q130
          obtain ⟨q130, z130⟩ := q130
          subst z130
          clear a130 b130
          refine And.intro (fun h133 => ?_) (fun h133 => ?_)
          · skip
            replace q130 := q130.resolve_left (fun z => absurd (z.1.symm.trans h133) (by decide))
            clear h133
            refine And.intro rfl ?_
            refine ⟨fun ls hl hq hW => ?_, hS⟩
            have hm := hW.1
            show _ = sd_of ls (M 60) i n
            unfold sd_of
            rw [if_pos (by first | decide | omega)]
            first
              | (exfalso; omega)
              | (have hn9 : n = 0 ∨ n = 1 ∨ n = 2 ∨ n = 4 ∨ n = 5 ∨ n = 6 ∨ n = 7 := by omega
                 rcases hn9 with h9 | h9 | h9 | h9 | h9 | h9 | h9
                 all_goals (repeat first | rw [if_pos (by first | decide | omega)] | rw [if_neg (by first | decide | omega)])
                 all_goals (rw [e159]; congr 1; omega))
              | (repeat first | rw [if_pos (by first | decide | omega)] | rw [if_neg (by first | decide | omega)])
          · skip
            replace q130 := q130.resolve_right (fun z => h133 z.1)
            clear h133
            refine pz_nrc (c := 60) rfl ?_
            refine And.intro (fun h145 => ?_) (fun h145 => ?_)
            · skip
              intro v154 e154 a154 b154
              rw [pz_wi (by first | decide | omega) (by first | decide | omega)] at e154
              clear a154 b154
              intro v155 e155 a155 b155
              rw [pz_wi (by first | decide | omega) (by first | decide | omega)] at e155
              clear a155 b155
              intro v156 e156 a156 b156
              rw [pz_wi (by first | decide | omega) (by first | decide | omega)] at e156
              clear a156 b156
              intro v158 e158 a158 b158
              rw [pz_wi (by first | decide | omega) (by first | decide | omega)] at e158
              clear a158 b158
              have lo159 : (0 : Int) ≤ v158 := by omega
              have tn159 : (((v158).toNat : Nat) : Int) = v158 := Int.toNat_of_nonneg lo159
              refine And.intro (lo159) (And.intro (show _ < (1725 : Int) from by omega) ?_)
              intro v159 e159 a159 b159
              refine And.intro rfl ?_
              refine ⟨fun ls hl hq hW => ?_, hS⟩
              have hm := hW.1
              show _ = sd_of ls (M 60) i n
              unfold sd_of
              rw [if_pos (by first | decide | omega)]
              first
                | (exfalso; omega)
                | (have hn9 : n = 0 ∨ n = 1 ∨ n = 2 ∨ n = 4 ∨ n = 5 ∨ n = 6 ∨ n = 7 := by omega
                   rcases hn9 with h9 | h9 | h9 | h9 | h9 | h9 | h9
                   all_goals (repeat first | rw [if_pos (by first | decide | omega)] | rw [if_neg (by first | decide | omega)])
                   all_goals (rw [e159]; congr 1; omega))
                | (repeat first | rw [if_pos (by first | decide | omega)] | rw [if_neg (by first | decide | omega)])
            · skip
              intro v155 e155 a155 b155
              rw [pz_wi (by first | decide | omega) (by first | decide | omega)] at e155
              clear a155 b155
              intro v156 e156 a156 b156
              rw [pz_wi (by first | decide | omega) (by first | decide | omega)] at e156
              clear a156 b156
              intro v158 e158 a158 b158
              rw [pz_wi (by first | decide | omega) (by first | decide | omega)] at e158
              clear a158 b158
              have lo159 : (0 : Int) ≤ v158 := by omega
              have tn159 : (((v158).toNat : Nat) : Int) = v158 := Int.toNat_of_nonneg lo159
              refine And.intro (lo159) (And.intro (show _ < (1725 : Int) from by omega) ?_)
              intro v159 e159 a159 b159
              refine And.intro rfl ?_
              refine ⟨fun ls hl hq hW => ?_, hS⟩
              have hm := hW.1
              show _ = sd_of ls (M 60) i n
              unfold sd_of
              rw [if_pos (by first | decide | omega)]
              first
                | (exfalso; omega)
                | (have hn9 : n = 0 ∨ n = 1 ∨ n = 2 ∨ n = 4 ∨ n = 5 ∨ n = 6 ∨ n = 7 := by omega
                   rcases hn9 with h9 | h9 | h9 | h9 | h9 | h9 | h9
                   all_goals (repeat first | rw [if_pos (by first | decide | omega)] | rw [if_neg (by first | decide | omega)])
                   all_goals (rw [e159]; congr 1; omega))
                | (repeat first | rw [if_pos (by first | decide | omega)] | rw [if_neg (by first | decide | omega)])
        refine And.intro (fun h13 => ?_) ?_
        · skip
          refine And.intro (True.intro) ?_
          intro v130 M130 a130 b130 q130
          obtain ⟨q130, z130⟩ := q130
          subst z130
          clear a130 b130
          refine And.intro (fun h133 => ?_) (fun h133 => ?_)
          · skip
            replace q130 := q130.resolve_left (fun z => absurd (z.1.symm.trans h133) (by decide))
            clear h133
            refine And.intro rfl ?_
            refine ⟨fun ls hl hq hW => ?_, hS⟩
            have hm := hW.1
            show _ = sd_of ls (M 60) i n
            unfold sd_of
            rw [if_pos (by first | decide | omega)]
            first
              | (exfalso; omega)
              | (have hn9 : n = 0 ∨ n = 1 ∨ n = 2 ∨ n = 4 ∨ n = 5 ∨ n = 6 ∨ n = 7 := by omega
                 rcases hn9 with h9 | h9 | h9 | h9 | h9 | h9 | h9
                 all_goals (repeat first | rw [if_pos (by first | decide | omega)] | rw [if_neg (by first | decide | omega)])
                 all_goals (rw [e159]; congr 1; omega))
              | (repeat first | rw [if_pos (by first | decide | omega)] | rw [if_neg (by first | decide | omega)])
          · skip
            replace q130 := q130.resolve_right (fun z => h133 z.1)
            clear h133
            refine pz_nrc (c := 60) rfl ?_
            refine And.intro (fun h145 => ?_) (fun h145 => ?_)
            · skip
              intro v154 e154 a154 b154
              rw [pz_wi (by first | decide | omega) (by first | decide | omega)] at e154
              clear a154 b154
              intro v155 e155 a155 b155
              rw [pz_wi (by first | decide | omega) (by first | decide | omega)] at e155
              clear a155 b155
              intro v156 e156 a156 b156
              rw [pz_wi (by first | decide | omega) (by first | decide | omega)] at e156
              clear a156 b156
              intro v158 e158 a158 b158
              rw [pz_wi (by first | decide | omega) (by first | decide | omega)] at e158
              clear a158 b158
              have lo159 : (0 : Int) ≤ v158 := by omega
              have tn159 : (((v158).toNat : Nat) : Int) = v158 := Int.toNat_of_nonneg lo159
              refine And.intro (lo159) (And.intro (show _ < (1725 : Int) from by omega) ?_)
              intro v159 e159 a159 b159
              refine And.intro rfl ?_
              refine ⟨fun ls hl hq hW => ?_, hS⟩
              have hm := hW.1
              show _ = sd_of ls (M 60) i n
              unfold sd_of
              rw [if_pos (by first | decide | omega)]
              first
                | (exfalso; omega)
                | (have hn9 : n = 0 ∨ n = 1 ∨ n = 2 ∨ n = 4 ∨ n = 5 ∨ n = 6 ∨ n = 7 := by omega
                   rcases hn9 with h9 | h9 | h9 | h9 | h9 | h9 | h9
                   all_goals (repeat first | rw [if_pos (by first | decide | omega)] | rw [if_neg (by first | decide | omega)])
                   all_goals (rw [e159]; congr 1; omega))
                | (repeat first | rw [if_pos (by first | decide | omega)] | rw [if_neg (by first | decide | omega)])
            · skip
              intro v155 e155 a155 b155
              rw [pz_wi (by first | decide | omega) (by first | decide | omega)] at e155
              clear a155 b155
              intro v156 e156 a156 b156
              rw [pz_wi (by first | decide | omega) (by first | decide | omega)] at e156
              clear a156 b156
              intro v158 e158 a158 b158
              rw [pz_wi (by first | decide | omega) (by first | decide | omega)] at e158
              clear a158 b158
              have lo159 : (0 : Int) ≤ v158 := by omega
              have tn159 : (((v158).toNat : Nat) : Int) = v158 := Int.toNat_of_nonneg lo159
              refine And.intro (lo159) (And.intro (show _ < (1725 : Int) from by omega) ?_)
              intro v159 e159 a159 b159
              refine And.intro rfl ?_
              refine ⟨fun ls hl hq hW => ?_, hS⟩
              have hm := hW.1
              show _ = sd_of ls (M 60) i n
              unfold sd_of
              rw [if_pos (by first | decide | omega)]
              first
                | (exfalso; omega)
                | (have hn9 : n = 0 ∨ n = 1 ∨ n = 2 ∨ n = 4 ∨ n = 5 ∨ n = 6 ∨ n = 7 := by omega
                   rcases hn9 with h9 | h9 | h9 | h9 | h9 | h9 | h9
                   all_goals (repeat first | rw [if_pos (by first | decide | omega)] | rw [if_neg (by first | decide | omega)])
                   all_goals (rw [e159]; congr 1; omega))
                | (repeat first | rw [if_pos (by first | decide | omega)] | rw [if_neg (by first | decide | omega)])
        refine And.intro (fun h13 => ?_) ?_
        · skip
          refine And.intro (True.intro) ?_
          intro v130 M130 a130 b130 q130
          obtain ⟨q130, z130⟩ := q130
          subst z130
          clear a130 b130
          refine And.intro (fun h133 => ?_) (fun h133 => ?_)
          · skip
            replace q130 := q130.resolve_left (fun z => absurd (z.1.symm.trans h133) (by decide))
            clear h133
            refine And.intro rfl ?_
            refine ⟨fun ls hl hq hW => ?_, hS⟩
            have hm := hW.1
            show _ = sd_of ls (M 60) i n
            unfold sd_of
            rw [if_pos (by first | decide | omega)]
            first
              | (exfalso; omega)
              | (have hn9 : n = 0 ∨ n = 1 ∨ n = 2 ∨ n = 4 ∨ n = 5 ∨ n = 6 ∨ n = 7 := by omega
                 rcases hn9 with h9 | h9 | h9 | h9 | h9 | h9 | h9
                 all_goals (repeat first | rw [if_pos (by first | decide | omega)] | rw [if_neg (by first | decide | omega)])
                 all_goals (rw [e159]; congr 1; omega))
              | (repeat first | rw [if_pos (by first | decide | omega)] | rw [if_neg (by first | decide | omega)])
          · skip
            replace q130 := q130.resolve_right (fun z => h133 z.1)
            clear h133
            refine pz_nrc (c := 60) rfl ?_
            refine And.intro (fun h145 => ?_) (fun h145 => ?_)
            · skip
              intro v154 e154 a154 b154
              rw [pz_wi (by first | decide | omega) (by first | decide | omega)] at e154
              clear a154 b154
              intro v155 e155 a155 b155
              rw [pz_wi (by first | decide | omega) (by first | decide | omega)] at e155
              clear a155 b155
              intro v156 e156 a156 b156
              rw [pz_wi (by first | decide | omega) (by first | decide | omega)] at e156
              clear a156 b156
              intro v158 e158 a158 b158
              rw [pz_wi (by first | decide | omega) (by first | decide | omega)] at e158
              clear a158 b158
              have lo159 : (0 : Int) ≤ v158 := by omega
              have tn159 : (((v158).toNat : Nat) : Int) = v158 := Int.toNat_of_nonneg lo159
              refine And.intro (lo159) (And.intro (show _ < (1725 : Int) from by omega) ?_)
              intro v159 e159 a159 b159
              refine And.intro rfl ?_
              refine ⟨fun ls hl hq hW => ?_, hS⟩
              have hm := hW.1
              show _ = sd_of ls (M 60) i n
              unfold sd_of
              rw [if_pos (by first | decide | omega)]
              first
                | (exfalso; omega)
                | (have hn9 : n = 0 ∨ n = 1 ∨ n = 2 ∨ n = 4 ∨ n = 5 ∨ n = 6 ∨ n = 7 := by omega
                   rcases hn9 with h9 | h9 | h9 | h9 | h9 | h9 | h9
                   all_goals (repeat first | rw [if_pos (by first | decide | omega)] | rw [if_neg (by first | decide | omega)])
                   all_goals (rw [e159]; congr 1; omega))
                | (repeat first | rw [if_pos (by first | decide | omega)] | rw [if_neg (by first | decide | omega)])
            · skip
              intro v155 e155 a155 b155
              rw [pz_wi (by first | decide | omega) (by first | decide | omega)] at e155
              clear a155 b155
              intro v156 e156 a156 b156
              rw [pz_wi (by first | decide | omega) (by first | decide | omega)] at e156
              clear a156 b156
              intro v158 e158 a158 b158
              rw [pz_wi (by first | decide | omega) (by first | decide | omega)] at e158
              clear a158 b158
              have lo159 : (0 : Int) ≤ v158 := by omega
              have tn159 : (((v158).toNat : Nat) : Int) = v158 := Int.toNat_of_nonneg lo159
              refine And.intro (lo159) (And.intro (show _ < (1725 : Int) from by omega) ?_)
              intro v159 e159 a159 b159
              refine And.intro rfl ?_
              refine ⟨fun ls hl hq hW => ?_, hS⟩
              have hm := hW.1
              show _ = sd_of ls (M 60) i n
              unfold sd_of
              rw [if_pos (by first | decide | omega)]
              first
                | (exfalso; omega)
                | (have hn9 : n = 0 ∨ n = 1 ∨ n = 2 ∨ n = 4 ∨ n = 5 ∨ n = 6 ∨ n = 7 := by omega
                   rcases hn9 with h9 | h9 | h9 | h9 | h9 | h9 | h9
                   all_goals (repeat first | rw [if_pos (by first | decide | omega)] | rw [if_neg (by first | decide | omega)])
                   all_goals (rw [e159]; congr 1; omega))
                | (repeat first | rw [if_pos (by first | decide | omega)] | rw [if_neg (by first | decide | omega)])
        refine And.intro (fun h13 => ?_) ?_
        · skip
          refine And.intro (True.intro) ?_
          intro v130 M130 a130 b130 q130
          obtain ⟨q130, z130⟩ := q130
          subst z130
          clear a130 b130
          refine And.intro (fun h133 => ?_) (fun h133 => ?_)
          · skip
            replace q130 := q130.resolve_left (fun z => absurd (z.1.symm.trans h133) (by decide))
            clear h133
            refine And.intro rfl ?_
            refine ⟨fun ls hl hq hW => ?_, hS⟩
            have hm := hW.1
            show _ = sd_of ls (M 60) i n
            unfold sd_of
            rw [if_pos (by first | decide | omega)]
            first
              | (exfalso; omega)
              | (have hn9 : n = 0 ∨ n = 1 ∨ n = 2 ∨ n = 4 ∨ n = 5 ∨ n = 6 ∨ n = 7 := by omega
                 rcases hn9 with h9 | h9 | h9 | h9 | h9 | h9 | h9
                 all_goals (repeat first | rw [if_pos (by first | decide | omega)] | rw [if_neg (by first | decide | omega)])
                 all_goals (rw [e159]; congr 1; omega))
              | (repeat first | rw [if_pos (by first | decide | omega)] | rw [if_neg (by first | decide | omega)])
          · skip
            replace q130 := q130.resolve_right (fun z => h133 z.1)
            clear h133
            refine pz_nrc (c := 60) rfl ?_
            refine And.intro (fun h145 => ?_) (fun h145 => ?_)
            · skip
              intro v154 e154 a154 b154
              rw [pz_wi (by first | decide | omega) (by first | decide | omega)] at e154
              clear a154 b154
              intro v155 e155 a155 b155
              rw [pz_wi (by first | decide | omega) (by first | decide | omega)] at e155
              clear a155 b155
              intro v156 e156 a156 b156
              rw [pz_wi (by first | decide | omega) (by first | decide | omega)] at e156
              clear a156 b156
              intro v158 e158 a158 b158
              rw [pz_wi (by first | decide | omega) (by first | decide | omega)] at e158
              clear a158 b158
              have lo159 : (0 : Int) ≤ v158 := by omega
              have tn159 : (((v158).toNat : Nat) : Int) = v158 := Int.toNat_of_nonneg lo159
              refine And.intro (lo159) (And.intro (show _ < (1725 : Int) from by omega) ?_)
              intro v159 e159 a159 b159
              refine And.intro rfl ?_
              refine ⟨fun ls hl hq hW => ?_, hS⟩
              have hm := hW.1
              show _ = sd_of ls (M 60) i n
              unfold sd_of
              rw [if_pos (by first | decide | omega)]
              first
                | (exfalso; omega)
                | (have hn9 : n = 0 ∨ n = 1 ∨ n = 2 ∨ n = 4 ∨ n = 5 ∨ n = 6 ∨ n = 7 := by omega
                   rcases hn9 with h9 | h9 | h9 | h9 | h9 | h9 | h9
                   all_goals (repeat first | rw [if_pos (by first | decide | omega)] | rw [if_neg (by first | decide | omega)])
                   all_goals (rw [e159]; congr 1; omega))
                | (repeat first | rw [if_pos (by first | decide | omega)] | rw [if_neg (by first | decide | omega)])
            · skip
              intro v155 e155 a155 b155
              rw [pz_wi (by first | decide | omega) (by first | decide | omega)] at e155
              clear a155 b155
              intro v156 e156 a156 b156
              rw [pz_wi (by first | decide | omega) (by first | decide | omega)] at e156
              clear a156 b156
              intro v158 e158 a158 b158
              rw [pz_wi (by first | decide | omega) (by first | decide | omega)] at e158
              clear a158 b158
              have lo159 : (0 : Int) ≤ v158 := by omega
              have tn159 : (((v158).toNat : Nat) : Int) = v158 := Int.toNat_of_nonneg lo159
              refine And.intro (lo159) (And.intro (show _ < (1725 : Int) from by omega) ?_)
              intro v159 e159 a159 b159
              refine And.intro rfl ?_
              refine ⟨fun ls hl hq hW => ?_, hS⟩
              have hm := hW.1
              show _ = sd_of ls (M 60) i n
              unfold sd_of
              rw [if_pos (by first | decide | omega)]
              first
                | (exfalso; omega)
                | (have hn9 : n = 0 ∨ n = 1 ∨ n = 2 ∨ n = 4 ∨ n = 5 ∨ n = 6 ∨ n = 7 := by omega
                   rcases hn9 with h9 | h9 | h9 | h9 | h9 | h9 | h9
                   all_goals (repeat first | rw [if_pos (by first | decide | omega)] | rw [if_neg (by first | decide | omega)])
                   all_goals (rw [e159]; congr 1; omega))
                | (repeat first | rw [if_pos (by first | decide | omega)] | rw [if_neg (by first | decide | omega)])
        refine And.intro (fun h13 => ?_) ?_
        · skip
          refine And.intro (And.intro hI (And.intro (by first | decide | omega) (by first | decide | omega))) ?_
          intro v84 M84 a84 b84 q84
          obtain ⟨q84, z84⟩ := q84
          have hS : pz_rl pz_QV M M84 := hS.tr (pz_rl.wk pz_wk_QS_QV z84)
          have hI : pz_im M84 := hS.1 hI0
          clear a84 b84
          refine And.intro rfl ?_
          refine ⟨fun ls hl hq hW => ?_, hS⟩
          have hm := hW.1
          show _ = sd_of ls (M 60) i n
          unfold sd_of
          rw [if_pos (by first | decide | omega)]
          repeat first | rw [if_pos (by first | decide | omega)] | rw [if_neg (by first | decide | omega)]
          exact q84.1 (by first | decide | omega) ls hl hq
        refine And.intro (fun h13 => ?_) ?_
        · skip
          refine And.intro (And.intro hI (And.intro (by first | decide | omega) (by first | decide | omega))) ?_
          intro v90 M90 a90 b90 q90
          obtain ⟨q90, z90⟩ := q90
          have hS : pz_rl pz_QV M M90 := hS.tr (pz_rl.wk pz_wk_QS_QV z90)
          have hI : pz_im M90 := hS.1 hI0
          clear a90 b90
          refine And.intro rfl ?_
          refine ⟨fun ls hl hq hW => ?_, hS⟩
          have hm := hW.1
          show _ = sd_of ls (M 60) i n
          unfold sd_of
          rw [if_pos (by first | decide | omega)]
          repeat first | rw [if_pos (by first | decide | omega)] | rw [if_neg (by first | decide | omega)]
          exact q90.1 (by first | decide | omega) ls hl hq
        refine And.intro (fun h13 => ?_) ?_
        · skip
          refine And.intro (And.intro hI (And.intro (by first | decide | omega) (by first | decide | omega))) ?_
          intro v96 M96 a96 b96 q96
          obtain ⟨q96, z96⟩ := q96
          have hS : pz_rl pz_QV M M96 := hS.tr (pz_rl.wk pz_wk_QS_QV z96)
          have hI : pz_im M96 := hS.1 hI0
          clear a96 b96
          refine And.intro rfl ?_
          refine ⟨fun ls hl hq hW => ?_, hS⟩
          have hm := hW.1
          show _ = sd_of ls (M 60) i n
          unfold sd_of
          rw [if_pos (by first | decide | omega)]
          repeat first | rw [if_pos (by first | decide | omega)] | rw [if_neg (by first | decide | omega)]
          exact q96.1 (by first | decide | omega) ls hl hq
        refine And.intro (fun h13 => ?_) ?_
        · skip
          refine And.intro (And.intro hI (And.intro (by first | decide | omega) (by first | decide | omega))) ?_
          intro v102 M102 a102 b102 q102
          obtain ⟨q102, z102⟩ := q102
          have hS : pz_rl pz_QV M M102 := hS.tr (pz_rl.wk pz_wk_QS_QV z102)
          have hI : pz_im M102 := hS.1 hI0
          clear a102 b102
          refine And.intro rfl ?_
          refine ⟨fun ls hl hq hW => ?_, hS⟩
          have hm := hW.1
          show _ = sd_of ls (M 60) i n
          unfold sd_of
          rw [if_pos (by first | decide | omega)]
          repeat first | rw [if_pos (by first | decide | omega)] | rw [if_neg (by first | decide | omega)]
          exact q102.1 (by first | decide | omega) ls hl hq
        refine And.intro (fun h13 => ?_) ?_
        · skip
          refine And.intro (And.intro hI (And.intro (by first | decide | omega) (by first | decide | omega))) ?_
          intro v108 M108 a108 b108 q108
          obtain ⟨q108, z108⟩ := q108
          subst z108
          refine And.intro (fun h111 => ?_) (fun h111 => ?_)
          · skip
            refine And.intro rfl ?_
            refine ⟨fun ls hl hq hW => ?_, hS⟩
            have hm := hW.1
            show _ = sd_of ls (M 60) i n
            unfold sd_of
            rw [if_pos (by first | decide | omega)]
            repeat first | rw [if_pos (by first | decide | omega)] | rw [if_neg (by first | decide | omega)]
            have a := q108.2.trans (sd_py_i (F := M 60) (by first | decide | omega))
            first
              | exact (if_pos (a.mp (by first | decide | omega))).symm
              | exact (if_neg (fun z => absurd (a.mpr z) (by first | decide | omega))).symm
          · skip
            refine And.intro rfl ?_
            refine ⟨fun ls hl hq hW => ?_, hS⟩
            have hm := hW.1
            show _ = sd_of ls (M 60) i n
            unfold sd_of
            rw [if_pos (by first | decide | omega)]
            repeat first | rw [if_pos (by first | decide | omega)] | rw [if_neg (by first | decide | omega)]
            have a := q108.2.trans (sd_py_i (F := M 60) (by first | decide | omega))
            first
              | exact (if_pos (a.mp (by first | decide | omega))).symm
              | exact (if_neg (fun z => absurd (a.mpr z) (by first | decide | omega))).symm
        refine And.intro (fun h13 => ?_) ?_
        · skip
          refine And.intro (And.intro hI (And.intro (by first | decide | omega) (by first | decide | omega))) ?_
          intro v122 M122 a122 b122 q122
          obtain ⟨q122, z122⟩ := q122
          subst z122
          refine And.intro rfl ?_
          refine ⟨fun ls hl hq hW => ?_, hS⟩
          have hm := hW.1
          show _ = sd_of ls (M 60) i n
          unfold sd_of
          rw [if_pos (by first | decide | omega)]
          repeat first | rw [if_pos (by first | decide | omega)] | rw [if_neg (by first | decide | omega)]
          exact q122 (by first | decide | omega)
        exact True.intro
      · intro h13
        refine And.intro (True.intro) ?_
        intro v130 M130 a130 b130 q130
        obtain ⟨q130, z130⟩ := q130
        subst z130
        clear a130 b130
        refine And.intro (fun h133 => ?_) (fun h133 => ?_)
        · skip
          replace q130 := q130.resolve_left (fun z => absurd (z.1.symm.trans h133) (by decide))
          clear h133
          refine And.intro rfl ?_
          refine ⟨fun ls hl hq hW => ?_, hS⟩
          have hm := hW.1
          show _ = sd_of ls (M 60) i n
          unfold sd_of
          rw [if_pos (by first | decide | omega)]
          first
            | (exfalso; omega)
            | (have hn9 : n = 0 ∨ n = 1 ∨ n = 2 ∨ n = 4 ∨ n = 5 ∨ n = 6 ∨ n = 7 := by omega
               rcases hn9 with h9 | h9 | h9 | h9 | h9 | h9 | h9
               all_goals (repeat first | rw [if_pos (by first | decide | omega)] | rw [if_neg (by first | decide | omega)])
               all_goals (rw [e159]; congr 1; omega))
            | (repeat first | rw [if_pos (by first | decide | omega)] | rw [if_neg (by first | decide | omega)])
        · skip
          replace q130 := q130.resolve_right (fun z => h133 z.1)
          clear h133
          refine pz_nrc (c := 60) rfl ?_
          refine And.intro (fun h145 => ?_) (fun h145 => ?_)
          · skip
            intro v154 e154 a154 b154
            rw [pz_wi (by first | decide | omega) (by first | decide | omega)] at e154
            clear a154 b154
            intro v155 e155 a155 b155
            rw [pz_wi (by first | decide | omega) (by first | decide | omega)] at e155
            clear a155 b155
            intro v156 e156 a156 b156
            rw [pz_wi (by first | decide | omega) (by first | decide | omega)] at e156
            clear a156 b156
            intro v158 e158 a158 b158
            rw [pz_wi (by first | decide | omega) (by first | decide | omega)] at e158
            clear a158 b158
            have lo159 : (0 : Int) ≤ v158 := by omega
            have tn159 : (((v158).toNat : Nat) : Int) = v158 := Int.toNat_of_nonneg lo159
            refine And.intro (lo159) (And.intro (show _ < (1725 : Int) from by omega) ?_)
            intro v159 e159 a159 b159
            refine And.intro rfl ?_
            refine ⟨fun ls hl hq hW => ?_, hS⟩
            have hm := hW.1
            show _ = sd_of ls (M 60) i n
            unfold sd_of
            rw [if_pos (by first | decide | omega)]
            first
              | (exfalso; omega)
              | (have hn9 : n = 0 ∨ n = 1 ∨ n = 2 ∨ n = 4 ∨ n = 5 ∨ n = 6 ∨ n = 7 := by omega
                 rcases hn9 with h9 | h9 | h9 | h9 | h9 | h9 | h9
                 all_goals (repeat first | rw [if_pos (by first | decide | omega)] | rw [if_neg (by first | decide | omega)])
                 all_goals (rw [e159]; congr 1; omega))
              | (repeat first | rw [if_pos (by first | decide | omega)] | rw [if_neg (by first | decide | omega)])
          · skip
            intro v155 e155 a155 b155
            rw [pz_wi (by first | decide | omega) (by first | decide | omega)] at e155
            clear a155 b155
            intro v156 e156 a156 b156
            rw [pz_wi (by first | decide | omega) (by first | decide | omega)] at e156
            clear a156 b156
            intro v158 e158 a158 b158
            rw [pz_wi (by first | decide | omega) (by first | decide | omega)] at e158
            clear a158 b158
            have lo159 : (0 : Int) ≤ v158 := by omega
            have tn159 : (((v158).toNat : Nat) : Int) = v158 := Int.toNat_of_nonneg lo159
            refine And.intro (lo159) (And.intro (show _ < (1725 : Int) from by omega) ?_)
            intro v159 e159 a159 b159
            refine And.intro rfl ?_
            refine ⟨fun ls hl hq hW => ?_, hS⟩
            have hm := hW.1
            show _ = sd_of ls (M 60) i n
            unfold sd_of
            rw [if_pos (by first | decide | omega)]
            first
              | (exfalso; omega)
              | (have hn9 : n = 0 ∨ n = 1 ∨ n = 2 ∨ n = 4 ∨ n = 5 ∨ n = 6 ∨ n = 7 := by omega
                 rcases hn9 with h9 | h9 | h9 | h9 | h9 | h9 | h9
                 all_goals (repeat first | rw [if_pos (by first | decide | omega)] | rw [if_neg (by first | decide | omega)])
                 all_goals (rw [e159]; congr 1; omega))
              | (repeat first | rw [if_pos (by first | decide | omega)] | rw [if_neg (by first | decide | omega)])
    · skip
      replace q2 := q2.resolve_left (fun z => absurd (z.1.symm.trans h5) (by decide))
      clear h5
      refine And.intro rfl ?_
      refine ⟨fun ls hl hq hW => ?_, hS⟩
      have hm := hW.1
      show _ = sd_of ls (M 60) i n
      unfold sd_of
      rw [if_neg (by first | decide | omega)]
theorem v3_X12_of {fr lo i : Nat} {own : String} (h1 : 5 + 1 ≤ fr) (h2 : 8 + (3 + 11) + 116 ≤ lo) (h3 : .methodLink own i yX12_of ∈ lw_tbl) : pz_cV fr lo own i k3_X12_of :=
  pz_cVk (maxL := 3) (fr' := 5) (lo' := 116) 2 12 h3_X12_of rfl ⟨(pz_nhc_RX12 yX12_of rfl).1, (pz_nhc_RX12 yX12_of rfl).2, pz_ds10⟩ ⟨pz_wq1584, pz_wq1582, pz_wq1583, pz_wq13⟩ (Or.inl ⟨TX12, 28, rfl⟩) (fun a M _ h => by
    have h : (match (generalizing := false) a with | [.inr (.inr (12, th)), .inl i, .inl n] => pz_im M | _ => False) := h
    split at h
    · exact ⟨_, _, rfl⟩
    · exact h.elim) h1 h2 h3
noncomputable def k3_X11_gap : pz_C := (2, 1, fun a M => (match a with | [.inr (.inr (11, th)), .inl i] => pz_ic M | _ => False), fun a M r M' => (match a, r with | [.inr (.inr (11, th)), .inl i], some (.inl v) => (sd_wc M v (fun _ F => sd_gap F i)) ∧ M = M' | _, _ => False))
noncomputable abbrev ct3_X11_gap : List (Bool × Nat × pz_C) := [(true, 118, k_X0_has), (true, 346, k3_X0_lackOfMoney)]
set_option maxRecDepth 100000 in
set_option maxHeartbeats 4000000 in
theorem h3_X11_gap : pz_H yX11_gap cX11_gap 2 (some .int) k3_X11_gap 2 43 := by
  refine pz_mk (own := RX11) (tb := t_X11_gap) (fl := pz_flf fl_RX11) (ci := pz_cif ci_RX11) (ct := pz_ctf ct3_X11_gap) (rz := false) (pz_pfc_RX11 yX11_gap rfl) rfl t_X11_gap_ok (pz_flk fl_RX11_ok) (pz_cik ci_RX11_ok) ?_ ?_ (Or.inl ⟨rfl, rfl⟩) ?_ ?_
  · exact fun i k' h => pz_ctk (l := ct3_X11_gap) (P := fun b i k => b = true → pz_cV 2 43 RX11 i k) (List.forall_mem_cons.mpr ⟨(fun _ => v_X0_has (by decide) (by decide) pz_wq444), List.forall_mem_cons.mpr ⟨(fun _ => v3_X0_lackOfMoney (by decide) (by decide) pz_wq1085), fun _ h => absurd h List.not_mem_nil⟩⟩) true i k' h rfl
  · exact fun i k' h => pz_ctk (l := ct3_X11_gap) (P := fun b i k => b = false → (pz_cS 2 43 RX11 i k ∨ (k = pz_kac ∧ 1 ≤ 2 ∧ 60 ≤ 43 ∧ Cond.methodLink RX11 i arraycopyName ∈ pz_tbl))) (List.forall_mem_cons.mpr ⟨((fun z => by cases z)), List.forall_mem_cons.mpr ⟨((fun z => by cases z)), fun _ h => absurd h List.not_mem_nil⟩⟩) false i k' h rfl
  · intro a M hlen hpre
    obtain ⟨th, i, rfl, hpre⟩ : ∃ th i, a = [.inr (.inr (11, th)), .inl i] ∧ (pz_ic M) := by
      have hpre : (match (generalizing := false) a with | [.inr (.inr (11, th)), .inl i] => pz_ic M | _ => False) := hpre
      split at hpre
      · exact ⟨_, _, rfl, hpre⟩
      · exact hpre.elim
    exact Nat.le_of_ble_eq_true rfl
  · intro a M hlen hcan hM hpre Ok hgo
    obtain ⟨th, i, rfl, hpre⟩ : ∃ th i, a = [.inr (.inr (11, th)), .inl i] ∧ (pz_ic M) := by
      have hpre : (match (generalizing := false) a with | [.inr (.inr (11, th)), .inl i] => pz_ic M | _ => False) := hpre
      split at hpre
      · exact ⟨_, _, rfl, hpre⟩
      · exact hpre.elim
    obtain ⟨k_th, hc_th⟩ := pz_tlm hcan
    have k_th : pz_kd th = 11 ∧ th < 231 := k_th
    have R_th := pz_kd11 k_th.1
    subst R_th
    obtain ⟨k_i, hc_i⟩ := pz_tlm hc_th
    have l_i : -2147483648 ≤ i := k_i.1
    have u_i : i ≤ 2147483647 := k_i.2
    have hI : pz_ic M := hpre
    refine hgo (fun _ => false) 14 0 _ [] M ?_
    refine pz_nrc (c := 71) rfl ?_
    refine And.intro (True.intro) ?_
    intro v5 M5 a5 b5 q5
    obtain ⟨q5, z5⟩ := q5
    subst z5
    refine And.intro (fun h8 => ?_) (fun h8 => ?_)
    · skip
      refine And.intro rfl ?_
      first
        | (refine ⟨fun ls l1 F hT hF hW => ?_, rfl⟩
           have hn := hF.1
           have hm := hW.1
           show _ = sd_gap F i
           unfold sd_gap
           have p0 : 0 ≤ i ∧ i < F 88 := by
             split at q5 <;> omega
           rw [if_pos p0]
           exact q16.2 F hF hW p0.1 p0.2)
        | (refine ⟨fun ls l1 F hT hF hW => ?_, rfl⟩
           have hn := hF.1
           have hm := hW.1
           show _ = sd_gap F i
           unfold sd_gap
           rw [if_neg (fun z => by split at q5 <;> omega)])
    · skip
      refine pz_nrc (c := 71) rfl ?_
      refine And.intro (hI) ?_
      intro v16 M16 a16 b16 q16
      obtain ⟨q16, z16⟩ := q16
      subst z16
      refine And.intro rfl ?_
      first
        | (refine ⟨fun ls l1 F hT hF hW => ?_, rfl⟩
           have hn := hF.1
           have hm := hW.1
           show _ = sd_gap F i
           unfold sd_gap
           have p0 : 0 ≤ i ∧ i < F 88 := by
             split at q5 <;> omega
           rw [if_pos p0]
           exact q16.2 F hF hW p0.1 p0.2)
        | (refine ⟨fun ls l1 F hT hF hW => ?_, rfl⟩
           have hn := hF.1
           have hm := hW.1
           show _ = sd_gap F i
           unfold sd_gap
           rw [if_neg (fun z => by split at q5 <;> omega)])
theorem v3_X11_gap {fr lo i : Nat} {own : String} (h1 : 2 + 1 ≤ fr) (h2 : 8 + (2 + 11) + 43 ≤ lo) (h3 : .methodLink own i yX11_gap ∈ lw_tbl) : pz_cV fr lo own i k3_X11_gap :=
  pz_cVk (maxL := 2) (fr' := 2) (lo' := 43) 1 11 h3_X11_gap rfl ⟨(pz_nhc_RX11 yX11_gap rfl).1, (pz_nhc_RX11 yX11_gap rfl).2, pz_ds5⟩ ⟨pz_wq1084, pz_wq1082, pz_wq1083, pz_wq1⟩ (Or.inl ⟨TX11, 14, rfl⟩) (fun a M _ h => by
    have h : (match (generalizing := false) a with | [.inr (.inr (11, th)), .inl i] => pz_ic M | _ => False) := h
    split at h
    · exact ⟨_, _, rfl⟩
    · exact h.elim) h1 h2 h3
noncomputable def k3_X12_gap : pz_C := (2, 1, fun a M => (match a with | [.inr (.inr (12, th)), .inl i] => pz_im M | _ => False), fun a M r M' => (match a, r with | [.inr (.inr (12, th)), .inl i], some (.inl v) => (sd_wm M v (fun _ F => sd_gap F i)) ∧ M = M' | _, _ => False))
noncomputable abbrev ct3_X12_gap : List (Bool × Nat × pz_C) := [(true, 58, k_X12_isLink), (true, 361, k3_X12_canPay)]
set_option maxRecDepth 100000 in
set_option maxHeartbeats 4000000 in
theorem h3_X12_gap : pz_H yX12_gap cX12_gap 2 (some .int) k3_X12_gap 2 43 := by
  refine pz_mk (own := RX12) (tb := t_X12_gap) (fl := pz_flf fl_RX12) (ci := pz_cif ci_RX12) (ct := pz_ctf ct3_X12_gap) (rz := false) (pz_pfc_RX12 yX12_gap rfl) rfl t_X12_gap_ok (pz_flk fl_RX12_ok) (pz_cik ci_RX12_ok) ?_ ?_ (Or.inl ⟨rfl, rfl⟩) ?_ ?_
  · exact fun i k' h => pz_ctk (l := ct3_X12_gap) (P := fun b i k => b = true → pz_cV 2 43 RX12 i k) (List.forall_mem_cons.mpr ⟨(fun _ => v_X12_isLink (by decide) (by decide) pz_wq1224), List.forall_mem_cons.mpr ⟨(fun _ => v3_X12_canPay (by decide) (by decide) pz_wq1573), fun _ h => absurd h List.not_mem_nil⟩⟩) true i k' h rfl
  · exact fun i k' h => pz_ctk (l := ct3_X12_gap) (P := fun b i k => b = false → (pz_cS 2 43 RX12 i k ∨ (k = pz_kac ∧ 1 ≤ 2 ∧ 60 ≤ 43 ∧ Cond.methodLink RX12 i arraycopyName ∈ pz_tbl))) (List.forall_mem_cons.mpr ⟨((fun z => by cases z)), List.forall_mem_cons.mpr ⟨((fun z => by cases z)), fun _ h => absurd h List.not_mem_nil⟩⟩) false i k' h rfl
  · intro a M hlen hpre
    obtain ⟨th, i, rfl, hpre⟩ : ∃ th i, a = [.inr (.inr (12, th)), .inl i] ∧ (pz_im M) := by
      have hpre : (match (generalizing := false) a with | [.inr (.inr (12, th)), .inl i] => pz_im M | _ => False) := hpre
      split at hpre
      · exact ⟨_, _, rfl, hpre⟩
      · exact hpre.elim
    exact Nat.le_of_ble_eq_true rfl
  · intro a M hlen hcan hM hpre Ok hgo
    obtain ⟨th, i, rfl, hpre⟩ : ∃ th i, a = [.inr (.inr (12, th)), .inl i] ∧ (pz_im M) := by
      have hpre : (match (generalizing := false) a with | [.inr (.inr (12, th)), .inl i] => pz_im M | _ => False) := hpre
      split at hpre
      · exact ⟨_, _, rfl, hpre⟩
      · exact hpre.elim
    obtain ⟨k_th, hc_th⟩ := pz_tlm hcan
    have k_th : pz_kd th = 12 ∧ th < 231 := k_th
    have R_th := pz_kd12 k_th.1
    subst R_th
    clear k_th
    obtain ⟨k_i, hc_i⟩ := pz_tlm hc_th
    have l_i : -2147483648 ≤ i := k_i.1
    have u_i : i ≤ 2147483647 := k_i.2
    have hI : pz_im M := hpre
    have I88 := hI.1.1
    refine hgo (fun _ => false) 41 0 _ [] M ?_
    refine And.intro (hI) ?_
    intro v2 M2 a2 b2 q2
    obtain ⟨q2, z2⟩ := q2
    subst z2
    clear a2 b2
    refine And.intro (fun h5 => ?_) (fun h5 => ?_)
    · skip
      replace q2 := q2.resolve_right (fun z => h5 z.1)
      clear h5
      refine And.intro (And.intro hI (And.intro (by first | decide | omega) (by first | decide | omega))) ?_
      intro v14 M14 a14 b14 q14
      obtain ⟨q14, z14⟩ := q14
      subst z14
      refine And.intro (fun h17 => ?_) (fun h17 => ?_)
      · skip
        refine pz_nrc (c := 60) rfl ?_
        intro v30 e30 a30 b30
        rw [pz_wi (by first | decide | omega) (by first | decide | omega)] at e30
        clear a30 b30
        intro v32 e32 a32 b32
        rw [pz_wi (by first | decide | omega) (by first | decide | omega)] at e32
        clear a32 b32
        have lo33 : (0 : Int) ≤ v32 := by omega
        have tn33 : (((v32).toNat : Nat) : Int) = v32 := Int.toNat_of_nonneg lo33
        refine And.intro (lo33) (And.intro (show _ < (1725 : Int) from by omega) ?_)
        intro v33 e33 a33 b33
        rw [show v32.toNat = 5 + i.toNat by omega] at e33
        refine pz_nrc (c := 60) rfl ?_
        intro v41 e41 a41 b41
        rw [pz_wi (by first | decide | omega) (by first | decide | omega)] at e41
        clear a41 b41
        have lo42 : (0 : Int) ≤ v41 := by omega
        have tn42 : (((v41).toNat : Nat) : Int) = v41 := Int.toNat_of_nonneg lo42
        refine And.intro (lo42) (And.intro (show _ < (1725 : Int) from by omega) ?_)
        intro v42 e42 a42 b42
        rw [show v41.toNat = 16 + i.toNat by omega] at e42
        intro v43 e43 a43 b43
        refine And.intro (fun h45 => ?_) (fun h45 => ?_)
        · skip
          replace h45 : 1 ≤ i := by omega
          refine pz_nrc (c := 60) rfl ?_
          intro v58 e58 a58 b58
          rw [pz_wi (by first | decide | omega) (by first | decide | omega)] at e58
          clear a58 b58
          have lo59 : (0 : Int) ≤ v58 := by omega
          have tn59 : (((v58).toNat : Nat) : Int) = v58 := Int.toNat_of_nonneg lo59
          refine And.intro (lo59) (And.intro (show _ < (1725 : Int) from by omega) ?_)
          intro v59 e59 a59 b59
          rw [show v58.toNat = 4 + i.toNat by omega] at e59
          intro v60 e60 a60 b60
          refine And.intro rfl ?_
          refine ⟨fun ls hl hq hW => ?_, rfl⟩
          have hm := hW.1
          show _ = sd_gap (M 60) i
          unfold sd_gap
          first
            | (rw [if_neg (by first | decide | omega)]; done)
            | (have a := q14.2.trans (sd_py_i (F := M 60) (by first | decide | omega))
               rw [if_pos (by first | decide | omega)]
               have l := sd_lm_py (i := i.toNat) hW (by first | decide | omega)
               first
                 | (rw [l.mpr (a.mp (by first | decide | omega))]; done)
                 | (have np : ¬ sd_py (M 60) i.toNat := fun z => absurd (a.mpr z) (by first | decide | omega)
                    obtain ⟨P0, P1, -⟩ := hW.2.2 i.toNat (by first | decide | omega)
                    have ni : ¬ (i.toNat : Int) = M 60 88 - 1 := fun z => np (Or.inl z)
                    have P2 := (hW.2.2 (i.toNat + 1) (by first | decide | omega)).1
                    rw [show 4 + (i.toNat + 1) = 5 + i.toNat by omega] at P2
                    have nz : sd_lm (M 60) i.toNat ≠ 0 := fun z => np (l.mp z)
                    unfold sd_lm at nz ⊢
                    rw [if_neg ni] at nz ⊢
                    rw [pz_wi (by first | decide | omega) (by first | decide | omega)] at e43
                    rw [pz_wi (by first | decide | omega) (by first | decide | omega)] at e60
                    first
                      | (rw [if_pos (by first | decide | omega)] at nz ⊢
                         omega)
                      | (rw [if_neg (by first | decide | omega)] at nz ⊢
                         omega)))
        · skip
          intro v60 e60 a60 b60
          refine And.intro rfl ?_
          refine ⟨fun ls hl hq hW => ?_, rfl⟩
          have hm := hW.1
          show _ = sd_gap (M 60) i
          unfold sd_gap
          first
            | (rw [if_neg (by first | decide | omega)]; done)
            | (have a := q14.2.trans (sd_py_i (F := M 60) (by first | decide | omega))
               rw [if_pos (by first | decide | omega)]
               have l := sd_lm_py (i := i.toNat) hW (by first | decide | omega)
               first
                 | (rw [l.mpr (a.mp (by first | decide | omega))]; done)
                 | (have np : ¬ sd_py (M 60) i.toNat := fun z => absurd (a.mpr z) (by first | decide | omega)
                    obtain ⟨P0, P1, -⟩ := hW.2.2 i.toNat (by first | decide | omega)
                    have ni : ¬ (i.toNat : Int) = M 60 88 - 1 := fun z => np (Or.inl z)
                    have P2 := (hW.2.2 (i.toNat + 1) (by first | decide | omega)).1
                    rw [show 4 + (i.toNat + 1) = 5 + i.toNat by omega] at P2
                    have nz : sd_lm (M 60) i.toNat ≠ 0 := fun z => np (l.mp z)
                    unfold sd_lm at nz ⊢
                    rw [if_neg ni] at nz ⊢
                    rw [pz_wi (by first | decide | omega) (by first | decide | omega)] at e43
                    rw [pz_wi (by first | decide | omega) (by first | decide | omega)] at e60
                    first
                      | (rw [if_pos (by first | decide | omega)] at nz ⊢
                         omega)
                      | (rw [if_neg (by first | decide | omega)] at nz ⊢
                         omega)))
      · skip
        refine And.intro rfl ?_
        refine ⟨fun ls hl hq hW => ?_, rfl⟩
        have hm := hW.1
        show _ = sd_gap (M 60) i
        unfold sd_gap
        first
          | (rw [if_neg (by first | decide | omega)]; done)
          | (have a := q14.2.trans (sd_py_i (F := M 60) (by first | decide | omega))
             rw [if_pos (by first | decide | omega)]
             have l := sd_lm_py (i := i.toNat) hW (by first | decide | omega)
             first
               | (rw [l.mpr (a.mp (by first | decide | omega))]; done)
               | (have np : ¬ sd_py (M 60) i.toNat := fun z => absurd (a.mpr z) (by first | decide | omega)
                  obtain ⟨P0, P1, -⟩ := hW.2.2 i.toNat (by first | decide | omega)
                  have ni : ¬ (i.toNat : Int) = M 60 88 - 1 := fun z => np (Or.inl z)
                  have P2 := (hW.2.2 (i.toNat + 1) (by first | decide | omega)).1
                  rw [show 4 + (i.toNat + 1) = 5 + i.toNat by omega] at P2
                  have nz : sd_lm (M 60) i.toNat ≠ 0 := fun z => np (l.mp z)
                  unfold sd_lm at nz ⊢
                  rw [if_neg ni] at nz ⊢
                  rw [pz_wi (by first | decide | omega) (by first | decide | omega)] at e43
                  rw [pz_wi (by first | decide | omega) (by first | decide | omega)] at e60
                  first
                    | (rw [if_pos (by first | decide | omega)] at nz ⊢
                       omega)
                    | (rw [if_neg (by first | decide | omega)] at nz ⊢
                       omega)))
    · skip
      replace q2 := q2.resolve_left (fun z => absurd (z.1.symm.trans h5) (by decide))
      clear h5
      refine And.intro rfl ?_
      refine ⟨fun ls hl hq hW => ?_, rfl⟩
      have hm := hW.1
      show _ = sd_gap (M 60) i
      unfold sd_gap
      first
        | (rw [if_neg (by first | decide | omega)]; done)
        | (have a := q14.2.trans (sd_py_i (F := M 60) (by first | decide | omega))
           rw [if_pos (by first | decide | omega)]
           have l := sd_lm_py (i := i.toNat) hW (by first | decide | omega)
           first
             | (rw [l.mpr (a.mp (by first | decide | omega))]; done)
             | (have np : ¬ sd_py (M 60) i.toNat := fun z => absurd (a.mpr z) (by first | decide | omega)
                obtain ⟨P0, P1, -⟩ := hW.2.2 i.toNat (by first | decide | omega)
                have ni : ¬ (i.toNat : Int) = M 60 88 - 1 := fun z => np (Or.inl z)
                have P2 := (hW.2.2 (i.toNat + 1) (by first | decide | omega)).1
                rw [show 4 + (i.toNat + 1) = 5 + i.toNat by omega] at P2
                have nz : sd_lm (M 60) i.toNat ≠ 0 := fun z => np (l.mp z)
                unfold sd_lm at nz ⊢
                rw [if_neg ni] at nz ⊢
                rw [pz_wi (by first | decide | omega) (by first | decide | omega)] at e43
                rw [pz_wi (by first | decide | omega) (by first | decide | omega)] at e60
                first
                  | (rw [if_pos (by first | decide | omega)] at nz ⊢
                     omega)
                  | (rw [if_neg (by first | decide | omega)] at nz ⊢
                     omega)))
theorem v3_X12_gap {fr lo i : Nat} {own : String} (h1 : 2 + 1 ≤ fr) (h2 : 8 + (2 + 11) + 43 ≤ lo) (h3 : .methodLink own i yX12_gap ∈ lw_tbl) : pz_cV fr lo own i k3_X12_gap :=
  pz_cVk (maxL := 2) (fr' := 2) (lo' := 43) 1 12 h3_X12_gap rfl ⟨(pz_nhc_RX12 yX12_gap rfl).1, (pz_nhc_RX12 yX12_gap rfl).2, pz_ds5⟩ ⟨pz_wq1703, pz_wq1701, pz_wq1702, pz_wq13⟩ (Or.inl ⟨TX12, 28, rfl⟩) (fun a M _ h => by
    have h : (match (generalizing := false) a with | [.inr (.inr (12, th)), .inl i] => pz_im M | _ => False) := h
    split at h
    · exact ⟨_, _, rfl⟩
    · exact h.elim) h1 h2 h3
end
section
noncomputable def k3_X11_slowest : pz_C := (1, 1, fun a M => (match a with | [.inr (.inr (11, th))] => pz_ic M | _ => False), fun a M r M' => (match a, r with | [.inr (.inr (11, th))], some (.inl v) => (sd_wc M v (fun ls F => sd_slo ls F (sd_n F) 0 (-1))) ∧ pq_pr pq_Pk M M' | _, _ => False))
noncomputable abbrev ct3_X11_slowest : List (Bool × Nat × pz_C) := [(true, 107, k_X0_at), (true, 212, k3_X3_tells)]
set_option maxRecDepth 100000 in
set_option maxHeartbeats 4000000 in
theorem h3_X11_slowest : pz_H yX11_slowest cX11_slowest 5 (some .int) k3_X11_slowest 4 97 := by
  refine pz_mk (own := RX11) (tb := t_X11_slowest) (fl := pz_flf fl_RX11) (ci := pz_cif ci_RX11) (ct := pz_ctf ct3_X11_slowest) (rz := false) (pz_pfc_RX11 yX11_slowest rfl) rfl t_X11_slowest_ok (pz_flk fl_RX11_ok) (pz_cik ci_RX11_ok) ?_ ?_ (Or.inl ⟨rfl, rfl⟩) ?_ ?_
  · exact fun i k' h => pz_ctk (l := ct3_X11_slowest) (P := fun b i k => b = true → pz_cV 4 97 RX11 i k) (List.forall_mem_cons.mpr ⟨(fun _ => v_X0_at (by decide) (by decide) pz_wq428), List.forall_mem_cons.mpr ⟨(fun _ => v3_X3_tells (by decide) (by decide) pz_wq838), fun _ h => absurd h List.not_mem_nil⟩⟩) true i k' h rfl
  · exact fun i k' h => pz_ctk (l := ct3_X11_slowest) (P := fun b i k => b = false → (pz_cS 4 97 RX11 i k ∨ (k = pz_kac ∧ 1 ≤ 4 ∧ 60 ≤ 97 ∧ Cond.methodLink RX11 i arraycopyName ∈ pz_tbl))) (List.forall_mem_cons.mpr ⟨((fun z => by cases z)), List.forall_mem_cons.mpr ⟨((fun z => by cases z)), fun _ h => absurd h List.not_mem_nil⟩⟩) false i k' h rfl
  · intro a M hlen hpre
    obtain ⟨th, rfl, hpre⟩ : ∃ th, a = [.inr (.inr (11, th))] ∧ (pz_ic M) := by
      have hpre : (match (generalizing := false) a with | [.inr (.inr (11, th))] => pz_ic M | _ => False) := hpre
      split at hpre
      · exact ⟨_, rfl, hpre⟩
      · exact hpre.elim
    exact Nat.le_of_ble_eq_true rfl
  · intro a M hlen hcan hM hpre Ok hgo
    obtain ⟨th, rfl, hpre⟩ : ∃ th, a = [.inr (.inr (11, th))] ∧ (pz_ic M) := by
      have hpre : (match (generalizing := false) a with | [.inr (.inr (11, th))] => pz_ic M | _ => False) := hpre
      split at hpre
      · exact ⟨_, rfl, hpre⟩
      · exact hpre.elim
    obtain ⟨k_th, hc_th⟩ := pz_tlm hcan
    have k_th : pz_kd th = 11 ∧ th < 231 := k_th
    have R_th := pz_kd11 k_th.1
    subst R_th
    have hI : pz_ic M := hpre
    have hI0 := hI
    have hS : pq_pr pq_Pk M M := pq_pr.rf
    have L6 : ∀ (fu : Nat) (x1 : Int) (x2 : Int) (x3 : Int) (d4 : Option pz_V) (N6 : pz_M), (12 - x3).toNat < fu → (pq_pr pq_Pk M N6) → (0 ≤ x3) → (sd_slI M x1 x2 x3) → Ok 6 [some (.inr (.inr (11, 0))), some (.inl x1), some (.inl x2), some (.inl x3), d4] [] N6 := by
      intro fu
      induction fu with
      | zero => exact fun _ _ _ _ _ hn => absurd hn (Nat.not_lt_zero _)
      | succ fu ih6 =>
        intro x1 x2 x3 d4 N6 hn6 hS g6_1 g6_2
        have hI : pz_ic N6 := hS.1 hI0
        have hS6 := hS
        have C6 : N6 71 3 = M 71 3 := hS.2 71 3 (by unfold pq_Pk pq_Pw; first | decide | omega)
        have L66 : ∀ (x1 : Int) (x2 : Int) (x3 : Int) (d4 : Option pz_V) (N66 : pz_M), (pq_pr pq_Pk M N66) → (0 ≤ x3) → (x3 < 12) → ((12 - x3).toNat < fu + 1) → (sd_slI M x1 x2 (x3 + 1)) → Ok 66 [some (.inr (.inr (11, 0))), some (.inl x1), some (.inl x2), some (.inl x3), d4] [] N66 := by
          intro x1 x2 x3 d4 N66 hS g66_1 g66_2 g66_3 g66_4
          have hI : pz_ic N66 := hS.1 hI0
          refine hgo (fun p => Nat.beq p 6 || Nat.beq p 66) 43 66 _ _ _ ?_
          intro v66 e66 a66 b66
          rw [pz_wi (by first | decide | omega) (by first | decide | omega)] at e66
          have G6 : sd_slI M x1 x2 v66 := by
            rw [e66]
            assumption
          exact ih6 _ _ _ _ _ (by first | decide | omega) hS (by first | omega | assumption | exact sd_slI_0) (by first | omega | assumption | exact sd_slI_0)
        refine hgo (fun p => Nat.beq p 6 || Nat.beq p 66) 43 6 _ _ _ ?_
        refine pz_nrc (c := 71) rfl ?_
        intro v11 e11 a11 b11
        have I11 := hI.1 71 (by first | decide | omega) (by first | decide | omega)
        refine And.intro (fun h14 => ?_) (fun h14 => ?_)
        · skip
          refine And.intro rfl ?_
          exact ⟨sd_slI_z (x := x3) (l := x2) (by assumption) (by first | decide | omega) (by first | decide | omega), hS⟩
        · skip
          refine pz_nrc (c := 71) rfl ?_
          refine And.intro (True.intro) ?_
          intro r22 M22 k22 q22
          have R22 := pz_kd5 k22
          obtain ⟨q22, z22⟩ := q22
          subst z22
          have A22 := pz_at_lk (c := 71) (⟨by decide, by decide⟩ : 71 ≤ 71 ∧ 71 < 80) q22
          intro v25 e25 a25 b25
          refine And.intro (fun h29 => ?_) (fun h29 => ?_)
          · skip
            have G66 : sd_slI M x1 x2 (x3 + 1) := sd_slI_s (by assumption) (by first | decide | omega) (by first | decide | omega) rfl (fun ls l1 F t s w => by
              have s2 := sd_se_k s w hS6
              have n9 := s.1
              have b := (sd_at (⟨by decide, by decide⟩ : 71 ≤ 71 ∧ 71 < 80) s2 w (by first | decide | omega) (by first | decide | omega) A22).2.2.2.2.2.2.2
              exact Or.inr ⟨fun z => by have := z.1; omega, rfl, rfl⟩)
            exact L66 _ _ _ _ _ hS (by first | omega | assumption) (by first | omega | assumption) (by first | omega | assumption) (by first | omega | assumption)
          · skip
            skip
            refine pz_nrc (c := 8) rfl ?_
            intro r36 e36 k36
            have R36 := pz_kd3 k36
            have L36 : r36 = 10 := by rw [e36]; rfl
            refine pz_nrc (c := 71) rfl ?_
            refine And.intro (hI) ?_
            intro v45 M45 a45 b45 q45
            obtain ⟨q45, z45⟩ := q45
            have hS : pq_pr pq_Pk M M45 := hS.tr z45.wpk
            have hI : pz_ic M45 := hS.1 hI0
            rw [L36] at q45
            refine And.intro (fun h52 => ?_) (fun h52 => ?_)
            · skip
              have G66 : sd_slI M x3 v45 (x3 + 1) := sd_slI_s (by assumption) (by first | decide | omega) (by first | decide | omega) rfl (fun ls l1 F t s w => by
                have s2 := sd_se_k s w hS6
                have n9 := s.1
                have b := (sd_at (⟨by decide, by decide⟩ : 71 ≤ 71 ∧ 71 < 80) s2 w (by first | decide | omega) (by first | decide | omega) A22).2.2.2.2.2.2.2
                have r := sd_tel0 (⟨by decide, by decide⟩ : 71 ≤ 71 ∧ 71 < 80) (sd_tx_k t hS6) s2 w (show 0 ≤ x3 by omega) (by first | decide | omega) q45.2
                exact Or.inl ⟨by omega, Or.inl (by first | decide | omega), rfl, r⟩)
              exact L66 _ _ _ _ _ hS (by first | omega | assumption) (by first | omega | assumption) (by first | omega | assumption) (by first | omega | assumption)
            · skip
              skip
              refine And.intro (fun h58 => ?_) (fun h58 => ?_)
              · skip
                have G66 : sd_slI M x1 x2 (x3 + 1) := sd_slI_s (by assumption) (by first | decide | omega) (by first | decide | omega) rfl (fun ls l1 F t s w => by
                  have s2 := sd_se_k s w hS6
                  have n9 := s.1
                  have b := (sd_at (⟨by decide, by decide⟩ : 71 ≤ 71 ∧ 71 < 80) s2 w (by first | decide | omega) (by first | decide | omega) A22).2.2.2.2.2.2.2
                  have r := sd_tel0 (⟨by decide, by decide⟩ : 71 ≤ 71 ∧ 71 < 80) (sd_tx_k t hS6) s2 w (show 0 ≤ x3 by omega) (by first | decide | omega) q45.2
                  exact Or.inr ⟨fun z => by have := z.2; omega, rfl, rfl⟩)
                exact L66 _ _ _ _ _ hS (by first | omega | assumption) (by first | omega | assumption) (by first | omega | assumption) (by first | omega | assumption)
              · skip
                have G66 : sd_slI M x3 v45 (x3 + 1) := sd_slI_s (by assumption) (by first | decide | omega) (by first | decide | omega) rfl (fun ls l1 F t s w => by
                  have s2 := sd_se_k s w hS6
                  have n9 := s.1
                  have b := (sd_at (⟨by decide, by decide⟩ : 71 ≤ 71 ∧ 71 < 80) s2 w (by first | decide | omega) (by first | decide | omega) A22).2.2.2.2.2.2.2
                  have r := sd_tel0 (⟨by decide, by decide⟩ : 71 ≤ 71 ∧ 71 < 80) (sd_tx_k t hS6) s2 w (show 0 ≤ x3 by omega) (by first | decide | omega) q45.2
                  exact Or.inl ⟨by omega, Or.inr (by first | decide | omega), rfl, r⟩)
                exact L66 _ _ _ _ _ hS (by first | omega | assumption) (by first | omega | assumption) (by first | omega | assumption) (by first | omega | assumption)
    refine hgo (fun p => Nat.beq p 6 || Nat.beq p 66) 43 0 _ [] M ?_
    exact L6 _ _ _ _ _ _ (Nat.lt_succ_self _) hS (by first | omega | assumption | exact sd_slI_0) (by first | omega | assumption | exact sd_slI_0)
theorem v3_X11_slowest {fr lo i : Nat} {own : String} (h1 : 4 + 1 ≤ fr) (h2 : 8 + (5 + 11) + 97 ≤ lo) (h3 : .methodLink own i yX11_slowest ∈ lw_tbl) : pz_cV fr lo own i k3_X11_slowest :=
  pz_cVk (maxL := 5) (fr' := 4) (lo' := 97) 0 11 h3_X11_slowest rfl ⟨(pz_nhc_RX11 yX11_slowest rfl).1, (pz_nhc_RX11 yX11_slowest rfl).2, pz_ds1⟩ ⟨pz_wq1048, pz_wq1046, pz_wq1047, pz_wq1⟩ (Or.inl ⟨TX11, 14, rfl⟩) (fun a M _ h => by
    have h : (match (generalizing := false) a with | [.inr (.inr (11, th))] => pz_ic M | _ => False) := h
    split at h
    · exact ⟨_, _, rfl⟩
    · exact h.elim) h1 h2 h3
noncomputable def k3_X12_slowest : pz_C := (1, 1, fun a M => (match a with | [.inr (.inr (12, th))] => pz_im M | _ => False), fun a M r M' => (match a, r with | [.inr (.inr (12, th))], some (.inl v) => (sd_wm M v (fun ls F => sd_slo ls F (sd_n F) 0 (-1))) ∧ pz_rl pz_QV M M' | _, _ => False))
noncomputable abbrev ct3_X12_slowest : List (Bool × Nat × pz_C) := [(true, 65, k3_X12_hasMoved), (true, 370, k3_X12_readyOf)]
set_option maxRecDepth 100000 in
set_option maxHeartbeats 4000000 in
theorem h3_X12_slowest : pz_H yX12_slowest cX12_slowest 3 (some .int) k3_X12_slowest 5 116 := by
  refine pz_mk (own := RX12) (tb := t_X12_slowest) (fl := pz_flf fl_RX12) (ci := pz_cif ci_RX12) (ct := pz_ctf ct3_X12_slowest) (rz := false) (pz_pfc_RX12 yX12_slowest rfl) rfl t_X12_slowest_ok (pz_flk fl_RX12_ok) (pz_cik ci_RX12_ok) ?_ ?_ (Or.inl ⟨rfl, rfl⟩) ?_ ?_
  · exact fun i k' h => pz_ctk (l := ct3_X12_slowest) (P := fun b i k => b = true → pz_cV 5 116 RX12 i k) (List.forall_mem_cons.mpr ⟨(fun _ => v3_X12_hasMoved (by decide) (by decide) pz_wq1423), List.forall_mem_cons.mpr ⟨(fun _ => v3_X12_readyOf (by decide) (by decide) pz_wq1539), fun _ h => absurd h List.not_mem_nil⟩⟩) true i k' h rfl
  · exact fun i k' h => pz_ctk (l := ct3_X12_slowest) (P := fun b i k => b = false → (pz_cS 5 116 RX12 i k ∨ (k = pz_kac ∧ 1 ≤ 5 ∧ 60 ≤ 116 ∧ Cond.methodLink RX12 i arraycopyName ∈ pz_tbl))) (List.forall_mem_cons.mpr ⟨((fun z => by cases z)), List.forall_mem_cons.mpr ⟨((fun z => by cases z)), fun _ h => absurd h List.not_mem_nil⟩⟩) false i k' h rfl
  · intro a M hlen hpre
    obtain ⟨th, rfl, hpre⟩ : ∃ th, a = [.inr (.inr (12, th))] ∧ (pz_im M) := by
      have hpre : (match (generalizing := false) a with | [.inr (.inr (12, th))] => pz_im M | _ => False) := hpre
      split at hpre
      · exact ⟨_, rfl, hpre⟩
      · exact hpre.elim
    exact Nat.le_of_ble_eq_true rfl
  · intro a M hlen hcan hM hpre Ok hgo
    obtain ⟨th, rfl, hpre⟩ : ∃ th, a = [.inr (.inr (12, th))] ∧ (pz_im M) := by
      have hpre : (match (generalizing := false) a with | [.inr (.inr (12, th))] => pz_im M | _ => False) := hpre
      split at hpre
      · exact ⟨_, rfl, hpre⟩
      · exact hpre.elim
    obtain ⟨k_th, hc_th⟩ := pz_tlm hcan
    have k_th : pz_kd th = 12 ∧ th < 231 := k_th
    have R_th := pz_kd12 k_th.1
    subst R_th
    clear k_th
    have hI : pz_im M := hpre
    have hI0 := hI
    have hS : pz_rl pz_QV M M := pz_rl.rf
    have I88 := hI.1.1
    have L4 : ∀ (fu : Nat) (x1 : Int) (x2 : Int) (N4 : pz_M), (12 - x2).toNat < fu → (pz_rl pz_QV M N4) → (0 ≤ x2) → (-1 ≤ x1) → (x1 < 12) → (x2 ≤ M 60 88) → (x1 < M 60 88 ∨ x1 = -1) → (sd_slM M x1 x2) → Ok 4 [some (.inr (.inr (12, 1))), some (.inl x1), some (.inl x2)] [] N4 := by
      intro fu
      induction fu with
      | zero => exact fun _ _ _ hn => absurd hn (Nat.not_lt_zero _)
      | succ fu ih4 =>
        intro x1 x2 N4 hn4 hS g4_1 g4_2 g4_3 g4_4 g4_5 g4_6
        have hI : pz_im N4 := hS.1 hI0
        have hS4 := hS
        have W4 : N4 60 = M 60 := funext fun j => hS.2 60 j (by unfold pz_QV; first | decide | omega)
        have L43 : ∀ (x1 : Int) (x2 : Int) (N43 : pz_M), (pz_rl pz_QV M N43) → (0 ≤ x2) → (x2 < 12) → ((12 - x2).toNat < fu + 1) → (-1 ≤ x1) → (x1 < 12) → (x2 < M 60 88) → (x1 < M 60 88 ∨ x1 = -1) → (sd_slM M x1 (x2 + 1)) → Ok 43 [some (.inr (.inr (12, 1))), some (.inl x1), some (.inl x2)] [] N43 := by
          intro x1 x2 N43 hS g43_1 g43_2 g43_3 g43_4 g43_5 g43_6 g43_7 g43_8
          have hI : pz_im N43 := hS.1 hI0
          have W43 : N43 60 = M 60 := funext fun j => hS.2 60 j (by unfold pz_QV; first | decide | omega)
          refine hgo (fun p => Nat.beq p 4 || Nat.beq p 43) 32 43 _ _ _ ?_
          intro v43 e43 a43 b43
          rw [pz_wi (by first | decide | omega) (by first | decide | omega)] at e43
          have G4 : sd_slM M x1 v43 := by
            rw [e43]
            assumption
          exact ih4 _ _ _ (by first | decide | omega) hS (by first | omega | assumption | exact fun ls _ _ _ => rfl) (by first | omega | assumption | exact fun ls _ _ _ => rfl) (by first | omega | assumption | exact fun ls _ _ _ => rfl) (by first | omega | assumption | exact fun ls _ _ _ => rfl) (by first | omega | assumption | exact fun ls _ _ _ => rfl) (by first | omega | assumption | exact fun ls _ _ _ => rfl)
        refine hgo (fun p => Nat.beq p 4 || Nat.beq p 43) 32 4 _ _ _ ?_
        refine pz_nrc (c := 60) rfl ?_
        refine And.intro (by first | decide | omega) (And.intro (show _ < (1725 : Int) from by omega) ?_)
        intro v11 e11 a11 b11
        replace e11 : v11 = N4 60 88 := e11
        have I11 : 0 ≤ v11 ∧ v11 ≤ 12 := by
          rw [e11]
          exact hI.1.1
        clear a11 b11
        rw [W4] at e11
        refine And.intro (fun h12 => ?_) (fun h12 => ?_)
        · skip
          refine And.intro rfl ?_
          exact ⟨sd_slM_z (x := x2) (by assumption) (by first | decide | omega) (by first | decide | omega), hS⟩
        · skip
          refine And.intro (And.intro hI (And.intro (by first | decide | omega) (by first | decide | omega))) ?_
          intro v17 M17 a17 b17 q17
          obtain ⟨q17, z17⟩ := q17
          subst z17
          clear a17 b17
          rw [W4] at q17
          refine And.intro (fun h20 => ?_) (fun h20 => ?_)
          · skip
            have G43 : sd_slM M x1 (x2 + 1) := sd_slM_s (by assumption) (by first | decide | omega) (by first | decide | omega) rfl (fun ls hl hq => by
              rw [show (76 + x2).toNat = 76 + x2.toNat by omega] at q17
              exact Or.inr ⟨fun z => by have := z.1; omega, rfl⟩)
            replace q17 := q17.resolve_right (fun z => h20 z.1)
            exact L43 _ _ _ hS (by first | omega | assumption) (by first | omega | assumption) (by first | omega | assumption) (by first | omega | assumption) (by first | omega | assumption) (by first | omega | assumption) (by first | omega | assumption) (by first | omega | assumption)
          · skip
            skip
            replace q17 := q17.resolve_left (fun z => absurd (z.1.symm.trans h20) (by decide))
            refine And.intro (fun h25 => ?_) (fun h25 => ?_)
            · skip
              have G43 : sd_slM M x2 (x2 + 1) := sd_slM_s (by assumption) (by first | decide | omega) (by first | decide | omega) rfl (fun ls hl hq => by
                rw [show (76 + x2).toNat = 76 + x2.toNat by omega] at q17
                exact Or.inl ⟨by omega, Or.inl (by first | decide | omega), rfl⟩)
              exact L43 _ _ _ hS (by first | omega | assumption) (by first | omega | assumption) (by first | omega | assumption) (by first | omega | assumption) (by first | omega | assumption) (by first | omega | assumption) (by first | omega | assumption) (by first | omega | assumption)
            · skip
              skip
              replace h25 : 0 ≤ x1 := by omega
              refine And.intro (And.intro hI (And.intro (by first | decide | omega) (by first | decide | omega))) ?_
              intro v30 M30 a30 b30 q30
              obtain ⟨q30, z30⟩ := q30
              have hS : pz_rl pz_QV M M30 := hS.tr (pz_rl.wk pz_wk_QS_QV z30)
              have hI : pz_im M30 := hS.1 hI0
              clear a30 b30
              have W30 : M30 60 = N4 60 := funext fun j => z30.2 60 j (by unfold pz_QS; first | decide | omega)
              refine And.intro (And.intro hI (And.intro (by first | decide | omega) (by first | decide | omega))) ?_
              intro v35 M35 a35 b35 q35
              obtain ⟨q35, z35⟩ := q35
              have hS : pz_rl pz_QV M M35 := hS.tr (pz_rl.wk pz_wk_QS_QV z35)
              have hI : pz_im M35 := hS.1 hI0
              clear a35 b35
              refine And.intro (fun h38 => ?_) (fun h38 => ?_)
              · skip
                have G43 : sd_slM M x1 (x2 + 1) := sd_slM_s (by assumption) (by first | decide | omega) (by first | decide | omega) rfl (fun ls hl hq => by
                  rw [show (76 + x2).toNat = 76 + x2.toNat by omega] at q17
                  have r := q30.1 (by rw [W4]; omega) ls (by rw [W4]; exact hl) hq
                  have r2 := q35.1 (by rw [W30, W4]; omega) ls (by rw [W30, W4]; exact hl) hq
                  rw [W4] at r
                  rw [W30, W4] at r2
                  exact Or.inr ⟨fun z => by have := z.2; omega, rfl⟩)
                exact L43 _ _ _ hS (by first | omega | assumption) (by first | omega | assumption) (by first | omega | assumption) (by first | omega | assumption) (by first | omega | assumption) (by first | omega | assumption) (by first | omega | assumption) (by first | omega | assumption)
              · skip
                have G43 : sd_slM M x2 (x2 + 1) := sd_slM_s (by assumption) (by first | decide | omega) (by first | decide | omega) rfl (fun ls hl hq => by
                  rw [show (76 + x2).toNat = 76 + x2.toNat by omega] at q17
                  have r := q30.1 (by rw [W4]; omega) ls (by rw [W4]; exact hl) hq
                  have r2 := q35.1 (by rw [W30, W4]; omega) ls (by rw [W30, W4]; exact hl) hq
                  rw [W4] at r
                  rw [W30, W4] at r2
                  exact Or.inl ⟨by omega, Or.inr (by first | decide | omega), rfl⟩)
                exact L43 _ _ _ hS (by first | omega | assumption) (by first | omega | assumption) (by first | omega | assumption) (by first | omega | assumption) (by first | omega | assumption) (by first | omega | assumption) (by first | omega | assumption) (by first | omega | assumption)
    refine hgo (fun p => Nat.beq p 4 || Nat.beq p 43) 32 0 _ [] M ?_
    exact L4 _ _ _ _ (Nat.lt_succ_self _) hS (by first | omega | assumption | exact fun ls _ _ _ => rfl) (by first | omega | assumption | exact fun ls _ _ _ => rfl) (by first | omega | assumption | exact fun ls _ _ _ => rfl) (by first | omega | assumption | exact fun ls _ _ _ => rfl) (by first | omega | assumption | exact fun ls _ _ _ => rfl) (by first | omega | assumption | exact fun ls _ _ _ => rfl)
theorem v3_X12_slowest {fr lo i : Nat} {own : String} (h1 : 5 + 1 ≤ fr) (h2 : 8 + (3 + 11) + 116 ≤ lo) (h3 : .methodLink own i yX12_slowest ∈ lw_tbl) : pz_cV fr lo own i k3_X12_slowest :=
  pz_cVk (maxL := 3) (fr' := 5) (lo' := 116) 0 12 h3_X12_slowest rfl ⟨(pz_nhc_RX12 yX12_slowest rfl).1, (pz_nhc_RX12 yX12_slowest rfl).2, pz_ds1⟩ ⟨pz_wq1748, pz_wq1746, pz_wq1747, pz_wq13⟩ (Or.inl ⟨TX12, 28, rfl⟩) (fun a M _ h => by
    have h : (match (generalizing := false) a with | [.inr (.inr (12, th))] => pz_im M | _ => False) := h
    split at h
    · exact ⟨_, _, rfl⟩
    · exact h.elim) h1 h2 h3
noncomputable def k3_X11_along : pz_C := (4, 1, fun a M => (match a with | [.inr (.inr (11, th)), .inl i, .inl n, .inl w] => pz_ic M | _ => False), fun a M r M' => (match a, r with | [.inr (.inr (11, th)), .inl i, .inl n, .inl w], some (.inl v) => (sd_wc M v (fun ls F => sd_alv ls F i n w)) ∧ pq_pr pq_Pk M M' | _, _ => False))
noncomputable abbrev ct3_X11_along : List (Bool × Nat × pz_C) := [(true, 118, k_X0_has), (false, 137, k_X11_within), (true, 107, k_X0_at), (true, 297, k_X5_isIn), (true, 212, k3_X3_tells), (false, 292, k_J9_min_7cf53)]
set_option maxRecDepth 100000 in
set_option maxHeartbeats 4000000 in
theorem h3_X11_along : pz_H yX11_along cX11_along 8 (some .int) k3_X11_along 4 97 := by
  refine pz_mk (own := RX11) (tb := t_X11_along) (fl := pz_flf fl_RX11) (ci := pz_cif ci_RX11) (ct := pz_ctf ct3_X11_along) (rz := false) (pz_pfc_RX11 yX11_along rfl) rfl t_X11_along_ok (pz_flk fl_RX11_ok) (pz_cik ci_RX11_ok) ?_ ?_ (Or.inl ⟨rfl, rfl⟩) ?_ ?_
  · exact fun i k' h => pz_ctk (l := ct3_X11_along) (P := fun b i k => b = true → pz_cV 4 97 RX11 i k) (List.forall_mem_cons.mpr ⟨(fun _ => v_X0_has (by decide) (by decide) pz_wq444), List.forall_mem_cons.mpr ⟨((fun z => by cases z)), List.forall_mem_cons.mpr ⟨(fun _ => v_X0_at (by decide) (by decide) pz_wq428), List.forall_mem_cons.mpr ⟨(fun _ => v_X5_isIn (by decide) (by decide) pz_wq984), List.forall_mem_cons.mpr ⟨(fun _ => v3_X3_tells (by decide) (by decide) pz_wq838), List.forall_mem_cons.mpr ⟨((fun z => by cases z)), fun _ h => absurd h List.not_mem_nil⟩⟩⟩⟩⟩⟩) true i k' h rfl
  · exact fun i k' h => pz_ctk (l := ct3_X11_along) (P := fun b i k => b = false → (pz_cS 4 97 RX11 i k ∨ (k = pz_kac ∧ 1 ≤ 4 ∧ 60 ≤ 97 ∧ Cond.methodLink RX11 i arraycopyName ∈ pz_tbl))) (List.forall_mem_cons.mpr ⟨((fun z => by cases z)), List.forall_mem_cons.mpr ⟨(fun _ => Or.inl (s_X11_within (by decide) (by decide) (Or.inl pz_wq425))), List.forall_mem_cons.mpr ⟨((fun z => by cases z)), List.forall_mem_cons.mpr ⟨((fun z => by cases z)), List.forall_mem_cons.mpr ⟨((fun z => by cases z)), List.forall_mem_cons.mpr ⟨(fun _ => Or.inl (s_J9_min_7cf53 (by decide) (by decide) (Or.inl pz_wq979))), fun _ h => absurd h List.not_mem_nil⟩⟩⟩⟩⟩⟩) false i k' h rfl
  · intro a M hlen hpre
    obtain ⟨th, i, n, w, rfl, hpre⟩ : ∃ th i n w, a = [.inr (.inr (11, th)), .inl i, .inl n, .inl w] ∧ (pz_ic M) := by
      have hpre : (match (generalizing := false) a with | [.inr (.inr (11, th)), .inl i, .inl n, .inl w] => pz_ic M | _ => False) := hpre
      split at hpre
      · exact ⟨_, _, _, _, rfl, hpre⟩
      · exact hpre.elim
    exact Nat.le_of_ble_eq_true rfl
  · intro a M hlen hcan hM hpre Ok hgo
    obtain ⟨th, i, n, w, rfl, hpre⟩ : ∃ th i n w, a = [.inr (.inr (11, th)), .inl i, .inl n, .inl w] ∧ (pz_ic M) := by
      have hpre : (match (generalizing := false) a with | [.inr (.inr (11, th)), .inl i, .inl n, .inl w] => pz_ic M | _ => False) := hpre
      split at hpre
      · exact ⟨_, _, _, _, rfl, hpre⟩
      · exact hpre.elim
    obtain ⟨k_th, hc_th⟩ := pz_tlm hcan
    have k_th : pz_kd th = 11 ∧ th < 231 := k_th
    have R_th := pz_kd11 k_th.1
    subst R_th
    obtain ⟨k_i, hc_i⟩ := pz_tlm hc_th
    have l_i : -2147483648 ≤ i := k_i.1
    have u_i : i ≤ 2147483647 := k_i.2
    obtain ⟨k_n, hc_n⟩ := pz_tlm hc_i
    have l_n : -2147483648 ≤ n := k_n.1
    have u_n : n ≤ 2147483647 := k_n.2
    obtain ⟨k_w, hc_w⟩ := pz_tlm hc_n
    have l_w : -2147483648 ≤ w := k_w.1
    have u_w : w ≤ 2147483647 := k_w.2
    have hI : pz_ic M := hpre
    have hI0 := hI
    have hS : pq_pr pq_Pk M M := pq_pr.rf
    have L42 : ∀ (fu : Nat) (x4 : Int) (x5 : Int) (x6 : Int) (d7 : Option pz_V) (N42 : pz_M), (12 - x6).toNat < fu → (pq_pr pq_Pk M N42) → (0 ≤ x6) → (i ≤ x6) → ((0 ≤ i ∧ i < M 71 3) ∧ (0 ≤ n ∧ n ≤ 999) ∧ 0 ≤ w ∧ w ≤ 1) → (0 ≤ x4 ∧ x4 ≤ 999) → (0 ≤ x5 ∧ x5 ≤ x6 - i) → (sd_alI M i n x4 x5 x6) → Ok 42 [some (.inr (.inr (11, 0))), some (.inl i), some (.inl n), some (.inl w), some (.inl x4), some (.inl x5), some (.inl x6), d7] [] N42 := by
      intro fu
      induction fu with
      | zero => exact fun _ _ _ _ _ hn => absurd hn (Nat.not_lt_zero _)
      | succ fu ih42 =>
        intro x4 x5 x6 d7 N42 hn42 hS g42_1 g42_2 g42_3 g42_4 g42_5 g42_6
        have hI : pz_ic N42 := hS.1 hI0
        have hS42 := hS
        have C42 : N42 71 3 = M 71 3 := hS.2 71 3 (by unfold pq_Pk pq_Pw; first | decide | omega)
        have L115 : ∀ (x4 : Int) (x5 : Int) (x6 : Int) (d7 : Option pz_V) (N115 : pz_M), (pq_pr pq_Pk M N115) → (0 ≤ x6) → (x6 < 12) → ((12 - x6).toNat < fu + 1) → (i ≤ x6) → ((0 ≤ i ∧ i < M 71 3) ∧ (0 ≤ n ∧ n ≤ 999) ∧ 0 ≤ w ∧ w ≤ 1) → (0 ≤ x4 ∧ x4 ≤ 999) → (0 ≤ x5 ∧ x5 ≤ x6 + 1 - i) → (sd_alI M i n x4 x5 (x6 + 1)) → Ok 115 [some (.inr (.inr (11, 0))), some (.inl i), some (.inl n), some (.inl w), some (.inl x4), some (.inl x5), some (.inl x6), d7] [] N115 := by
          intro x4 x5 x6 d7 N115 hS g115_1 g115_2 g115_3 g115_4 g115_5 g115_6 g115_7 g115_8
          have hI : pz_ic N115 := hS.1 hI0
          refine hgo (fun p => Nat.beq p 42 || Nat.beq p 115) 67 115 _ _ _ ?_
          intro v115 e115 a115 b115
          rw [pz_wi (by first | decide | omega) (by first | decide | omega)] at e115
          have G42 : sd_alI M i n x4 x5 v115 := by
            rw [e115]
            assumption
          exact ih42 _ _ _ _ _ (by first | decide | omega) hS (by first | omega | assumption | exact fun ls l1 F t s w9 => ⟨Int.le_refl _, by have := s.1; omega, rfl⟩) (by first | omega | assumption | exact fun ls l1 F t s w9 => ⟨Int.le_refl _, by have := s.1; omega, rfl⟩) (by first | omega | assumption | exact fun ls l1 F t s w9 => ⟨Int.le_refl _, by have := s.1; omega, rfl⟩) (by first | omega | assumption | exact fun ls l1 F t s w9 => ⟨Int.le_refl _, by have := s.1; omega, rfl⟩) (by first | omega | assumption | exact fun ls l1 F t s w9 => ⟨Int.le_refl _, by have := s.1; omega, rfl⟩) (by first | omega | assumption | exact fun ls l1 F t s w9 => ⟨Int.le_refl _, by have := s.1; omega, rfl⟩)
        refine hgo (fun p => Nat.beq p 42 || Nat.beq p 115) 67 42 _ _ _ ?_
        refine pz_nrc (c := 71) rfl ?_
        intro v48 e48 a48 b48
        have I48 := hI.1 71 (by first | decide | omega) (by first | decide | omega)
        refine And.intro (fun h51 => ?_) (fun h51 => ?_)
        · skip
          refine And.intro (fun h122 => ?_) (fun h122 => ?_)
          · skip
            refine And.intro rfl ?_
            refine ⟨fun ls l1 F hT hF hW => ?_, hS⟩
            have hn := hF.1
            have hm := hW.1
            show _ = sd_alv ls F i n w
            have z := sd_alE_z ((by assumption : sd_alI M i n x4 x5 x6) ls l1 F hT hF hW) hW (by first | decide | omega)
            unfold sd_alv
            rw [if_pos (by first | decide | omega), ← z]
            first
              | (rw [if_pos (by first | decide | omega)]; done)
              | (rw [if_neg (by first | decide | omega)]; done)
          · skip
            refine And.intro rfl ?_
            refine ⟨fun ls l1 F hT hF hW => ?_, hS⟩
            have hn := hF.1
            have hm := hW.1
            show _ = sd_alv ls F i n w
            have z := sd_alE_z ((by assumption : sd_alI M i n x4 x5 x6) ls l1 F hT hF hW) hW (by first | decide | omega)
            unfold sd_alv
            rw [if_pos (by first | decide | omega), ← z]
            first
              | (rw [if_pos (by first | decide | omega)]; done)
              | (rw [if_neg (by first | decide | omega)]; done)
        · skip
          refine pz_nrc (c := 71) rfl ?_
          refine And.intro (True.intro) ?_
          intro r60 M60 k60 q60
          have R60 := pz_kd5 k60
          obtain ⟨q60, z60⟩ := q60
          subst z60
          have A60 := pz_at_lk (c := 71) (⟨by decide, by decide⟩ : 71 ≤ 71 ∧ 71 < 80) q60
          refine And.intro (True.intro) ?_
          intro v63 M63 a63 b63 q63
          obtain ⟨q63, z63⟩ := q63
          subst z63
          refine And.intro (fun h66 => ?_) (fun h66 => ?_)
          · skip
            have G115 : sd_alI M i n x4 x5 (x6 + 1) := (fun ls l1 F t s w9 => by
              have s2 := sd_se_k s w9 hS42
              have n9 := s.1
              have m9 := w9.1
              have b := sd_at (⟨by decide, by decide⟩ : 71 ≤ 71 ∧ 71 < 80) s2 w9 (show 0 ≤ x6 by omega) (by first | decide | omega) A60
              have b5 := b.2.2.2.2.2.1
              have b7 := b.2.2.2.2.2.2.2
              have P := w9.2.2 x6.toNat (by first | decide | omega)
              unfold sd_lw at P
              have q63 := q63
              rw [b5, b7] at q63
              have nin : ¬ sd_in F x6.toNat := fun z => by
                unfold sd_in at z
                split at q63 <;> omega
              have ax : sd_alx ls F x6.toNat x4 = 0 := if_neg nin
              exact sd_alE_s ((by assumption : sd_alI M i n x4 x5 x6) ls l1 F t s w9) w9 (by first | decide | omega) (by first | decide | omega) rfl (by rw [ax]; omega) (by rw [ax]; rfl))
            exact L115 _ _ _ _ _ hS (by first | omega | assumption) (by first | omega | assumption) (by first | omega | assumption) (by first | omega | assumption) (by first | omega | assumption) (by first | omega | assumption) (by first | omega | assumption) (by first | omega | assumption)
          · skip
            skip
            refine pz_nrc (c := 8) rfl ?_
            intro r75 e75 k75
            have R75 := pz_kd3 k75
            have L75 : r75 = 10 := by rw [e75]; rfl
            refine pz_nrc (c := 71) rfl ?_
            refine And.intro (hI) ?_
            intro v85 M85 a85 b85 q85
            obtain ⟨q85, z85⟩ := q85
            have hS : pq_pr pq_Pk M M85 := hS.tr z85.wpk
            have hI : pz_ic M85 := hS.1 hI0
            rw [L75] at q85
            refine And.intro (True.intro) ?_
            intro v88 M88 a88 b88 q88
            obtain ⟨q88, z88⟩ := q88
            subst z88
            intro v97 e97 a97 b97
            rw [pz_wi (by first | decide | omega) (by first | decide | omega)] at e97
            refine And.intro (fun h104 => ?_) (fun h104 => ?_)
            · skip
              intro v112 e112 a112 b112
              rw [pz_wi (by first | decide | omega) (by first | decide | omega)] at e112
              have G115 : sd_alI M i n v97 v112 (x6 + 1) := (fun ls l1 F t s w9 => by
                have s2 := sd_se_k s w9 hS42
                have n9 := s.1
                have m9 := w9.1
                have b := sd_at (⟨by decide, by decide⟩ : 71 ≤ 71 ∧ 71 < 80) s2 w9 (show 0 ≤ x6 by omega) (by first | decide | omega) A60
                have b5 := b.2.2.2.2.2.1
                have b7 := b.2.2.2.2.2.2.2
                have P := w9.2.2 x6.toNat (by first | decide | omega)
                unfold sd_lw at P
                have q63 := q63
                rw [b5, b7] at q63
                have inn : sd_in F x6.toNat := by
                  unfold sd_in
                  split at q63 <;> omega
                have r := sd_tel2 (⟨by decide, by decide⟩ : 71 ≤ 71 ∧ 71 < 80) (sd_tx_k t hS42) s2 w9 (show 0 ≤ x6 by omega) (by first | decide | omega) q85.2
                have gb := sd_gv_b (ls := ls) (F := F) (i := x6.toNat)
                have ax : sd_alx ls F x6.toNat x4 = v88 := by
                  unfold sd_alx
                  rw [if_pos inn, ← r, q88]
                exact sd_alE_s ((by assumption : sd_alI M i n x4 x5 x6) ls l1 F t s w9) w9 (by first | decide | omega) (by first | decide | omega) rfl (by rw [ax]; omega) (by rw [ax]; first | (rw [if_pos (by first | decide | omega)]; omega) | (rw [if_neg (by first | decide | omega)]; omega))
              )
              exact L115 _ _ _ _ _ hS (by first | omega | assumption) (by first | omega | assumption) (by first | omega | assumption) (by first | omega | assumption) (by first | omega | assumption) (by first | omega | assumption) (by first | omega | assumption) (by first | omega | assumption)
            · skip
              intro v112 e112 a112 b112
              rw [pz_wi (by first | decide | omega) (by first | decide | omega)] at e112
              have G115 : sd_alI M i n v97 v112 (x6 + 1) := (fun ls l1 F t s w9 => by
                have s2 := sd_se_k s w9 hS42
                have n9 := s.1
                have m9 := w9.1
                have b := sd_at (⟨by decide, by decide⟩ : 71 ≤ 71 ∧ 71 < 80) s2 w9 (show 0 ≤ x6 by omega) (by first | decide | omega) A60
                have b5 := b.2.2.2.2.2.1
                have b7 := b.2.2.2.2.2.2.2
                have P := w9.2.2 x6.toNat (by first | decide | omega)
                unfold sd_lw at P
                have q63 := q63
                rw [b5, b7] at q63
                have inn : sd_in F x6.toNat := by
                  unfold sd_in
                  split at q63 <;> omega
                have r := sd_tel2 (⟨by decide, by decide⟩ : 71 ≤ 71 ∧ 71 < 80) (sd_tx_k t hS42) s2 w9 (show 0 ≤ x6 by omega) (by first | decide | omega) q85.2
                have gb := sd_gv_b (ls := ls) (F := F) (i := x6.toNat)
                have ax : sd_alx ls F x6.toNat x4 = v88 := by
                  unfold sd_alx
                  rw [if_pos inn, ← r, q88]
                exact sd_alE_s ((by assumption : sd_alI M i n x4 x5 x6) ls l1 F t s w9) w9 (by first | decide | omega) (by first | decide | omega) rfl (by rw [ax]; omega) (by rw [ax]; first | (rw [if_pos (by first | decide | omega)]; omega) | (rw [if_neg (by first | decide | omega)]; omega))
              )
              exact L115 _ _ _ _ _ hS (by first | omega | assumption) (by first | omega | assumption) (by first | omega | assumption) (by first | omega | assumption) (by first | omega | assumption) (by first | omega | assumption) (by first | omega | assumption) (by first | omega | assumption)
    refine hgo (fun p => Nat.beq p 42 || Nat.beq p 115) 67 0 _ [] M ?_
    refine pz_nrc (c := 71) rfl ?_
    refine And.intro (True.intro) ?_
    intro v5 M5 a5 b5 q5
    obtain ⟨q5, z5⟩ := q5
    subst z5
    refine And.intro (fun h8 => ?_) (fun h8 => ?_)
    · skip
      refine And.intro rfl ?_
      refine ⟨fun ls l1 F hT hF hW => ?_, hS⟩
      have hn := hF.1
      have hm := hW.1
      show _ = sd_alv ls F i n w
      unfold sd_alv
      rw [if_neg (fun z => by
        first
          | (split at q5 <;> omega)
          | (split at q5 <;> split at q16 <;> omega)
          | (split at q5 <;> split at q16 <;> split at q25 <;> omega))]
    · skip
      refine And.intro (True.intro) ?_
      intro v16 M16 a16 b16 q16
      obtain ⟨q16, z16⟩ := q16
      subst z16
      refine And.intro (fun h19 => ?_) (fun h19 => ?_)
      · skip
        refine And.intro rfl ?_
        refine ⟨fun ls l1 F hT hF hW => ?_, hS⟩
        have hn := hF.1
        have hm := hW.1
        show _ = sd_alv ls F i n w
        unfold sd_alv
        rw [if_neg (fun z => by
          first
            | (split at q5 <;> omega)
            | (split at q5 <;> split at q16 <;> omega)
            | (split at q5 <;> split at q16 <;> split at q25 <;> omega))]
      · skip
        refine And.intro (True.intro) ?_
        intro v25 M25 a25 b25 q25
        obtain ⟨q25, z25⟩ := q25
        subst z25
        refine And.intro (fun h28 => ?_) (fun h28 => ?_)
        · skip
          have GP : (0 ≤ i ∧ i < M 71 3) ∧ (0 ≤ n ∧ n ≤ 999) ∧ 0 ≤ w ∧ w ≤ 1 := by
            split at q5 <;> split at q16 <;> split at q25 <;> omega
          exact L42 _ _ _ _ _ _ (Nat.lt_succ_self _) hS (by first | omega | assumption | exact fun ls l1 F t s w9 => ⟨Int.le_refl _, by have := s.1; omega, rfl⟩) (by first | omega | assumption | exact fun ls l1 F t s w9 => ⟨Int.le_refl _, by have := s.1; omega, rfl⟩) (by first | omega | assumption | exact fun ls l1 F t s w9 => ⟨Int.le_refl _, by have := s.1; omega, rfl⟩) (by first | omega | assumption | exact fun ls l1 F t s w9 => ⟨Int.le_refl _, by have := s.1; omega, rfl⟩) (by first | omega | assumption | exact fun ls l1 F t s w9 => ⟨Int.le_refl _, by have := s.1; omega, rfl⟩) (by first | omega | assumption | exact fun ls l1 F t s w9 => ⟨Int.le_refl _, by have := s.1; omega, rfl⟩)
        · skip
          skip
          refine And.intro rfl ?_
          refine ⟨fun ls l1 F hT hF hW => ?_, hS⟩
          have hn := hF.1
          have hm := hW.1
          show _ = sd_alv ls F i n w
          unfold sd_alv
          rw [if_neg (fun z => by
            first
              | (split at q5 <;> omega)
              | (split at q5 <;> split at q16 <;> omega)
              | (split at q5 <;> split at q16 <;> split at q25 <;> omega))]
theorem v3_X11_along {fr lo i : Nat} {own : String} (h1 : 4 + 1 ≤ fr) (h2 : 8 + (8 + 11) + 97 ≤ lo) (h3 : .methodLink own i yX11_along ∈ lw_tbl) : pz_cV fr lo own i k3_X11_along :=
  pz_cVk (maxL := 8) (fr' := 4) (lo' := 97) 3 11 h3_X11_along rfl ⟨(pz_nhc_RX11 yX11_along rfl).1, (pz_nhc_RX11 yX11_along rfl).2, pz_ds14⟩ ⟨pz_wq983, pz_wq981, pz_wq982, pz_wq1⟩ (Or.inl ⟨TX11, 14, rfl⟩) (fun a M _ h => by
    have h : (match (generalizing := false) a with | [.inr (.inr (11, th)), .inl i, .inl n, .inl w] => pz_ic M | _ => False) := h
    split at h
    · exact ⟨_, _, rfl⟩
    · exact h.elim) h1 h2 h3
noncomputable def k3_X12_along : pz_C := (4, 1, fun a M => (match a with | [.inr (.inr (12, th)), .inl i, .inl n, .inl w] => pz_im M | _ => False), fun a M r M' => (match a, r with | [.inr (.inr (12, th)), .inl i, .inl n, .inl w], some (.inl v) => (sd_wm M v (fun ls F => sd_alv ls F i n w)) ∧ pz_rl pz_QV M M' | _, _ => False))
noncomputable abbrev ct3_X12_along : List (Bool × Nat × pz_C) := [(true, 58, k_X12_isLink), (false, 54, k_X12_isIn), (true, 317, k3_X12_isThere), (true, 320, k3_X12_giveOf), (false, 47, k_X12_lesser)]
set_option maxRecDepth 100000 in
set_option maxHeartbeats 4000000 in
theorem h3_X12_along : pz_H yX12_along cX12_along 8 (some .int) k3_X12_along 5 116 := by
  refine pz_mk (own := RX12) (tb := t_X12_along) (fl := pz_flf fl_RX12) (ci := pz_cif ci_RX12) (ct := pz_ctf ct3_X12_along) (rz := false) (pz_pfc_RX12 yX12_along rfl) rfl t_X12_along_ok (pz_flk fl_RX12_ok) (pz_cik ci_RX12_ok) ?_ ?_ (Or.inl ⟨rfl, rfl⟩) ?_ ?_
  · exact fun i k' h => pz_ctk (l := ct3_X12_along) (P := fun b i k => b = true → pz_cV 5 116 RX12 i k) (List.forall_mem_cons.mpr ⟨(fun _ => v_X12_isLink (by decide) (by decide) pz_wq1224), List.forall_mem_cons.mpr ⟨((fun z => by cases z)), List.forall_mem_cons.mpr ⟨(fun _ => v3_X12_isThere (by decide) (by decide) pz_wq1415), List.forall_mem_cons.mpr ⟨(fun _ => v3_X12_giveOf (by decide) (by decide) pz_wq1435), List.forall_mem_cons.mpr ⟨((fun z => by cases z)), fun _ h => absurd h List.not_mem_nil⟩⟩⟩⟩⟩) true i k' h rfl
  · exact fun i k' h => pz_ctk (l := ct3_X12_along) (P := fun b i k => b = false → (pz_cS 5 116 RX12 i k ∨ (k = pz_kac ∧ 1 ≤ 5 ∧ 60 ≤ 116 ∧ Cond.methodLink RX12 i arraycopyName ∈ pz_tbl))) (List.forall_mem_cons.mpr ⟨((fun z => by cases z)), List.forall_mem_cons.mpr ⟨(fun _ => Or.inl (s_X12_isIn (by decide) (by decide) (Or.inl pz_wq1217))), List.forall_mem_cons.mpr ⟨((fun z => by cases z)), List.forall_mem_cons.mpr ⟨((fun z => by cases z)), List.forall_mem_cons.mpr ⟨(fun _ => Or.inl (s_X12_lesser (by decide) (by decide) (Or.inl pz_wq1462))), fun _ h => absurd h List.not_mem_nil⟩⟩⟩⟩⟩) false i k' h rfl
  · intro a M hlen hpre
    obtain ⟨th, i, n, w, rfl, hpre⟩ : ∃ th i n w, a = [.inr (.inr (12, th)), .inl i, .inl n, .inl w] ∧ (pz_im M) := by
      have hpre : (match (generalizing := false) a with | [.inr (.inr (12, th)), .inl i, .inl n, .inl w] => pz_im M | _ => False) := hpre
      split at hpre
      · exact ⟨_, _, _, _, rfl, hpre⟩
      · exact hpre.elim
    exact Nat.le_of_ble_eq_true rfl
  · intro a M hlen hcan hM hpre Ok hgo
    obtain ⟨th, i, n, w, rfl, hpre⟩ : ∃ th i n w, a = [.inr (.inr (12, th)), .inl i, .inl n, .inl w] ∧ (pz_im M) := by
      have hpre : (match (generalizing := false) a with | [.inr (.inr (12, th)), .inl i, .inl n, .inl w] => pz_im M | _ => False) := hpre
      split at hpre
      · exact ⟨_, _, _, _, rfl, hpre⟩
      · exact hpre.elim
    obtain ⟨k_th, hc_th⟩ := pz_tlm hcan
    have k_th : pz_kd th = 12 ∧ th < 231 := k_th
    have R_th := pz_kd12 k_th.1
    subst R_th
    clear k_th
    obtain ⟨k_i, hc_i⟩ := pz_tlm hc_th
    have l_i : -2147483648 ≤ i := k_i.1
    have u_i : i ≤ 2147483647 := k_i.2
    obtain ⟨k_n, hc_n⟩ := pz_tlm hc_i
    have l_n : -2147483648 ≤ n := k_n.1
    have u_n : n ≤ 2147483647 := k_n.2
    obtain ⟨k_w, hc_w⟩ := pz_tlm hc_n
    have l_w : -2147483648 ≤ w := k_w.1
    have u_w : w ≤ 2147483647 := k_w.2
    have hI : pz_im M := hpre
    have hI0 := hI
    have hS : pz_rl pz_QV M M := pz_rl.rf
    have I88 := hI.1.1
    have L39 : ∀ (fu : Nat) (x4 : Int) (x5 : Int) (x6 : Int) (d7 : Option pz_V) (N39 : pz_M), (12 - x6).toNat < fu → (pz_rl pz_QV M N39) → (0 ≤ x6) → (0 ≤ i ∧ i < M 60 88 ∧ (0 ≤ n ∧ n ≤ 999) ∧ 0 ≤ w ∧ w ≤ 1) → (0 ≤ x4) → (x4 ≤ 999) → (0 ≤ x5) → (x5 ≤ x6) → (i ≤ x6) → (x6 ≤ M 60 88) → (sd_alM M i n x4 x5 x6) → Ok 39 [some (.inr (.inr (12, 1))), some (.inl i), some (.inl n), some (.inl w), some (.inl x4), some (.inl x5), some (.inl x6), d7] [] N39 := by
      intro fu
      induction fu with
      | zero => exact fun _ _ _ _ _ hn => absurd hn (Nat.not_lt_zero _)
      | succ fu ih39 =>
        intro x4 x5 x6 d7 N39 hn39 hS g39_1 g39_2 g39_3 g39_4 g39_5 g39_6 g39_7 g39_8 g39_9
        have hI : pz_im N39 := hS.1 hI0
        have hS39 := hS
        have W39 : N39 60 = M 60 := funext fun j => hS.2 60 j (by unfold pz_QV; first | decide | omega)
        have L96 : ∀ (x4 : Int) (x5 : Int) (x6 : Int) (x7 : Int) (s0 : Int) (s1 : Int) (N96 : pz_M), (pz_rl pz_QV M N96) → (0 ≤ x6) → (x6 < 12) → ((12 - x6).toNat < fu + 1) → (0 ≤ i ∧ i < M 60 88 ∧ (0 ≤ n ∧ n ≤ 999) ∧ 0 ≤ w ∧ w ≤ 1) → (0 ≤ x4) → (x4 ≤ 999) → (0 ≤ s0) → (s0 ≤ x6) → (i ≤ x6) → (x6 < M 60 88) → (0 ≤ s1) → (s1 ≤ 1) → (∀ ls : List pz_lne, pq_wlw ls (M 60) → (∀ q ∈ ls, pv_ln q) → sd_wf (M 60) → sd_alE ls (M 60) i n x4 (s0 + s1) (x6 + 1)) → Ok 96 [some (.inr (.inr (12, 1))), some (.inl i), some (.inl n), some (.inl w), some (.inl x4), some (.inl x5), some (.inl x6), some (.inl x7)] [.inl s1, .inl s0] N96 := by
          intro x4 x5 x6 x7 s0 s1 N96 hS g96_1 g96_2 g96_3 g96_4 g96_5 g96_6 g96_7 g96_8 g96_9 g96_10 g96_11 g96_12 g96_13
          have hI : pz_im N96 := hS.1 hI0
          refine hgo (fun p => Nat.beq p 39 || Nat.beq p 75 || Nat.beq p 96) 62 96 _ _ _ ?_
          intro v96 e96 a96 b96
          rw [pz_wi (by first | decide | omega) (by first | decide | omega)] at e96
          intro v99 e99 a99 b99
          rw [pz_wi (by first | decide | omega) (by first | decide | omega)] at e99
          have G39 : sd_alM M i n x4 v96 v99 := by
            rw [e99, e96]
            assumption
          exact ih39 _ _ _ _ _ (by first | decide | omega) hS (by first | omega | assumption | exact fun ls hl hq w9 => ⟨Int.le_refl _, by omega, rfl⟩) (by first | omega | assumption | exact fun ls hl hq w9 => ⟨Int.le_refl _, by omega, rfl⟩) (by first | omega | assumption | exact fun ls hl hq w9 => ⟨Int.le_refl _, by omega, rfl⟩) (by first | omega | assumption | exact fun ls hl hq w9 => ⟨Int.le_refl _, by omega, rfl⟩) (by first | omega | assumption | exact fun ls hl hq w9 => ⟨Int.le_refl _, by omega, rfl⟩) (by first | omega | assumption | exact fun ls hl hq w9 => ⟨Int.le_refl _, by omega, rfl⟩) (by first | omega | assumption | exact fun ls hl hq w9 => ⟨Int.le_refl _, by omega, rfl⟩) (by first | omega | assumption | exact fun ls hl hq w9 => ⟨Int.le_refl _, by omega, rfl⟩) (by first | omega | assumption | exact fun ls hl hq w9 => ⟨Int.le_refl _, by omega, rfl⟩)
        have L75 : ∀ (x4 : Int) (x5 : Int) (x6 : Int) (d7 : Option pz_V) (s0 : Int) (N75 : pz_M), (pz_rl pz_QV M N75) → (0 ≤ x6) → (x6 < 12) → ((12 - x6).toNat < fu + 1) → (0 ≤ i ∧ i < M 60 88 ∧ (0 ≤ n ∧ n ≤ 999) ∧ 0 ≤ w ∧ w ≤ 1) → (0 ≤ x4) → (x4 ≤ 999) → (0 ≤ x5) → (x5 ≤ x6) → (i ≤ x6) → (x6 < M 60 88) → (0 ≤ s0) → (s0 ≤ 999) → (s0 ≤ x4) → (∀ ls : List pz_lne, pq_wlw ls (M 60) → (∀ q ∈ ls, pv_ln q) → sd_wf (M 60) → sd_alE ls (M 60) i n x4 x5 x6 ∧ s0 = sd_alx ls (M 60) x6.toNat x4) → Ok 75 [some (.inr (.inr (12, 1))), some (.inl i), some (.inl n), some (.inl w), some (.inl x4), some (.inl x5), some (.inl x6), d7] [.inl s0] N75 := by
          intro x4 x5 x6 d7 s0 N75 hS g75_1 g75_2 g75_3 g75_4 g75_5 g75_6 g75_7 g75_8 g75_9 g75_10 g75_11 g75_12 g75_13 g75_14
          have hI : pz_im N75 := hS.1 hI0
          refine hgo (fun p => Nat.beq p 39 || Nat.beq p 75 || Nat.beq p 96) 62 75 _ _ _ ?_
          intro v81 e81 a81 b81
          rw [pz_wi (by first | decide | omega) (by first | decide | omega)] at e81
          refine And.intro (fun h88 => ?_) (fun h88 => ?_)
          · skip
            have G96 : ∀ ls : List pz_lne, pq_wlw ls (M 60) → (∀ q ∈ ls, pv_ln q) → sd_wf (M 60) → sd_alE ls (M 60) i n v81 (x5 + 0) (x6 + 1) := fun ls hl hq w9 => by
              obtain ⟨a, b⟩ := (by assumption : ∀ ls : List pz_lne, pq_wlw ls (M 60) → (∀ q ∈ ls, pv_ln q) → sd_wf (M 60) → sd_alE ls (M 60) i n x4 x5 x6 ∧ s0 = sd_alx ls (M 60) x6.toNat x4) ls hl hq w9
              exact sd_alE_s a w9 (by first | decide | omega) (by first | decide | omega) rfl (by rw [← b]; omega) (by rw [← b, if_neg (by first | decide | omega)]; omega)
            exact L96 _ _ _ _ _ _ _ hS (by first | omega | assumption) (by first | omega | assumption) (by first | omega | assumption) (by first | omega | assumption) (by first | omega | assumption) (by first | omega | assumption) (by first | omega | assumption) (by first | omega | assumption) (by first | omega | assumption) (by first | omega | assumption) (by first | omega | assumption) (by first | omega | assumption) (by first | omega | assumption)
          · skip
            have G96 : ∀ ls : List pz_lne, pq_wlw ls (M 60) → (∀ q ∈ ls, pv_ln q) → sd_wf (M 60) → sd_alE ls (M 60) i n v81 (x5 + 1) (x6 + 1) := fun ls hl hq w9 => by
              obtain ⟨a, b⟩ := (by assumption : ∀ ls : List pz_lne, pq_wlw ls (M 60) → (∀ q ∈ ls, pv_ln q) → sd_wf (M 60) → sd_alE ls (M 60) i n x4 x5 x6 ∧ s0 = sd_alx ls (M 60) x6.toNat x4) ls hl hq w9
              exact sd_alE_s a w9 (by first | decide | omega) (by first | decide | omega) rfl (by rw [← b]; omega) (by rw [← b, if_pos (by first | decide | omega)])
            exact L96 _ _ _ _ _ _ _ hS (by first | omega | assumption) (by first | omega | assumption) (by first | omega | assumption) (by first | omega | assumption) (by first | omega | assumption) (by first | omega | assumption) (by first | omega | assumption) (by first | omega | assumption) (by first | omega | assumption) (by first | omega | assumption) (by first | omega | assumption) (by first | omega | assumption) (by first | omega | assumption)
        refine hgo (fun p => Nat.beq p 39 || Nat.beq p 75 || Nat.beq p 96) 62 39 _ _ _ ?_
        refine pz_nrc (c := 60) rfl ?_
        refine And.intro (by first | decide | omega) (And.intro (show _ < (1725 : Int) from by omega) ?_)
        intro v47 e47 a47 b47
        replace e47 : v47 = N39 60 88 := e47
        have I47 : 0 ≤ v47 ∧ v47 ≤ 12 := by
          rw [e47]
          exact hI.1.1
        clear a47 b47
        rw [W39] at e47
        refine And.intro (fun h48 => ?_) (fun h48 => ?_)
        · skip
          refine And.intro (fun h106 => ?_) (fun h106 => ?_)
          · skip
            replace h106 : 1 ≤ w := by omega
            refine And.intro rfl ?_
            refine ⟨fun ls hl hq hW => ?_, hS⟩
            have hm := hW.1
            show _ = sd_alv ls (M 60) i n w
            have z := sd_alE_z ((by assumption : sd_alM M i n x4 x5 x6) ls hl hq hW) hW (by first | decide | omega)
            unfold sd_alv
            rw [if_pos (by first | decide | omega), ← z]
            first
              | (rw [if_pos (by first | decide | omega)]; done)
              | (rw [if_neg (by first | decide | omega)]; done)
          · skip
            refine And.intro rfl ?_
            refine ⟨fun ls hl hq hW => ?_, hS⟩
            have hm := hW.1
            show _ = sd_alv ls (M 60) i n w
            have z := sd_alE_z ((by assumption : sd_alM M i n x4 x5 x6) ls hl hq hW) hW (by first | decide | omega)
            unfold sd_alv
            rw [if_pos (by first | decide | omega), ← z]
            first
              | (rw [if_pos (by first | decide | omega)]; done)
              | (rw [if_neg (by first | decide | omega)]; done)
        · skip
          refine And.intro (hI) ?_
          intro v54 M54 a54 b54 q54
          obtain ⟨q54, z54⟩ := q54
          subst z54
          clear a54 b54
          rw [W39] at q54
          refine And.intro (fun h57 => ?_) (fun h57 => ?_)
          · skip
            have G75 : ∀ ls : List pz_lne, pq_wlw ls (M 60) → (∀ q ∈ ls, pv_ln q) → sd_wf (M 60) → sd_alE ls (M 60) i n x4 x5 x6 ∧ (0 : Int) = sd_alx ls (M 60) x6.toNat x4 := fun ls hl hq w9 => by
              rw [show (52 + x6).toNat = 52 + x6.toNat by omega, show (76 + x6).toNat = 76 + x6.toNat by omega] at q54
              exact ⟨(by assumption : sd_alM M i n x4 x5 x6) ls hl hq w9, (if_neg (fun z => by unfold sd_in at z; omega)).symm⟩
            replace q54 := q54.resolve_left (fun z => absurd (z.1.symm.trans h57) (by decide))
            exact L75 _ _ _ _ _ _ hS (by first | omega | assumption) (by first | omega | assumption) (by first | omega | assumption) (by first | omega | assumption) (by first | omega | assumption) (by first | omega | assumption) (by first | omega | assumption) (by first | omega | assumption) (by first | omega | assumption) (by first | omega | assumption) (by first | omega | assumption) (by first | omega | assumption) (by first | omega | assumption) (by first | omega | assumption)
          · skip
            skip
            replace q54 := q54.resolve_right (fun z => h57 z.1)
            refine And.intro (And.intro hI (And.intro (by first | decide | omega) (by first | decide | omega))) ?_
            intro v65 M65 a65 b65 q65
            obtain ⟨q65, z65⟩ := q65
            have hS : pz_rl pz_QV M M65 := hS.tr (pz_rl.wk pz_wk_QS_QV z65)
            have hI : pz_im M65 := hS.1 hI0
            clear a65 b65
            have W65 : M65 60 = N39 60 := funext fun j => z65.2 60 j (by unfold pz_QS; first | decide | omega)
            refine And.intro (True.intro) ?_
            intro v68 M68 a68 b68 q68
            obtain ⟨q68, z68⟩ := q68
            subst z68
            have G75 : ∀ ls : List pz_lne, pq_wlw ls (M 60) → (∀ q ∈ ls, pv_ln q) → sd_wf (M 60) → sd_alE ls (M 60) i n x4 x5 x6 ∧ v68 = sd_alx ls (M 60) x6.toNat x4 := fun ls hl hq w9 => by
              rw [show (52 + x6).toNat = 52 + x6.toNat by omega, show (76 + x6).toNat = 76 + x6.toNat by omega] at q54
              refine ⟨(by assumption : sd_alM M i n x4 x5 x6) ls hl hq w9, ?_⟩
              have r := q65.1 (by rw [W39]; omega) ls (by rw [W39]; exact hl) hq
              rw [W39] at r
              unfold sd_alx
              rw [if_pos (by unfold sd_in; first | decide | omega), ← r]
              omega
            have gb : 0 ≤ v65 := by omega
            exact L75 _ _ _ _ _ _ hS (by first | omega | assumption) (by first | omega | assumption) (by first | omega | assumption) (by first | omega | assumption) (by first | omega | assumption) (by first | omega | assumption) (by first | omega | assumption) (by first | omega | assumption) (by first | omega | assumption) (by first | omega | assumption) (by first | omega | assumption) (by first | omega | assumption) (by first | omega | assumption) (by first | omega | assumption)
    refine hgo (fun p => Nat.beq p 39 || Nat.beq p 75 || Nat.beq p 96) 62 0 _ [] M ?_
    refine And.intro (hI) ?_
    intro v2 M2 a2 b2 q2
    obtain ⟨q2, z2⟩ := q2
    subst z2
    clear a2 b2
    refine And.intro (fun h5 => ?_) (fun h5 => ?_)
    · skip
      replace q2 := q2.resolve_left (fun z => absurd (z.1.symm.trans h5) (by decide))
      clear h5
      refine And.intro rfl ?_
      refine ⟨fun ls hl hq hW => ?_, hS⟩
      have hm := hW.1
      show _ = sd_alv ls (M 60) i n w
      unfold sd_alv
      rw [if_neg (by first | decide | omega)]
    · skip
      replace q2 := q2.resolve_right (fun z => h5 z.1)
      clear h5
      refine And.intro (True.intro) ?_
      intro v13 M13 a13 b13 q13
      obtain ⟨q13, z13⟩ := q13
      subst z13
      clear a13 b13
      refine And.intro (fun h16 => ?_) (fun h16 => ?_)
      · skip
        replace q13 := q13.resolve_left (fun z => absurd (z.1.symm.trans h16) (by decide))
        clear h16
        refine And.intro rfl ?_
        refine ⟨fun ls hl hq hW => ?_, hS⟩
        have hm := hW.1
        show _ = sd_alv ls (M 60) i n w
        unfold sd_alv
        rw [if_neg (by first | decide | omega)]
      · skip
        replace q13 := q13.resolve_right (fun z => h16 z.1)
        clear h16
        refine And.intro (True.intro) ?_
        intro v22 M22 a22 b22 q22
        obtain ⟨q22, z22⟩ := q22
        subst z22
        clear a22 b22
        refine And.intro (fun h25 => ?_) (fun h25 => ?_)
        · skip
          have GP : 0 ≤ i ∧ i < M 60 88 ∧ (0 ≤ n ∧ n ≤ 999) ∧ 0 ≤ w ∧ w ≤ 1 := by omega
          replace q22 := q22.resolve_right (fun z => h25 z.1)
          clear h25
          exact L39 _ _ _ _ _ _ (Nat.lt_succ_self _) hS (by first | omega | assumption | exact fun ls hl hq w9 => ⟨Int.le_refl _, by omega, rfl⟩) (by first | omega | assumption | exact fun ls hl hq w9 => ⟨Int.le_refl _, by omega, rfl⟩) (by first | omega | assumption | exact fun ls hl hq w9 => ⟨Int.le_refl _, by omega, rfl⟩) (by first | omega | assumption | exact fun ls hl hq w9 => ⟨Int.le_refl _, by omega, rfl⟩) (by first | omega | assumption | exact fun ls hl hq w9 => ⟨Int.le_refl _, by omega, rfl⟩) (by first | omega | assumption | exact fun ls hl hq w9 => ⟨Int.le_refl _, by omega, rfl⟩) (by first | omega | assumption | exact fun ls hl hq w9 => ⟨Int.le_refl _, by omega, rfl⟩) (by first | omega | assumption | exact fun ls hl hq w9 => ⟨Int.le_refl _, by omega, rfl⟩) (by first | omega | assumption | exact fun ls hl hq w9 => ⟨Int.le_refl _, by omega, rfl⟩)
        · skip
          skip
          replace q22 := q22.resolve_left (fun z => absurd (z.1.symm.trans h25) (by decide))
          clear h25
          refine And.intro rfl ?_
          refine ⟨fun ls hl hq hW => ?_, hS⟩
          have hm := hW.1
          show _ = sd_alv ls (M 60) i n w
          unfold sd_alv
          rw [if_neg (by first | decide | omega)]
theorem v3_X12_along {fr lo i : Nat} {own : String} (h1 : 5 + 1 ≤ fr) (h2 : 8 + (8 + 11) + 116 ≤ lo) (h3 : .methodLink own i yX12_along ∈ lw_tbl) : pz_cV fr lo own i k3_X12_along :=
  pz_cVk (maxL := 8) (fr' := 5) (lo' := 116) 3 12 h3_X12_along rfl ⟨(pz_nhc_RX12 yX12_along rfl).1, (pz_nhc_RX12 yX12_along rfl).2, pz_ds14⟩ ⟨pz_wq1688, pz_wq1686, pz_wq1687, pz_wq13⟩ (Or.inl ⟨TX12, 28, rfl⟩) (fun a M _ h => by
    have h : (match (generalizing := false) a with | [.inr (.inr (12, th)), .inl i, .inl n, .inl w] => pz_im M | _ => False) := h
    split at h
    · exact ⟨_, _, rfl⟩
    · exact h.elim) h1 h2 h3
end
