section
noncomputable def k_X11_fault : pz_C := (2, 1, fun a M => (match a with | [.inr (.inr (11, th)), .inl i] => pz_ic M | _ => False), fun a M r M' => (match a, r with | [.inr (.inr (11, th)), .inl i], some (.inl v) => ((i = 0 → v = M 5 3) ∧ (i = 1 → v = M 5 4) ∧ (¬ (i = 0 ∨ i = 1) → v = -1)) ∧ M = M' | _, _ => False))
noncomputable abbrev ct_X11_fault : List (Bool × Nat × pz_C) := []
set_option maxRecDepth 100000 in
set_option maxHeartbeats 4000000 in
theorem h_X11_fault : pz_H yX11_fault cX11_fault 2 (some .int) k_X11_fault 0 0 := by
  refine pz_mk (own := RX11) (tb := t_X11_fault) (fl := pz_flf fl_RX11) (ci := pz_cif ci_RX11) (ct := pz_ctf ct_X11_fault) (rz := false) (pz_pfc_RX11 yX11_fault rfl) rfl t_X11_fault_ok (pz_flk fl_RX11_ok) (pz_cik ci_RX11_ok) ?_ ?_ (Or.inl ⟨rfl, rfl⟩) ?_ ?_
  · exact fun i k' h => pz_ctk (l := ct_X11_fault) (P := fun b i k => b = true → pz_cV 0 0 RX11 i k) (fun _ h => absurd h List.not_mem_nil) true i k' h rfl
  · exact fun i k' h => pz_ctk (l := ct_X11_fault) (P := fun b i k => b = false → (pz_cS 0 0 RX11 i k ∨ (k = pz_kac ∧ 1 ≤ 0 ∧ 60 ≤ 0 ∧ Cond.methodLink RX11 i arraycopyName ∈ pz_tbl))) (fun _ h => absurd h List.not_mem_nil) false i k' h rfl
  · intro a M hlen hpre
    obtain ⟨th, i, rfl, hpre⟩ : ∃ th i, a = [.inr (.inr (11, th)), .inl i] ∧ (pz_ic M) := by
      have hpre : (match (generalizing := false) a with | [.inr (.inr (11, th)), .inl i] => pz_ic M | _ => False) := hpre
      split at hpre
      · exact ⟨_, _, rfl, hpre⟩
      · exact hpre.elim
    exact Nat.le_of_ble_eq_true rfl
  · intro a M hlen hcan hM hpre Ok hgo
    obtain ⟨th, i, rfl, hpre⟩ : ∃ th i, a = [.inr (.inr (11, th)), .inl i] ∧ (pz_ic M) := by
      have hpre : (match (generalizing := false) a with | [.inr (.inr (11, th)), .inl i] => pz_ic M | _ => False) := hpre
      split at hpre
      · exact ⟨_, _, rfl, hpre⟩
      · exact hpre.elim
    obtain ⟨k_th, hc_th⟩ := pz_tlm hcan
    have k_th : pz_kd th = 11 ∧ th < 231 := k_th
    have R_th := pz_kd11 k_th.1
    subst R_th
    obtain ⟨k_i, hc_i⟩ := pz_tlm hc_th
    have l_i : -2147483648 ≤ i := k_i.1
    have u_i : i ≤ 2147483647 := k_i.2
    have hI : pz_ic M := hpre
    refine hgo (fun _ => false) 14 0 _ [] M ?_
    refine And.intro ?_ ?_
    · skip
      refine And.intro (fun h1 => ?_) ?_
      · skip
        refine pz_nrc (c := 5) rfl ?_
        intro v32 e32 a32 b32
        refine And.intro rfl ?_
        exact ⟨by omega, rfl⟩
      refine And.intro (fun h1 => ?_) ?_
      · skip
        refine pz_nrc (c := 5) rfl ?_
        intro v40 e40 a40 b40
        refine And.intro rfl ?_
        exact ⟨by omega, rfl⟩
      exact True.intro
    · intro h1_0 h1_1
      refine And.intro rfl ?_
      exact ⟨by omega, rfl⟩
theorem v_X11_fault {fr lo i : Nat} {own : String} (h1 : 0 + 1 ≤ fr) (h2 : 8 + (2 + 11) + 0 ≤ lo) (h3 : .methodLink own i yX11_fault ∈ lw_tbl) : pz_cV fr lo own i k_X11_fault :=
  pz_cVk (maxL := 2) (fr' := 0) (lo' := 0) 1 11 h_X11_fault rfl ⟨(pz_nhc_RX11 yX11_fault rfl).1, (pz_nhc_RX11 yX11_fault rfl).2, pz_ds5⟩ ⟨pz_wq832, pz_wq830, pz_wq831, pz_wq1⟩ (Or.inl ⟨TX11, 14, rfl⟩) (fun a M _ h => by
    have h : (match (generalizing := false) a with | [.inr (.inr (11, th)), .inl i] => pz_ic M | _ => False) := h
    split at h
    · exact ⟨_, _, rfl⟩
    · exact h.elim) h1 h2 h3

noncomputable def k_X11_phone : pz_C := (3, 1, fun a M => (match a with | [.inr (.inr (11, th)), .inl i, .inl w] => pz_ic M | _ => False), fun a M r M' => (match a, r with | [.inr (.inr (11, th)), .inl i, .inl w], some (.inl v) => (pz_pn1 M i w v) ∧ M = M' | _, _ => False))
noncomputable abbrev ct_X11_phone : List (Bool × Nat × pz_C) := [(true, 118, k_X0_has), (true, 225, k_X10_phoneFrom), (true, 228, k_X10_phoneTo), (true, 231, k_X10_recordsOf)]
set_option maxRecDepth 100000 in
set_option maxHeartbeats 4000000 in
theorem h_X11_phone : pz_H yX11_phone cX11_phone 3 (some .int) k_X11_phone 3 66 := by
  refine pz_mk (own := RX11) (tb := t_X11_phone) (fl := pz_flf fl_RX11) (ci := pz_cif ci_RX11) (ct := pz_ctf ct_X11_phone) (rz := false) (pz_pfc_RX11 yX11_phone rfl) rfl t_X11_phone_ok (pz_flk fl_RX11_ok) (pz_cik ci_RX11_ok) ?_ ?_ (Or.inl ⟨rfl, rfl⟩) ?_ ?_
  · exact fun i k' h => pz_ctk (l := ct_X11_phone) (P := fun b i k => b = true → pz_cV 3 66 RX11 i k) (List.forall_mem_cons.mpr ⟨(fun _ => v_X0_has (by decide) (by decide) pz_wq444), List.forall_mem_cons.mpr ⟨(fun _ => v_X10_phoneFrom (by decide) (by decide) pz_wq845), List.forall_mem_cons.mpr ⟨(fun _ => v_X10_phoneTo (by decide) (by decide) pz_wq854), List.forall_mem_cons.mpr ⟨(fun _ => v_X10_recordsOf (by decide) (by decide) pz_wq858), fun _ h => absurd h List.not_mem_nil⟩⟩⟩⟩) true i k' h rfl
  · exact fun i k' h => pz_ctk (l := ct_X11_phone) (P := fun b i k => b = false → (pz_cS 3 66 RX11 i k ∨ (k = pz_kac ∧ 1 ≤ 3 ∧ 60 ≤ 66 ∧ Cond.methodLink RX11 i arraycopyName ∈ pz_tbl))) (List.forall_mem_cons.mpr ⟨((fun z => by cases z)), List.forall_mem_cons.mpr ⟨((fun z => by cases z)), List.forall_mem_cons.mpr ⟨((fun z => by cases z)), List.forall_mem_cons.mpr ⟨((fun z => by cases z)), fun _ h => absurd h List.not_mem_nil⟩⟩⟩⟩) false i k' h rfl
  · intro a M hlen hpre
    obtain ⟨th, i, w, rfl, hpre⟩ : ∃ th i w, a = [.inr (.inr (11, th)), .inl i, .inl w] ∧ (pz_ic M) := by
      have hpre : (match (generalizing := false) a with | [.inr (.inr (11, th)), .inl i, .inl w] => pz_ic M | _ => False) := hpre
      split at hpre
      · exact ⟨_, _, _, rfl, hpre⟩
      · exact hpre.elim
    exact Nat.le_of_ble_eq_true rfl
  · intro a M hlen hcan hM hpre Ok hgo
    obtain ⟨th, i, w, rfl, hpre⟩ : ∃ th i w, a = [.inr (.inr (11, th)), .inl i, .inl w] ∧ (pz_ic M) := by
      have hpre : (match (generalizing := false) a with | [.inr (.inr (11, th)), .inl i, .inl w] => pz_ic M | _ => False) := hpre
      split at hpre
      · exact ⟨_, _, _, rfl, hpre⟩
      · exact hpre.elim
    obtain ⟨k_th, hc_th⟩ := pz_tlm hcan
    have k_th : pz_kd th = 11 ∧ th < 231 := k_th
    have R_th := pz_kd11 k_th.1
    subst R_th
    obtain ⟨k_i, hc_i⟩ := pz_tlm hc_th
    have l_i : -2147483648 ≤ i := k_i.1
    have u_i : i ≤ 2147483647 := k_i.2
    obtain ⟨k_w, hc_w⟩ := pz_tlm hc_i
    have l_w : -2147483648 ≤ w := k_w.1
    have u_w : w ≤ 2147483647 := k_w.2
    have hI : pz_ic M := hpre
    refine hgo (fun _ => false) 28 0 _ [] M ?_
    refine pz_nrc (c := 71) rfl ?_
    refine And.intro (True.intro) ?_
    intro v5 M5 a5 b5 q5
    obtain ⟨q5, z5⟩ := q5
    subst z5
    refine And.intro (fun h8 => ?_) (fun h8 => ?_)
    · skip
      have q8 : 0 ≤ i ∧ i < M 71 3 := by
        split at q5
        · assumption
        · omega
      refine And.intro ?_ ?_
      · skip
        refine And.intro (fun h14 => ?_) ?_
        · skip
          refine pz_nrc (c := 8) rfl ?_
          refine And.intro (hI) ?_
          intro v45 M45 a45 b45 q45
          obtain ⟨q45, z45⟩ := q45
          subst z45
          refine And.intro rfl ?_
          exact ⟨⟨fun y => absurd ⟨by omega, by omega⟩ y, fun _ => ⟨fun _ => q45, fun y => absurd y (by omega), fun y => absurd y (by omega), fun y => absurd ⟨by omega, by omega⟩ y⟩⟩, rfl⟩
        refine And.intro (fun h14 => ?_) ?_
        · skip
          refine pz_nrc (c := 8) rfl ?_
          refine And.intro (hI) ?_
          intro v54 M54 a54 b54 q54
          obtain ⟨q54, z54⟩ := q54
          subst z54
          refine And.intro rfl ?_
          exact ⟨⟨fun y => absurd ⟨by omega, by omega⟩ y, fun _ => ⟨fun y => absurd y (by omega), fun _ => q54, fun y => absurd y (by omega), fun y => absurd ⟨by omega, by omega⟩ y⟩⟩, rfl⟩
        refine And.intro (fun h14 => ?_) ?_
        · skip
          refine pz_nrc (c := 8) rfl ?_
          refine And.intro (hI) ?_
          intro v63 M63 a63 b63 q63
          obtain ⟨q63, z63⟩ := q63
          subst z63
          refine And.intro rfl ?_
          exact ⟨⟨fun y => absurd ⟨by omega, by omega⟩ y, fun _ => ⟨fun y => absurd y (by omega), fun y => absurd y (by omega), fun _ => q63, fun y => absurd ⟨by omega, by omega⟩ y⟩⟩, rfl⟩
        exact True.intro
      · intro h14
        refine And.intro rfl ?_
        exact ⟨⟨fun y => absurd ⟨by omega, by omega⟩ y, fun _ => ⟨fun y => absurd y (by omega), fun y => absurd y (by omega), fun y => absurd y (by omega), fun _ => rfl⟩⟩, rfl⟩
    · skip
      have q8 : ¬ (0 ≤ i ∧ i < M 71 3) := by
        split at q5
        · omega
        · assumption
      refine And.intro rfl ?_
      exact ⟨⟨fun _ => rfl, fun y => absurd y (by omega)⟩, rfl⟩
theorem v_X11_phone {fr lo i : Nat} {own : String} (h1 : 3 + 1 ≤ fr) (h2 : 8 + (3 + 11) + 66 ≤ lo) (h3 : .methodLink own i yX11_phone ∈ lw_tbl) : pz_cV fr lo own i k_X11_phone :=
  pz_cVk (maxL := 3) (fr' := 3) (lo' := 66) 2 11 h_X11_phone rfl ⟨(pz_nhc_RX11 yX11_phone rfl).1, (pz_nhc_RX11 yX11_phone rfl).2, pz_ds10⟩ ⟨pz_wq844, pz_wq842, pz_wq843, pz_wq1⟩ (Or.inl ⟨TX11, 14, rfl⟩) (fun a M _ h => by
    have h : (match (generalizing := false) a with | [.inr (.inr (11, th)), .inl i, .inl w] => pz_ic M | _ => False) := h
    split at h
    · exact ⟨_, _, rfl⟩
    · exact h.elim) h1 h2 h3




noncomputable def k_X11_many : pz_C := (3, 1, fun a M => (match a with | [.inr (.inr (11, th)), .inl p, .inl d] => pz_ic M | _ => False), fun a M r M' => (match a, r with | [.inr (.inr (11, th)), .inl p, .inl d], some (.inl v) => (v = (if 0 ≤ p ∧ p ≤ 1000 ∧ 1 ≤ d ∧ d ≤ 60 then pz_mc (1000000 - pz_lf p d.toNat) 60 1000000 0 else -1)) ∧ M = M' | _, _ => False))
noncomputable abbrev ct_X11_many : List (Bool × Nat × pz_C) := [(false, 137, k_X11_within), (false, 267, k_X4_chance), (false, 272, k_X4_times)]
set_option maxRecDepth 100000 in
set_option maxHeartbeats 4000000 in
theorem h_X11_many : pz_H yX11_many cX11_many 6 (some .int) k_X11_many 3 65 := by
  refine pz_mk (own := RX11) (tb := t_X11_many) (fl := pz_flf fl_RX11) (ci := pz_cif ci_RX11) (ct := pz_ctf ct_X11_many) (rz := false) (pz_pfc_RX11 yX11_many rfl) rfl t_X11_many_ok (pz_flk fl_RX11_ok) (pz_cik ci_RX11_ok) ?_ ?_ (Or.inl ⟨rfl, rfl⟩) ?_ ?_
  · exact fun i k' h => pz_ctk (l := ct_X11_many) (P := fun b i k => b = true → pz_cV 3 65 RX11 i k) (List.forall_mem_cons.mpr ⟨((fun z => by cases z)), List.forall_mem_cons.mpr ⟨((fun z => by cases z)), List.forall_mem_cons.mpr ⟨((fun z => by cases z)), fun _ h => absurd h List.not_mem_nil⟩⟩⟩) true i k' h rfl
  · exact fun i k' h => pz_ctk (l := ct_X11_many) (P := fun b i k => b = false → (pz_cS 3 65 RX11 i k ∨ (k = pz_kac ∧ 1 ≤ 3 ∧ 60 ≤ 65 ∧ Cond.methodLink RX11 i arraycopyName ∈ pz_tbl))) (List.forall_mem_cons.mpr ⟨(fun _ => Or.inl (s_X11_within (by decide) (by decide) (Or.inl pz_wq425))), List.forall_mem_cons.mpr ⟨(fun _ => Or.inl (s_X4_chance (by decide) (by decide) (Or.inl pz_wq926))), List.forall_mem_cons.mpr ⟨(fun _ => Or.inl (s_X4_times (by decide) (by decide) (Or.inl pz_wq930))), fun _ h => absurd h List.not_mem_nil⟩⟩⟩) false i k' h rfl
  · intro a M hlen hpre
    obtain ⟨th, p, d, rfl, hpre⟩ : ∃ th p d, a = [.inr (.inr (11, th)), .inl p, .inl d] ∧ (pz_ic M) := by
      have hpre : (match (generalizing := false) a with | [.inr (.inr (11, th)), .inl p, .inl d] => pz_ic M | _ => False) := hpre
      split at hpre
      · exact ⟨_, _, _, rfl, hpre⟩
      · exact hpre.elim
    exact Nat.le_of_ble_eq_true rfl
  · intro a M hlen hcan hM hpre Ok hgo
    obtain ⟨th, p, d, rfl, hpre⟩ : ∃ th p d, a = [.inr (.inr (11, th)), .inl p, .inl d] ∧ (pz_ic M) := by
      have hpre : (match (generalizing := false) a with | [.inr (.inr (11, th)), .inl p, .inl d] => pz_ic M | _ => False) := hpre
      split at hpre
      · exact ⟨_, _, _, rfl, hpre⟩
      · exact hpre.elim
    obtain ⟨k_th, hc_th⟩ := pz_tlm hcan
    have k_th : pz_kd th = 11 ∧ th < 231 := k_th
    have R_th := pz_kd11 k_th.1
    subst R_th
    obtain ⟨k_p, hc_p⟩ := pz_tlm hc_th
    have l_p : -2147483648 ≤ p := k_p.1
    have u_p : p ≤ 2147483647 := k_p.2
    obtain ⟨k_d, hc_d⟩ := pz_tlm hc_p
    have l_d : -2147483648 ≤ d := k_d.1
    have u_d : d ≤ 2147483647 := k_d.2
    have hI : pz_ic M := hpre
    have L37 : ∀ (fu : Nat) (x3 : Int) (x4 : Int) (x5 : Int), (60 - x5).toNat < fu → (0 ≤ x5) → (x5 ≤ 60) → (0 ≤ p ∧ p ≤ 1000 ∧ 1 ≤ d ∧ d ≤ 60) → (x3 = 1000000 - pz_lf p d.toNat) → (0 ≤ x4 ∧ x4 ≤ 1000000) → (pz_mc x3 (60 - x5).toNat x4 x5 = pz_mc x3 60 1000000 0) → Ok 37 [some (.inr (.inr (11, 0))), some (.inl p), some (.inl d), some (.inl x3), some (.inl x4), some (.inl x5)] [] M := by
      intro fu
      induction fu with
      | zero => exact fun _ _ _ hn => absurd hn (Nat.not_lt_zero _)
      | succ fu ih37 =>
        intro x3 x4 x5 hn37 g37_0 g37_1 g37_2 g37_3 g37_4 g37_5
        have B37 := pz_lf_b g37_2.1 g37_2.2.1 d.toNat
        refine hgo (fun p => Nat.beq p 37) 38 37 _ _ _ ?_
        refine And.intro (fun h41 => ?_) (fun h41 => ?_)
        · skip
          refine And.intro rfl ?_
          refine ⟨?_, rfl⟩
          rw [if_pos g37_2, ← g37_3, ← g37_5, pz_mc0 (e := x3) (a := x4) (i := x5) (n := (60 - x5).toNat) (by omega)]
          omega
        · skip
          refine And.intro (True.intro) ?_
          intro v47 M47 a47 b47 q47
          obtain ⟨q47, z47⟩ := q47
          subst z47
          have q47 := q47 (by omega) (by omega) (by omega) (by omega)
          have B47 := pz_m9 (x := x4) (y := x3) (a := 1000000) (b := 1000000) (by omega) (by omega) (by omega) (by omega)
          refine And.intro (fun h57 => ?_) (fun h57 => ?_)
          · skip
            intro v63 e63 a63 b63
            try rw [pz_wi (by omega) (by omega)] at e63
            have G63 : pz_mc x3 (60 - v63).toNat v47 v63 = pz_mc x3 60 1000000 0 := by
              rw [← g37_5, pz_mcS (n := (60 - x5).toNat) (m := (60 - v63).toNat) (by omega) q47 (by omega), e63]
            exact ih37 _ _ _ (by omega) (by first | omega | assumption | rfl) (by first | omega | assumption | rfl) (by first | omega | assumption | rfl) (by first | omega | assumption | rfl) (by first | omega | assumption | rfl) (by first | omega | assumption | rfl)
          · skip
            refine And.intro rfl ?_
            refine ⟨?_, rfl⟩
            rw [if_pos g37_2, ← g37_3, ← g37_5, pz_mcR (n := (60 - x5).toNat) (m := (59 - x5).toNat) (by omega) q47 (by omega)]
    refine hgo (fun p => Nat.beq p 37) 38 0 _ [] M ?_
    refine And.intro (True.intro) ?_
    intro v5 M5 a5 b5 q5
    obtain ⟨q5, z5⟩ := q5
    subst z5
    refine And.intro (fun h8 => ?_) (fun h8 => ?_)
    · skip
      skip
      refine And.intro rfl ?_
      refine ⟨?_, rfl⟩
      rw [if_neg]
      intro z
      first
        | (split at q5 <;> split at q15 <;> omega)
        | (split at q5 <;> omega)
    · skip
      skip
      refine And.intro (True.intro) ?_
      intro v15 M15 a15 b15 q15
      obtain ⟨q15, z15⟩ := q15
      subst z15
      refine And.intro (fun h18 => ?_) (fun h18 => ?_)
      · skip
        refine And.intro (True.intro) ?_
        intro v25 M25 a25 b25 q25
        obtain ⟨q25, z25⟩ := q25
        subst z25
        have P25 : 0 ≤ p ∧ p ≤ 1000 ∧ 1 ≤ d ∧ d ≤ 60 := by
          clear hgo
          split at q5 <;> split at q15 <;> omega
        have q25 := q25 P25.1 P25.2.1 (by omega)
        have B25 := pz_lf_b P25.1 P25.2.1 d.toNat
        exact L37 _ _ _ _ (Nat.lt_succ_self _) (by first | omega | assumption | rfl) (by first | omega | assumption | rfl) (by first | omega | assumption | rfl) (by first | omega | assumption | rfl) (by first | omega | assumption | rfl) (by first | omega | assumption | rfl)
      · skip
        refine And.intro rfl ?_
        refine ⟨?_, rfl⟩
        rw [if_neg]
        intro z
        first
          | (split at q5 <;> split at q15 <;> omega)
          | (split at q5 <;> omega)
theorem v_X11_many {fr lo i : Nat} {own : String} (h1 : 3 + 1 ≤ fr) (h2 : 8 + (6 + 11) + 65 ≤ lo) (h3 : .methodLink own i yX11_many ∈ lw_tbl) : pz_cV fr lo own i k_X11_many :=
  pz_cVk (maxL := 6) (fr' := 3) (lo' := 65) 2 11 h_X11_many rfl ⟨(pz_nhc_RX11 yX11_many rfl).1, (pz_nhc_RX11 yX11_many rfl).2, pz_ds10⟩ ⟨pz_wq925, pz_wq923, pz_wq924, pz_wq1⟩ (Or.inl ⟨TX11, 14, rfl⟩) (fun a M _ h => by
    have h : (match (generalizing := false) a with | [.inr (.inr (11, th)), .inl p, .inl d] => pz_ic M | _ => False) := h
    split at h
    · exact ⟨_, _, rfl⟩
    · exact h.elim) h1 h2 h3

noncomputable def k_X11_highestLevel : pz_C := (2, 1, fun a M => (match a with | [.inr (.inr (11, th)), .inl n] => pz_ic M | _ => False), fun a M r M' => (match a, r with | [.inr (.inr (11, th)), .inl n], some (.inl v) => (True) ∧ M = M' | _, _ => False))
noncomputable abbrev ct_X11_highestLevel : List (Bool × Nat × pz_C) := [(true, 283, k_X0_givenTo)]
set_option maxRecDepth 100000 in
set_option maxHeartbeats 4000000 in
theorem h_X11_highestLevel : pz_H yX11_highestLevel cX11_highestLevel 6 (some .int) k_X11_highestLevel 3 65 := by
  refine pz_mk (own := RX11) (tb := t_X11_highestLevel) (fl := pz_flf fl_RX11) (ci := pz_cif ci_RX11) (ct := pz_ctf ct_X11_highestLevel) (rz := false) (pz_pfc_RX11 yX11_highestLevel rfl) rfl t_X11_highestLevel_ok (pz_flk fl_RX11_ok) (pz_cik ci_RX11_ok) ?_ ?_ (Or.inl ⟨rfl, rfl⟩) ?_ ?_
  · exact fun i k' h => pz_ctk (l := ct_X11_highestLevel) (P := fun b i k => b = true → pz_cV 3 65 RX11 i k) (List.forall_mem_cons.mpr ⟨(fun _ => v_X0_givenTo (by decide) (by decide) pz_wq965), fun _ h => absurd h List.not_mem_nil⟩) true i k' h rfl
  · exact fun i k' h => pz_ctk (l := ct_X11_highestLevel) (P := fun b i k => b = false → (pz_cS 3 65 RX11 i k ∨ (k = pz_kac ∧ 1 ≤ 3 ∧ 60 ≤ 65 ∧ Cond.methodLink RX11 i arraycopyName ∈ pz_tbl))) (List.forall_mem_cons.mpr ⟨((fun z => by cases z)), fun _ h => absurd h List.not_mem_nil⟩) false i k' h rfl
  · intro a M hlen hpre
    obtain ⟨th, n, rfl, hpre⟩ : ∃ th n, a = [.inr (.inr (11, th)), .inl n] ∧ (pz_ic M) := by
      have hpre : (match (generalizing := false) a with | [.inr (.inr (11, th)), .inl n] => pz_ic M | _ => False) := hpre
      split at hpre
      · exact ⟨_, _, rfl, hpre⟩
      · exact hpre.elim
    exact Nat.le_of_ble_eq_true rfl
  · intro a M hlen hcan hM hpre Ok hgo
    obtain ⟨th, n, rfl, hpre⟩ : ∃ th n, a = [.inr (.inr (11, th)), .inl n] ∧ (pz_ic M) := by
      have hpre : (match (generalizing := false) a with | [.inr (.inr (11, th)), .inl n] => pz_ic M | _ => False) := hpre
      split at hpre
      · exact ⟨_, _, rfl, hpre⟩
      · exact hpre.elim
    obtain ⟨k_th, hc_th⟩ := pz_tlm hcan
    have k_th : pz_kd th = 11 ∧ th < 231 := k_th
    have R_th := pz_kd11 k_th.1
    subst R_th
    obtain ⟨k_n, hc_n⟩ := pz_tlm hc_th
    have l_n : -2147483648 ≤ n := k_n.1
    have u_n : n ≤ 2147483647 := k_n.2
    have hI : pz_ic M := hpre
    have L9 : ∀ (fu : Nat) (x2 : Int) (x3 : Int) (x4 : Int) (d5 : Option pz_V), (999 - x4).toNat < fu → (0 ≤ x4) → (0 ≤ x2) → (x2 ≤ 999) → (0 ≤ x3) → (x3 ≤ 999) → Ok 9 [some (.inr (.inr (11, 0))), some (.inl n), some (.inl x2), some (.inl x3), some (.inl x4), d5] [] M := by
      intro fu
      induction fu with
      | zero => exact fun _ _ _ _ hn => absurd hn (Nat.not_lt_zero _)
      | succ fu ih9 =>
        intro x2 x3 x4 d5 hn9 g9_0 g9_1 g9_2 g9_3 g9_4
        refine hgo (fun p => Nat.beq p 9) 39 9 _ _ _ ?_
        refine And.intro (fun h14 => ?_) (fun h14 => ?_)
        · skip
          refine And.intro rfl ?_
          exact ⟨trivial, rfl⟩
        · skip
          refine And.intro (fun h19 => ?_) (fun h19 => ?_)
          · skip
            refine And.intro rfl ?_
            exact ⟨trivial, rfl⟩
          · skip
            intro v24 e24 a24 b24
            try rw [pz_wi (by omega) (by omega)] at e24
            intro v26 e26 a26 b26
            try rw [pz_wi (by omega) (by omega)] at e26
            refine And.intro (by omega) ?_
            intro v28 e28 a28 b28
            rw [Int.tdiv_eq_ediv_of_nonneg (by omega)] at e28
            rw [pz_wi (by omega) (by omega)] at e28
            intro r32 e32 k32
            have R32 := pz_kd0 k32
            refine And.intro (hI) ?_
            intro v37 M37 a37 b37 q37
            obtain ⟨q37, z37⟩ := q37
            subst z37
            refine And.intro (fun h41 => ?_) (fun h41 => ?_)
            · skip
              intro v53 e53 a53 b53
              try rw [pz_wi (by omega) (by omega)] at e53
              intro v55 e55 a55 b55
              try rw [pz_wi (by omega) (by omega)] at e55
              exact ih9 _ _ _ _ (by omega) (by omega) (by omega) (by omega) (by omega) (by omega)
            · skip
              intro v55 e55 a55 b55
              try rw [pz_wi (by omega) (by omega)] at e55
              exact ih9 _ _ _ _ (by omega) (by omega) (by omega) (by omega) (by omega) (by omega)
    refine hgo (fun p => Nat.beq p 9) 39 0 _ [] M ?_
    exact L9 _ _ _ _ _ (Nat.lt_succ_self _) (by omega) (by omega) (by omega) (by omega) (by omega)
theorem v_X11_highestLevel {fr lo i : Nat} {own : String} (h1 : 3 + 1 ≤ fr) (h2 : 8 + (6 + 11) + 65 ≤ lo) (h3 : .methodLink own i yX11_highestLevel ∈ lw_tbl) : pz_cV fr lo own i k_X11_highestLevel :=
  pz_cVk (maxL := 6) (fr' := 3) (lo' := 65) 1 11 h_X11_highestLevel rfl ⟨(pz_nhc_RX11 yX11_highestLevel rfl).1, (pz_nhc_RX11 yX11_highestLevel rfl).2, pz_ds5⟩ ⟨pz_wq977, pz_wq976, pz_ws2, pz_wq1⟩ (Or.inl ⟨TX11, 14, rfl⟩) (fun a M _ h => by
    have h : (match (generalizing := false) a with | [.inr (.inr (11, th)), .inl n] => pz_ic M | _ => False) := h
    split at h
    · exact ⟨_, _, rfl⟩
    · exact h.elim) h1 h2 h3
end
