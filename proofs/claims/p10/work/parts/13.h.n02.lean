section
noncomputable def k_X11_share : pz_C := (3, 1, fun a M => (match a with | [.inr (.inr (11, th)), .inl n, .inl i] => pz_ic M | _ => False), fun a M r M' => (match a, r with | [.inr (.inr (11, th)), .inl n, .inl i], some (.inl v) => (True) ∧ M = M' | _, _ => False))
noncomputable abbrev ct_X11_share : List (Bool × Nat × pz_C) := [(false, 137, k_X11_within), (true, 118, k_X0_has), (true, 283, k_X0_givenTo), (true, 286, k_X11_highestLevel), (true, 289, k_X0_canGive), (false, 292, k_J9_min_7cf53)]
set_option maxRecDepth 100000 in
set_option maxHeartbeats 4000000 in
theorem h_X11_share : pz_H yX11_share cX11_share 6 (some .int) k_X11_share 4 90 := by
  refine pz_mk (own := RX11) (tb := t_X11_share) (fl := pz_flf fl_RX11) (ci := pz_cif ci_RX11) (ct := pz_ctf ct_X11_share) (rz := false) (pz_pfc_RX11 yX11_share rfl) rfl t_X11_share_ok (pz_flk fl_RX11_ok) (pz_cik ci_RX11_ok) ?_ ?_ (Or.inl ⟨rfl, rfl⟩) ?_ ?_
  · exact fun i k' h => pz_ctk (l := ct_X11_share) (P := fun b i k => b = true → pz_cV 4 90 RX11 i k) (List.forall_mem_cons.mpr ⟨((fun z => by cases z)), List.forall_mem_cons.mpr ⟨(fun _ => v_X0_has (by decide) (by decide) pz_wq444), List.forall_mem_cons.mpr ⟨(fun _ => v_X0_givenTo (by decide) (by decide) pz_wq965), List.forall_mem_cons.mpr ⟨(fun _ => v_X11_highestLevel (by decide) (by decide) pz_wq974), List.forall_mem_cons.mpr ⟨(fun _ => v_X0_canGive (by decide) (by decide) pz_wq978), List.forall_mem_cons.mpr ⟨((fun z => by cases z)), fun _ h => absurd h List.not_mem_nil⟩⟩⟩⟩⟩⟩) true i k' h rfl
  · exact fun i k' h => pz_ctk (l := ct_X11_share) (P := fun b i k => b = false → (pz_cS 4 90 RX11 i k ∨ (k = pz_kac ∧ 1 ≤ 4 ∧ 60 ≤ 90 ∧ Cond.methodLink RX11 i arraycopyName ∈ pz_tbl))) (List.forall_mem_cons.mpr ⟨(fun _ => Or.inl (s_X11_within (by decide) (by decide) (Or.inl pz_wq425))), List.forall_mem_cons.mpr ⟨((fun z => by cases z)), List.forall_mem_cons.mpr ⟨((fun z => by cases z)), List.forall_mem_cons.mpr ⟨((fun z => by cases z)), List.forall_mem_cons.mpr ⟨((fun z => by cases z)), List.forall_mem_cons.mpr ⟨(fun _ => Or.inl (s_J9_min_7cf53 (by decide) (by decide) (Or.inl pz_wq979))), fun _ h => absurd h List.not_mem_nil⟩⟩⟩⟩⟩⟩) false i k' h rfl
  · intro a M hlen hpre
    obtain ⟨th, n, i, rfl, hpre⟩ : ∃ th n i, a = [.inr (.inr (11, th)), .inl n, .inl i] ∧ (pz_ic M) := by
      have hpre : (match (generalizing := false) a with | [.inr (.inr (11, th)), .inl n, .inl i] => pz_ic M | _ => False) := hpre
      split at hpre
      · exact ⟨_, _, _, rfl, hpre⟩
      · exact hpre.elim
    exact Nat.le_of_ble_eq_true rfl
  · intro a M hlen hcan hM hpre Ok hgo
    obtain ⟨th, n, i, rfl, hpre⟩ : ∃ th n i, a = [.inr (.inr (11, th)), .inl n, .inl i] ∧ (pz_ic M) := by
      have hpre : (match (generalizing := false) a with | [.inr (.inr (11, th)), .inl n, .inl i] => pz_ic M | _ => False) := hpre
      split at hpre
      · exact ⟨_, _, _, rfl, hpre⟩
      · exact hpre.elim
    obtain ⟨k_th, hc_th⟩ := pz_tlm hcan
    have k_th : pz_kd th = 11 ∧ th < 231 := k_th
    have R_th := pz_kd11 k_th.1
    subst R_th
    obtain ⟨k_n, hc_n⟩ := pz_tlm hc_th
    have l_n : -2147483648 ≤ n := k_n.1
    have u_n : n ≤ 2147483647 := k_n.2
    obtain ⟨k_i, hc_i⟩ := pz_tlm hc_n
    have l_i : -2147483648 ≤ i := k_i.1
    have u_i : i ≤ 2147483647 := k_i.2
    have hI : pz_ic M := hpre
    have L59 : ∀ (fu : Nat) (x3 : Int) (x4 : Int) (x5 : Int), (i - x5).toNat < fu → (0 ≤ x5) → Ok 59 [some (.inr (.inr (11, 0))), some (.inl n), some (.inl i), some (.inl x3), some (.inl x4), some (.inl x5)] [] M := by
      intro fu
      induction fu with
      | zero => exact fun _ _ _ hn => absurd hn (Nat.not_lt_zero _)
      | succ fu ih59 =>
        intro x3 x4 x5 hn59 g59_0
        have L81 : ∀ (x3 : Int) (x4 : Int) (x5 : Int), (0 ≤ x5) → (x5 < i) → ((i - x5).toNat < fu + 1) → Ok 81 [some (.inr (.inr (11, 0))), some (.inl n), some (.inl i), some (.inl x3), some (.inl x4), some (.inl x5)] [] M := by
          intro x3 x4 x5 g81_0 g81_1 g81_2
          refine hgo (fun p => Nat.beq p 59 || Nat.beq p 81) 63 81 _ _ _ ?_
          intro v81 e81 a81 b81
          try rw [pz_wi (by omega) (by omega)] at e81
          exact ih59 _ _ _ (by omega) (by omega)
        refine hgo (fun p => Nat.beq p 59 || Nat.beq p 81) 63 59 _ _ _ ?_
        refine And.intro (fun h62 => ?_) (fun h62 => ?_)
        · skip
          intro r88 e88 k88
          have R88 := pz_kd0 k88
          refine And.intro (True.intro) ?_
          intro v92 M92 a92 b92 q92
          obtain ⟨q92, z92⟩ := q92
          subst z92
          refine And.intro (fun h100 => ?_) (fun h100 => ?_)
          · skip
            refine And.intro (True.intro) ?_
            intro v117 M117 a117 b117 q117
            obtain ⟨q117, z117⟩ := q117
            subst z117
            refine And.intro rfl ?_
            exact ⟨trivial, rfl⟩
          · skip
            refine And.intro (fun h105 => ?_) (fun h105 => ?_)
            · skip
              refine And.intro (True.intro) ?_
              intro v117 M117 a117 b117 q117
              obtain ⟨q117, z117⟩ := q117
              subst z117
              refine And.intro rfl ?_
              exact ⟨trivial, rfl⟩
            · skip
              intro v110 e110 a110 b110
              try rw [pz_wi (by omega) (by omega)] at e110
              refine And.intro rfl ?_
              exact ⟨trivial, rfl⟩
        · skip
          intro r66 e66 k66
          have R66 := pz_kd0 k66
          refine And.intro (True.intro) ?_
          intro v71 M71 a71 b71 q71
          obtain ⟨q71, z71⟩ := q71
          subst z71
          refine And.intro (fun h75 => ?_) (fun h75 => ?_)
          · skip
            exact L81 _ _ _ (by omega) (by omega) (by omega)
          · skip
            intro v78 e78 a78 b78
            try rw [pz_wi (by omega) (by omega)] at e78
            exact L81 _ _ _ (by omega) (by omega) (by omega)
    refine hgo (fun p => Nat.beq p 59 || Nat.beq p 81) 63 0 _ [] M ?_
    refine And.intro (True.intro) ?_
    intro v5 M5 a5 b5 q5
    obtain ⟨q5, z5⟩ := q5
    subst z5
    refine And.intro (fun h8 => ?_) (fun h8 => ?_)
    · skip
      refine And.intro rfl ?_
      exact ⟨trivial, rfl⟩
    · skip
      intro r12 e12 k12
      have R12 := pz_kd0 k12
      refine And.intro (True.intro) ?_
      intro v16 M16 a16 b16 q16
      obtain ⟨q16, z16⟩ := q16
      subst z16
      refine And.intro (fun h19 => ?_) (fun h19 => ?_)
      · skip
        refine And.intro rfl ?_
        exact ⟨trivial, rfl⟩
      · skip
        intro r23 e23 k23
        have R23 := pz_kd0 k23
        refine And.intro (hI) ?_
        intro v29 M29 a29 b29 q29
        obtain ⟨q29, z29⟩ := q29
        subst z29
        refine And.intro (fun h33 => ?_) (fun h33 => ?_)
        · skip
          refine And.intro (hI) ?_
          intro v40 M40 a40 b40 q40
          obtain ⟨q40, z40⟩ := q40
          subst z40
          intro r46 e46 k46
          have R46 := pz_kd0 k46
          refine And.intro (hI) ?_
          intro v50 M50 a50 b50 q50
          obtain ⟨q50, z50⟩ := q50
          subst z50
          intro v53 e53 a53 b53
          try rw [pz_wi (by omega) (by omega)] at e53
          exact L59 _ _ _ _ (Nat.lt_succ_self _) (by omega)
        · skip
          refine And.intro rfl ?_
          exact ⟨trivial, rfl⟩
theorem v_X11_share {fr lo i : Nat} {own : String} (h1 : 4 + 1 ≤ fr) (h2 : 8 + (6 + 11) + 90 ≤ lo) (h3 : .methodLink own i yX11_share ∈ lw_tbl) : pz_cV fr lo own i k_X11_share :=
  pz_cVk (maxL := 6) (fr' := 4) (lo' := 90) 2 11 h_X11_share rfl ⟨(pz_nhc_RX11 yX11_share rfl).1, (pz_nhc_RX11 yX11_share rfl).2, pz_ds10⟩ ⟨pz_wq964, pz_wq962, pz_wq963, pz_wq1⟩ (Or.inl ⟨TX11, 14, rfl⟩) (fun a M _ h => by
    have h : (match (generalizing := false) a with | [.inr (.inr (11, th)), .inl n, .inl i] => pz_ic M | _ => False) := h
    split at h
    · exact ⟨_, _, rfl⟩
    · exact h.elim) h1 h2 h3


noncomputable def k_X11_bluff : pz_C := (4, 1, fun a M => (match a with | [.inr (.inr (11, th)), .inl p, .inl q, .inl w] => pz_ic M | _ => False), fun a M r M' => (match a, r with | [.inr (.inr (11, th)), .inl p, .inl q, .inl w], some (.inl v) => (v = (if 0 ≤ p ∧ p ≤ 1000 ∧ 0 ≤ q ∧ q ≤ 1000 ∧ 0 ≤ w ∧ w ≤ 1000 ∧ 0 < p * q + (1000 - p) * w then p * q * 1000000 / (p * q + (1000 - p) * w) else -1)) ∧ M = M' | _, _ => False))
noncomputable abbrev ct_X11_bluff : List (Bool × Nat × pz_C) := [(false, 137, k_X11_within)]
set_option maxRecDepth 100000 in
set_option maxHeartbeats 4000000 in
theorem h_X11_bluff : pz_H yX11_bluff cX11_bluff 6 (some .int) k_X11_bluff 1 22 := by
  refine pz_mk (own := RX11) (tb := t_X11_bluff) (fl := pz_flf fl_RX11) (ci := pz_cif ci_RX11) (ct := pz_ctf ct_X11_bluff) (rz := false) (pz_pfc_RX11 yX11_bluff rfl) rfl t_X11_bluff_ok (pz_flk fl_RX11_ok) (pz_cik ci_RX11_ok) ?_ ?_ (Or.inl ⟨rfl, rfl⟩) ?_ ?_
  · exact fun i k' h => pz_ctk (l := ct_X11_bluff) (P := fun b i k => b = true → pz_cV 1 22 RX11 i k) (List.forall_mem_cons.mpr ⟨((fun z => by cases z)), fun _ h => absurd h List.not_mem_nil⟩) true i k' h rfl
  · exact fun i k' h => pz_ctk (l := ct_X11_bluff) (P := fun b i k => b = false → (pz_cS 1 22 RX11 i k ∨ (k = pz_kac ∧ 1 ≤ 1 ∧ 60 ≤ 22 ∧ Cond.methodLink RX11 i arraycopyName ∈ pz_tbl))) (List.forall_mem_cons.mpr ⟨(fun _ => Or.inl (s_X11_within (by decide) (by decide) (Or.inl pz_wq425))), fun _ h => absurd h List.not_mem_nil⟩) false i k' h rfl
  · intro a M hlen hpre
    obtain ⟨th, p, q, w, rfl, hpre⟩ : ∃ th p q w, a = [.inr (.inr (11, th)), .inl p, .inl q, .inl w] ∧ (pz_ic M) := by
      have hpre : (match (generalizing := false) a with | [.inr (.inr (11, th)), .inl p, .inl q, .inl w] => pz_ic M | _ => False) := hpre
      split at hpre
      · exact ⟨_, _, _, _, rfl, hpre⟩
      · exact hpre.elim
    exact Nat.le_of_ble_eq_true rfl
  · intro a M hlen hcan hM hpre Ok hgo
    obtain ⟨th, p, q, w, rfl, hpre⟩ : ∃ th p q w, a = [.inr (.inr (11, th)), .inl p, .inl q, .inl w] ∧ (pz_ic M) := by
      have hpre : (match (generalizing := false) a with | [.inr (.inr (11, th)), .inl p, .inl q, .inl w] => pz_ic M | _ => False) := hpre
      split at hpre
      · exact ⟨_, _, _, _, rfl, hpre⟩
      · exact hpre.elim
    obtain ⟨k_th, hc_th⟩ := pz_tlm hcan
    have k_th : pz_kd th = 11 ∧ th < 231 := k_th
    have R_th := pz_kd11 k_th.1
    subst R_th
    obtain ⟨k_p, hc_p⟩ := pz_tlm hc_th
    have l_p : -2147483648 ≤ p := k_p.1
    have u_p : p ≤ 2147483647 := k_p.2
    obtain ⟨k_q, hc_q⟩ := pz_tlm hc_p
    have l_q : -2147483648 ≤ q := k_q.1
    have u_q : q ≤ 2147483647 := k_q.2
    obtain ⟨k_w, hc_w⟩ := pz_tlm hc_q
    have l_w : -2147483648 ≤ w := k_w.1
    have u_w : w ≤ 2147483647 := k_w.2
    have hI : pz_ic M := hpre
    refine hgo (fun _ => false) 44 0 _ [] M ?_
    refine And.intro (True.intro) ?_
    intro v5 M5 a5 b5 q5
    obtain ⟨q5, z5⟩ := q5
    subst z5
    refine And.intro (fun h8 => ?_) (fun h8 => ?_)
    · skip
      refine And.intro rfl ?_
      refine ⟨?_, rfl⟩
      by_cases h9 : 0 ≤ p ∧ p ≤ 1000 ∧ 0 ≤ q ∧ q ≤ 1000 ∧ 0 ≤ w ∧ w ≤ 1000 ∧ 0 < p * q + (1000 - p) * w
      · rw [if_pos h9]
        first
          | (exfalso; omega)
          | (have F9 := pz_blf h9
             have E72 : v63 = p * q * 1000000 := by omega
             have E53 : v49 = p * q + (1000 - p) * w := by omega
             rw [E72, E53, F9.1, pz_wli (by omega) (by omega)] at e67
             rw [pz_wi (by omega) (by omega)] at e68
             exact e68.trans e67)
      · first
          | (rw [if_neg h9]; done)
          | (exfalso; omega)
    · skip
      refine And.intro (True.intro) ?_
      intro v16 M16 a16 b16 q16
      obtain ⟨q16, z16⟩ := q16
      subst z16
      refine And.intro (fun h19 => ?_) (fun h19 => ?_)
      · skip
        refine And.intro rfl ?_
        refine ⟨?_, rfl⟩
        by_cases h9 : 0 ≤ p ∧ p ≤ 1000 ∧ 0 ≤ q ∧ q ≤ 1000 ∧ 0 ≤ w ∧ w ≤ 1000 ∧ 0 < p * q + (1000 - p) * w
        · rw [if_pos h9]
          first
            | (exfalso; omega)
            | (have F9 := pz_blf h9
               have E72 : v63 = p * q * 1000000 := by omega
               have E53 : v49 = p * q + (1000 - p) * w := by omega
               rw [E72, E53, F9.1, pz_wli (by omega) (by omega)] at e67
               rw [pz_wi (by omega) (by omega)] at e68
               exact e68.trans e67)
        · first
            | (rw [if_neg h9]; done)
            | (exfalso; omega)
      · skip
        refine And.intro (True.intro) ?_
        intro v27 M27 a27 b27 q27
        obtain ⟨q27, z27⟩ := q27
        subst z27
        refine And.intro (fun h30 => ?_) (fun h30 => ?_)
        · skip
          intro v37 e37 a37 b37
          have B37 := pz_m3 (x := p) (y := q) (by omega) (by omega) (by omega) (by omega)
          rw [pz_wi (by omega) (by omega)] at e37
          intro v46 e46 a46 b46
          try rw [pz_wi (by omega) (by omega)] at e46
          intro v48 e48 a48 b48
          have B48 := pz_m3 (x := v46) (y := w) (by omega) (by omega) (by omega) (by omega)
          rw [pz_wi (by omega) (by omega)] at e48
          rw [e46] at e48 B48
          intro v49 e49 a49 b49
          try rw [pz_wi (by omega) (by omega)] at e49
          refine And.intro (fun h54 => ?_) (fun h54 => ?_)
          · skip
            refine And.intro rfl ?_
            refine ⟨?_, rfl⟩
            by_cases h9 : 0 ≤ p ∧ p ≤ 1000 ∧ 0 ≤ q ∧ q ≤ 1000 ∧ 0 ≤ w ∧ w ≤ 1000 ∧ 0 < p * q + (1000 - p) * w
            · rw [if_pos h9]
              first
                | (exfalso; omega)
                | (have F9 := pz_blf h9
                   have E72 : v63 = p * q * 1000000 := by omega
                   have E53 : v49 = p * q + (1000 - p) * w := by omega
                   rw [E72, E53, F9.1, pz_wli (by omega) (by omega)] at e67
                   rw [pz_wi (by omega) (by omega)] at e68
                   exact e68.trans e67)
            · first
                | (rw [if_neg h9]; done)
                | (exfalso; omega)
          · skip
            intro v63 e63 a63 b63
            try rw [pz_wli (by omega) (by omega)] at e63
            refine And.intro (by omega) ?_
            intro v67 e67 a67 b67
            intro v68 e68 a68 b68
            try rw [pz_wi (by omega) (by omega)] at e68
            refine And.intro rfl ?_
            refine ⟨?_, rfl⟩
            by_cases h9 : 0 ≤ p ∧ p ≤ 1000 ∧ 0 ≤ q ∧ q ≤ 1000 ∧ 0 ≤ w ∧ w ≤ 1000 ∧ 0 < p * q + (1000 - p) * w
            · rw [if_pos h9]
              first
                | (exfalso; omega)
                | (have F9 := pz_blf h9
                   have E72 : v63 = p * q * 1000000 := by omega
                   have E53 : v49 = p * q + (1000 - p) * w := by omega
                   rw [E72, E53, F9.1, pz_wli (by omega) (by omega)] at e67
                   rw [pz_wi (by omega) (by omega)] at e68
                   exact e68.trans e67)
            · first
                | (rw [if_neg h9]; done)
                | (exfalso; omega)
        · skip
          refine And.intro rfl ?_
          refine ⟨?_, rfl⟩
          by_cases h9 : 0 ≤ p ∧ p ≤ 1000 ∧ 0 ≤ q ∧ q ≤ 1000 ∧ 0 ≤ w ∧ w ≤ 1000 ∧ 0 < p * q + (1000 - p) * w
          · rw [if_pos h9]
            first
              | (exfalso; omega)
              | (have F9 := pz_blf h9
                 have E72 : v63 = p * q * 1000000 := by omega
                 have E53 : v49 = p * q + (1000 - p) * w := by omega
                 rw [E72, E53, F9.1, pz_wli (by omega) (by omega)] at e67
                 rw [pz_wi (by omega) (by omega)] at e68
                 exact e68.trans e67)
          · first
              | (rw [if_neg h9]; done)
              | (exfalso; omega)
theorem v_X11_bluff {fr lo i : Nat} {own : String} (h1 : 1 + 1 ≤ fr) (h2 : 8 + (6 + 11) + 22 ≤ lo) (h3 : .methodLink own i yX11_bluff ∈ lw_tbl) : pz_cV fr lo own i k_X11_bluff :=
  pz_cVk (maxL := 6) (fr' := 1) (lo' := 22) 3 11 h_X11_bluff rfl ⟨(pz_nhc_RX11 yX11_bluff rfl).1, (pz_nhc_RX11 yX11_bluff rfl).2, pz_ds14⟩ ⟨pz_wq994, pz_wq992, pz_wq993, pz_wq1⟩ (Or.inl ⟨TX11, 14, rfl⟩) (fun a M _ h => by
    have h : (match (generalizing := false) a with | [.inr (.inr (11, th)), .inl p, .inl q, .inl w] => pz_ic M | _ => False) := h
    split at h
    · exact ⟨_, _, rfl⟩
    · exact h.elim) h1 h2 h3

noncomputable def k_X11_money : pz_C := (3, 1, fun a M => (match a with | [.inr (.inr (11, th)), .inl t, .inl m] => pz_ic M | _ => False), fun a M r M' => (match a, r with | [.inr (.inr (11, th)), .inl t, .inl m], some (.inl v) => (v = (if 0 ≤ t ∧ t ≤ 600 ∧ 0 ≤ m ∧ m ≤ 600 then pz_mo (fun k => M (89 + k) 3) m (M 71 3).toNat 0 t (-1) else -1)) ∧ M = M' | _, _ => False))
noncomputable abbrev ct_X11_money : List (Bool × Nat × pz_C) := [(false, 137, k_X11_within), (true, 107, k_X0_at)]
set_option maxRecDepth 100000 in
set_option maxHeartbeats 4000000 in
theorem h_X11_money : pz_H yX11_money cX11_money 6 (some .int) k_X11_money 1 22 := by
  refine pz_mk (own := RX11) (tb := t_X11_money) (fl := pz_flf fl_RX11) (ci := pz_cif ci_RX11) (ct := pz_ctf ct_X11_money) (rz := false) (pz_pfc_RX11 yX11_money rfl) rfl t_X11_money_ok (pz_flk fl_RX11_ok) (pz_cik ci_RX11_ok) ?_ ?_ (Or.inl ⟨rfl, rfl⟩) ?_ ?_
  · exact fun i k' h => pz_ctk (l := ct_X11_money) (P := fun b i k => b = true → pz_cV 1 22 RX11 i k) (List.forall_mem_cons.mpr ⟨((fun z => by cases z)), List.forall_mem_cons.mpr ⟨(fun _ => v_X0_at (by decide) (by decide) pz_wq428), fun _ h => absurd h List.not_mem_nil⟩⟩) true i k' h rfl
  · exact fun i k' h => pz_ctk (l := ct_X11_money) (P := fun b i k => b = false → (pz_cS 1 22 RX11 i k ∨ (k = pz_kac ∧ 1 ≤ 1 ∧ 60 ≤ 22 ∧ Cond.methodLink RX11 i arraycopyName ∈ pz_tbl))) (List.forall_mem_cons.mpr ⟨(fun _ => Or.inl (s_X11_within (by decide) (by decide) (Or.inl pz_wq425))), List.forall_mem_cons.mpr ⟨((fun z => by cases z)), fun _ h => absurd h List.not_mem_nil⟩⟩) false i k' h rfl
  · intro a M hlen hpre
    obtain ⟨th, t, m, rfl, hpre⟩ : ∃ th t m, a = [.inr (.inr (11, th)), .inl t, .inl m] ∧ (pz_ic M) := by
      have hpre : (match (generalizing := false) a with | [.inr (.inr (11, th)), .inl t, .inl m] => pz_ic M | _ => False) := hpre
      split at hpre
      · exact ⟨_, _, _, rfl, hpre⟩
      · exact hpre.elim
    exact Nat.le_of_ble_eq_true rfl
  · intro a M hlen hcan hM hpre Ok hgo
    obtain ⟨th, t, m, rfl, hpre⟩ : ∃ th t m, a = [.inr (.inr (11, th)), .inl t, .inl m] ∧ (pz_ic M) := by
      have hpre : (match (generalizing := false) a with | [.inr (.inr (11, th)), .inl t, .inl m] => pz_ic M | _ => False) := hpre
      split at hpre
      · exact ⟨_, _, _, rfl, hpre⟩
      · exact hpre.elim
    obtain ⟨k_th, hc_th⟩ := pz_tlm hcan
    have k_th : pz_kd th = 11 ∧ th < 231 := k_th
    have R_th := pz_kd11 k_th.1
    subst R_th
    obtain ⟨k_t, hc_t⟩ := pz_tlm hc_th
    have l_t : -2147483648 ≤ t := k_t.1
    have u_t : t ≤ 2147483647 := k_t.2
    obtain ⟨k_m, hc_m⟩ := pz_tlm hc_t
    have l_m : -2147483648 ≤ m := k_m.1
    have u_m : m ≤ 2147483647 := k_m.2
    have hI : pz_ic M := hpre
    have L32 : ∀ (fu : Nat) (x3 : Int) (x4 : Int) (x5 : Int), (12 - x5).toNat < fu → (0 ≤ x5) → (x5 ≤ M 71 3) → (M 71 3 ≤ 12) → (0 ≤ t ∧ t ≤ 600 ∧ 0 ≤ m ∧ m ≤ 600) → (pz_mo (fun k => M (89 + k) 3) m (M 71 3 - x5).toNat x5.toNat x4 x3 = pz_mo (fun k => M (89 + k) 3) m (M 71 3).toNat 0 t (-1)) → Ok 32 [some (.inr (.inr (11, 0))), some (.inl t), some (.inl m), some (.inl x3), some (.inl x4), some (.inl x5)] [] M := by
      intro fu
      induction fu with
      | zero => exact fun _ _ _ hn => absurd hn (Nat.not_lt_zero _)
      | succ fu ih32 =>
        intro x3 x4 x5 hn32 g32_0 g32_1 g32_2 g32_3 g32_4
        have L73 : ∀ (x3 : Int) (x4 : Int) (x5 : Int), (0 ≤ x5) → (x5 < M 71 3) → (M 71 3 ≤ 12) → ((12 - x5).toNat < fu + 1) → (0 ≤ t ∧ t ≤ 600 ∧ 0 ≤ m ∧ m ≤ 600) → (pz_mo (fun k => M (89 + k) 3) m (M 71 3 - x5 - 1).toNat (x5.toNat + 1) x4 x3 = pz_mo (fun k => M (89 + k) 3) m (M 71 3).toNat 0 t (-1)) → Ok 73 [some (.inr (.inr (11, 0))), some (.inl t), some (.inl m), some (.inl x3), some (.inl x4), some (.inl x5)] [] M := by
          intro x3 x4 x5 g73_0 g73_1 g73_2 g73_3 g73_4 g73_5
          refine hgo (fun p => Nat.beq p 32 || Nat.beq p 73) 44 73 _ _ _ ?_
          intro v73 e73 a73 b73
          try rw [pz_wi (by omega) (by omega)] at e73
          have G73 : pz_mo (fun k => M (89 + k) 3) m (M 71 3 - v73).toNat v73.toNat x4 x3 = pz_mo (fun k => M (89 + k) 3) m (M 71 3).toNat 0 t (-1) := by
            rw [show (M 71 3 - v73).toNat = (M 71 3 - x5 - 1).toNat by omega, show v73.toNat = x5.toNat + 1 by omega]
            exact g73_5
          exact ih32 _ _ _ (by omega) (by first | omega | (rw [show (M 71 3 - 0).toNat = (M 71 3).toNat by omega]; rfl) | exact G73) (by first | omega | (rw [show (M 71 3 - 0).toNat = (M 71 3).toNat by omega]; rfl) | exact G73) (by first | omega | (rw [show (M 71 3 - 0).toNat = (M 71 3).toNat by omega]; rfl) | exact G73) (by first | omega | (rw [show (M 71 3 - 0).toNat = (M 71 3).toNat by omega]; rfl) | exact G73) (by first | omega | (rw [show (M 71 3 - 0).toNat = (M 71 3).toNat by omega]; rfl) | exact G73)
        refine hgo (fun p => Nat.beq p 32 || Nat.beq p 73) 44 32 _ _ _ ?_
        refine pz_nrc (c := 71) rfl ?_
        intro v38 e38 a38 b38
        have I38 := hI.1 71 (by omega) (by omega)
        refine And.intro (fun h41 => ?_) (fun h41 => ?_)
        · skip
          refine And.intro rfl ?_
          refine ⟨?_, rfl⟩
          rw [if_pos g32_3, ← g32_4, pz_mo0 (by omega)]
        · skip
          refine pz_nrc (c := 71) rfl ?_
          refine And.intro (True.intro) ?_
          intro r54 M54 k54 q54
          have R54 := pz_kd5 k54
          obtain ⟨q54, z54⟩ := q54
          subst z54
          have Z54 : r54 = 89 + x5.toNat := by
            rw [if_pos (by omega)] at q54
            rw [q54, pz_rf_l (by omega) (by omega)]
            rfl
          intro v57 e57 a57 b57
          rw [Z54] at e57
          intro v60 e60 a60 b60
          intro v61 e61 a61 b61
          have E61 : v61 = pz_w (x4 + pz_w (10 + M (89 + x5.toNat) 3)) := by
            rw [← e57, ← e60]
            exact e61
          refine And.intro (fun h67 => ?_) (fun h67 => ?_)
          · skip
            have G67 : pz_mo (fun k => M (89 + k) 3) m (M 71 3 - x5 - 1).toNat (x5.toNat + 1) v61 x3 = pz_mo (fun k => M (89 + k) 3) m (M 71 3).toNat 0 t (-1) := Eq.trans (by exact pz_moS (n := (M 71 3 - x5).toNat) (by omega) rfl E61 (by omega)) g32_4
            exact L73 _ _ _ (by first | omega | exact G67) (by first | omega | exact G67) (by first | omega | exact G67) (by first | omega | exact G67) (by first | omega | exact G67) (by first | omega | exact G67)
          · skip
            have G67 : pz_mo (fun k => M (89 + k) 3) m (M 71 3 - x5 - 1).toNat (x5.toNat + 1) v61 x5 = pz_mo (fun k => M (89 + k) 3) m (M 71 3).toNat 0 t (-1) := Eq.trans (by exact pz_moS (n := (M 71 3 - x5).toNat) (by omega) rfl E61 (by omega)) g32_4
            exact L73 _ _ _ (by first | omega | exact G67) (by first | omega | exact G67) (by first | omega | exact G67) (by first | omega | exact G67) (by first | omega | exact G67) (by first | omega | exact G67)
    refine hgo (fun p => Nat.beq p 32 || Nat.beq p 73) 44 0 _ [] M ?_
    refine And.intro (True.intro) ?_
    intro v5 M5 a5 b5 q5
    obtain ⟨q5, z5⟩ := q5
    subst z5
    refine And.intro (fun h8 => ?_) (fun h8 => ?_)
    · skip
      refine And.intro rfl ?_
      refine ⟨?_, rfl⟩
      rw [if_neg]
      intro z
      first
        | (split at q5 <;> split at q16 <;> omega)
        | (split at q5 <;> omega)
    · skip
      refine And.intro (True.intro) ?_
      intro v16 M16 a16 b16 q16
      obtain ⟨q16, z16⟩ := q16
      subst z16
      refine And.intro (fun h19 => ?_) (fun h19 => ?_)
      · skip
        have P19 : 0 ≤ t ∧ t ≤ 600 ∧ 0 ≤ m ∧ m ≤ 600 := by
          split at q5 <;> split at q16 <;> omega
        have I19 := hI.1 71 (by omega) (by omega)
        exact L32 _ _ _ _ (Nat.lt_succ_self _) (by first | omega | (rw [show (M 71 3 - 0).toNat = (M 71 3).toNat by omega]; rfl) | exact G73) (by first | omega | (rw [show (M 71 3 - 0).toNat = (M 71 3).toNat by omega]; rfl) | exact G73) (by first | omega | (rw [show (M 71 3 - 0).toNat = (M 71 3).toNat by omega]; rfl) | exact G73) (by first | omega | (rw [show (M 71 3 - 0).toNat = (M 71 3).toNat by omega]; rfl) | exact G73) (by first | omega | (rw [show (M 71 3 - 0).toNat = (M 71 3).toNat by omega]; rfl) | exact G73)
      · skip
        skip
        refine And.intro rfl ?_
        refine ⟨?_, rfl⟩
        rw [if_neg]
        intro z
        first
          | (split at q5 <;> split at q16 <;> omega)
          | (split at q5 <;> omega)
theorem v_X11_money {fr lo i : Nat} {own : String} (h1 : 1 + 1 ≤ fr) (h2 : 8 + (6 + 11) + 22 ≤ lo) (h3 : .methodLink own i yX11_money ∈ lw_tbl) : pz_cV fr lo own i k_X11_money :=
  pz_cVk (maxL := 6) (fr' := 1) (lo' := 22) 2 11 h_X11_money rfl ⟨(pz_nhc_RX11 yX11_money rfl).1, (pz_nhc_RX11 yX11_money rfl).2, pz_ds10⟩ ⟨pz_wq1028, pz_wq1026, pz_wq1027, pz_wq1⟩ (Or.inl ⟨TX11, 14, rfl⟩) (fun a M _ h => by
    have h : (match (generalizing := false) a with | [.inr (.inr (11, th)), .inl t, .inl m] => pz_ic M | _ => False) := h
    split at h
    · exact ⟨_, _, rfl⟩
    · exact h.elim) h1 h2 h3
end
