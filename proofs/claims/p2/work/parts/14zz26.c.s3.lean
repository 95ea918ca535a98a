def k3_X12_isGiving : pz_C := (2, 1, fun a M => (match a with | [.inr (.inr (12, th)), .inl i] => pz_im M | _ => False), fun a M r M' => (match a, r with | [.inr (.inr (12, th)), .inl i], some (.inl v) => ((v = 1 ∧ (0 ≤ i ∧ i < M 60 88 ∧ M 60 88 ≤ 12 ∧ ¬ M 60 (52 + i).toNat = 1 ∧ M 60 (76 + i).toNat = -1) ∧ 0 < M 60 (28 + i).toNat) ∨ (v = 0 ∧ ¬ ((0 ≤ i ∧ i < M 60 88 ∧ M 60 88 ≤ 12 ∧ ¬ M 60 (52 + i).toNat = 1 ∧ M 60 (76 + i).toNat = -1) ∧ 0 < M 60 (28 + i).toNat))) ∧ M = M' | _, _ => False))
abbrev ct3_X12_isGiving : List (Bool × Nat × pz_C) := [(true, 317, k3_X12_isThere)]
set_option maxRecDepth 100000 in
set_option maxHeartbeats 4000000 in
theorem h3_X12_isGiving : pz_H yX12_isGiving cX12_isGiving 2 (some .boolean) k3_X12_isGiving 3 64 := by
  refine pz_mk (own := RX12) (tb := t_X12_isGiving) (fl := pz_flf fl_RX12) (ci := pz_cif ci_RX12) (ct := pz_ctf ct3_X12_isGiving) (rz := true) (by decide +kernel) rfl t_X12_isGiving_ok (pz_flk fl_RX12_ok) (pz_cik ci_RX12_ok) ?_ ?_ (Or.inr ⟨rfl, rfl⟩) ?_ ?_
  · exact fun i k' h => pz_ctk (l := ct3_X12_isGiving) (P := fun b i k => b = true → pz_cV 3 64 RX12 i k) (List.forall_mem_cons.mpr ⟨(fun _ => v3_X12_isThere (by decide) (by decide) (pz_mt 1415 (by decide +kernel))), fun _ h => absurd h List.not_mem_nil⟩) true i k' h rfl
  · exact fun i k' h => pz_ctk (l := ct3_X12_isGiving) (P := fun b i k => b = false → (pz_cS 3 64 RX12 i k ∨ (k = pz_kac ∧ 1 ≤ 3 ∧ 60 ≤ 64 ∧ Cond.methodLink RX12 i arraycopyName ∈ pz_tbl))) (List.forall_mem_cons.mpr ⟨((fun z => by cases z)), fun _ h => absurd h List.not_mem_nil⟩) false i k' h rfl
  · intro a M hlen hpre
    obtain ⟨th, i, rfl, hpre⟩ : ∃ th i, a = [.inr (.inr (12, th)), .inl i] ∧ (pz_im M) := by
      have hpre : (match (generalizing := false) a with | [.inr (.inr (12, th)), .inl i] => pz_im M | _ => False) := hpre
      split at hpre
      · exact ⟨_, _, rfl, hpre⟩
      · exact hpre.elim
    exact Nat.le_of_ble_eq_true rfl
  · intro a M hlen hcan hM hpre Ok hgo
    obtain ⟨th, i, rfl, hpre⟩ : ∃ th i, a = [.inr (.inr (12, th)), .inl i] ∧ (pz_im M) := by
      have hpre : (match (generalizing := false) a with | [.inr (.inr (12, th)), .inl i] => pz_im M | _ => False) := hpre
      split at hpre
      · exact ⟨_, _, rfl, hpre⟩
      · exact hpre.elim
    obtain ⟨k_th, hc_th⟩ := pz_tlm hcan
    have k_th : pz_kd th = 12 ∧ th < 231 := k_th
    have R_th := pz_kd12 k_th.1
    subst R_th
    clear k_th
    obtain ⟨k_i, hc_i⟩ := pz_tlm hc_th
    have l_i : -2147483648 ≤ i := k_i.1
    have u_i : i ≤ 2147483647 := k_i.2
    have hI : pz_im M := hpre
    refine hgo (fun _ => false) 17 0 _ [] M ?_
    refine And.intro (hI) ?_
    intro v2 M2 a2 b2 q2
    obtain ⟨q2, z2⟩ := q2
    subst z2
    clear a2 b2
    refine And.intro (fun h5 => ?_) (fun h5 => ?_)
    · skip
      replace q2 := q2.resolve_left (fun z => absurd (z.1.symm.trans h5) (by decide))
      clear h5
      refine And.intro (by omega) ?_
      refine And.intro rfl ?_
      exact ⟨by omega, rfl⟩
    · skip
      replace q2 := q2.resolve_right (fun z => h5 z.1)
      clear h5
      refine pz_nrc (c := 60) rfl ?_
      intro v15 e15 a15 b15
      rw [pz_wi (by omega) (by omega)] at e15
      clear a15 b15
      refine And.intro (by omega) (And.intro (show _ < (1725 : Int) from by omega) ?_)
      intro v16 e16 a16 b16
      rw [show v15 = 28 + i by omega] at e16
      refine And.intro (fun h17 => ?_) (fun h17 => ?_)
      · skip
        refine And.intro (by omega) ?_
        refine And.intro rfl ?_
        exact ⟨by omega, rfl⟩
      · skip
        refine And.intro (by omega) ?_
        refine And.intro rfl ?_
        exact ⟨by omega, rfl⟩
theorem v3_X12_isGiving {fr lo i : Nat} {own : String} (h1 : 3 + 1 ≤ fr) (h2 : 8 + (2 + 11) + 64 ≤ lo) (h3 : .methodLink own i yX12_isGiving ∈ lw_tbl) : pz_cV fr lo own i k3_X12_isGiving :=
  pz_cVk (maxL := 2) (fr' := 3) (lo' := 64) 1 12 h3_X12_isGiving rfl ⟨by decide +kernel, by decide +kernel, by decide +kernel⟩ ⟨(pz_mt 1684 (by decide +kernel)), (pz_mt 1683 (by decide +kernel)), (pz_ms 81 (by decide +kernel)), (pz_mt 13 (by decide +kernel))⟩ (Or.inl ⟨TX12, 28, rfl⟩) (fun a M _ h => by
    have h : (match (generalizing := false) a with | [.inr (.inr (12, th)), .inl i] => pz_im M | _ => False) := h
    split at h
    · exact ⟨_, _, rfl⟩
    · exact h.elim) h1 h2 h3
def k3_X12_givenBy : pz_C := (2, 1, fun a M => (match a with | [.inr (.inr (12, th)), .inl x] => pz_im M | _ => False), fun a M r M' => (match a, r with | [.inr (.inr (12, th)), .inl x], some (.inl v) => (sd_wf (M 60) → 0 ≤ x → v = sd_g (M 60) x) ∧ M = M' | _, _ => False))
abbrev ct3_X12_givenBy : List (Bool × Nat × pz_C) := [(true, 436, k3_X12_isGiving), (false, 47, k_X12_lesser)]
set_option maxRecDepth 100000 in
set_option maxHeartbeats 4000000 in
theorem h3_X12_givenBy : pz_H yX12_givenBy cX12_givenBy 4 (some .int) k3_X12_givenBy 4 85 := by
  refine pz_mk (own := RX12) (tb := t_X12_givenBy) (fl := pz_flf fl_RX12) (ci := pz_cif ci_RX12) (ct := pz_ctf ct3_X12_givenBy) (rz := false) (by decide +kernel) rfl t_X12_givenBy_ok (pz_flk fl_RX12_ok) (pz_cik ci_RX12_ok) ?_ ?_ (Or.inl ⟨rfl, rfl⟩) ?_ ?_
  · exact fun i k' h => pz_ctk (l := ct3_X12_givenBy) (P := fun b i k => b = true → pz_cV 4 85 RX12 i k) (List.forall_mem_cons.mpr ⟨(fun _ => v3_X12_isGiving (by decide) (by decide) (pz_mt 1681 (by decide +kernel))), List.forall_mem_cons.mpr ⟨((fun z => by cases z)), fun _ h => absurd h List.not_mem_nil⟩⟩) true i k' h rfl
  · exact fun i k' h => pz_ctk (l := ct3_X12_givenBy) (P := fun b i k => b = false → (pz_cS 4 85 RX12 i k ∨ (k = pz_kac ∧ 1 ≤ 4 ∧ 60 ≤ 85 ∧ Cond.methodLink RX12 i arraycopyName ∈ pz_tbl))) (List.forall_mem_cons.mpr ⟨((fun z => by cases z)), List.forall_mem_cons.mpr ⟨(fun _ => Or.inl (s_X12_lesser (by decide) (by decide) (Or.inl (pz_mt 1462 (by decide +kernel))))), fun _ h => absurd h List.not_mem_nil⟩⟩) false i k' h rfl
  · intro a M hlen hpre
    obtain ⟨th, x, rfl, hpre⟩ : ∃ th x, a = [.inr (.inr (12, th)), .inl x] ∧ (pz_im M) := by
      have hpre : (match (generalizing := false) a with | [.inr (.inr (12, th)), .inl x] => pz_im M | _ => False) := hpre
      split at hpre
      · exact ⟨_, _, rfl, hpre⟩
      · exact hpre.elim
    exact Nat.le_of_ble_eq_true rfl
  · intro a M hlen hcan hM hpre Ok hgo
    obtain ⟨th, x, rfl, hpre⟩ : ∃ th x, a = [.inr (.inr (12, th)), .inl x] ∧ (pz_im M) := by
      have hpre : (match (generalizing := false) a with | [.inr (.inr (12, th)), .inl x] => pz_im M | _ => False) := hpre
      split at hpre
      · exact ⟨_, _, rfl, hpre⟩
      · exact hpre.elim
    obtain ⟨k_th, hc_th⟩ := pz_tlm hcan
    have k_th : pz_kd th = 12 ∧ th < 231 := k_th
    have R_th := pz_kd12 k_th.1
    subst R_th
    clear k_th
    obtain ⟨k_x, hc_x⟩ := pz_tlm hc_th
    have l_x : -2147483648 ≤ x := k_x.1
    have u_x : x ≤ 2147483647 := k_x.2
    have hI : pz_im M := hpre
    have I88 := hI.1.1
    have L4 : ∀ (fu : Nat) (x2 : Int) (x3 : Int), (12 - x3).toNat < fu → (0 ≤ x3) → (sd_wf (M 60) → 0 ≤ x → sd_gtE (M 60) x x2 x3) → Ok 4 [some (.inr (.inr (12, 1))), some (.inl x), some (.inl x2), some (.inl x3)] [] M := by
      intro fu
      induction fu with
      | zero => exact fun _ _ hn => absurd hn (Nat.not_lt_zero _)
      | succ fu ih4 =>
        intro x2 x3 hn4 g4_0 g4_1
        have L41 : ∀ (x2 : Int) (x3 : Int) (s0 : Int) (s1 : Int), (0 ≤ x3) → (x3 < 12) → ((12 - x3).toNat < fu + 1) → (x3 < M 60 88) → (s0 = x2) → (sd_wf (M 60) → 0 ≤ x → sd_gtE (M 60) x x2 x3 ∧ s1 = min x (sd_cg (M 60) x3.toNat)) → Ok 41 [some (.inr (.inr (12, 1))), some (.inl x), some (.inl x2), some (.inl x3)] [.inl s1, .inl s0] M := by
          intro x2 x3 s0 s1 g41_0 g41_1 g41_2 g41_3 g41_4 g41_5
          refine hgo (fun p => Nat.beq p 4 || Nat.beq p 41) 33 41 _ _ _ ?_
          intro v41 e41 a41 b41
          have e41k := e41
          intro v43 e43 a43 b43
          rw [pz_wi (by omega) (by omega)] at e43
          have G4 : sd_wf (M 60) → 0 ≤ x → sd_gtE (M 60) x v41 v43 := fun hW hx => by
            obtain ⟨a, b⟩ := (by assumption : sd_wf (M 60) → 0 ≤ x → sd_gtE (M 60) x x2 x3 ∧ s1 = min x (sd_cg (M 60) x3.toNat)) hW hx
            exact sd_gtE_s a hW hx (by omega) (by omega) e43 b (by rw [e41k, show s0 = x2 by omega])
          exact ih4 _ _ (by omega) (by first | omega | assumption | exact fun hW hx => sd_gtE_0 hW) (by first | omega | assumption | exact fun hW hx => sd_gtE_0 hW)
        refine hgo (fun p => Nat.beq p 4 || Nat.beq p 41) 33 4 _ _ _ ?_
        refine pz_nrc (c := 60) rfl ?_
        refine And.intro (by omega) (And.intro (show _ < (1725 : Int) from by omega) ?_)
        intro v11 e11 a11 b11
        replace e11 : v11 = M 60 88 := e11
        have I11 : 0 ≤ v11 ∧ v11 ≤ 12 := by
          rw [e11]
          exact hI.1.1
        clear a11 b11
        refine And.intro (fun h12 => ?_) (fun h12 => ?_)
        · skip
          refine And.intro rfl ?_
          exact ⟨fun hW hx => sd_gtE_z ((by assumption : sd_wf (M 60) → 0 ≤ x → sd_gtE (M 60) x x2 x3) hW hx) hW (by omega), rfl⟩
        · skip
          refine And.intro (hI) ?_
          intro v18 M18 a18 b18 q18
          obtain ⟨q18, z18⟩ := q18
          subst z18
          clear a18 b18
          refine And.intro (fun h21 => ?_) (fun h21 => ?_)
          · skip
            have G41 : sd_wf (M 60) → 0 ≤ x → sd_gtE (M 60) x x2 x3 ∧ 0 = min x (sd_cg (M 60) x3.toNat) := fun hW hx => by
              refine ⟨(by assumption : sd_wf (M 60) → 0 ≤ x → sd_gtE (M 60) x x2 x3) hW hx, ?_⟩
              rw [show (52 + x3).toNat = 52 + x3.toNat by omega, show (76 + x3).toNat = 76 + x3.toNat by omega, show (28 + x3).toNat = 28 + x3.toNat by omega] at q18
              unfold sd_cg
              have d : Decidable (sd_in (M 60) x3.toNat) := inferInstance
              by_cases y : sd_in (M 60) x3.toNat
              · rw [if_pos y]
                unfold sd_in at y
                omega
              · rw [if_neg y]
                unfold sd_in at y
                omega
            replace q18 := q18.resolve_left (fun z => absurd (z.1.symm.trans h21) (by decide))
            exact L41 _ _ _ _ (by first | omega | assumption | rfl) (by first | omega | assumption | rfl) (by first | omega | assumption | rfl) (by first | omega | assumption | rfl) (by first | omega | assumption | rfl) (by first | omega | assumption | rfl)
          · skip
            skip
            replace q18 := q18.resolve_right (fun z => h21 z.1)
            refine pz_nrc (c := 60) rfl ?_
            intro v32 e32 a32 b32
            rw [pz_wi (by omega) (by omega)] at e32
            clear a32 b32
            refine And.intro (by omega) (And.intro (show _ < (1725 : Int) from by omega) ?_)
            intro v33 e33 a33 b33
            rw [show v32.toNat = 28 + x3.toNat by omega] at e33
            refine And.intro (True.intro) ?_
            intro v34 M34 a34 b34 q34
            obtain ⟨q34, z34⟩ := q34
            subst z34
            have G41 : sd_wf (M 60) → 0 ≤ x → sd_gtE (M 60) x x2 x3 ∧ v34 = min x (sd_cg (M 60) x3.toNat) := fun hW hx => by
              refine ⟨(by assumption : sd_wf (M 60) → 0 ≤ x → sd_gtE (M 60) x x2 x3) hW hx, ?_⟩
              rw [show (52 + x3).toNat = 52 + x3.toNat by omega, show (76 + x3).toNat = 76 + x3.toNat by omega, show (28 + x3).toNat = 28 + x3.toNat by omega] at q18
              unfold sd_cg
              have d : Decidable (sd_in (M 60) x3.toNat) := inferInstance
              by_cases y : sd_in (M 60) x3.toNat
              · rw [if_pos y]
                unfold sd_in at y
                omega
              · rw [if_neg y]
                unfold sd_in at y
                omega
            exact L41 _ _ _ _ (by first | omega | assumption | rfl) (by first | omega | assumption | rfl) (by first | omega | assumption | rfl) (by first | omega | assumption | rfl) (by first | omega | assumption | rfl) (by first | omega | assumption | rfl)
    refine hgo (fun p => Nat.beq p 4 || Nat.beq p 41) 33 0 _ [] M ?_
    exact L4 _ _ _ (Nat.lt_succ_self _) (by first | omega | assumption | exact fun hW hx => sd_gtE_0 hW) (by first | omega | assumption | exact fun hW hx => sd_gtE_0 hW)
theorem v3_X12_givenBy {fr lo i : Nat} {own : String} (h1 : 4 + 1 ≤ fr) (h2 : 8 + (4 + 11) + 85 ≤ lo) (h3 : .methodLink own i yX12_givenBy ∈ lw_tbl) : pz_cV fr lo own i k3_X12_givenBy :=
  pz_cVk (maxL := 4) (fr' := 4) (lo' := 85) 1 12 h3_X12_givenBy rfl ⟨by decide +kernel, by decide +kernel, by decide +kernel⟩ ⟨(pz_mt 1680 (by decide +kernel)), (pz_mt 1679 (by decide +kernel)), (pz_ms 80 (by decide +kernel)), (pz_mt 13 (by decide +kernel))⟩ (Or.inl ⟨TX12, 28, rfl⟩) (fun a M _ h => by
    have h : (match (generalizing := false) a with | [.inr (.inr (12, th)), .inl x] => pz_im M | _ => False) := h
    split at h
    · exact ⟨_, _, rfl⟩
    · exact h.elim) h1 h2 h3
def k3_X12_share : pz_C := (3, 1, fun a M => (match a with | [.inr (.inr (12, th)), .inl n, .inl i] => pz_im M | _ => False), fun a M r M' => (match a, r with | [.inr (.inr (12, th)), .inl n, .inl i], some (.inl v) => (sd_wm M v (fun _ F => sd_shv F n i)) ∧ M = M' | _, _ => False))
abbrev ct3_X12_share : List (Bool × Nat × pz_C) := [(false, 54, k_X12_isIn), (true, 58, k_X12_isLink), (true, 439, k3_X12_givenBy), (true, 436, k3_X12_isGiving)]
set_option maxRecDepth 100000 in
set_option maxHeartbeats 4000000 in
theorem h3_X12_share : pz_H yX12_share cX12_share 6 (some .int) k3_X12_share 5 108 := by
  refine pz_mk (own := RX12) (tb := t_X12_share) (fl := pz_flf fl_RX12) (ci := pz_cif ci_RX12) (ct := pz_ctf ct3_X12_share) (rz := false) (by decide +kernel) rfl t_X12_share_ok (pz_flk fl_RX12_ok) (pz_cik ci_RX12_ok) ?_ ?_ (Or.inl ⟨rfl, rfl⟩) ?_ ?_
  · exact fun i k' h => pz_ctk (l := ct3_X12_share) (P := fun b i k => b = true → pz_cV 5 108 RX12 i k) (List.forall_mem_cons.mpr ⟨((fun z => by cases z)), List.forall_mem_cons.mpr ⟨(fun _ => v_X12_isLink (by decide) (by decide) (pz_mt 1224 (by decide +kernel))), List.forall_mem_cons.mpr ⟨(fun _ => v3_X12_givenBy (by decide) (by decide) (pz_mt 1677 (by decide +kernel))), List.forall_mem_cons.mpr ⟨(fun _ => v3_X12_isGiving (by decide) (by decide) (pz_mt 1681 (by decide +kernel))), fun _ h => absurd h List.not_mem_nil⟩⟩⟩⟩) true i k' h rfl
  · exact fun i k' h => pz_ctk (l := ct3_X12_share) (P := fun b i k => b = false → (pz_cS 5 108 RX12 i k ∨ (k = pz_kac ∧ 1 ≤ 5 ∧ 60 ≤ 108 ∧ Cond.methodLink RX12 i arraycopyName ∈ pz_tbl))) (List.forall_mem_cons.mpr ⟨(fun _ => Or.inl (s_X12_isIn (by decide) (by decide) (Or.inl (pz_mt 1217 (by decide +kernel))))), List.forall_mem_cons.mpr ⟨((fun z => by cases z)), List.forall_mem_cons.mpr ⟨((fun z => by cases z)), List.forall_mem_cons.mpr ⟨((fun z => by cases z)), fun _ h => absurd h List.not_mem_nil⟩⟩⟩⟩) false i k' h rfl
  · intro a M hlen hpre
    obtain ⟨th, n, i, rfl, hpre⟩ : ∃ th n i, a = [.inr (.inr (12, th)), .inl n, .inl i] ∧ (pz_im M) := by
      have hpre : (match (generalizing := false) a with | [.inr (.inr (12, th)), .inl n, .inl i] => pz_im M | _ => False) := hpre
      split at hpre
      · exact ⟨_, _, _, rfl, hpre⟩
      · exact hpre.elim
    exact Nat.le_of_ble_eq_true rfl
  · intro a M hlen hcan hM hpre Ok hgo
    obtain ⟨th, n, i, rfl, hpre⟩ : ∃ th n i, a = [.inr (.inr (12, th)), .inl n, .inl i] ∧ (pz_im M) := by
      have hpre : (match (generalizing := false) a with | [.inr (.inr (12, th)), .inl n, .inl i] => pz_im M | _ => False) := hpre
      split at hpre
      · exact ⟨_, _, _, rfl, hpre⟩
      · exact hpre.elim
    obtain ⟨k_th, hc_th⟩ := pz_tlm hcan
    have k_th : pz_kd th = 12 ∧ th < 231 := k_th
    have R_th := pz_kd12 k_th.1
    subst R_th
    clear k_th
    obtain ⟨k_n, hc_n⟩ := pz_tlm hc_th
    have l_n : -2147483648 ≤ n := k_n.1
    have u_n : n ≤ 2147483647 := k_n.2
    obtain ⟨k_i, hc_i⟩ := pz_tlm hc_n
    have l_i : -2147483648 ≤ i := k_i.1
    have u_i : i ≤ 2147483647 := k_i.2
    have hI : pz_im M := hpre
    have I88 := hI.1.1
    have L70 : ∀ (fu : Nat) (x3 : Int) (x4 : Int) (x5 : Int), (12 - x5).toNat < fu → (0 ≤ x5) → (i < 12) → (0 ≤ n ∧ n ≤ 9999 ∧ 0 ≤ i ∧ i < M 60 88) → (0 ≤ x3) → (x3 ≤ 999) → (x5 ≤ i) → (sd_wf (M 60) → sd_shL (M 60) n x3 x4 x5) → (sd_wf (M 60) → n ≤ sd_g (M 60) 999) → Ok 70 [some (.inr (.inr (12, 1))), some (.inl n), some (.inl i), some (.inl x3), some (.inl x4), some (.inl x5)] [] M := by
      intro fu
      induction fu with
      | zero => exact fun _ _ _ hn => absurd hn (Nat.not_lt_zero _)
      | succ fu ih70 =>
        intro x3 x4 x5 hn70 g70_0 g70_1 g70_2 g70_3 g70_4 g70_5 g70_6 g70_7
        have L106 : ∀ (x3 : Int) (x4 : Int) (x5 : Int) (s0 : Int) (s1 : Int), (0 ≤ x5) → (x5 < 12) → ((12 - x5).toNat < fu + 1) → (0 ≤ n ∧ n ≤ 9999 ∧ 0 ≤ i ∧ i < M 60 88) → (0 ≤ x3) → (x3 ≤ 999) → (x5 < i) → (0 ≤ s1) → (s1 ≤ 1) → (s0 = x4) → (sd_wf (M 60) → sd_shL (M 60) n x3 x4 x5 ∧ s1 = if x3 < sd_cg (M 60) x5.toNat then 1 else 0) → (sd_wf (M 60) → n ≤ sd_g (M 60) 999) → Ok 106 [some (.inr (.inr (12, 1))), some (.inl n), some (.inl i), some (.inl x3), some (.inl x4), some (.inl x5)] [.inl s1, .inl s0] M := by
          intro x3 x4 x5 s0 s1 g106_0 g106_1 g106_2 g106_3 g106_4 g106_5 g106_6 g106_7 g106_8 g106_9 g106_10 g106_11
          refine hgo (fun p => Nat.beq p 34 || Nat.beq p 58 || Nat.beq p 70 || Nat.beq p 106) 92 106 _ _ _ ?_
          intro v106 e106 a106 b106
          have e106k := e106
          intro v109 e109 a109 b109
          rw [pz_wi (by omega) (by omega)] at e109
          have G70 : sd_wf (M 60) → sd_shL (M 60) n x3 v106 v109 := fun hW => by
            obtain ⟨a, b⟩ := (by assumption : sd_wf (M 60) → sd_shL (M 60) n x3 x4 x5 ∧ s1 = if x3 < sd_cg (M 60) x5.toNat then 1 else 0) hW
            exact sd_shL_s a hW (by omega) (by omega) e109 b (by rw [e106k, show s0 = x4 by omega])
          exact ih70 _ _ _ (by omega) (by first | omega | assumption) (by first | omega | assumption) (by first | omega | assumption) (by first | omega | assumption) (by first | omega | assumption) (by first | omega | assumption) (by first | omega | assumption) (by first | omega | assumption)
        refine hgo (fun p => Nat.beq p 34 || Nat.beq p 58 || Nat.beq p 70 || Nat.beq p 106) 92 70 _ _ _ ?_
        refine And.intro (fun h73 => ?_) (fun h73 => ?_)
        · skip
          refine And.intro (hI) ?_
          intro v117 M117 a117 b117 q117
          obtain ⟨q117, z117⟩ := q117
          subst z117
          clear a117 b117
          refine And.intro (fun h120 => ?_) (fun h120 => ?_)
          · skip
            replace q117 := q117.resolve_right (fun z => h120 z.1)
            refine pz_nrc (c := 60) rfl ?_
            intro v134 e134 a134 b134
            rw [pz_wi (by omega) (by omega)] at e134
            clear a134 b134
            refine And.intro (by omega) (And.intro (show _ < (1725 : Int) from by omega) ?_)
            intro v135 e135 a135 b135
            rw [show v134.toNat = 28 + i.toNat by omega] at e135
            refine And.intro (fun h137 => ?_) (fun h137 => ?_)
            · skip
              refine And.intro (fun h154 => ?_) (fun h154 => ?_)
              · skip
                refine And.intro rfl ?_
                refine ⟨fun ls hl hq hW => ?_, rfl⟩
                have hm := hW.1
                show _ = sd_shv (M 60) n i
                have a := (by assumption : sd_wf (M 60) → n ≤ sd_g (M 60) 999) hW
                obtain ⟨l, l2, c⟩ := (by assumption : sd_wf (M 60) → sd_shL (M 60) n x3 x4 x5) hW
                have x := sd_lev_u hW (by omega) l2
                unfold sd_shv
                rw [if_pos (by omega), ← x]
                unfold sd_shw
                rw [show x5.toNat = i.toNat by omega] at c
                rw [show (52 + i).toNat = 52 + i.toNat by omega, show (76 + i).toNat = 76 + i.toNat by omega, show (28 + i).toNat = 28 + i.toNat by omega] at q117
                have d : sd_cg (M 60) i.toNat = (if v117 = 1 then M 60 (28 + i.toNat) else 0) := by
                  unfold sd_cg
                  by_cases y : sd_in (M 60) i.toNat
                  · rw [if_pos y]
                    unfold sd_in at y
                    split <;> omega
                  · rw [if_neg y]
                    unfold sd_in at y
                    rw [if_neg (by omega)]
                first
                  | (rw [if_neg (by omega)] at d
                     rw [if_neg (fun z => by omega)]
                     omega)
                  | (rw [if_pos (by omega)] at d
                     first
                       | (rw [if_neg (fun z => by omega)]
                          omega)
                       | (rw [if_pos ⟨by omega, by omega⟩]
                          omega))
              · skip
                intro v159 e159 a159 b159
                rw [pz_wi (by omega) (by omega)] at e159
                clear a159 b159
                refine And.intro rfl ?_
                refine ⟨fun ls hl hq hW => ?_, rfl⟩
                have hm := hW.1
                show _ = sd_shv (M 60) n i
                have a := (by assumption : sd_wf (M 60) → n ≤ sd_g (M 60) 999) hW
                obtain ⟨l, l2, c⟩ := (by assumption : sd_wf (M 60) → sd_shL (M 60) n x3 x4 x5) hW
                have x := sd_lev_u hW (by omega) l2
                unfold sd_shv
                rw [if_pos (by omega), ← x]
                unfold sd_shw
                rw [show x5.toNat = i.toNat by omega] at c
                rw [show (52 + i).toNat = 52 + i.toNat by omega, show (76 + i).toNat = 76 + i.toNat by omega, show (28 + i).toNat = 28 + i.toNat by omega] at q117
                have d : sd_cg (M 60) i.toNat = (if v117 = 1 then M 60 (28 + i.toNat) else 0) := by
                  unfold sd_cg
                  by_cases y : sd_in (M 60) i.toNat
                  · rw [if_pos y]
                    unfold sd_in at y
                    split <;> omega
                  · rw [if_neg y]
                    unfold sd_in at y
                    rw [if_neg (by omega)]
                first
                  | (rw [if_neg (by omega)] at d
                     rw [if_neg (fun z => by omega)]
                     omega)
                  | (rw [if_pos (by omega)] at d
                     first
                       | (rw [if_neg (fun z => by omega)]
                          omega)
                       | (rw [if_pos ⟨by omega, by omega⟩]
                          omega))
            · skip
              refine pz_nrc (c := 60) rfl ?_
              intro v147 e147 a147 b147
              rw [pz_wi (by omega) (by omega)] at e147
              clear a147 b147
              refine And.intro (by omega) (And.intro (show _ < (1725 : Int) from by omega) ?_)
              intro v148 e148 a148 b148
              rw [show v147.toNat = 28 + i.toNat by omega] at e148
              refine And.intro rfl ?_
              refine ⟨fun ls hl hq hW => ?_, rfl⟩
              have hm := hW.1
              show _ = sd_shv (M 60) n i
              have a := (by assumption : sd_wf (M 60) → n ≤ sd_g (M 60) 999) hW
              obtain ⟨l, l2, c⟩ := (by assumption : sd_wf (M 60) → sd_shL (M 60) n x3 x4 x5) hW
              have x := sd_lev_u hW (by omega) l2
              unfold sd_shv
              rw [if_pos (by omega), ← x]
              unfold sd_shw
              rw [show x5.toNat = i.toNat by omega] at c
              rw [show (52 + i).toNat = 52 + i.toNat by omega, show (76 + i).toNat = 76 + i.toNat by omega, show (28 + i).toNat = 28 + i.toNat by omega] at q117
              have d : sd_cg (M 60) i.toNat = (if v117 = 1 then M 60 (28 + i.toNat) else 0) := by
                unfold sd_cg
                by_cases y : sd_in (M 60) i.toNat
                · rw [if_pos y]
                  unfold sd_in at y
                  split <;> omega
                · rw [if_neg y]
                  unfold sd_in at y
                  rw [if_neg (by omega)]
              first
                | (rw [if_neg (by omega)] at d
                   rw [if_neg (fun z => by omega)]
                   omega)
                | (rw [if_pos (by omega)] at d
                   first
                     | (rw [if_neg (fun z => by omega)]
                        omega)
                     | (rw [if_pos ⟨by omega, by omega⟩]
                        omega))
          · skip
            replace q117 := q117.resolve_left (fun z => absurd (z.1.symm.trans h120) (by decide))
            refine And.intro rfl ?_
            refine ⟨fun ls hl hq hW => ?_, rfl⟩
            have hm := hW.1
            show _ = sd_shv (M 60) n i
            have a := (by assumption : sd_wf (M 60) → n ≤ sd_g (M 60) 999) hW
            obtain ⟨l, l2, c⟩ := (by assumption : sd_wf (M 60) → sd_shL (M 60) n x3 x4 x5) hW
            have x := sd_lev_u hW (by omega) l2
            unfold sd_shv
            rw [if_pos (by omega), ← x]
            unfold sd_shw
            rw [show x5.toNat = i.toNat by omega] at c
            rw [show (52 + i).toNat = 52 + i.toNat by omega, show (76 + i).toNat = 76 + i.toNat by omega, show (28 + i).toNat = 28 + i.toNat by omega] at q117
            have d : sd_cg (M 60) i.toNat = (if v117 = 1 then M 60 (28 + i.toNat) else 0) := by
              unfold sd_cg
              by_cases y : sd_in (M 60) i.toNat
              · rw [if_pos y]
                unfold sd_in at y
                split <;> omega
              · rw [if_neg y]
                unfold sd_in at y
                rw [if_neg (by omega)]
            first
              | (rw [if_neg (by omega)] at d
                 rw [if_neg (fun z => by omega)]
                 omega)
              | (rw [if_pos (by omega)] at d
                 first
                   | (rw [if_neg (fun z => by omega)]
                      omega)
                   | (rw [if_pos ⟨by omega, by omega⟩]
                      omega))
        · skip
          refine And.intro (hI) ?_
          intro v81 M81 a81 b81 q81
          obtain ⟨q81, z81⟩ := q81
          subst z81
          clear a81 b81
          refine And.intro (fun h84 => ?_) (fun h84 => ?_)
          · skip
            have G106 : sd_wf (M 60) → sd_shL (M 60) n x3 x4 x5 ∧ (0 : Int) = if x3 < sd_cg (M 60) x5.toNat then 1 else 0 := fun hW => by
              refine ⟨(by assumption : sd_wf (M 60) → sd_shL (M 60) n x3 x4 x5) hW, ?_⟩
              rw [show (52 + x5).toNat = 52 + x5.toNat by omega, show (76 + x5).toNat = 76 + x5.toNat by omega, show (28 + x5).toNat = 28 + x5.toNat by omega] at q81
              have zz : ¬ x3 < sd_cg (M 60) x5.toNat := by
                unfold sd_cg
                by_cases y : sd_in (M 60) x5.toNat
                · rw [if_pos y]
                  unfold sd_in at y
                  omega
                · rw [if_neg y]
                  unfold sd_in at y
                  omega
              rw [if_neg zz]
            replace q81 := q81.resolve_left (fun z => absurd (z.1.symm.trans h84) (by decide))
            exact L106 _ _ _ _ _ (by first | omega | assumption) (by first | omega | assumption) (by first | omega | assumption) (by first | omega | assumption) (by first | omega | assumption) (by first | omega | assumption) (by first | omega | assumption) (by first | omega | assumption) (by first | omega | assumption) (by first | omega | assumption) (by first | omega | assumption) (by first | omega | assumption)
          · skip
            skip
            replace q81 := q81.resolve_right (fun z => h84 z.1)
            refine pz_nrc (c := 60) rfl ?_
            intro v95 e95 a95 b95
            rw [pz_wi (by omega) (by omega)] at e95
            clear a95 b95
            refine And.intro (by omega) (And.intro (show _ < (1725 : Int) from by omega) ?_)
            intro v96 e96 a96 b96
            rw [show v95.toNat = 28 + x5.toNat by omega] at e96
            refine And.intro (fun h98 => ?_) (fun h98 => ?_)
            · skip
              have G106 : sd_wf (M 60) → sd_shL (M 60) n x3 x4 x5 ∧ (0 : Int) = if x3 < sd_cg (M 60) x5.toNat then 1 else 0 := fun hW => by
                refine ⟨(by assumption : sd_wf (M 60) → sd_shL (M 60) n x3 x4 x5) hW, ?_⟩
                rw [show (52 + x5).toNat = 52 + x5.toNat by omega, show (76 + x5).toNat = 76 + x5.toNat by omega, show (28 + x5).toNat = 28 + x5.toNat by omega] at q81
                have zz : ¬ x3 < sd_cg (M 60) x5.toNat := by
                  unfold sd_cg
                  by_cases y : sd_in (M 60) x5.toNat
                  · rw [if_pos y]
                    unfold sd_in at y
                    omega
                  · rw [if_neg y]
                    unfold sd_in at y
                    omega
                rw [if_neg zz]
              exact L106 _ _ _ _ _ (by first | omega | assumption) (by first | omega | assumption) (by first | omega | assumption) (by first | omega | assumption) (by first | omega | assumption) (by first | omega | assumption) (by first | omega | assumption) (by first | omega | assumption) (by first | omega | assumption) (by first | omega | assumption) (by first | omega | assumption) (by first | omega | assumption)
            · skip
              have G106 : sd_wf (M 60) → sd_shL (M 60) n x3 x4 x5 ∧ (1 : Int) = if x3 < sd_cg (M 60) x5.toNat then 1 else 0 := fun hW => by
                refine ⟨(by assumption : sd_wf (M 60) → sd_shL (M 60) n x3 x4 x5) hW, ?_⟩
                rw [show (52 + x5).toNat = 52 + x5.toNat by omega, show (76 + x5).toNat = 76 + x5.toNat by omega, show (28 + x5).toNat = 28 + x5.toNat by omega] at q81
                have zz :  x3 < sd_cg (M 60) x5.toNat := by
                  unfold sd_cg
                  by_cases y : sd_in (M 60) x5.toNat
                  · rw [if_pos y]
                    unfold sd_in at y
                    omega
                  · rw [if_neg y]
                    unfold sd_in at y
                    omega
                rw [if_pos zz]
              exact L106 _ _ _ _ _ (by first | omega | assumption) (by first | omega | assumption) (by first | omega | assumption) (by first | omega | assumption) (by first | omega | assumption) (by first | omega | assumption) (by first | omega | assumption) (by first | omega | assumption) (by first | omega | assumption) (by first | omega | assumption) (by first | omega | assumption) (by first | omega | assumption)
    have L58 : ∀ (x3 : Int) (d4 : Option pz_V) (d5 : Option pz_V), (0 ≤ i) → (i < 12) → (0 ≤ n ∧ n ≤ 9999 ∧ 0 ≤ i ∧ i < M 60 88) → (0 ≤ x3) → (x3 ≤ 999) → (sd_wf (M 60) → x3 = sd_lvf (M 60) n 999 0) → (sd_wf (M 60) → n ≤ sd_g (M 60) 999) → Ok 58 [some (.inr (.inr (12, 1))), some (.inl n), some (.inl i), some (.inl x3), d4, d5] [] M := by
      intro x3 d4 d5 g58_0 g58_1 g58_2 g58_3 g58_4 g58_5 g58_6
      refine hgo (fun p => Nat.beq p 34 || Nat.beq p 58 || Nat.beq p 70 || Nat.beq p 106) 92 58 _ _ _ ?_
      refine And.intro (hI) ?_
      intro v61 M61 a61 b61 q61
      obtain ⟨q61, z61⟩ := q61
      subst z61
      intro v64 e64 a64 b64
      have e64k := e64
      have G70 : sd_wf (M 60) → sd_shL (M 60) n x3 v64 0 := fun hW => by
        have c9 := (by assumption : sd_wf (M 60) → n ≤ sd_g (M 60) 999) hW
        have x := (by assumption : sd_wf (M 60) → x3 = sd_lvf (M 60) n 999 0) hW
        have l : sd_lvl (M 60) n x3 := by
          rw [x]
          exact sd_lev_l 999 0 (by decide) (by decide) (by rw [sd_g_0 hW]; omega)
        exact sd_shL_0 hW (by omega) l (q61 hW (by omega)) e64k
      clear e64k
      exact L70 _ _ _ _ (Nat.lt_succ_self _) (by first | omega | assumption) (by first | omega | assumption) (by first | omega | assumption) (by first | omega | assumption) (by first | omega | assumption) (by first | omega | assumption) (by first | omega | assumption) (by first | omega | assumption)
    have L34 : ∀ (fu : Nat) (x3 : Int) (d4 : Option pz_V) (d5 : Option pz_V), (999 - x3).toNat < fu → (0 ≤ x3) → (0 ≤ i) → (i < 12) → (0 ≤ n ∧ n ≤ 9999 ∧ 0 ≤ i ∧ i < M 60 88) → (x3 ≤ 999) → (sd_wf (M 60) → sd_lvf (M 60) n (999 - x3).toNat x3 = sd_lvf (M 60) n 999 0) → (sd_wf (M 60) → n ≤ sd_g (M 60) 999) → Ok 34 [some (.inr (.inr (12, 1))), some (.inl n), some (.inl i), some (.inl x3), d4, d5] [] M := by
      intro fu
      induction fu with
      | zero => exact fun _ _ _ hn => absurd hn (Nat.not_lt_zero _)
      | succ fu ih34 =>
        intro x3 d4 d5 hn34 g34_0 g34_1 g34_2 g34_3 g34_4 g34_5 g34_6
        refine hgo (fun p => Nat.beq p 34 || Nat.beq p 58 || Nat.beq p 70 || Nat.beq p 106) 92 34 _ _ _ ?_
        refine And.intro (fun h38 => ?_) (fun h38 => ?_)
        · skip
          have G58 : sd_wf (M 60) → x3 = sd_lvf (M 60) n 999 0 := fun hW => by
            have g := (by assumption : sd_wf (M 60) → sd_lvf (M 60) n (999 - x3).toNat x3 = sd_lvf (M 60) n 999 0) hW
            rw [← g, show x3 = 999 by omega]
            rfl
          exact L58 _ _ _ (by first | omega | assumption) (by first | omega | assumption) (by first | omega | assumption) (by first | omega | assumption) (by first | omega | assumption) (by first | omega | assumption) (by first | omega | assumption)
        · skip
          skip
          intro v44 e44 a44 b44
          rw [pz_wi (by omega) (by omega)] at e44
          clear a44 b44
          refine And.intro (hI) ?_
          intro v45 M45 a45 b45 q45
          obtain ⟨q45, z45⟩ := q45
          subst z45
          refine And.intro (fun h49 => ?_) (fun h49 => ?_)
          · skip
            have G58 : sd_wf (M 60) → x3 = sd_lvf (M 60) n 999 0 := fun hW => by
              have g := (by assumption : sd_wf (M 60) → sd_lvf (M 60) n (999 - x3).toNat x3 = sd_lvf (M 60) n 999 0) hW
              have c := q45 hW (by omega)
              rw [show v44 = x3 + 1 by omega] at c
              rw [← g, show (999 - x3).toNat = (999 - (x3 + 1)).toNat + 1 by omega]
              exact (if_neg (by omega)).symm
            exact L58 _ _ _ (by first | omega | assumption) (by first | omega | assumption) (by first | omega | assumption) (by first | omega | assumption) (by first | omega | assumption) (by first | omega | assumption) (by first | omega | assumption)
          · skip
            skip
            intro v52 e52 a52 b52
            rw [pz_wi (by omega) (by omega)] at e52
            have G34 : sd_wf (M 60) → sd_lvf (M 60) n (999 - v52).toNat v52 = sd_lvf (M 60) n 999 0 := fun hW => by
              have g := (by assumption : sd_wf (M 60) → sd_lvf (M 60) n (999 - x3).toNat x3 = sd_lvf (M 60) n 999 0) hW
              have c := q45 hW (by omega)
              rw [show v44 = x3 + 1 by omega] at c
              rw [← g, show (999 - x3).toNat = (999 - v52).toNat + 1 by omega, e52]
              exact (if_pos (by omega)).symm
            exact ih34 _ _ _ (by omega) (by first | omega | assumption | exact fun _ => rfl) (by first | omega | assumption | exact fun _ => rfl) (by first | omega | assumption | exact fun _ => rfl) (by first | omega | assumption | exact fun _ => rfl) (by first | omega | assumption | exact fun _ => rfl) (by first | omega | assumption | exact fun _ => rfl) (by first | omega | assumption | exact fun _ => rfl)
    refine hgo (fun p => Nat.beq p 34 || Nat.beq p 58 || Nat.beq p 70 || Nat.beq p 106) 92 0 _ [] M ?_
    refine And.intro (True.intro) ?_
    intro v5 M5 a5 b5 q5
    obtain ⟨q5, z5⟩ := q5
    subst z5
    clear a5 b5
    refine And.intro (fun h8 => ?_) (fun h8 => ?_)
    · skip
      replace q5 := q5.resolve_left (fun z => absurd (z.1.symm.trans h8) (by decide))
      clear h8
      refine And.intro rfl ?_
      refine ⟨fun ls hl hq hW => ?_, rfl⟩
      have hm := hW.1
      show _ = sd_shv (M 60) n i
      unfold sd_shv
      rw [if_neg (fun z => by
        first
          | omega
          | (have c := q23 hW (by omega)
             omega))]
    · skip
      replace q5 := q5.resolve_right (fun z => h8 z.1)
      clear h8
      refine And.intro (hI) ?_
      intro v13 M13 a13 b13 q13
      obtain ⟨q13, z13⟩ := q13
      subst z13
      clear a13 b13
      refine And.intro (fun h16 => ?_) (fun h16 => ?_)
      · skip
        replace q13 := q13.resolve_left (fun z => absurd (z.1.symm.trans h16) (by decide))
        clear h16
        refine And.intro rfl ?_
        refine ⟨fun ls hl hq hW => ?_, rfl⟩
        have hm := hW.1
        show _ = sd_shv (M 60) n i
        unfold sd_shv
        rw [if_neg (fun z => by
          first
            | omega
            | (have c := q23 hW (by omega)
               omega))]
      · skip
        replace q13 := q13.resolve_right (fun z => h16 z.1)
        clear h16
        refine And.intro (hI) ?_
        intro v23 M23 a23 b23 q23
        obtain ⟨q23, z23⟩ := q23
        subst z23
        refine And.intro (fun h27 => ?_) (fun h27 => ?_)
        · skip
          have GP : 0 ≤ n ∧ n ≤ 9999 ∧ 0 ≤ i ∧ i < M 60 88 := by omega
          have GM : sd_wf (M 60) → n ≤ sd_g (M 60) 999 := fun hW => by
            have c := q23 hW (by omega)
            omega
          exact L34 _ _ _ _ (Nat.lt_succ_self _) (by first | omega | assumption | exact fun _ => rfl) (by first | omega | assumption | exact fun _ => rfl) (by first | omega | assumption | exact fun _ => rfl) (by first | omega | assumption | exact fun _ => rfl) (by first | omega | assumption | exact fun _ => rfl) (by first | omega | assumption | exact fun _ => rfl) (by first | omega | assumption | exact fun _ => rfl)
        · skip
          skip
          refine And.intro rfl ?_
          refine ⟨fun ls hl hq hW => ?_, rfl⟩
          have hm := hW.1
          show _ = sd_shv (M 60) n i
          unfold sd_shv
          rw [if_neg (fun z => by
            first
              | omega
              | (have c := q23 hW (by omega)
                 omega))]
theorem v3_X12_share {fr lo i : Nat} {own : String} (h1 : 5 + 1 ≤ fr) (h2 : 8 + (6 + 11) + 108 ≤ lo) (h3 : .methodLink own i yX12_share ∈ lw_tbl) : pz_cV fr lo own i k3_X12_share :=
  pz_cVk (maxL := 6) (fr' := 5) (lo' := 108) 2 12 h3_X12_share rfl ⟨by decide +kernel, by decide +kernel, by decide +kernel⟩ ⟨(pz_mt 1676 (by decide +kernel)), (pz_mt 1674 (by decide +kernel)), (pz_mt 1675 (by decide +kernel)), (pz_mt 13 (by decide +kernel))⟩ (Or.inl ⟨TX12, 28, rfl⟩) (fun a M _ h => by
    have h : (match (generalizing := false) a with | [.inr (.inr (12, th)), .inl n, .inl i] => pz_im M | _ => False) := h
    split at h
    · exact ⟨_, _, rfl⟩
    · exact h.elim) h1 h2 h3
