section
noncomputable def k4_X4_reckonSpans : pz_C := (2, 0, fun a M => (match a with | [.inr (.inr (4, k)), .inr (.inr (0, c))] => pz_ic M | _ => False), fun a M r M' => (match a, r with | [.inr (.inr (4, k)), .inr (.inr (0, c))], none => ((∀ b j : Nat, b ≠ 55 → M' b j = M b j) ∧ (c = 71 → ∀ (ls : List pz_lne) (F : Nat → Int) (d : Nat), sd_se M 71 F → sd_wf F → sd_al M ls F d (F 88) → sd_sp M' ls F d)) ∧ pq_pr pq_Pk M M' | _, _ => False))
noncomputable abbrev ct4_X4_reckonSpans : List (Bool × Nat × pz_C) := [(true, 68, k3_X4_oddsWith)]
set_option maxRecDepth 100000 in
set_option maxHeartbeats 4000000 in
theorem h4_X4_reckonSpans : pz_H yX4_reckonSpans cX4_reckonSpans 6 none k4_X4_reckonSpans 2 45 := by
  refine pz_mk (own := RX4) (tb := t_X4_reckonSpans) (fl := pz_flf fl_RX4) (ci := pz_cif ci_RX4) (ct := pz_ctf ct4_X4_reckonSpans) (rz := false) (pz_pfc_RX4 yX4_reckonSpans rfl) rfl t_X4_reckonSpans_ok (pz_flk fl_RX4_ok) (pz_cik ci_RX4_ok) ?_ ?_ (rfl) ?_ ?_
  · exact fun i k' h => pz_ctk (l := ct4_X4_reckonSpans) (P := fun b i k => b = true → pz_cV 2 45 RX4 i k) (List.forall_mem_cons.mpr ⟨(fun _ => v3_X4_oddsWith (by decide) (by decide) pz_wq900), fun _ h => absurd h List.not_mem_nil⟩) true i k' h rfl
  · exact fun i k' h => pz_ctk (l := ct4_X4_reckonSpans) (P := fun b i k => b = false → (pz_cS 2 45 RX4 i k ∨ (k = pz_kac ∧ 1 ≤ 2 ∧ 60 ≤ 45 ∧ Cond.methodLink RX4 i arraycopyName ∈ pz_tbl))) (List.forall_mem_cons.mpr ⟨((fun z => by cases z)), fun _ h => absurd h List.not_mem_nil⟩) false i k' h rfl
  · intro a M hlen hpre
    obtain ⟨k, c, rfl, hpre⟩ : ∃ k c, a = [.inr (.inr (4, k)), .inr (.inr (0, c))] ∧ (pz_ic M) := by
      have hpre : (match (generalizing := false) a with | [.inr (.inr (4, k)), .inr (.inr (0, c))] => pz_ic M | _ => False) := hpre
      split at hpre
      · exact ⟨_, _, rfl, hpre⟩
      · exact hpre.elim
    exact Nat.le_of_ble_eq_true rfl
  · intro a M hlen hcan hM hpre Ok hgo
    obtain ⟨k, c, rfl, hpre⟩ : ∃ k c, a = [.inr (.inr (4, k)), .inr (.inr (0, c))] ∧ (pz_ic M) := by
      have hpre : (match (generalizing := false) a with | [.inr (.inr (4, k)), .inr (.inr (0, c))] => pz_ic M | _ => False) := hpre
      split at hpre
      · exact ⟨_, _, rfl, hpre⟩
      · exact hpre.elim
    obtain ⟨k_k, hc_k⟩ := pz_tlm hcan
    have k_k : pz_kd k = 4 ∧ k < 231 := k_k
    have R_k := pz_kd4 k_k.1
    subst R_k
    obtain ⟨k_c, hc_c⟩ := pz_tlm hc_k
    have k_c : pz_kd c = 0 ∧ c < 231 := k_c
    have R_c := pz_kd0 k_c.1
    have hI : pz_ic M := hpre
    have hI0 := hI
    have hS : pq_pr pq_Pk M M := pq_pr.rf
    have L2 : ∀ (fo : Nat) (x2 : Int) (d3 : Option pz_V) (d4 : Option pz_V) (d5 : Option pz_V) (N2 : pz_M), (12 - x2).toNat < fo → (pq_pr pq_Pk M N2) → (0 ≤ x2) → (∀ b j : Nat, b ≠ 55 → N2 b j = M b j) → (c = 71 → ∀ (ls : List pz_lne) (F : Nat → Int) (d : Nat), sd_se M 71 F → sd_wf F → sd_al M ls F d (F 88) → x2 ≤ F 88 ∧ sd_spI N2 ls F d x2 x2) → Ok 2 [some (.inr (.inr (4, 6))), some (.inr (.inr (0, c))), some (.inl x2), d3, d4, d5] [] N2 := by
      intro fo
      induction fo with
      | zero => exact fun _ _ _ _ _ hn => absurd hn (Nat.not_lt_zero _)
      | succ fo ih2 =>
        intro x2 d3 d4 d5 N2 hn2 hS g2_1 g2_2 g2_3
        have hI : pz_ic N2 := hS.1 hI0
        have hS2 := hS
        have L16 : ∀ (fu : Nat) (x2 : Int) (x3 : Int) (x4 : Int) (d5 : Option pz_V) (N16 : pz_M), (12 - x4).toNat < fu → (pq_pr pq_Pk M N16) → (0 ≤ x4) → (0 ≤ x2) → (x2 < 12) → ((12 - x2).toNat < fo + 1) → (∀ b j : Nat, b ≠ 55 → N16 b j = M b j) → (c = 71 → ∀ (ls : List pz_lne) (F : Nat → Int) (d : Nat), sd_se M 71 F → sd_wf F → sd_al M ls F d (F 88) → (0 ≤ x2 ∧ x2 < F 88 ∧ x2 ≤ x4 ∧ x4 ≤ F 88) ∧ sd_spI N16 ls F d x2 x4 ∧ x3 = sd_oo ls F d (x4.toNat - x2.toNat) x2.toNat 1000000) → Ok 16 [some (.inr (.inr (4, 6))), some (.inr (.inr (0, c))), some (.inl x2), some (.inl x3), some (.inl x4), d5] [] N16 := by
          intro fu
          induction fu with
          | zero => exact fun _ _ _ _ _ hn => absurd hn (Nat.not_lt_zero _)
          | succ fu ih16 =>
            intro x2 x3 x4 d5 N16 hn16 hS g16_1 g16_2 g16_3 g16_4 g16_5 g16_6
            have hI : pz_ic N16 := hS.1 hI0
            have hS16 := hS
            refine hgo (fun p => Nat.beq p 2 || Nat.beq p 16) 43 16 _ _ _ ?_
            intro v19 e19 a19 b19
            have I19 := hI.1 c (by first | decide | omega) (by first | decide | omega)
            refine And.intro (fun h22 => ?_) (fun h22 => ?_)
            · skip
              intro v67 e67 a67 b67
              rw [pz_wi (by first | decide | omega) (by first | decide | omega)] at e67
              have G2 : c = 71 → ∀ (ls : List pz_lne) (F : Nat → Int) (d : Nat), sd_se M 71 F → sd_wf F → sd_al M ls F d (F 88) → v67 ≤ F 88 ∧ sd_spI N16 ls F d v67 v67 := fun c9 ls F d s w h => by
                obtain ⟨g1, g2, g3⟩ := (by assumption : c = 71 → ∀ (ls : List pz_lne) (F : Nat → Int) (d : Nat), sd_se M 71 F → sd_wf F → sd_al M ls F d (F 88) → (0 ≤ x2 ∧ x2 < F 88 ∧ x2 ≤ x4 ∧ x4 ≤ F 88) ∧ sd_spI N16 ls F d x2 x4 ∧ x3 = sd_oo ls F d (x4.toNat - x2.toNat) x2.toNat 1000000) c9 ls F d s w h
                subst c9
                have n8 := (sd_se_k s w hS16).1
                exact ⟨by omega, sd_spI_r g2 (by first | decide | omega) e67⟩
              exact ih2 _ _ _ _ _ (by first | decide | omega) hS (by first | omega | assumption | exact fun _ _ _ => rfl | exact fun _ ls F d s w h => ⟨w.1.1, fun a i _ _ a3 => absurd a3 (by first | decide | omega)⟩) (by first | omega | assumption | exact fun _ _ _ => rfl | exact fun _ ls F d s w h => ⟨w.1.1, fun a i _ _ a3 => absurd a3 (by first | decide | omega)⟩) (by first | omega | assumption | exact fun _ _ _ => rfl | exact fun _ ls F d s w h => ⟨w.1.1, fun a i _ _ a3 => absurd a3 (by first | decide | omega)⟩)
            · skip
              refine And.intro (True.intro) ?_
              intro v30 M30 a30 b30 q30
              obtain ⟨q30, z30⟩ := q30
              subst z30
              intro v37 e37 a37 b37
              try rw [pz_wi (by first | decide | omega) (by first | decide | omega)] at e37
              intro v40 e40 a40 b40
              try rw [pz_wi (by first | decide | omega) (by first | decide | omega)] at e40
              intro r46 e46 k46
              have R46 := pz_kdA k46 (by decide) (by decide)
              have Q46 := pz_nm e46 k_k.1 (by decide) (by decide) rfl
              have W46 : r46 = 55 := e46
              have Z49 : (((pz_ak 21).2 : Nat) : Int) = 144 := rfl
              refine And.intro (fun h50 => ?_) (fun h50 => ?_)
              · skip
                intro v61 e61 a61 b61
                rw [pz_wi (by first | decide | omega) (by first | decide | omega)] at e61
                first
                  | (have G16c : c = 71 → ∀ (ls : List pz_lne) (F : Nat → Int) (d : Nat), sd_se M 71 F → sd_wf F → sd_al M ls F d (F 88) → (0 ≤ x2 ∧ x2 < F 88 ∧ x2 ≤ v61 ∧ v61 ≤ F 88) ∧ sd_spI M60 ls F d x2 v61 ∧ v30 = sd_oo ls F d (v61.toNat - x2.toNat) x2.toNat 1000000 := by
                      rw [e61]
                      assumption)
                  | skip
                exact ih16 _ _ _ _ _ (by first | decide | omega) hS (by first | omega | assumption) (by first | omega | assumption) (by first | omega | assumption) (by first | omega | assumption) (by first | omega | assumption) (by first | omega | assumption)
              · skip
                intro r54 e54 k54
                have R54 := pz_kdA k54 (by decide) (by decide)
                have Q54 := pz_nm e54 k_k.1 (by decide) (by decide) rfl
                have W54 : r54 = 55 := e54
                have lo60 : (0 : Int) ≤ v40 := by omega
                have tn60 : (((v40).toNat : Nat) : Int) = v40 := Int.toNat_of_nonneg lo60
                refine And.intro (lo60) (And.intro (show _ < (144 : Int) from by omega) ?_)
                intro M60 e60
                have hS : pq_pr pq_Pk M M60 := by
                  rw [e60]
                  exact pq_pr_u hS (by unfold pq_Pk pq_Pw; first | decide | omega) (by unfold pz_iok; first | decide | omega)
                have hI : pz_ic M60 := hS.1 hI0
                rw [W54] at e60
                have G16a : ∀ b j : Nat, b ≠ 55 → M60 b j = M b j := fun b j ne => by
                  rw [e60, pz_una ne]
                  exact (by assumption : ∀ b j : Nat, b ≠ 55 → N16 b j = M b j) b j ne
                have G16b : c = 71 → ∀ (ls : List pz_lne) (F : Nat → Int) (d : Nat), sd_se M 71 F → sd_wf F → sd_al M ls F d (F 88) → (0 ≤ x2 ∧ x2 < F 88 ∧ x2 ≤ (x4 + 1) ∧ (x4 + 1) ≤ F 88) ∧ sd_spI M60 ls F d x2 (x4 + 1) ∧ v30 = sd_oo ls F d ((x4 + 1).toNat - x2.toNat) x2.toNat 1000000 := fun c9 ls F d s w h => by
                  obtain ⟨g1, g2, g3⟩ := (by assumption : c = 71 → ∀ (ls : List pz_lne) (F : Nat → Int) (d : Nat), sd_se M 71 F → sd_wf F → sd_al M ls F d (F 88) → (0 ≤ x2 ∧ x2 < F 88 ∧ x2 ≤ x4 ∧ x4 ≤ F 88) ∧ sd_spI N16 ls F d x2 x4 ∧ x3 = sd_oo ls F d (x4.toNat - x2.toNat) x2.toNat 1000000) c9 ls F d s w h
                  have ne := (by assumption : ∀ b j : Nat, b ≠ 55 → N16 b j = M b j)
                  subst c9
                  have s2 := sd_se_k s w hS16
                  have n8 := s2.1
                  have t := q30 rfl ls F d s2 w (fun i hi => (ne 52 i (by decide)).trans (h i hi)) (by first | decide | omega) (by first | decide | omega) (by rw [g3]; exact sd_oo_b _ _ _ ⟨by decide, by decide⟩)
                  have o : v30 = sd_oo ls F d ((x4 + 1).toNat - x2.toNat) x2.toNat 1000000 := by
                    rw [show (x4 + 1).toNat - x2.toNat = (x4.toNat - x2.toNat) + 1 by omega, sd_oo_l, ← g3, show x2.toNat + (x4.toNat - x2.toNat) = x4.toNat by omega]
                    exact t
                  refine ⟨⟨by omega, by omega, by omega, by omega⟩, sd_spI_s g2 w (by first | decide | omega) (by first | decide | omega) (by first | decide | omega) rfl (show v40.toNat = 12 * x2.toNat + x4.toNat by omega) e60 ?_, o⟩
                  rw [o]
                  unfold sd_o2
                  rw [show (x4 + 1).toNat - x2.toNat = x4.toNat + 1 - x2.toNat by omega]
                intro v61 e61 a61 b61
                rw [pz_wi (by first | decide | omega) (by first | decide | omega)] at e61
                first
                  | (have G16c : c = 71 → ∀ (ls : List pz_lne) (F : Nat → Int) (d : Nat), sd_se M 71 F → sd_wf F → sd_al M ls F d (F 88) → (0 ≤ x2 ∧ x2 < F 88 ∧ x2 ≤ v61 ∧ v61 ≤ F 88) ∧ sd_spI M60 ls F d x2 v61 ∧ v30 = sd_oo ls F d (v61.toNat - x2.toNat) x2.toNat 1000000 := by
                      rw [e61]
                      assumption)
                  | skip
                exact ih16 _ _ _ _ _ (by first | decide | omega) hS (by first | omega | assumption) (by first | omega | assumption) (by first | omega | assumption) (by first | omega | assumption) (by first | omega | assumption) (by first | omega | assumption)
        refine hgo (fun p => Nat.beq p 2 || Nat.beq p 16) 43 2 _ _ _ ?_
        intro v4 e4 a4 b4
        have I4 := hI.1 c (by first | decide | omega) (by first | decide | omega)
        refine And.intro (fun h7 => ?_) (fun h7 => ?_)
        · skip
          skip
          refine And.intro rfl ?_
          refine ⟨⟨by assumption, fun c9 ls F d s w h => ?_⟩, hS⟩
          obtain ⟨g1, g2⟩ := (by assumption : c = 71 → ∀ (ls : List pz_lne) (F : Nat → Int) (d : Nat), sd_se M 71 F → sd_wf F → sd_al M ls F d (F 88) → x2 ≤ F 88 ∧ sd_spI N2 ls F d x2 x2) c9 ls F d s w h
          subst c9
          have n8 := (sd_se_k s w hS2).1
          exact fun a i a1 a2 => g2 a i a1 a2 (Or.inl (by first | decide | omega))
        · skip
          have G16 : c = 71 → ∀ (ls : List pz_lne) (F : Nat → Int) (d : Nat), sd_se M 71 F → sd_wf F → sd_al M ls F d (F 88) → (0 ≤ x2 ∧ x2 < F 88 ∧ x2 ≤ x2 ∧ x2 ≤ F 88) ∧ sd_spI N2 ls F d x2 x2 ∧ 1000000 = sd_oo ls F d (x2.toNat - x2.toNat) x2.toNat 1000000 := fun c9 ls F d s w h => by
            obtain ⟨g1, g2⟩ := (by assumption : c = 71 → ∀ (ls : List pz_lne) (F : Nat → Int) (d : Nat), sd_se M 71 F → sd_wf F → sd_al M ls F d (F 88) → x2 ≤ F 88 ∧ sd_spI N2 ls F d x2 x2) c9 ls F d s w h
            subst c9
            have n8 := (sd_se_k s w hS2).1
            exact ⟨⟨by omega, by omega, by omega, by omega⟩, g2, by rw [Nat.sub_self]; rfl⟩
          exact L16 _ _ _ _ _ _ (Nat.lt_succ_self _) hS (by first | omega | assumption) (by first | omega | assumption) (by first | omega | assumption) (by first | omega | assumption) (by first | omega | assumption) (by first | omega | assumption)
    refine hgo (fun p => Nat.beq p 2 || Nat.beq p 16) 43 0 _ [] M ?_
    exact L2 _ _ _ _ _ _ (Nat.lt_succ_self _) hS (by first | omega | assumption | exact fun _ _ _ => rfl | exact fun _ ls F d s w h => ⟨w.1.1, fun a i _ _ a3 => absurd a3 (by first | decide | omega)⟩) (by first | omega | assumption | exact fun _ _ _ => rfl | exact fun _ ls F d s w h => ⟨w.1.1, fun a i _ _ a3 => absurd a3 (by first | decide | omega)⟩) (by first | omega | assumption | exact fun _ _ _ => rfl | exact fun _ ls F d s w h => ⟨w.1.1, fun a i _ _ a3 => absurd a3 (by first | decide | omega)⟩)
theorem v4_X4_reckonSpans {fr lo i : Nat} {own : String} (h1 : 2 + 1 ≤ fr) (h2 : 8 + (6 + 11) + 45 ≤ lo) (h3 : .methodLink own i yX4_reckonSpans ∈ lw_tbl) : pz_cV fr lo own i k4_X4_reckonSpans :=
  pz_cVk (maxL := 6) (fr' := 2) (lo' := 45) 1 4 h4_X4_reckonSpans rfl ⟨(pz_nhc_RX4 yX4_reckonSpans rfl).1, (pz_nhc_RX4 yX4_reckonSpans rfl).2, pz_ds31⟩ ⟨pz_wq949, pz_wq947, pz_wq948, pz_wq11⟩ (Or.inl ⟨TX4, 5, rfl⟩) (fun a M _ h => by
    have h : (match (generalizing := false) a with | [.inr (.inr (4, k)), .inr (.inr (0, c))] => pz_ic M | _ => False) := h
    split at h
    · exact ⟨_, _, rfl⟩
    · exact h.elim) h1 h2 h3
noncomputable def k3_X4_leastOdds : pz_C := (3, 1, fun a M => (match a with | [.inr (.inr (4, k)), .inr (.inr (0, c)), .inl i] => pz_ic M | _ => False), fun a M r M' => (match a, r with | [.inr (.inr (4, k)), .inr (.inr (0, c)), .inl i], some (.inl v) => (c = 71 → ∀ (ls : List pz_lne) (F : Nat → Int) (d : Nat) (b : Nat → Bool), sd_se M 71 F → sd_wf F → sd_sp M ls F d → pz_zs i b → v = sd_lsv ls F d b) ∧ M = M' | _, _ => False))
noncomputable abbrev ct3_X4_leastOdds : List (Bool × Nat × pz_C) := [(false, 78, k_J9_min_7cf53)]
set_option maxRecDepth 100000 in
set_option maxHeartbeats 4000000 in
theorem h3_X4_leastOdds : pz_H yX4_leastOdds cX4_leastOdds 8 (some .int) k3_X4_leastOdds 1 21 := by
  refine pz_mk (own := RX4) (tb := t_X4_leastOdds) (fl := pz_flf fl_RX4) (ci := pz_cif ci_RX4) (ct := pz_ctf ct3_X4_leastOdds) (rz := false) (pz_pfc_RX4 yX4_leastOdds rfl) rfl t_X4_leastOdds_ok (pz_flk fl_RX4_ok) (pz_cik ci_RX4_ok) ?_ ?_ (Or.inl ⟨rfl, rfl⟩) ?_ ?_
  · exact fun i k' h => pz_ctk (l := ct3_X4_leastOdds) (P := fun b i k => b = true → pz_cV 1 21 RX4 i k) (List.forall_mem_cons.mpr ⟨((fun z => by cases z)), fun _ h => absurd h List.not_mem_nil⟩) true i k' h rfl
  · exact fun i k' h => pz_ctk (l := ct3_X4_leastOdds) (P := fun b i k => b = false → (pz_cS 1 21 RX4 i k ∨ (k = pz_kac ∧ 1 ≤ 1 ∧ 60 ≤ 21 ∧ Cond.methodLink RX4 i arraycopyName ∈ pz_tbl))) (List.forall_mem_cons.mpr ⟨(fun _ => Or.inl (s_J9_min_7cf53 (by decide) (by decide) (Or.inl pz_wq955))), fun _ h => absurd h List.not_mem_nil⟩) false i k' h rfl
  · intro a M hlen hpre
    obtain ⟨k, c, i, rfl, hpre⟩ : ∃ k c i, a = [.inr (.inr (4, k)), .inr (.inr (0, c)), .inl i] ∧ (pz_ic M) := by
      have hpre : (match (generalizing := false) a with | [.inr (.inr (4, k)), .inr (.inr (0, c)), .inl i] => pz_ic M | _ => False) := hpre
      split at hpre
      · exact ⟨_, _, _, rfl, hpre⟩
      · exact hpre.elim
    exact Nat.le_of_ble_eq_true rfl
  · intro a M hlen hcan hM hpre Ok hgo
    obtain ⟨k, c, i, rfl, hpre⟩ : ∃ k c i, a = [.inr (.inr (4, k)), .inr (.inr (0, c)), .inl i] ∧ (pz_ic M) := by
      have hpre : (match (generalizing := false) a with | [.inr (.inr (4, k)), .inr (.inr (0, c)), .inl i] => pz_ic M | _ => False) := hpre
      split at hpre
      · exact ⟨_, _, _, rfl, hpre⟩
      · exact hpre.elim
    obtain ⟨k_k, hc_k⟩ := pz_tlm hcan
    have k_k : pz_kd k = 4 ∧ k < 231 := k_k
    have R_k := pz_kd4 k_k.1
    subst R_k
    obtain ⟨k_c, hc_c⟩ := pz_tlm hc_k
    have k_c : pz_kd c = 0 ∧ c < 231 := k_c
    have R_c := pz_kd0 k_c.1
    obtain ⟨k_i, hc_i⟩ := pz_tlm hc_c
    have l_i : -2147483648 ≤ i := k_i.1
    have u_i : i ≤ 2147483647 := k_i.2
    have hI : pz_ic M := hpre
    have L9 : ∀ (fu : Nat) (x3 : Int) (x4 : Int) (x5 : Int) (d6 : Option pz_V) (d7 : Option pz_V), (12 - x5).toNat < fu → (0 ≤ x5) → (0 ≤ x4) → (x4 < 12) → (c = 71 → ∀ (ls : List pz_lne) (F : Nat → Int) (d : Nat) (b : Nat → Bool), sd_se M 71 F → sd_wf F → sd_sp M ls F d → pz_zs i b → sd_lsE ls F d b x3 x4 x5) → Ok 9 [some (.inr (.inr (4, 6))), some (.inr (.inr (0, c))), some (.inl i), some (.inl x3), some (.inl x4), some (.inl x5), d6, d7] [] M := by
      intro fu
      induction fu with
      | zero => exact fun _ _ _ _ _ hn => absurd hn (Nat.not_lt_zero _)
      | succ fu ih9 =>
        intro x3 x4 x5 d6 d7 hn9 g9_0 g9_1 g9_2 g9_3
        refine hgo (fun p => Nat.beq p 9) 54 9 _ _ _ ?_
        intro v12 e12 a12 b12
        have I12 := hI.1 c (by first | decide | omega) (by first | decide | omega)
        refine And.intro (fun h15 => ?_) (fun h15 => ?_)
        · skip
          refine And.intro rfl ?_
          refine ⟨fun c9 ls F d b s w p z => ?_, rfl⟩
          have g := (by assumption : c = 71 → ∀ (ls : List pz_lne) (F : Nat → Int) (d : Nat) (b : Nat → Bool), sd_se M 71 F → sd_wf F → sd_sp M ls F d → pz_zs i b → sd_lsE ls F d b x3 x4 x5) c9 ls F d b s w p z
          subst c9
          have n8 := s.1
          exact sd_lsE_z g w (by first | decide | omega)
        · skip
          intro v22 e22 a22 b22
          try rw [pz_wi (by first | decide | omega) (by first | decide | omega)] at e22
          intro v25 e25 a25 b25
          try rw [pz_wi (by first | decide | omega) (by first | decide | omega)] at e25
          intro v31 e31 a31 b31
          have I31 := hI.1 c (by first | decide | omega) (by first | decide | omega)
          intro v35 e35 a35 b35
          try rw [pz_wi (by first | decide | omega) (by first | decide | omega)] at e35
          refine And.intro (fun h36 => ?_) (fun h36 => ?_)
          · skip
            refine And.intro (fun h57 => ?_) (fun h57 => ?_)
            · skip
              exact absurd h57 (by decide)
            · skip
              intro r63 e63 k63
              have R63 := pz_kdA k63 (by decide) (by decide)
              have Z66 : (((pz_ak 21).2 : Nat) : Int) = 144 := rfl
              refine And.intro (fun h67 => ?_) (fun h67 => ?_)
              · skip
                intro v86 e86 a86 b86
                rw [pz_wi (by first | decide | omega) (by first | decide | omega)] at e86
                first
                  | (have G9 : c = 71 → ∀ (ls : List pz_lne) (F : Nat → Int) (d : Nat) (b : Nat → Bool), sd_se M 71 F → sd_wf F → sd_sp M ls F d → pz_zs i b → sd_lsE ls F d b x3 x4 v86 := fun c9 ls F d b s w p z => by
                      have g := (by assumption : c = 71 → ∀ (ls : List pz_lne) (F : Nat → Int) (d : Nat) (b : Nat → Bool), sd_se M 71 F → sd_wf F → sd_sp M ls F d → pz_zs i b → sd_lsE ls F d b x3 x4 x5) c9 ls F d b s w p z
                      subst c9
                      have n8 := s.1
                      have B := pz_sb_at z (by first | decide | omega) (by first | decide | omega) e42 e44
                      exact sd_lsE_n g w (by first | decide | omega) e86 (fun y => y.elim (fun y => by omega) (fun y => by
                        rw [if_pos y] at B
                        omega)))
                  | (have G9 : c = 71 → ∀ (ls : List pz_lne) (F : Nat → Int) (d : Nat) (b : Nat → Bool), sd_se M 71 F → sd_wf F → sd_sp M ls F d → pz_zs i b → sd_lsE ls F d b v78 x5 v86 := fun c9 ls F d b s w p z => by
                      have g := (by assumption : c = 71 → ∀ (ls : List pz_lne) (F : Nat → Int) (d : Nat) (b : Nat → Bool), sd_se M 71 F → sd_wf F → sd_sp M ls F d → pz_zs i b → sd_lsE ls F d b x3 x4 x5) c9 ls F d b s w p z
                      subst c9
                      have n8 := s.1
                      have gl := g.1
                      have m := w.1
                      exact sd_lsE_y g w (by first | decide | omega) e86 (by
                        first
                          | exact Or.inl (by first | decide | omega)
                          | (have B := pz_sb_at z (by first | decide | omega) (by first | decide | omega) e42 e44
                             refine Or.inr ?_
                             by_cases y : b x5.toNat = true
                             · exact y
                             · rw [if_neg y] at B
                               omega)) (by rw [q78, e77, show v25.toNat = 12 * x4.toNat + x5.toNat by omega, p x4.toNat x5.toNat (by first | decide | omega) (by first | decide | omega)]))
                  | skip
                exact ih9 _ _ _ _ _ (by first | decide | omega) (by first | omega | assumption | exact fun _ ls F d b s w p z => sd_lsE_0 w) (by first | omega | assumption | exact fun _ ls F d b s w p z => sd_lsE_0 w) (by first | omega | assumption | exact fun _ ls F d b s w p z => sd_lsE_0 w) (by first | omega | assumption | exact fun _ ls F d b s w p z => sd_lsE_0 w)
              · skip
                intro r72 e72 k72
                have R72 := pz_kdA k72 (by decide) (by decide)
                have W72 : r72 = 55 := e72
                have lo77 : (0 : Int) ≤ v25 := by omega
                have tn77 : (((v25).toNat : Nat) : Int) = v25 := Int.toNat_of_nonneg lo77
                refine And.intro (lo77) (And.intro (show _ < (144 : Int) from by omega) ?_)
                intro v77 e77 a77 b77
                rw [W72] at e77
                refine And.intro (True.intro) ?_
                intro v78 M78 a78 b78 q78
                obtain ⟨q78, z78⟩ := q78
                subst z78
                intro v86 e86 a86 b86
                rw [pz_wi (by first | decide | omega) (by first | decide | omega)] at e86
                first
                  | (have G9 : c = 71 → ∀ (ls : List pz_lne) (F : Nat → Int) (d : Nat) (b : Nat → Bool), sd_se M 71 F → sd_wf F → sd_sp M ls F d → pz_zs i b → sd_lsE ls F d b x3 x4 v86 := fun c9 ls F d b s w p z => by
                      have g := (by assumption : c = 71 → ∀ (ls : List pz_lne) (F : Nat → Int) (d : Nat) (b : Nat → Bool), sd_se M 71 F → sd_wf F → sd_sp M ls F d → pz_zs i b → sd_lsE ls F d b x3 x4 x5) c9 ls F d b s w p z
                      subst c9
                      have n8 := s.1
                      have B := pz_sb_at z (by first | decide | omega) (by first | decide | omega) e42 e44
                      exact sd_lsE_n g w (by first | decide | omega) e86 (fun y => y.elim (fun y => by omega) (fun y => by
                        rw [if_pos y] at B
                        omega)))
                  | (have G9 : c = 71 → ∀ (ls : List pz_lne) (F : Nat → Int) (d : Nat) (b : Nat → Bool), sd_se M 71 F → sd_wf F → sd_sp M ls F d → pz_zs i b → sd_lsE ls F d b v78 x5 v86 := fun c9 ls F d b s w p z => by
                      have g := (by assumption : c = 71 → ∀ (ls : List pz_lne) (F : Nat → Int) (d : Nat) (b : Nat → Bool), sd_se M 71 F → sd_wf F → sd_sp M ls F d → pz_zs i b → sd_lsE ls F d b x3 x4 x5) c9 ls F d b s w p z
                      subst c9
                      have n8 := s.1
                      have gl := g.1
                      have m := w.1
                      exact sd_lsE_y g w (by first | decide | omega) e86 (by
                        first
                          | exact Or.inl (by first | decide | omega)
                          | (have B := pz_sb_at z (by first | decide | omega) (by first | decide | omega) e42 e44
                             refine Or.inr ?_
                             by_cases y : b x5.toNat = true
                             · exact y
                             · rw [if_neg y] at B
                               omega)) (by rw [q78, e77, show v25.toNat = 12 * x4.toNat + x5.toNat by omega, p x4.toNat x5.toNat (by first | decide | omega) (by first | decide | omega)]))
                  | skip
                exact ih9 _ _ _ _ _ (by first | decide | omega) (by first | omega | assumption | exact fun _ ls F d b s w p z => sd_lsE_0 w) (by first | omega | assumption | exact fun _ ls F d b s w p z => sd_lsE_0 w) (by first | omega | assumption | exact fun _ ls F d b s w p z => sd_lsE_0 w) (by first | omega | assumption | exact fun _ ls F d b s w p z => sd_lsE_0 w)
          · skip
            intro v42 e42 a42 b42
            intro v44 e44 a44 b44
            have X44 := pz_a1 e44
            refine And.intro (fun h45 => ?_) (fun h45 => ?_)
            · skip
              refine And.intro (fun h57 => ?_) (fun h57 => ?_)
              · skip
                intro v86 e86 a86 b86
                rw [pz_wi (by first | decide | omega) (by first | decide | omega)] at e86
                first
                  | (have G9 : c = 71 → ∀ (ls : List pz_lne) (F : Nat → Int) (d : Nat) (b : Nat → Bool), sd_se M 71 F → sd_wf F → sd_sp M ls F d → pz_zs i b → sd_lsE ls F d b x3 x4 v86 := fun c9 ls F d b s w p z => by
                      have g := (by assumption : c = 71 → ∀ (ls : List pz_lne) (F : Nat → Int) (d : Nat) (b : Nat → Bool), sd_se M 71 F → sd_wf F → sd_sp M ls F d → pz_zs i b → sd_lsE ls F d b x3 x4 x5) c9 ls F d b s w p z
                      subst c9
                      have n8 := s.1
                      have B := pz_sb_at z (by first | decide | omega) (by first | decide | omega) e42 e44
                      exact sd_lsE_n g w (by first | decide | omega) e86 (fun y => y.elim (fun y => by omega) (fun y => by
                        rw [if_pos y] at B
                        omega)))
                  | (have G9 : c = 71 → ∀ (ls : List pz_lne) (F : Nat → Int) (d : Nat) (b : Nat → Bool), sd_se M 71 F → sd_wf F → sd_sp M ls F d → pz_zs i b → sd_lsE ls F d b v78 x5 v86 := fun c9 ls F d b s w p z => by
                      have g := (by assumption : c = 71 → ∀ (ls : List pz_lne) (F : Nat → Int) (d : Nat) (b : Nat → Bool), sd_se M 71 F → sd_wf F → sd_sp M ls F d → pz_zs i b → sd_lsE ls F d b x3 x4 x5) c9 ls F d b s w p z
                      subst c9
                      have n8 := s.1
                      have gl := g.1
                      have m := w.1
                      exact sd_lsE_y g w (by first | decide | omega) e86 (by
                        first
                          | exact Or.inl (by first | decide | omega)
                          | (have B := pz_sb_at z (by first | decide | omega) (by first | decide | omega) e42 e44
                             refine Or.inr ?_
                             by_cases y : b x5.toNat = true
                             · exact y
                             · rw [if_neg y] at B
                               omega)) (by rw [q78, e77, show v25.toNat = 12 * x4.toNat + x5.toNat by omega, p x4.toNat x5.toNat (by first | decide | omega) (by first | decide | omega)]))
                  | skip
                exact ih9 _ _ _ _ _ (by first | decide | omega) (by first | omega | assumption | exact fun _ ls F d b s w p z => sd_lsE_0 w) (by first | omega | assumption | exact fun _ ls F d b s w p z => sd_lsE_0 w) (by first | omega | assumption | exact fun _ ls F d b s w p z => sd_lsE_0 w) (by first | omega | assumption | exact fun _ ls F d b s w p z => sd_lsE_0 w)
              · skip
                exact absurd h57 (by decide)
            · skip
              refine And.intro (fun h57 => ?_) (fun h57 => ?_)
              · skip
                exact absurd h57 (by decide)
              · skip
                intro r63 e63 k63
                have R63 := pz_kdA k63 (by decide) (by decide)
                have Z66 : (((pz_ak 21).2 : Nat) : Int) = 144 := rfl
                refine And.intro (fun h67 => ?_) (fun h67 => ?_)
                · skip
                  intro v86 e86 a86 b86
                  rw [pz_wi (by first | decide | omega) (by first | decide | omega)] at e86
                  first
                    | (have G9 : c = 71 → ∀ (ls : List pz_lne) (F : Nat → Int) (d : Nat) (b : Nat → Bool), sd_se M 71 F → sd_wf F → sd_sp M ls F d → pz_zs i b → sd_lsE ls F d b x3 x4 v86 := fun c9 ls F d b s w p z => by
                        have g := (by assumption : c = 71 → ∀ (ls : List pz_lne) (F : Nat → Int) (d : Nat) (b : Nat → Bool), sd_se M 71 F → sd_wf F → sd_sp M ls F d → pz_zs i b → sd_lsE ls F d b x3 x4 x5) c9 ls F d b s w p z
                        subst c9
                        have n8 := s.1
                        have B := pz_sb_at z (by first | decide | omega) (by first | decide | omega) e42 e44
                        exact sd_lsE_n g w (by first | decide | omega) e86 (fun y => y.elim (fun y => by omega) (fun y => by
                          rw [if_pos y] at B
                          omega)))
                    | (have G9 : c = 71 → ∀ (ls : List pz_lne) (F : Nat → Int) (d : Nat) (b : Nat → Bool), sd_se M 71 F → sd_wf F → sd_sp M ls F d → pz_zs i b → sd_lsE ls F d b v78 x5 v86 := fun c9 ls F d b s w p z => by
                        have g := (by assumption : c = 71 → ∀ (ls : List pz_lne) (F : Nat → Int) (d : Nat) (b : Nat → Bool), sd_se M 71 F → sd_wf F → sd_sp M ls F d → pz_zs i b → sd_lsE ls F d b x3 x4 x5) c9 ls F d b s w p z
                        subst c9
                        have n8 := s.1
                        have gl := g.1
                        have m := w.1
                        exact sd_lsE_y g w (by first | decide | omega) e86 (by
                          first
                            | exact Or.inl (by first | decide | omega)
                            | (have B := pz_sb_at z (by first | decide | omega) (by first | decide | omega) e42 e44
                               refine Or.inr ?_
                               by_cases y : b x5.toNat = true
                               · exact y
                               · rw [if_neg y] at B
                                 omega)) (by rw [q78, e77, show v25.toNat = 12 * x4.toNat + x5.toNat by omega, p x4.toNat x5.toNat (by first | decide | omega) (by first | decide | omega)]))
                    | skip
                  exact ih9 _ _ _ _ _ (by first | decide | omega) (by first | omega | assumption | exact fun _ ls F d b s w p z => sd_lsE_0 w) (by first | omega | assumption | exact fun _ ls F d b s w p z => sd_lsE_0 w) (by first | omega | assumption | exact fun _ ls F d b s w p z => sd_lsE_0 w) (by first | omega | assumption | exact fun _ ls F d b s w p z => sd_lsE_0 w)
                · skip
                  intro r72 e72 k72
                  have R72 := pz_kdA k72 (by decide) (by decide)
                  have W72 : r72 = 55 := e72
                  have lo77 : (0 : Int) ≤ v25 := by omega
                  have tn77 : (((v25).toNat : Nat) : Int) = v25 := Int.toNat_of_nonneg lo77
                  refine And.intro (lo77) (And.intro (show _ < (144 : Int) from by omega) ?_)
                  intro v77 e77 a77 b77
                  rw [W72] at e77
                  refine And.intro (True.intro) ?_
                  intro v78 M78 a78 b78 q78
                  obtain ⟨q78, z78⟩ := q78
                  subst z78
                  intro v86 e86 a86 b86
                  rw [pz_wi (by first | decide | omega) (by first | decide | omega)] at e86
                  first
                    | (have G9 : c = 71 → ∀ (ls : List pz_lne) (F : Nat → Int) (d : Nat) (b : Nat → Bool), sd_se M 71 F → sd_wf F → sd_sp M ls F d → pz_zs i b → sd_lsE ls F d b x3 x4 v86 := fun c9 ls F d b s w p z => by
                        have g := (by assumption : c = 71 → ∀ (ls : List pz_lne) (F : Nat → Int) (d : Nat) (b : Nat → Bool), sd_se M 71 F → sd_wf F → sd_sp M ls F d → pz_zs i b → sd_lsE ls F d b x3 x4 x5) c9 ls F d b s w p z
                        subst c9
                        have n8 := s.1
                        have B := pz_sb_at z (by first | decide | omega) (by first | decide | omega) e42 e44
                        exact sd_lsE_n g w (by first | decide | omega) e86 (fun y => y.elim (fun y => by omega) (fun y => by
                          rw [if_pos y] at B
                          omega)))
                    | (have G9 : c = 71 → ∀ (ls : List pz_lne) (F : Nat → Int) (d : Nat) (b : Nat → Bool), sd_se M 71 F → sd_wf F → sd_sp M ls F d → pz_zs i b → sd_lsE ls F d b v78 x5 v86 := fun c9 ls F d b s w p z => by
                        have g := (by assumption : c = 71 → ∀ (ls : List pz_lne) (F : Nat → Int) (d : Nat) (b : Nat → Bool), sd_se M 71 F → sd_wf F → sd_sp M ls F d → pz_zs i b → sd_lsE ls F d b x3 x4 x5) c9 ls F d b s w p z
                        subst c9
                        have n8 := s.1
                        have gl := g.1
                        have m := w.1
                        exact sd_lsE_y g w (by first | decide | omega) e86 (by
                          first
                            | exact Or.inl (by first | decide | omega)
                            | (have B := pz_sb_at z (by first | decide | omega) (by first | decide | omega) e42 e44
                               refine Or.inr ?_
                               by_cases y : b x5.toNat = true
                               · exact y
                               · rw [if_neg y] at B
                                 omega)) (by rw [q78, e77, show v25.toNat = 12 * x4.toNat + x5.toNat by omega, p x4.toNat x5.toNat (by first | decide | omega) (by first | decide | omega)]))
                    | skip
                  exact ih9 _ _ _ _ _ (by first | decide | omega) (by first | omega | assumption | exact fun _ ls F d b s w p z => sd_lsE_0 w) (by first | omega | assumption | exact fun _ ls F d b s w p z => sd_lsE_0 w) (by first | omega | assumption | exact fun _ ls F d b s w p z => sd_lsE_0 w) (by first | omega | assumption | exact fun _ ls F d b s w p z => sd_lsE_0 w)
    refine hgo (fun p => Nat.beq p 9) 54 0 _ [] M ?_
    exact L9 _ _ _ _ _ _ (Nat.lt_succ_self _) (by first | omega | assumption | exact fun _ ls F d b s w p z => sd_lsE_0 w) (by first | omega | assumption | exact fun _ ls F d b s w p z => sd_lsE_0 w) (by first | omega | assumption | exact fun _ ls F d b s w p z => sd_lsE_0 w) (by first | omega | assumption | exact fun _ ls F d b s w p z => sd_lsE_0 w)
theorem v3_X4_leastOdds {fr lo i : Nat} {own : String} (h1 : 1 + 1 ≤ fr) (h2 : 8 + (8 + 11) + 21 ≤ lo) (h3 : .methodLink own i yX4_leastOdds ∈ lw_tbl) : pz_cV fr lo own i k3_X4_leastOdds :=
  pz_cVk (maxL := 8) (fr' := 1) (lo' := 21) 2 4 h3_X4_leastOdds rfl ⟨(pz_nhc_RX4 yX4_leastOdds rfl).1, (pz_nhc_RX4 yX4_leastOdds rfl).2, pz_ds33⟩ ⟨pz_wq954, pz_wq952, pz_wq953, pz_wq11⟩ (Or.inl ⟨TX4, 5, rfl⟩) (fun a M _ h => by
    have h : (match (generalizing := false) a with | [.inr (.inr (4, k)), .inr (.inr (0, c)), .inl i] => pz_ic M | _ => False) := h
    split at h
    · exact ⟨_, _, rfl⟩
    · exact h.elim) h1 h2 h3
noncomputable def k4_X11_split : pz_C := (3, 1, fun a M => (match a with | [.inr (.inr (11, th)), .inl d, .inl w] => pz_ic M | _ => False), fun a M r M' => (match a, r with | [.inr (.inr (11, th)), .inl d, .inl w], some (.inl v) => (sd_wc M v (fun ls F => sd_spv ls F d w)) ∧ pq_pr pq_Pk M M' | _, _ => False))
noncomputable abbrev ct4_X11_split : List (Bool × Nat × pz_C) := [(false, 137, k_X11_within), (true, 337, k3_X0_bridgedOnes), (true, 255, k4_X4_reckon), (true, 340, k4_X4_reckonSpans), (true, 153, k3_X0_canBridge), (true, 343, k3_X4_leastOdds)]
set_option maxRecDepth 100000 in
set_option maxHeartbeats 4000000 in
theorem h4_X11_split : pz_H yX11_split cX11_split 8 (some .int) k4_X11_split 5 120 := by
  refine pz_mk (own := RX11) (tb := t_X11_split) (fl := pz_flf fl_RX11) (ci := pz_cif ci_RX11) (ct := pz_ctf ct4_X11_split) (rz := false) (pz_pfc_RX11 yX11_split rfl) rfl t_X11_split_ok (pz_flk fl_RX11_ok) (pz_cik ci_RX11_ok) ?_ ?_ (Or.inl ⟨rfl, rfl⟩) ?_ ?_
  · exact fun i k' h => pz_ctk (l := ct4_X11_split) (P := fun b i k => b = true → pz_cV 5 120 RX11 i k) (List.forall_mem_cons.mpr ⟨((fun z => by cases z)), List.forall_mem_cons.mpr ⟨(fun _ => v3_X0_bridgedOnes (by decide) (by decide) pz_wq1078), List.forall_mem_cons.mpr ⟨(fun _ => v4_X4_reckon (by decide) (by decide) pz_wq884), List.forall_mem_cons.mpr ⟨(fun _ => v4_X4_reckonSpans (by decide) (by decide) pz_wq1079), List.forall_mem_cons.mpr ⟨(fun _ => v3_X0_canBridge (by decide) (by decide) pz_wq525), List.forall_mem_cons.mpr ⟨(fun _ => v3_X4_leastOdds (by decide) (by decide) pz_wq1080), fun _ h => absurd h List.not_mem_nil⟩⟩⟩⟩⟩⟩) true i k' h rfl
  · exact fun i k' h => pz_ctk (l := ct4_X11_split) (P := fun b i k => b = false → (pz_cS 5 120 RX11 i k ∨ (k = pz_kac ∧ 1 ≤ 5 ∧ 60 ≤ 120 ∧ Cond.methodLink RX11 i arraycopyName ∈ pz_tbl))) (List.forall_mem_cons.mpr ⟨(fun _ => Or.inl (s_X11_within (by decide) (by decide) (Or.inl pz_wq425))), List.forall_mem_cons.mpr ⟨((fun z => by cases z)), List.forall_mem_cons.mpr ⟨((fun z => by cases z)), List.forall_mem_cons.mpr ⟨((fun z => by cases z)), List.forall_mem_cons.mpr ⟨((fun z => by cases z)), List.forall_mem_cons.mpr ⟨((fun z => by cases z)), fun _ h => absurd h List.not_mem_nil⟩⟩⟩⟩⟩⟩) false i k' h rfl
  · intro a M hlen hpre
    obtain ⟨th, d, w, rfl, hpre⟩ : ∃ th d w, a = [.inr (.inr (11, th)), .inl d, .inl w] ∧ (pz_ic M) := by
      have hpre : (match (generalizing := false) a with | [.inr (.inr (11, th)), .inl d, .inl w] => pz_ic M | _ => False) := hpre
      split at hpre
      · exact ⟨_, _, _, rfl, hpre⟩
      · exact hpre.elim
    exact Nat.le_of_ble_eq_true rfl
  · intro a M hlen hcan hM hpre Ok hgo
    obtain ⟨th, d, w, rfl, hpre⟩ : ∃ th d w, a = [.inr (.inr (11, th)), .inl d, .inl w] ∧ (pz_ic M) := by
      have hpre : (match (generalizing := false) a with | [.inr (.inr (11, th)), .inl d, .inl w] => pz_ic M | _ => False) := hpre
      split at hpre
      · exact ⟨_, _, _, rfl, hpre⟩
      · exact hpre.elim
    obtain ⟨k_th, hc_th⟩ := pz_tlm hcan
    have k_th : pz_kd th = 11 ∧ th < 231 := k_th
    have R_th := pz_kd11 k_th.1
    subst R_th
    obtain ⟨k_d, hc_d⟩ := pz_tlm hc_th
    have l_d : -2147483648 ≤ d := k_d.1
    have u_d : d ≤ 2147483647 := k_d.2
    obtain ⟨k_w, hc_w⟩ := pz_tlm hc_d
    have l_w : -2147483648 ≤ w := k_w.1
    have u_w : w ≤ 2147483647 := k_w.2
    have hI : pz_ic M := hpre
    have hI0 := hI
    have hS : pq_pr pq_Pk M M := pq_pr.rf
    have L61 : ∀ (fu : Nat) (x3 : Int) (x4 : Int) (x5 : Int) (x6 : Int) (d7 : Option pz_V) (N61 : pz_M), (12 - x6).toNat < fu → (pq_pr pq_Pk M N61) → (0 ≤ x6) → ((1 ≤ d ∧ d ≤ 60) ∧ 0 ≤ w ∧ w ≤ 1) → (sd_wp M (fun ls F => pz_zs x5 (sd_bn F) ∧ sd_sp N61 ls F d.toNat ∧ sd_spE ls F d.toNat x3 x4 x6)) → Ok 61 [some (.inr (.inr (11, 0))), some (.inl d), some (.inl w), some (.inl x3), some (.inl x4), some (.inl x5), some (.inl x6), d7] [] N61 := by
      intro fu
      induction fu with
      | zero => exact fun _ _ _ _ _ _ hn => absurd hn (Nat.not_lt_zero _)
      | succ fu ih61 =>
        intro x3 x4 x5 x6 d7 N61 hn61 hS g61_1 g61_2 g61_3
        have hI : pz_ic N61 := hS.1 hI0
        have hS61 := hS
        have L119 : ∀ (x3 : Int) (x4 : Int) (x5 : Int) (x6 : Int) (d7 : Option pz_V) (N119 : pz_M), (pq_pr pq_Pk M N119) → (0 ≤ x6) → (x6 < 12) → ((12 - x6).toNat < fu + 1) → ((1 ≤ d ∧ d ≤ 60) ∧ 0 ≤ w ∧ w ≤ 1) → (sd_wp M (fun ls F => pz_zs x5 (sd_bn F) ∧ sd_sp N119 ls F d.toNat ∧ sd_spE ls F d.toNat x3 x4 (x6 + 1))) → Ok 119 [some (.inr (.inr (11, 0))), some (.inl d), some (.inl w), some (.inl x3), some (.inl x4), some (.inl x5), some (.inl x6), d7] [] N119 := by
          intro x3 x4 x5 x6 d7 N119 hS g119_1 g119_2 g119_3 g119_4 g119_5
          have hI : pz_ic N119 := hS.1 hI0
          refine hgo (fun p => Nat.beq p 61 || Nat.beq p 119) 71 119 _ _ _ ?_
          intro v119 e119 a119 b119
          rw [pz_wi (by first | decide | omega) (by first | decide | omega)] at e119
          have G61 : sd_wp M (fun ls F => pz_zs x5 (sd_bn F) ∧ sd_sp N119 ls F d.toNat ∧ sd_spE ls F d.toNat x3 x4 v119) := by
            rw [e119]
            assumption
          exact ih61 _ _ _ _ _ _ (by first | decide | omega) hS (by first | omega | assumption) (by first | omega | assumption) (by first | omega | assumption)
        refine hgo (fun p => Nat.beq p 61 || Nat.beq p 119) 71 61 _ _ _ ?_
        refine pz_nrc (c := 71) rfl ?_
        intro v67 e67 a67 b67
        have I67 := hI.1 71 (by first | decide | omega) (by first | decide | omega)
        refine And.intro (fun h70 => ?_) (fun h70 => ?_)
        · skip
          refine And.intro (fun h126 => ?_) (fun h126 => ?_)
          · skip
            refine And.intro rfl ?_
            refine ⟨fun ls l1 F hT hF hW => ?_, hS⟩
            obtain ⟨z1, z2, z3⟩ := (by assumption : sd_wp M (fun ls F => pz_zs x5 (sd_bn F) ∧ sd_sp N61 ls F d.toNat ∧ sd_spE ls F d.toNat x3 x4 x6)) ls l1 F hT hF hW
            have n8 := (sd_se_k hF hW hS).1
            have z := sd_spE_z z3 hW (by first | decide | omega)
            show _ = sd_spv ls F d w
            unfold sd_spv
            rw [if_pos (by first | decide | omega), ← z]
            first
              | (rw [if_pos (by first | decide | omega)]; done)
              | (rw [if_neg (by first | decide | omega)]; done)
          · skip
            refine And.intro rfl ?_
            refine ⟨fun ls l1 F hT hF hW => ?_, hS⟩
            obtain ⟨z1, z2, z3⟩ := (by assumption : sd_wp M (fun ls F => pz_zs x5 (sd_bn F) ∧ sd_sp N61 ls F d.toNat ∧ sd_spE ls F d.toNat x3 x4 x6)) ls l1 F hT hF hW
            have n8 := (sd_se_k hF hW hS).1
            have z := sd_spE_z z3 hW (by first | decide | omega)
            show _ = sd_spv ls F d w
            unfold sd_spv
            rw [if_pos (by first | decide | omega), ← z]
            first
              | (rw [if_pos (by first | decide | omega)]; done)
              | (rw [if_neg (by first | decide | omega)]; done)
        · skip
          refine pz_nrc (c := 71) rfl ?_
          refine And.intro (hI) ?_
          intro v79 M79 a79 b79 q79
          obtain ⟨q79, z79⟩ := q79
          subst z79
          refine And.intro (fun h82 => ?_) (fun h82 => ?_)
          · skip
            have G119 : sd_wp M (fun ls F => pz_zs x5 (sd_bn F) ∧ sd_sp N61 ls F d.toNat ∧ sd_spE ls F d.toNat x3 x4 (x6 + 1)) := fun ls l1 F t s w9 => by
              obtain ⟨z1, z2, z3⟩ := (by assumption : sd_wp M (fun ls F => pz_zs x5 (sd_bn F) ∧ sd_sp N61 ls F d.toNat ∧ sd_spE ls F d.toNat x3 x4 x6)) ls l1 F t s w9
              have s2 := sd_se_k s w9 hS61
              have n8 := s2.1
              have cb := q79.2 F s2 w9
              exact ⟨z1, z2, sd_spE_n z3 w9 (by first | decide | omega) rfl (fun z => absurd (cb.mpr ⟨by omega, z.1⟩) (by first | decide | omega))⟩
            exact L119 _ _ _ _ _ _ hS (by first | omega | assumption) (by first | omega | assumption) (by first | omega | assumption) (by first | omega | assumption) (by first | omega | assumption)
          · skip
            skip
            refine pz_nrc (c := 6) rfl ?_
            refine pz_nrc (c := 71) rfl ?_
            intro v98 e98 a98 b98
            intro v99 e99 a99 b99
            refine And.intro (hI) ?_
            intro v100 M100 a100 b100 q100
            obtain ⟨q100, z100⟩ := q100
            subst z100
            refine And.intro (fun h109 => ?_) (fun h109 => ?_)
            · skip
              have G119 : sd_wp M (fun ls F => pz_zs x5 (sd_bn F) ∧ sd_sp N61 ls F d.toNat ∧ sd_spE ls F d.toNat x3 x4 (x6 + 1)) := fun ls l1 F t s w9 => by
                obtain ⟨z1, z2, z3⟩ := (by assumption : sd_wp M (fun ls F => pz_zs x5 (sd_bn F) ∧ sd_sp N61 ls F d.toNat ∧ sd_spE ls F d.toNat x3 x4 x6)) ls l1 F t s w9
                have s2 := sd_se_k s w9 hS61
                have n8 := s2.1
                have cb := q79.2 F s2 w9
                have o := q100 rfl ls F d.toNat (sd_bi F x6.toNat) s2 w9 z2 (sd_bi_z z1 (by first | decide | omega) (by first | decide | omega) e98 e99)
                exact ⟨z1, z2, sd_spE_n z3 w9 (by first | decide | omega) rfl (fun z => by
                  have z2 := z.2
                  omega)⟩
              exact L119 _ _ _ _ _ _ hS (by first | omega | assumption) (by first | omega | assumption) (by first | omega | assumption) (by first | omega | assumption) (by first | omega | assumption)
            · skip
              have G119 : sd_wp M (fun ls F => pz_zs x5 (sd_bn F) ∧ sd_sp N61 ls F d.toNat ∧ sd_spE ls F d.toNat x6 v100 (x6 + 1)) := fun ls l1 F t s w9 => by
                obtain ⟨z1, z2, z3⟩ := (by assumption : sd_wp M (fun ls F => pz_zs x5 (sd_bn F) ∧ sd_sp N61 ls F d.toNat ∧ sd_spE ls F d.toNat x3 x4 x6)) ls l1 F t s w9
                have s2 := sd_se_k s w9 hS61
                have n8 := s2.1
                have cb := q79.2 F s2 w9
                have o := q100 rfl ls F d.toNat (sd_bi F x6.toNat) s2 w9 z2 (sd_bi_z z1 (by first | decide | omega) (by first | decide | omega) e98 e99)
                exact ⟨z1, z2, sd_spE_y z3 w9 (by first | decide | omega) rfl (cb.mp (by first | decide | omega)).2 o (by first | decide | omega)⟩
              exact L119 _ _ _ _ _ _ hS (by first | omega | assumption) (by first | omega | assumption) (by first | omega | assumption) (by first | omega | assumption) (by first | omega | assumption)
    refine hgo (fun p => Nat.beq p 61 || Nat.beq p 119) 71 0 _ [] M ?_
    refine And.intro (True.intro) ?_
    intro v4 M4 a4 b4 q4
    obtain ⟨q4, z4⟩ := q4
    subst z4
    refine And.intro (fun h7 => ?_) (fun h7 => ?_)
    · skip
      refine And.intro rfl ?_
      refine ⟨fun ls l1 F hT hF hW => ?_, hS⟩
      show _ = sd_spv ls F d w
      unfold sd_spv
      rw [if_neg (fun z => by
        first
          | (split at q4 <;> omega)
          | (split at q4 <;> split at q13 <;> omega)
          | omega)]
    · skip
      refine And.intro (True.intro) ?_
      intro v13 M13 a13 b13 q13
      obtain ⟨q13, z13⟩ := q13
      subst z13
      refine And.intro (fun h16 => ?_) (fun h16 => ?_)
      · skip
        have GP : (1 ≤ d ∧ d ≤ 60) ∧ 0 ≤ w ∧ w ≤ 1 := by
          split at q4 <;> split at q13 <;> omega
        refine pz_nrc (c := 71) rfl ?_
        refine And.intro (hI) ?_
        intro v30 M30 a30 b30 q30
        obtain ⟨q30, z30⟩ := q30
        subst z30
        refine pz_nrc (c := 6) rfl ?_
        refine pz_nrc (c := 71) rfl ?_
        refine And.intro (hI) ?_
        intro M44 q44
        obtain ⟨q44, z44⟩ := q44
        have hS : pq_pr pq_Pk M M44 := hS.tr z44
        have hI : pz_ic M44 := hS.1 hI0
        have hS44 := hS
        refine pz_nrc (c := 6) rfl ?_
        refine pz_nrc (c := 71) rfl ?_
        refine And.intro (hI) ?_
        intro M55 q55
        obtain ⟨q55, z55⟩ := q55
        have hS : pq_pr pq_Pk M M55 := hS.tr z55
        have hI : pz_ic M55 := hS.1 hI0
        have G61 : sd_wp M (fun ls F => pz_zs v30 (sd_bn F) ∧ sd_sp M55 ls F d.toNat ∧ sd_spE ls F d.toNat (-1) (-1) 0) := fun ls l1 F t s w9 => ⟨q30 F s w9, q55.2 rfl ls F d.toNat (sd_se_k s w9 hS44) w9 (q44 rfl (by first | decide | omega) ls l1 F t s w9).al, sd_spE_0 w9⟩
        exact L61 _ _ _ _ _ _ _ (Nat.lt_succ_self _) hS (by first | omega | assumption) (by first | omega | assumption) (by first | omega | assumption)
      · skip
        skip
        refine And.intro rfl ?_
        refine ⟨fun ls l1 F hT hF hW => ?_, hS⟩
        show _ = sd_spv ls F d w
        unfold sd_spv
        rw [if_neg (fun z => by
          first
            | (split at q4 <;> omega)
            | (split at q4 <;> split at q13 <;> omega)
            | omega)]
theorem v4_X11_split {fr lo i : Nat} {own : String} (h1 : 5 + 1 ≤ fr) (h2 : 8 + (8 + 11) + 120 ≤ lo) (h3 : .methodLink own i yX11_split ∈ lw_tbl) : pz_cV fr lo own i k4_X11_split :=
  pz_cVk (maxL := 8) (fr' := 5) (lo' := 120) 2 11 h4_X11_split rfl ⟨(pz_nhc_RX11 yX11_split rfl).1, (pz_nhc_RX11 yX11_split rfl).2, pz_ds10⟩ ⟨pz_wq1077, pz_wq1075, pz_wq1076, pz_wq1⟩ (Or.inl ⟨TX11, 14, rfl⟩) (fun a M _ h => by
    have h : (match (generalizing := false) a with | [.inr (.inr (11, th)), .inl d, .inl w] => pz_ic M | _ => False) := h
    split at h
    · exact ⟨_, _, rfl⟩
    · exact h.elim) h1 h2 h3
end
section
noncomputable def k4_X12_leastBy : pz_C := (3, 2, fun a M => (match a with | [.inr (.inr (12, th)), .inl x, .inl n] => pz_im M | _ => False), fun a M r M' => (match a, r with | [.inr (.inr (12, th)), .inl x, .inl n], some (.inr (.inl v)) => (∀ ls : List pz_lne, pq_wlw ls (M 60) → (∀ q ∈ ls, pv_ln q) → sd_wf (M 60) → 0 ≤ n → ∀ b : Nat → Bool, pz_zs x b → b 0 = false → v = sd_lsv ls (M 60) n.toNat b) ∧ pz_rl pz_QV M M' | _, _ => False))
noncomputable abbrev ct4_X12_leastBy : List (Bool × Nat × pz_C) := [(true, 294, k3_X12_endOf), (true, 415, k4_X12_allBy)]
set_option maxRecDepth 100000 in
set_option maxHeartbeats 4000000 in
theorem h4_X12_leastBy : pz_H yX12_leastBy cX12_leastBy 9 (some .long) k4_X12_leastBy 7 164 := by
  refine pz_mk (own := RX12) (tb := t_X12_leastBy) (fl := pz_flf fl_RX12) (ci := pz_cif ci_RX12) (ct := pz_ctf ct4_X12_leastBy) (rz := false) (pz_pfc_RX12 yX12_leastBy rfl) rfl t_X12_leastBy_ok (pz_flk fl_RX12_ok) (pz_cik ci_RX12_ok) ?_ ?_ (rfl) ?_ ?_
  · exact fun i k' h => pz_ctk (l := ct4_X12_leastBy) (P := fun b i k => b = true → pz_cV 7 164 RX12 i k) (List.forall_mem_cons.mpr ⟨(fun _ => v3_X12_endOf (by decide) (by decide) pz_wq1458), List.forall_mem_cons.mpr ⟨(fun _ => v4_X12_allBy (by decide) (by decide) pz_wq1617), fun _ h => absurd h List.not_mem_nil⟩⟩) true i k' h rfl
  · exact fun i k' h => pz_ctk (l := ct4_X12_leastBy) (P := fun b i k => b = false → (pz_cS 7 164 RX12 i k ∨ (k = pz_kac ∧ 1 ≤ 7 ∧ 60 ≤ 164 ∧ Cond.methodLink RX12 i arraycopyName ∈ pz_tbl))) (List.forall_mem_cons.mpr ⟨((fun z => by cases z)), List.forall_mem_cons.mpr ⟨((fun z => by cases z)), fun _ h => absurd h List.not_mem_nil⟩⟩) false i k' h rfl
  · intro a M hlen hpre
    obtain ⟨th, x, n, rfl, hpre⟩ : ∃ th x n, a = [.inr (.inr (12, th)), .inl x, .inl n] ∧ (pz_im M) := by
      have hpre : (match (generalizing := false) a with | [.inr (.inr (12, th)), .inl x, .inl n] => pz_im M | _ => False) := hpre
      split at hpre
      · exact ⟨_, _, _, rfl, hpre⟩
      · exact hpre.elim
    exact Nat.le_of_ble_eq_true rfl
  · intro a M hlen hcan hM hpre Ok hgo
    obtain ⟨th, x, n, rfl, hpre⟩ : ∃ th x n, a = [.inr (.inr (12, th)), .inl x, .inl n] ∧ (pz_im M) := by
      have hpre : (match (generalizing := false) a with | [.inr (.inr (12, th)), .inl x, .inl n] => pz_im M | _ => False) := hpre
      split at hpre
      · exact ⟨_, _, _, rfl, hpre⟩
      · exact hpre.elim
    obtain ⟨k_th, hc_th⟩ := pz_tlm hcan
    have k_th : pz_kd th = 12 ∧ th < 231 := k_th
    have R_th := pz_kd12 k_th.1
    subst R_th
    clear k_th
    obtain ⟨k_x, hc_x⟩ := pz_tlm hc_th
    have l_x : -2147483648 ≤ x := k_x.1
    have u_x : x ≤ 2147483647 := k_x.2
    obtain ⟨k_n, hc_n⟩ := pz_tlm hc_x
    have l_n : -2147483648 ≤ n := k_n.1
    have u_n : n ≤ 2147483647 := k_n.2
    have hI : pz_im M := hpre
    have hI0 := hI
    have hS : pz_rl pz_QV M M := pz_rl.rf
    have L7 : ∀ (fu : Nat) (x3 : Int) (x5 : Int) (d6 : Option pz_V) (d7 : Option pz_V) (d8 : Option pz_V) (N7 : pz_M), (12 - x5).toNat < fu → (pz_rl pz_QV M N7) → (0 ≤ x5) → (∀ ls : List pz_lne, pq_wlw ls (M 60) → (∀ q ∈ ls, pv_ln q) → sd_wf (M 60) → 0 ≤ n → ∀ b : Nat → Bool, pz_zs x b → b 0 = false → sd_lmE ls (M 60) n.toNat b x3 x5) → Ok 7 [some (.inr (.inr (12, 1))), some (.inl x), some (.inl n), some (.inr (.inl x3)), none, some (.inl x5), d6, d7, d8] [] N7 := by
      intro fu
      induction fu with
      | zero => exact fun _ _ _ _ _ _ hn => absurd hn (Nat.not_lt_zero _)
      | succ fu ih7 =>
        intro x3 x5 d6 d7 d8 N7 hn7 hS g7_1 g7_2
        have hI : pz_im N7 := hS.1 hI0
        have F88 : N7 60 88 = M 60 88 := hS.2 60 88 (by unfold pz_QV; first | decide | omega)
        have I88 := hI0.1.1
        have W7 : N7 60 = M 60 := funext fun j => hS.2 60 j (by unfold pz_QV; first | decide | omega)
        refine hgo (fun p => Nat.beq p 7) 49 7 _ _ _ ?_
        refine pz_nrc (c := 60) rfl ?_
        refine And.intro (by first | decide | omega) (And.intro (show _ < (1725 : Int) from by omega) ?_)
        intro v15 e15 a15 b15
        replace e15 : v15 = N7 60 88 := e15
        have I15 : 0 ≤ v15 ∧ v15 ≤ 12 := by
          rw [e15]
          exact hI.1.1
        clear a15 b15
        refine And.intro (fun h16 => ?_) (fun h16 => ?_)
        · skip
          refine And.intro rfl ?_
          refine ⟨fun ls hl hq hW hn b hb b0 => ?_, hS⟩
          obtain ⟨g1, g2⟩ := (by assumption : ∀ ls : List pz_lne, pq_wlw ls (M 60) → (∀ q ∈ ls, pv_ln q) → sd_wf (M 60) → 0 ≤ n → ∀ b : Nat → Bool, pz_zs x b → b 0 = false → sd_lmE ls (M 60) n.toNat b x3 x5) ls hl hq hW hn b hb b0
          rcases g2 with ⟨z1, z2⟩ | ⟨z1, z2, z3⟩
          · exact z2
          · exfalso
            omega
        · skip
          refine And.intro (And.intro hI (And.intro (by first | decide | omega) (by first | decide | omega))) ?_
          intro v23 M23 a23 b23 q23
          obtain ⟨q23, z23⟩ := q23
          subst z23
          rw [W7] at q23
          refine And.intro (And.intro hI (And.intro (by first | decide | omega) (by first | decide | omega))) ?_
          intro v34 M34 a34 b34 q34
          obtain ⟨q34, z34⟩ := q34
          have hS : pz_rl pz_QV M M34 := hS.tr z34
          have hI : pz_im M34 := hS.1 hI0
          have G88 : M34 60 88 = M 60 88 := hS.2 60 88 (by unfold pz_QV; first | decide | omega)
          rw [W7] at q34
          have G34 : ∀ ls : List pz_lne, pq_wlw ls (M 60) → (∀ q ∈ ls, pv_ln q) → sd_wf (M 60) → 0 ≤ n → ∀ b : Nat → Bool, pz_zs x b → b 0 = false → v34 = sd_o2 ls (M 60) n.toNat x5.toNat v23.toNat ∧ v23 = (sd_end b (sd_n (M 60)) x5.toNat : Int) := fun ls hl hq hW hn b hb b0 => by
            have e := q23.2 b hb (by first | decide | omega) (by first | decide | omega)
            refine ⟨?_, e⟩
            rw [q34 ls hl hq hW (by first | decide | omega) hn]
            unfold sd_o2
            rw [show (v23 + 1 - x5).toNat = v23.toNat + 1 - x5.toNat by omega]
          refine And.intro (fun h42 => ?_) ?_
          · skip
            refine And.intro (fun h43 => ?_) (fun h43 => ?_)
            · skip
              exact absurd h43 (by decide)
            · skip
              refine pz_nrc (c := 60) rfl ?_
              refine And.intro (by first | decide | omega) (And.intro (show _ < (1725 : Int) from by omega) ?_)
              intro v61 e61 a61 b61
              replace e61 : v61 = M34 60 88 := e61
              have I61 : 0 ≤ v61 ∧ v61 ≤ 12 := by
                rw [e61]
                exact hI.1.1
              clear a61 b61
              intro v63 e63 a63 b63
              rw [pz_wi (by first | decide | omega) (by first | decide | omega)] at e63
              clear a63 b63
              refine And.intro (fun h64 => ?_) (fun h64 => ?_)
              · skip
                first
                  | (have G7 : ∀ ls : List pz_lne, pq_wlw ls (M 60) → (∀ q ∈ ls, pv_ln q) → sd_wf (M 60) → 0 ≤ n → ∀ b : Nat → Bool, pz_zs x b → b 0 = false → sd_lmE ls (M 60) n.toNat b x3 v23 := fun ls hl hq hW hn b hb b0 => by
                      obtain ⟨p, e⟩ := (by assumption : ∀ ls : List pz_lne, pq_wlw ls (M 60) → (∀ q ∈ ls, pv_ln q) → sd_wf (M 60) → 0 ≤ n → ∀ b : Nat → Bool, pz_zs x b → b 0 = false → v34 = sd_o2 ls (M 60) n.toNat x5.toNat v23.toNat ∧ v23 = (sd_end b (sd_n (M 60)) x5.toNat : Int)) ls hl hq hW hn b hb b0
                      exact sd_lmE_s ((by assumption : ∀ ls : List pz_lne, pq_wlw ls (M 60) → (∀ q ∈ ls, pv_ln q) → sd_wf (M 60) → 0 ≤ n → ∀ b : Nat → Bool, pz_zs x b → b 0 = false → sd_lmE ls (M 60) n.toNat b x3 x5) ls hl hq hW hn b hb b0) hW b0 (by first | decide | omega) (by first | decide | omega) e p (by first | decide | omega) (Or.inr ⟨by omega, rfl⟩))
                  | (have G7 : ∀ ls : List pz_lne, pq_wlw ls (M 60) → (∀ q ∈ ls, pv_ln q) → sd_wf (M 60) → 0 ≤ n → ∀ b : Nat → Bool, pz_zs x b → b 0 = false → sd_lmE ls (M 60) n.toNat b v34 v23 := fun ls hl hq hW hn b hb b0 => by
                      obtain ⟨p, e⟩ := (by assumption : ∀ ls : List pz_lne, pq_wlw ls (M 60) → (∀ q ∈ ls, pv_ln q) → sd_wf (M 60) → 0 ≤ n → ∀ b : Nat → Bool, pz_zs x b → b 0 = false → v34 = sd_o2 ls (M 60) n.toNat x5.toNat v23.toNat ∧ v23 = (sd_end b (sd_n (M 60)) x5.toNat : Int)) ls hl hq hW hn b hb b0
                      exact sd_lmE_s ((by assumption : ∀ ls : List pz_lne, pq_wlw ls (M 60) → (∀ q ∈ ls, pv_ln q) → sd_wf (M 60) → 0 ≤ n → ∀ b : Nat → Bool, pz_zs x b → b 0 = false → sd_lmE ls (M 60) n.toNat b x3 x5) ls hl hq hW hn b hb b0) hW b0 (by first | decide | omega) (by first | decide | omega) e p (by first | decide | omega) (Or.inr ⟨by omega, rfl⟩))
                exact ih7 _ _ _ _ _ _ (by first | decide | omega) hS (by first | omega | assumption | exact fun ls hl hq hW hn b hb b0 => sd_lmE_0 hW) (by first | omega | assumption | exact fun ls hl hq hW hn b hb b0 => sd_lmE_0 hW)
              · skip
                skip
                refine pz_nrc (c := 60) rfl ?_
                refine And.intro (by first | decide | omega) (And.intro (show _ < (1725 : Int) from by omega) ?_)
                intro v73 e73 a73 b73
                replace e73 : v73 = M34 60 88 := e73
                have I73 : 0 ≤ v73 ∧ v73 ≤ 12 := by
                  rw [e73]
                  exact hI.1.1
                clear a73 b73
                first
                  | (have G7 : ∀ ls : List pz_lne, pq_wlw ls (M 60) → (∀ q ∈ ls, pv_ln q) → sd_wf (M 60) → 0 ≤ n → ∀ b : Nat → Bool, pz_zs x b → b 0 = false → sd_lmE ls (M 60) n.toNat b x3 v73 := fun ls hl hq hW hn b hb b0 => by
                      obtain ⟨p, e⟩ := (by assumption : ∀ ls : List pz_lne, pq_wlw ls (M 60) → (∀ q ∈ ls, pv_ln q) → sd_wf (M 60) → 0 ≤ n → ∀ b : Nat → Bool, pz_zs x b → b 0 = false → v34 = sd_o2 ls (M 60) n.toNat x5.toNat v23.toNat ∧ v23 = (sd_end b (sd_n (M 60)) x5.toNat : Int)) ls hl hq hW hn b hb b0
                      exact sd_lmE_s ((by assumption : ∀ ls : List pz_lne, pq_wlw ls (M 60) → (∀ q ∈ ls, pv_ln q) → sd_wf (M 60) → 0 ≤ n → ∀ b : Nat → Bool, pz_zs x b → b 0 = false → sd_lmE ls (M 60) n.toNat b x3 x5) ls hl hq hW hn b hb b0) hW b0 (by first | decide | omega) (by first | decide | omega) e p (by first | decide | omega) (Or.inl ⟨by omega, by omega⟩))
                  | (have G7 : ∀ ls : List pz_lne, pq_wlw ls (M 60) → (∀ q ∈ ls, pv_ln q) → sd_wf (M 60) → 0 ≤ n → ∀ b : Nat → Bool, pz_zs x b → b 0 = false → sd_lmE ls (M 60) n.toNat b v34 v73 := fun ls hl hq hW hn b hb b0 => by
                      obtain ⟨p, e⟩ := (by assumption : ∀ ls : List pz_lne, pq_wlw ls (M 60) → (∀ q ∈ ls, pv_ln q) → sd_wf (M 60) → 0 ≤ n → ∀ b : Nat → Bool, pz_zs x b → b 0 = false → v34 = sd_o2 ls (M 60) n.toNat x5.toNat v23.toNat ∧ v23 = (sd_end b (sd_n (M 60)) x5.toNat : Int)) ls hl hq hW hn b hb b0
                      exact sd_lmE_s ((by assumption : ∀ ls : List pz_lne, pq_wlw ls (M 60) → (∀ q ∈ ls, pv_ln q) → sd_wf (M 60) → 0 ≤ n → ∀ b : Nat → Bool, pz_zs x b → b 0 = false → sd_lmE ls (M 60) n.toNat b x3 x5) ls hl hq hW hn b hb b0) hW b0 (by first | decide | omega) (by first | decide | omega) e p (by first | decide | omega) (Or.inl ⟨by omega, by omega⟩))
                exact ih7 _ _ _ _ _ _ (by first | decide | omega) hS (by first | omega | assumption | exact fun ls hl hq hW hn b hb b0 => sd_lmE_0 hW) (by first | omega | assumption | exact fun ls hl hq hW hn b hb b0 => sd_lmE_0 hW)
          refine And.intro (fun h42 => ?_) ?_
          · skip
            refine And.intro (fun h43 => ?_) (fun h43 => ?_)
            · skip
              refine pz_nrc (c := 60) rfl ?_
              refine And.intro (by first | decide | omega) (And.intro (show _ < (1725 : Int) from by omega) ?_)
              intro v61 e61 a61 b61
              replace e61 : v61 = M34 60 88 := e61
              have I61 : 0 ≤ v61 ∧ v61 ≤ 12 := by
                rw [e61]
                exact hI.1.1
              clear a61 b61
              intro v63 e63 a63 b63
              rw [pz_wi (by first | decide | omega) (by first | decide | omega)] at e63
              clear a63 b63
              refine And.intro (fun h64 => ?_) (fun h64 => ?_)
              · skip
                first
                  | (have G7 : ∀ ls : List pz_lne, pq_wlw ls (M 60) → (∀ q ∈ ls, pv_ln q) → sd_wf (M 60) → 0 ≤ n → ∀ b : Nat → Bool, pz_zs x b → b 0 = false → sd_lmE ls (M 60) n.toNat b x3 v23 := fun ls hl hq hW hn b hb b0 => by
                      obtain ⟨p, e⟩ := (by assumption : ∀ ls : List pz_lne, pq_wlw ls (M 60) → (∀ q ∈ ls, pv_ln q) → sd_wf (M 60) → 0 ≤ n → ∀ b : Nat → Bool, pz_zs x b → b 0 = false → v34 = sd_o2 ls (M 60) n.toNat x5.toNat v23.toNat ∧ v23 = (sd_end b (sd_n (M 60)) x5.toNat : Int)) ls hl hq hW hn b hb b0
                      exact sd_lmE_s ((by assumption : ∀ ls : List pz_lne, pq_wlw ls (M 60) → (∀ q ∈ ls, pv_ln q) → sd_wf (M 60) → 0 ≤ n → ∀ b : Nat → Bool, pz_zs x b → b 0 = false → sd_lmE ls (M 60) n.toNat b x3 x5) ls hl hq hW hn b hb b0) hW b0 (by first | decide | omega) (by first | decide | omega) e p (by first | decide | omega) (Or.inr ⟨by omega, rfl⟩))
                  | (have G7 : ∀ ls : List pz_lne, pq_wlw ls (M 60) → (∀ q ∈ ls, pv_ln q) → sd_wf (M 60) → 0 ≤ n → ∀ b : Nat → Bool, pz_zs x b → b 0 = false → sd_lmE ls (M 60) n.toNat b v34 v23 := fun ls hl hq hW hn b hb b0 => by
                      obtain ⟨p, e⟩ := (by assumption : ∀ ls : List pz_lne, pq_wlw ls (M 60) → (∀ q ∈ ls, pv_ln q) → sd_wf (M 60) → 0 ≤ n → ∀ b : Nat → Bool, pz_zs x b → b 0 = false → v34 = sd_o2 ls (M 60) n.toNat x5.toNat v23.toNat ∧ v23 = (sd_end b (sd_n (M 60)) x5.toNat : Int)) ls hl hq hW hn b hb b0
                      exact sd_lmE_s ((by assumption : ∀ ls : List pz_lne, pq_wlw ls (M 60) → (∀ q ∈ ls, pv_ln q) → sd_wf (M 60) → 0 ≤ n → ∀ b : Nat → Bool, pz_zs x b → b 0 = false → sd_lmE ls (M 60) n.toNat b x3 x5) ls hl hq hW hn b hb b0) hW b0 (by first | decide | omega) (by first | decide | omega) e p (by first | decide | omega) (Or.inr ⟨by omega, rfl⟩))
                exact ih7 _ _ _ _ _ _ (by first | decide | omega) hS (by first | omega | assumption | exact fun ls hl hq hW hn b hb b0 => sd_lmE_0 hW) (by first | omega | assumption | exact fun ls hl hq hW hn b hb b0 => sd_lmE_0 hW)
              · skip
                skip
                refine pz_nrc (c := 60) rfl ?_
                refine And.intro (by first | decide | omega) (And.intro (show _ < (1725 : Int) from by omega) ?_)
                intro v73 e73 a73 b73
                replace e73 : v73 = M34 60 88 := e73
                have I73 : 0 ≤ v73 ∧ v73 ≤ 12 := by
                  rw [e73]
                  exact hI.1.1
                clear a73 b73
                first
                  | (have G7 : ∀ ls : List pz_lne, pq_wlw ls (M 60) → (∀ q ∈ ls, pv_ln q) → sd_wf (M 60) → 0 ≤ n → ∀ b : Nat → Bool, pz_zs x b → b 0 = false → sd_lmE ls (M 60) n.toNat b x3 v73 := fun ls hl hq hW hn b hb b0 => by
                      obtain ⟨p, e⟩ := (by assumption : ∀ ls : List pz_lne, pq_wlw ls (M 60) → (∀ q ∈ ls, pv_ln q) → sd_wf (M 60) → 0 ≤ n → ∀ b : Nat → Bool, pz_zs x b → b 0 = false → v34 = sd_o2 ls (M 60) n.toNat x5.toNat v23.toNat ∧ v23 = (sd_end b (sd_n (M 60)) x5.toNat : Int)) ls hl hq hW hn b hb b0
                      exact sd_lmE_s ((by assumption : ∀ ls : List pz_lne, pq_wlw ls (M 60) → (∀ q ∈ ls, pv_ln q) → sd_wf (M 60) → 0 ≤ n → ∀ b : Nat → Bool, pz_zs x b → b 0 = false → sd_lmE ls (M 60) n.toNat b x3 x5) ls hl hq hW hn b hb b0) hW b0 (by first | decide | omega) (by first | decide | omega) e p (by first | decide | omega) (Or.inl ⟨by omega, by omega⟩))
                  | (have G7 : ∀ ls : List pz_lne, pq_wlw ls (M 60) → (∀ q ∈ ls, pv_ln q) → sd_wf (M 60) → 0 ≤ n → ∀ b : Nat → Bool, pz_zs x b → b 0 = false → sd_lmE ls (M 60) n.toNat b v34 v73 := fun ls hl hq hW hn b hb b0 => by
                      obtain ⟨p, e⟩ := (by assumption : ∀ ls : List pz_lne, pq_wlw ls (M 60) → (∀ q ∈ ls, pv_ln q) → sd_wf (M 60) → 0 ≤ n → ∀ b : Nat → Bool, pz_zs x b → b 0 = false → v34 = sd_o2 ls (M 60) n.toNat x5.toNat v23.toNat ∧ v23 = (sd_end b (sd_n (M 60)) x5.toNat : Int)) ls hl hq hW hn b hb b0
                      exact sd_lmE_s ((by assumption : ∀ ls : List pz_lne, pq_wlw ls (M 60) → (∀ q ∈ ls, pv_ln q) → sd_wf (M 60) → 0 ≤ n → ∀ b : Nat → Bool, pz_zs x b → b 0 = false → sd_lmE ls (M 60) n.toNat b x3 x5) ls hl hq hW hn b hb b0) hW b0 (by first | decide | omega) (by first | decide | omega) e p (by first | decide | omega) (Or.inl ⟨by omega, by omega⟩))
                exact ih7 _ _ _ _ _ _ (by first | decide | omega) hS (by first | omega | assumption | exact fun ls hl hq hW hn b hb b0 => sd_lmE_0 hW) (by first | omega | assumption | exact fun ls hl hq hW hn b hb b0 => sd_lmE_0 hW)
            · skip
              exact absurd h43 (by decide)
          intro h42
          refine And.intro (fun h43 => ?_) (fun h43 => ?_)
          · skip
            refine pz_nrc (c := 60) rfl ?_
            refine And.intro (by first | decide | omega) (And.intro (show _ < (1725 : Int) from by omega) ?_)
            intro v61 e61 a61 b61
            replace e61 : v61 = M34 60 88 := e61
            have I61 : 0 ≤ v61 ∧ v61 ≤ 12 := by
              rw [e61]
              exact hI.1.1
            clear a61 b61
            intro v63 e63 a63 b63
            rw [pz_wi (by first | decide | omega) (by first | decide | omega)] at e63
            clear a63 b63
            refine And.intro (fun h64 => ?_) (fun h64 => ?_)
            · skip
              first
                | (have G7 : ∀ ls : List pz_lne, pq_wlw ls (M 60) → (∀ q ∈ ls, pv_ln q) → sd_wf (M 60) → 0 ≤ n → ∀ b : Nat → Bool, pz_zs x b → b 0 = false → sd_lmE ls (M 60) n.toNat b x3 v23 := fun ls hl hq hW hn b hb b0 => by
                    obtain ⟨p, e⟩ := (by assumption : ∀ ls : List pz_lne, pq_wlw ls (M 60) → (∀ q ∈ ls, pv_ln q) → sd_wf (M 60) → 0 ≤ n → ∀ b : Nat → Bool, pz_zs x b → b 0 = false → v34 = sd_o2 ls (M 60) n.toNat x5.toNat v23.toNat ∧ v23 = (sd_end b (sd_n (M 60)) x5.toNat : Int)) ls hl hq hW hn b hb b0
                    exact sd_lmE_s ((by assumption : ∀ ls : List pz_lne, pq_wlw ls (M 60) → (∀ q ∈ ls, pv_ln q) → sd_wf (M 60) → 0 ≤ n → ∀ b : Nat → Bool, pz_zs x b → b 0 = false → sd_lmE ls (M 60) n.toNat b x3 x5) ls hl hq hW hn b hb b0) hW b0 (by first | decide | omega) (by first | decide | omega) e p (by first | decide | omega) (Or.inr ⟨by omega, rfl⟩))
                | (have G7 : ∀ ls : List pz_lne, pq_wlw ls (M 60) → (∀ q ∈ ls, pv_ln q) → sd_wf (M 60) → 0 ≤ n → ∀ b : Nat → Bool, pz_zs x b → b 0 = false → sd_lmE ls (M 60) n.toNat b v34 v23 := fun ls hl hq hW hn b hb b0 => by
                    obtain ⟨p, e⟩ := (by assumption : ∀ ls : List pz_lne, pq_wlw ls (M 60) → (∀ q ∈ ls, pv_ln q) → sd_wf (M 60) → 0 ≤ n → ∀ b : Nat → Bool, pz_zs x b → b 0 = false → v34 = sd_o2 ls (M 60) n.toNat x5.toNat v23.toNat ∧ v23 = (sd_end b (sd_n (M 60)) x5.toNat : Int)) ls hl hq hW hn b hb b0
                    exact sd_lmE_s ((by assumption : ∀ ls : List pz_lne, pq_wlw ls (M 60) → (∀ q ∈ ls, pv_ln q) → sd_wf (M 60) → 0 ≤ n → ∀ b : Nat → Bool, pz_zs x b → b 0 = false → sd_lmE ls (M 60) n.toNat b x3 x5) ls hl hq hW hn b hb b0) hW b0 (by first | decide | omega) (by first | decide | omega) e p (by first | decide | omega) (Or.inr ⟨by omega, rfl⟩))
              exact ih7 _ _ _ _ _ _ (by first | decide | omega) hS (by first | omega | assumption | exact fun ls hl hq hW hn b hb b0 => sd_lmE_0 hW) (by first | omega | assumption | exact fun ls hl hq hW hn b hb b0 => sd_lmE_0 hW)
            · skip
              skip
              refine pz_nrc (c := 60) rfl ?_
              refine And.intro (by first | decide | omega) (And.intro (show _ < (1725 : Int) from by omega) ?_)
              intro v73 e73 a73 b73
              replace e73 : v73 = M34 60 88 := e73
              have I73 : 0 ≤ v73 ∧ v73 ≤ 12 := by
                rw [e73]
                exact hI.1.1
              clear a73 b73
              first
                | (have G7 : ∀ ls : List pz_lne, pq_wlw ls (M 60) → (∀ q ∈ ls, pv_ln q) → sd_wf (M 60) → 0 ≤ n → ∀ b : Nat → Bool, pz_zs x b → b 0 = false → sd_lmE ls (M 60) n.toNat b x3 v73 := fun ls hl hq hW hn b hb b0 => by
                    obtain ⟨p, e⟩ := (by assumption : ∀ ls : List pz_lne, pq_wlw ls (M 60) → (∀ q ∈ ls, pv_ln q) → sd_wf (M 60) → 0 ≤ n → ∀ b : Nat → Bool, pz_zs x b → b 0 = false → v34 = sd_o2 ls (M 60) n.toNat x5.toNat v23.toNat ∧ v23 = (sd_end b (sd_n (M 60)) x5.toNat : Int)) ls hl hq hW hn b hb b0
                    exact sd_lmE_s ((by assumption : ∀ ls : List pz_lne, pq_wlw ls (M 60) → (∀ q ∈ ls, pv_ln q) → sd_wf (M 60) → 0 ≤ n → ∀ b : Nat → Bool, pz_zs x b → b 0 = false → sd_lmE ls (M 60) n.toNat b x3 x5) ls hl hq hW hn b hb b0) hW b0 (by first | decide | omega) (by first | decide | omega) e p (by first | decide | omega) (Or.inl ⟨by omega, by omega⟩))
                | (have G7 : ∀ ls : List pz_lne, pq_wlw ls (M 60) → (∀ q ∈ ls, pv_ln q) → sd_wf (M 60) → 0 ≤ n → ∀ b : Nat → Bool, pz_zs x b → b 0 = false → sd_lmE ls (M 60) n.toNat b v34 v73 := fun ls hl hq hW hn b hb b0 => by
                    obtain ⟨p, e⟩ := (by assumption : ∀ ls : List pz_lne, pq_wlw ls (M 60) → (∀ q ∈ ls, pv_ln q) → sd_wf (M 60) → 0 ≤ n → ∀ b : Nat → Bool, pz_zs x b → b 0 = false → v34 = sd_o2 ls (M 60) n.toNat x5.toNat v23.toNat ∧ v23 = (sd_end b (sd_n (M 60)) x5.toNat : Int)) ls hl hq hW hn b hb b0
                    exact sd_lmE_s ((by assumption : ∀ ls : List pz_lne, pq_wlw ls (M 60) → (∀ q ∈ ls, pv_ln q) → sd_wf (M 60) → 0 ≤ n → ∀ b : Nat → Bool, pz_zs x b → b 0 = false → sd_lmE ls (M 60) n.toNat b x3 x5) ls hl hq hW hn b hb b0) hW b0 (by first | decide | omega) (by first | decide | omega) e p (by first | decide | omega) (Or.inl ⟨by omega, by omega⟩))
              exact ih7 _ _ _ _ _ _ (by first | decide | omega) hS (by first | omega | assumption | exact fun ls hl hq hW hn b hb b0 => sd_lmE_0 hW) (by first | omega | assumption | exact fun ls hl hq hW hn b hb b0 => sd_lmE_0 hW)
          · skip
            exact absurd h43 (by decide)
    refine hgo (fun p => Nat.beq p 7) 49 0 _ [] M ?_
    exact L7 _ _ _ _ _ _ _ (Nat.lt_succ_self _) hS (by first | omega | assumption | exact fun ls hl hq hW hn b hb b0 => sd_lmE_0 hW) (by first | omega | assumption | exact fun ls hl hq hW hn b hb b0 => sd_lmE_0 hW)
theorem v4_X12_leastBy {fr lo i : Nat} {own : String} (h1 : 7 + 1 ≤ fr) (h2 : 8 + (9 + 11) + 164 ≤ lo) (h3 : .methodLink own i yX12_leastBy ∈ lw_tbl) : pz_cV fr lo own i k4_X12_leastBy :=
  pz_cVk (maxL := 9) (fr' := 7) (lo' := 164) 2 12 h4_X12_leastBy rfl ⟨(pz_nhc_RX12 yX12_leastBy rfl).1, (pz_nhc_RX12 yX12_leastBy rfl).2, pz_ds11⟩ ⟨pz_wq1660, pz_wq1659, pz_ws77, pz_wq13⟩ (Or.inl ⟨TX12, 28, rfl⟩) (fun a M _ h => by
    have h : (match (generalizing := false) a with | [.inr (.inr (12, th)), .inl x, .inl n] => pz_im M | _ => False) := h
    split at h
    · exact ⟨_, _, rfl⟩
    · exact h.elim) h1 h2 h3
noncomputable def k4_X12_split : pz_C := (3, 1, fun a M => (match a with | [.inr (.inr (12, th)), .inl n, .inl w] => pz_im M | _ => False), fun a M r M' => (match a, r with | [.inr (.inr (12, th)), .inl n, .inl w], some (.inl v) => (sd_wm M v (fun ls F => sd_spv ls F n w)) ∧ pz_rl pz_QV M M' | _, _ => False))
noncomputable abbrev ct4_X12_split : List (Bool × Nat × pz_C) := [(false, 54, k_X12_isIn), (true, 336, k3_X12_canBridge), (true, 291, k3_X12_bridgedOnes), (true, 427, k4_X12_leastBy)]
set_option maxRecDepth 100000 in
set_option maxHeartbeats 4000000 in
theorem h4_X12_split : pz_H yX12_split cX12_split 9 (some .int) k4_X12_split 8 192 := by
  refine pz_mk (own := RX12) (tb := t_X12_split) (fl := pz_flf fl_RX12) (ci := pz_cif ci_RX12) (ct := pz_ctf ct4_X12_split) (rz := false) (pz_pfc_RX12 yX12_split rfl) rfl t_X12_split_ok (pz_flk fl_RX12_ok) (pz_cik ci_RX12_ok) ?_ ?_ (Or.inl ⟨rfl, rfl⟩) ?_ ?_
  · exact fun i k' h => pz_ctk (l := ct4_X12_split) (P := fun b i k => b = true → pz_cV 8 192 RX12 i k) (List.forall_mem_cons.mpr ⟨((fun z => by cases z)), List.forall_mem_cons.mpr ⟨(fun _ => v3_X12_canBridge (by decide) (by decide) pz_wq1491), List.forall_mem_cons.mpr ⟨(fun _ => v3_X12_bridgedOnes (by decide) (by decide) pz_wq1454), List.forall_mem_cons.mpr ⟨(fun _ => v4_X12_leastBy (by decide) (by decide) pz_wq1657), fun _ h => absurd h List.not_mem_nil⟩⟩⟩⟩) true i k' h rfl
  · exact fun i k' h => pz_ctk (l := ct4_X12_split) (P := fun b i k => b = false → (pz_cS 8 192 RX12 i k ∨ (k = pz_kac ∧ 1 ≤ 8 ∧ 60 ≤ 192 ∧ Cond.methodLink RX12 i arraycopyName ∈ pz_tbl))) (List.forall_mem_cons.mpr ⟨(fun _ => Or.inl (s_X12_isIn (by decide) (by decide) (Or.inl pz_wq1217))), List.forall_mem_cons.mpr ⟨((fun z => by cases z)), List.forall_mem_cons.mpr ⟨((fun z => by cases z)), List.forall_mem_cons.mpr ⟨((fun z => by cases z)), fun _ h => absurd h List.not_mem_nil⟩⟩⟩⟩) false i k' h rfl
  · intro a M hlen hpre
    obtain ⟨th, n, w, rfl, hpre⟩ : ∃ th n w, a = [.inr (.inr (12, th)), .inl n, .inl w] ∧ (pz_im M) := by
      have hpre : (match (generalizing := false) a with | [.inr (.inr (12, th)), .inl n, .inl w] => pz_im M | _ => False) := hpre
      split at hpre
      · exact ⟨_, _, _, rfl, hpre⟩
      · exact hpre.elim
    exact Nat.le_of_ble_eq_true rfl
  · intro a M hlen hcan hM hpre Ok hgo
    obtain ⟨th, n, w, rfl, hpre⟩ : ∃ th n w, a = [.inr (.inr (12, th)), .inl n, .inl w] ∧ (pz_im M) := by
      have hpre : (match (generalizing := false) a with | [.inr (.inr (12, th)), .inl n, .inl w] => pz_im M | _ => False) := hpre
      split at hpre
      · exact ⟨_, _, _, rfl, hpre⟩
      · exact hpre.elim
    obtain ⟨k_th, hc_th⟩ := pz_tlm hcan
    have k_th : pz_kd th = 12 ∧ th < 231 := k_th
    have R_th := pz_kd12 k_th.1
    subst R_th
    clear k_th
    obtain ⟨k_n, hc_n⟩ := pz_tlm hc_th
    have l_n : -2147483648 ≤ n := k_n.1
    have u_n : n ≤ 2147483647 := k_n.2
    obtain ⟨k_w, hc_w⟩ := pz_tlm hc_n
    have l_w : -2147483648 ≤ w := k_w.1
    have u_w : w ≤ 2147483647 := k_w.2
    have hI : pz_im M := hpre
    have hI0 := hI
    have hS : pz_rl pz_QV M M := pz_rl.rf
    have I88 := hI.1.1
    have L31 : ∀ (fu : Nat) (x3 : Int) (x4 : Int) (x6 : Int) (d7 : Option pz_V) (d8 : Option pz_V) (N31 : pz_M), (12 - x6).toNat < fu → (pz_rl pz_QV M N31) → (0 ≤ x6) → ((1 ≤ n ∧ n ≤ 60) ∧ 0 ≤ w ∧ w ≤ 1) → (∀ ls : List pz_lne, pq_wlw ls (M 60) → (∀ q ∈ ls, pv_ln q) → sd_wf (M 60) → sd_spE ls (M 60) n.toNat x3 x4 x6) → Ok 31 [some (.inr (.inr (12, 1))), some (.inl n), some (.inl w), some (.inl x3), some (.inr (.inl x4)), none, some (.inl x6), d7, d8] [] N31 := by
      intro fu
      induction fu with
      | zero => exact fun _ _ _ _ _ _ hn => absurd hn (Nat.not_lt_zero _)
      | succ fu ih31 =>
        intro x3 x4 x6 d7 d8 N31 hn31 hS g31_1 g31_2 g31_3
        have hI : pz_im N31 := hS.1 hI0
        have W31 : N31 60 = M 60 := funext fun j => hS.2 60 j (by unfold pz_QV; first | decide | omega)
        have L92 : ∀ (x3 : Int) (x4 : Int) (x6 : Int) (x7 : Int) (N92 : pz_M), (pz_rl pz_QV M N92) → (0 ≤ x6) → (x6 < 12) → ((12 - x6).toNat < fu + 1) → ((1 ≤ n ∧ n ≤ 60) ∧ 0 ≤ w ∧ w ≤ 1) → (x6 < M 60 88) → (∀ ls : List pz_lne, pq_wlw ls (M 60) → (∀ q ∈ ls, pv_ln q) → sd_wf (M 60) → sd_spE ls (M 60) n.toNat x3 x4 (x6 + 1)) → Ok 92 [some (.inr (.inr (12, 1))), some (.inl n), some (.inl w), some (.inl x3), some (.inr (.inl x4)), none, some (.inl x6), some (.inr (.inl x7)), none] [] N92 := by
          intro x3 x4 x6 x7 N92 hS g92_1 g92_2 g92_3 g92_4 g92_5 g92_6
          have hI : pz_im N92 := hS.1 hI0
          refine hgo (fun p => Nat.beq p 31 || Nat.beq p 72 || Nat.beq p 92) 63 92 _ _ _ ?_
          intro v92 e92 a92 b92
          rw [pz_wi (by first | decide | omega) (by first | decide | omega)] at e92
          have G31 : ∀ ls : List pz_lne, pq_wlw ls (M 60) → (∀ q ∈ ls, pv_ln q) → sd_wf (M 60) → sd_spE ls (M 60) n.toNat x3 x4 v92 := by
            rw [e92]
            assumption
          exact ih31 _ _ _ _ _ _ (by first | decide | omega) hS (by first | omega | assumption | exact fun ls hl hq hW => sd_spE_0 hW) (by first | omega | assumption | exact fun ls hl hq hW => sd_spE_0 hW) (by first | omega | assumption | exact fun ls hl hq hW => sd_spE_0 hW)
        have L72 : ∀ (x3 : Int) (x4 : Int) (x6 : Int) (d7 : Option pz_V) (d8 : Option pz_V) (s0 : Int) (N72 : pz_M), (pz_rl pz_QV M N72) → (0 ≤ x6) → (x6 < 12) → ((12 - x6).toNat < fu + 1) → ((1 ≤ n ∧ n ≤ 60) ∧ 0 ≤ w ∧ w ≤ 1) → (x6 < M 60 88) → (∀ ls : List pz_lne, pq_wlw ls (M 60) → (∀ q ∈ ls, pv_ln q) → sd_wf (M 60) → sd_spE ls (M 60) n.toNat x3 x4 x6 ∧ ((sd_cb (M 60) x6.toNat ∧ s0 = sd_lsv ls (M 60) n.toNat (sd_bi (M 60) x6.toNat)) ∨ (¬ sd_cb (M 60) x6.toNat ∧ s0 = -1))) → Ok 72 [some (.inr (.inr (12, 1))), some (.inl n), some (.inl w), some (.inl x3), some (.inr (.inl x4)), none, some (.inl x6), d7, d8] [.inr (.inl s0)] N72 := by
          intro x3 x4 x6 d7 d8 s0 N72 hS g72_1 g72_2 g72_3 g72_4 g72_5 g72_6
          have hI : pz_im N72 := hS.1 hI0
          refine hgo (fun p => Nat.beq p 31 || Nat.beq p 72 || Nat.beq p 92) 63 72 _ _ _ ?_
          refine And.intro (fun h78 => ?_) ?_
          · skip
            refine And.intro (fun h79 => ?_) (fun h79 => ?_)
            · skip
              exact absurd h79 (by decide)
            · skip
              have G92 : ∀ ls : List pz_lne, pq_wlw ls (M 60) → (∀ q ∈ ls, pv_ln q) → sd_wf (M 60) → sd_spE ls (M 60) n.toNat x3 x4 (x6 + 1) := fun ls hl hq hW => by
                obtain ⟨g, c⟩ := (by assumption : ∀ ls : List pz_lne, pq_wlw ls (M 60) → (∀ q ∈ ls, pv_ln q) → sd_wf (M 60) → sd_spE ls (M 60) n.toNat x3 x4 x6 ∧ ((sd_cb (M 60) x6.toNat ∧ s0 = sd_lsv ls (M 60) n.toNat (sd_bi (M 60) x6.toNat)) ∨ (¬ sd_cb (M 60) x6.toNat ∧ s0 = -1))) ls hl hq hW
                exact sd_spE_n g hW (by first | decide | omega) rfl (fun z => c.elim (fun c => by
                  have c2 := c.2
                  have z2 := z.2
                  omega) (fun c => c.1 z.1))
              exact L92 _ _ _ _ _ hS (by first | omega | assumption) (by first | omega | assumption) (by first | omega | assumption) (by first | omega | assumption) (by first | omega | assumption) (by first | omega | assumption)
          refine And.intro (fun h78 => ?_) ?_
          · skip
            refine And.intro (fun h79 => ?_) (fun h79 => ?_)
            · skip
              exact absurd h79 (by decide)
            · skip
              have G92 : ∀ ls : List pz_lne, pq_wlw ls (M 60) → (∀ q ∈ ls, pv_ln q) → sd_wf (M 60) → sd_spE ls (M 60) n.toNat x3 x4 (x6 + 1) := fun ls hl hq hW => by
                obtain ⟨g, c⟩ := (by assumption : ∀ ls : List pz_lne, pq_wlw ls (M 60) → (∀ q ∈ ls, pv_ln q) → sd_wf (M 60) → sd_spE ls (M 60) n.toNat x3 x4 x6 ∧ ((sd_cb (M 60) x6.toNat ∧ s0 = sd_lsv ls (M 60) n.toNat (sd_bi (M 60) x6.toNat)) ∨ (¬ sd_cb (M 60) x6.toNat ∧ s0 = -1))) ls hl hq hW
                exact sd_spE_n g hW (by first | decide | omega) rfl (fun z => c.elim (fun c => by
                  have c2 := c.2
                  have z2 := z.2
                  omega) (fun c => c.1 z.1))
              exact L92 _ _ _ _ _ hS (by first | omega | assumption) (by first | omega | assumption) (by first | omega | assumption) (by first | omega | assumption) (by first | omega | assumption) (by first | omega | assumption)
          intro h78
          refine And.intro (fun h79 => ?_) (fun h79 => ?_)
          · skip
            have G92 : ∀ ls : List pz_lne, pq_wlw ls (M 60) → (∀ q ∈ ls, pv_ln q) → sd_wf (M 60) → sd_spE ls (M 60) n.toNat x6 s0 (x6 + 1) := fun ls hl hq hW => by
              obtain ⟨g, c⟩ := (by assumption : ∀ ls : List pz_lne, pq_wlw ls (M 60) → (∀ q ∈ ls, pv_ln q) → sd_wf (M 60) → sd_spE ls (M 60) n.toNat x3 x4 x6 ∧ ((sd_cb (M 60) x6.toNat ∧ s0 = sd_lsv ls (M 60) n.toNat (sd_bi (M 60) x6.toNat)) ∨ (¬ sd_cb (M 60) x6.toNat ∧ s0 = -1))) ls hl hq hW
              have g2 := g.2.1
              exact c.elim (fun c => sd_spE_y g hW (by first | decide | omega) rfl c.1 c.2 (by first | decide | omega)) (fun c => by
                have c2 := c.2
                exfalso
                omega)
            exact L92 _ _ _ _ _ hS (by first | omega | assumption) (by first | omega | assumption) (by first | omega | assumption) (by first | omega | assumption) (by first | omega | assumption) (by first | omega | assumption)
          · skip
            exact absurd h79 (by decide)
        refine hgo (fun p => Nat.beq p 31 || Nat.beq p 72 || Nat.beq p 92) 63 31 _ _ _ ?_
        refine pz_nrc (c := 60) rfl ?_
        refine And.intro (by first | decide | omega) (And.intro (show _ < (1725 : Int) from by omega) ?_)
        intro v39 e39 a39 b39
        replace e39 : v39 = N31 60 88 := e39
        have I39 : 0 ≤ v39 ∧ v39 ≤ 12 := by
          rw [e39]
          exact hI.1.1
        clear a39 b39
        rw [W31] at e39
        refine And.intro (fun h40 => ?_) (fun h40 => ?_)
        · skip
          refine And.intro (fun h100 => ?_) (fun h100 => ?_)
          · skip
            refine And.intro rfl ?_
            refine ⟨fun ls hl hq hW => ?_, hS⟩
            have hm := hW.1
            show _ = sd_spv ls (M 60) n w
            have g := (by assumption : ∀ ls : List pz_lne, pq_wlw ls (M 60) → (∀ q ∈ ls, pv_ln q) → sd_wf (M 60) → sd_spE ls (M 60) n.toNat x3 x4 x6) ls hl hq hW
            have z := sd_spE_z g hW (by first | decide | omega)
            have g2 := g.2.1
            unfold sd_spv
            rw [if_pos (by first | decide | omega), ← z]
            first
              | (rw [if_pos (by first | decide | omega)]; done)
              | (rw [if_neg (by first | decide | omega), e113, pz_wi (by first | decide | omega) (by first | decide | omega)]; done)
              | (by_cases ww : w = 0
                 · rw [if_pos ww]
                 · rw [if_neg ww]
                   show x3 = x4
                   omega)
          · skip
            refine And.intro (fun h104 => ?_) (fun h104 => ?_)
            · skip
              replace h104 : 1 ≤ w := by omega
              intro v113 e113 a113 b113
              refine And.intro rfl ?_
              refine ⟨fun ls hl hq hW => ?_, hS⟩
              have hm := hW.1
              show _ = sd_spv ls (M 60) n w
              have g := (by assumption : ∀ ls : List pz_lne, pq_wlw ls (M 60) → (∀ q ∈ ls, pv_ln q) → sd_wf (M 60) → sd_spE ls (M 60) n.toNat x3 x4 x6) ls hl hq hW
              have z := sd_spE_z g hW (by first | decide | omega)
              have g2 := g.2.1
              unfold sd_spv
              rw [if_pos (by first | decide | omega), ← z]
              first
                | (rw [if_pos (by first | decide | omega)]; done)
                | (rw [if_neg (by first | decide | omega), e113, pz_wi (by first | decide | omega) (by first | decide | omega)]; done)
                | (by_cases ww : w = 0
                   · rw [if_pos ww]
                   · rw [if_neg ww]
                     show x3 = x4
                     omega)
            · skip
              refine And.intro rfl ?_
              refine ⟨fun ls hl hq hW => ?_, hS⟩
              have hm := hW.1
              show _ = sd_spv ls (M 60) n w
              have g := (by assumption : ∀ ls : List pz_lne, pq_wlw ls (M 60) → (∀ q ∈ ls, pv_ln q) → sd_wf (M 60) → sd_spE ls (M 60) n.toNat x3 x4 x6) ls hl hq hW
              have z := sd_spE_z g hW (by first | decide | omega)
              have g2 := g.2.1
              unfold sd_spv
              rw [if_pos (by first | decide | omega), ← z]
              first
                | (rw [if_pos (by first | decide | omega)]; done)
                | (rw [if_neg (by first | decide | omega), e113, pz_wi (by first | decide | omega) (by first | decide | omega)]; done)
                | (by_cases ww : w = 0
                   · rw [if_pos ww]
                   · rw [if_neg ww]
                     show x3 = x4
                     omega)
        · skip
          refine And.intro (hI) ?_
          intro v46 M46 a46 b46 q46
          obtain ⟨q46, z46⟩ := q46
          subst z46
          clear a46 b46
          rw [W31] at q46
          refine And.intro (fun h49 => ?_) (fun h49 => ?_)
          · skip
            have G72 : ∀ ls : List pz_lne, pq_wlw ls (M 60) → (∀ q ∈ ls, pv_ln q) → sd_wf (M 60) → sd_spE ls (M 60) n.toNat x3 x4 x6 ∧ ((sd_cb (M 60) x6.toNat ∧ (-1 : Int) = sd_lsv ls (M 60) n.toNat (sd_bi (M 60) x6.toNat)) ∨ (¬ sd_cb (M 60) x6.toNat ∧ (-1 : Int) = -1)) := fun ls hl hq hW => by
              refine ⟨(by assumption : ∀ ls : List pz_lne, pq_wlw ls (M 60) → (∀ q ∈ ls, pv_ln q) → sd_wf (M 60) → sd_spE ls (M 60) n.toNat x3 x4 x6) ls hl hq hW, Or.inr ⟨fun z => ?_, rfl⟩⟩
              rw [show (52 + x6).toNat = 52 + x6.toNat by omega, show (76 + x6).toNat = 76 + x6.toNat by omega, show (64 + x6).toNat = 64 + x6.toNat by omega] at q46
              unfold sd_cb sd_in at z
              omega
            replace q46 := q46.resolve_left (fun z => absurd (z.1.symm.trans h49) (by decide))
            exact L72 _ _ _ _ _ _ _ hS (by first | omega | assumption) (by first | omega | assumption) (by first | omega | assumption) (by first | omega | assumption) (by first | omega | assumption) (by first | omega | assumption)
          · skip
            skip
            replace q46 := q46.resolve_right (fun z => h49 z.1)
            refine And.intro (hI) ?_
            intro v54 M54 a54 b54 q54
            obtain ⟨q54, z54⟩ := q54
            subst z54
            rw [W31] at q54
            intro v60 e60 a60 b60
            intro v61 e61 a61 b61
            refine And.intro (hI) ?_
            intro v63 M63 a63 b63 q63
            obtain ⟨q63, z63⟩ := q63
            have hS : pz_rl pz_QV M M63 := hS.tr z63
            have hI : pz_im M63 := hS.1 hI0
            rw [W31] at q63
            have G72 : ∀ ls : List pz_lne, pq_wlw ls (M 60) → (∀ q ∈ ls, pv_ln q) → sd_wf (M 60) → sd_spE ls (M 60) n.toNat x3 x4 x6 ∧ ((sd_cb (M 60) x6.toNat ∧ v63 = sd_lsv ls (M 60) n.toNat (sd_bi (M 60) x6.toNat)) ∨ (¬ sd_cb (M 60) x6.toNat ∧ v63 = -1)) := fun ls hl hq hW => by
              have c : sd_cb (M 60) x6.toNat := by
                rw [show (52 + x6).toNat = 52 + x6.toNat by omega, show (76 + x6).toNat = 76 + x6.toNat by omega, show (64 + x6).toNat = 64 + x6.toNat by omega] at q46
                unfold sd_cb sd_in
                omega
              exact ⟨(by assumption : ∀ ls : List pz_lne, pq_wlw ls (M 60) → (∀ q ∈ ls, pv_ln q) → sd_wf (M 60) → sd_spE ls (M 60) n.toNat x3 x4 x6) ls hl hq hW, Or.inl ⟨c, q63 ls hl hq hW (by first | decide | omega) _ (sd_bi_z q54 (by first | decide | omega) (by first | decide | omega) e60 e61) (sd_bi_0 hW c)⟩⟩
            exact L72 _ _ _ _ _ _ _ hS (by first | omega | assumption) (by first | omega | assumption) (by first | omega | assumption) (by first | omega | assumption) (by first | omega | assumption) (by first | omega | assumption)
    refine hgo (fun p => Nat.beq p 31 || Nat.beq p 72 || Nat.beq p 92) 63 0 _ [] M ?_
    refine And.intro (True.intro) ?_
    intro v4 M4 a4 b4 q4
    obtain ⟨q4, z4⟩ := q4
    subst z4
    clear a4 b4
    refine And.intro (fun h7 => ?_) (fun h7 => ?_)
    · skip
      replace q4 := q4.resolve_left (fun z => absurd (z.1.symm.trans h7) (by decide))
      clear h7
      refine And.intro rfl ?_
      refine ⟨fun ls hl hq hW => ?_, hS⟩
      have hm := hW.1
      show _ = sd_spv ls (M 60) n w
      unfold sd_spv
      rw [if_neg (by first | decide | omega)]
    · skip
      replace q4 := q4.resolve_right (fun z => h7 z.1)
      clear h7
      refine And.intro (True.intro) ?_
      intro v13 M13 a13 b13 q13
      obtain ⟨q13, z13⟩ := q13
      subst z13
      clear a13 b13
      refine And.intro (fun h16 => ?_) (fun h16 => ?_)
      · skip
        have GP : (1 ≤ n ∧ n ≤ 60) ∧ 0 ≤ w ∧ w ≤ 1 := by omega
        replace q13 := q13.resolve_right (fun z => h16 z.1)
        clear h16
        exact L31 _ _ _ _ _ _ _ (Nat.lt_succ_self _) hS (by first | omega | assumption | exact fun ls hl hq hW => sd_spE_0 hW) (by first | omega | assumption | exact fun ls hl hq hW => sd_spE_0 hW) (by first | omega | assumption | exact fun ls hl hq hW => sd_spE_0 hW)
      · skip
        skip
        replace q13 := q13.resolve_left (fun z => absurd (z.1.symm.trans h16) (by decide))
        clear h16
        refine And.intro rfl ?_
        refine ⟨fun ls hl hq hW => ?_, hS⟩
        have hm := hW.1
        show _ = sd_spv ls (M 60) n w
        unfold sd_spv
        rw [if_neg (by first | decide | omega)]
theorem v4_X12_split {fr lo i : Nat} {own : String} (h1 : 8 + 1 ≤ fr) (h2 : 8 + (9 + 11) + 192 ≤ lo) (h3 : .methodLink own i yX12_split ∈ lw_tbl) : pz_cV fr lo own i k4_X12_split :=
  pz_cVk (maxL := 9) (fr' := 8) (lo' := 192) 2 12 h4_X12_split rfl ⟨(pz_nhc_RX12 yX12_split rfl).1, (pz_nhc_RX12 yX12_split rfl).2, pz_ds10⟩ ⟨pz_wq1655, pz_wq1653, pz_wq1654, pz_wq13⟩ (Or.inl ⟨TX12, 28, rfl⟩) (fun a M _ h => by
    have h : (match (generalizing := false) a with | [.inr (.inr (12, th)), .inl n, .inl w] => pz_im M | _ => False) := h
    split at h
    · exact ⟨_, _, rfl⟩
    · exact h.elim) h1 h2 h3
end
section
/-! the subsets of a set, in their order -/
theorem sd_and2 {x y a b : Nat} (ha : a < 2) (hb : b < 2) : (2 * x + a) &&& (2 * y + b) = 2 * (x &&& y) + (if a = 1 ∧ b = 1 then 1 else 0) := by
  have d : ((2 * x + a) &&& (2 * y + b)) / 2 = x &&& y := by
    rw [Nat.and_div_two, show (2 * x + a) / 2 = x by omega, show (2 * y + b) / 2 = y by omega]
  have m : ((2 * x + a) &&& (2 * y + b)) % 2 = 1 ↔ (2 * x + a) % 2 = 1 ∧ (2 * y + b) % 2 = 1 := Nat.and_mod_two_eq_one
  generalize (2 * x + a) &&& (2 * y + b) = z at d m ⊢
  generalize x &&& y = w at d ⊢
  by_cases q : a = 1 ∧ b = 1
  · rw [if_pos q]
    have m1 := m.mpr ⟨by omega, by omega⟩
    omega
  · rw [if_neg q]
    have m1 : ¬ z % 2 = 1 := fun h => q (by
      have m2 := m.mp h
      omega)
    omega
def sd_dep : Nat → Nat → Nat → Nat
  | 0, _, _ => 0
  | k + 1, C, r => if C % 2 = 1 then 2 * sd_dep k (C / 2) (r / 2) + r % 2 else 2 * sd_dep k (C / 2) r
def sd_pc : Nat → Nat → Nat
  | 0, _ => 0
  | k + 1, C => C % 2 + sd_pc k (C / 2)
theorem sd_dep_1 {k C r : Nat} (h : C % 2 = 1) : sd_dep (k + 1) C r = 2 * sd_dep k (C / 2) (r / 2) + r % 2 := if_pos h
theorem sd_dep_0 {k C r : Nat} (h : ¬ C % 2 = 1) : sd_dep (k + 1) C r = 2 * sd_dep k (C / 2) r := if_neg h
theorem sd_dep_le : ∀ k C r : Nat, sd_dep k C r ≤ C := by
  intro k
  induction k with
  | zero => exact fun C r => Nat.zero_le _
  | succ k ih =>
    intro C r
    by_cases q : C % 2 = 1
    · rw [sd_dep_1 q]
      have := ih (C / 2) (r / 2)
      omega
    · rw [sd_dep_0 q]
      have := ih (C / 2) r
      omega
theorem sd_tpw {k n : Nat} (h : k ≤ n) : 2 ^ k ≤ 2 ^ n := Nat.pow_le_pow_right (by decide) h
theorem sd_depQ : ∀ k N C r : Nat, k ≤ N → C < 2 ^ k → (sd_dep k C r + (2 ^ N - 1 - C)) &&& C = sd_dep k C r := by
  intro k
  induction k with
  | zero =>
    intro N C r _ hC
    rw [show C = 0 by rw [Nat.pow_zero] at hC; omega, Nat.and_zero]
    rfl
  | succ k ih =>
    intro N C r hN hC
    obtain ⟨N', rfl⟩ : ∃ N', N = N' + 1 := ⟨N - 1, by omega⟩
    rw [Nat.pow_succ] at hC
    have hP := sd_tpw (show k ≤ N' by omega)
    have i1 := ih N' (C / 2) (r / 2) (by first | decide | omega) (by first | decide | omega)
    have i2 := ih N' (C / 2) r (by first | decide | omega) (by first | decide | omega)
    rw [Nat.pow_succ]
    generalize 2 ^ N' = P at hP i1 i2 ⊢
    generalize 2 ^ k = K at hP hC
    by_cases q : C % 2 = 1
    · rw [sd_dep_1 q]
      have e := sd_and2 (x := sd_dep k (C / 2) (r / 2) + (P - 1 - C / 2)) (y := C / 2) (a := r % 2) (b := 1) (by first | decide | omega) (by first | decide | omega)
      rw [show 2 * (sd_dep k (C / 2) (r / 2) + (P - 1 - C / 2)) + r % 2 = 2 * sd_dep k (C / 2) (r / 2) + r % 2 + (P * 2 - 1 - C) by omega, show 2 * (C / 2) + 1 = C by omega, i1] at e
      rw [e]
      by_cases b : r % 2 = 1
      · rw [if_pos ⟨b, rfl⟩, b]
      · rw [if_neg (fun z => b z.1)]
        omega
    · rw [sd_dep_0 q]
      have e := sd_and2 (x := sd_dep k (C / 2) r + (P - 1 - C / 2)) (y := C / 2) (a := 1) (b := 0) (by first | decide | omega) (by first | decide | omega)
      rw [show 2 * (sd_dep k (C / 2) r + (P - 1 - C / 2)) + 1 = 2 * sd_dep k (C / 2) r + (P * 2 - 1 - C) by omega, show 2 * (C / 2) + 0 = C by omega, i2, if_neg (by decide)] at e
      exact e
theorem sd_depP : ∀ k N C r : Nat, k ≤ N → C < 2 ^ k → (sd_dep k C r + (2 ^ N - C)) &&& C = sd_dep k C (r + 1) := by
  intro k
  induction k with
  | zero =>
    intro N C r _ hC
    rw [show C = 0 by rw [Nat.pow_zero] at hC; omega, Nat.and_zero]
    rfl
  | succ k ih =>
    intro N C r hN hC
    obtain ⟨N', rfl⟩ : ∃ N', N = N' + 1 := ⟨N - 1, by omega⟩
    rw [Nat.pow_succ] at hC
    have hP := sd_tpw (show k ≤ N' by omega)
    have i1 := ih N' (C / 2) (r / 2) (by first | decide | omega) (by first | decide | omega)
    have i2 := ih N' (C / 2) r (by first | decide | omega) (by first | decide | omega)
    have i3 := sd_depQ k N' (C / 2) (r / 2) (by first | decide | omega) (by first | decide | omega)
    rw [Nat.pow_succ]
    generalize 2 ^ N' = P at hP i1 i2 i3 ⊢
    generalize 2 ^ k = K at hP hC
    by_cases q : C % 2 = 1
    · rw [sd_dep_1 q, sd_dep_1 q]
      by_cases b : r % 2 = 1
      · have e := sd_and2 (x := sd_dep k (C / 2) (r / 2) + (P - C / 2)) (y := C / 2) (a := 0) (b := 1) (by first | decide | omega) (by first | decide | omega)
        rw [show 2 * (sd_dep k (C / 2) (r / 2) + (P - C / 2)) + 0 = 2 * sd_dep k (C / 2) (r / 2) + r % 2 + (P * 2 - C) by omega, show 2 * (C / 2) + 1 = C by omega, i1, if_neg (by decide)] at e
        rw [e, show (r + 1) / 2 = r / 2 + 1 by omega, show (r + 1) % 2 = 0 by omega]
      · have e := sd_and2 (x := sd_dep k (C / 2) (r / 2) + (P - 1 - C / 2)) (y := C / 2) (a := 1) (b := 1) (by first | decide | omega) (by first | decide | omega)
        rw [show 2 * (sd_dep k (C / 2) (r / 2) + (P - 1 - C / 2)) + 1 = 2 * sd_dep k (C / 2) (r / 2) + r % 2 + (P * 2 - C) by omega, show 2 * (C / 2) + 1 = C by omega, i3, if_pos ⟨rfl, rfl⟩] at e
        rw [e, show (r + 1) / 2 = r / 2 by omega, show (r + 1) % 2 = 1 by omega]
    · rw [sd_dep_0 q, sd_dep_0 q]
      have e := sd_and2 (x := sd_dep k (C / 2) r + (P - C / 2)) (y := C / 2) (a := 0) (b := 0) (by first | decide | omega) (by first | decide | omega)
      rw [show 2 * (sd_dep k (C / 2) r + (P - C / 2)) + 0 = 2 * sd_dep k (C / 2) r + (P * 2 - C) by omega, show 2 * (C / 2) + 0 = C by omega, i2, if_neg (by decide)] at e
      exact e
theorem sd_dep_m : ∀ k C r t : Nat, r < t → t < 2 ^ sd_pc k C → sd_dep k C r < sd_dep k C t := by
  intro k
  induction k with
  | zero =>
    intro C r t h1 h2
    have h2 : t < 1 := h2
    omega
  | succ k ih =>
    intro C r t h1 h2
    have h2 : t < 2 ^ (C % 2 + sd_pc k (C / 2)) := h2
    by_cases q : C % 2 = 1
    · rw [sd_dep_1 q, sd_dep_1 q]
      rw [q, Nat.add_comm, Nat.pow_succ] at h2
      by_cases b : r / 2 < t / 2
      · have i := ih (C / 2) (r / 2) (t / 2) b (by first | decide | omega)
        omega
      · rw [show t / 2 = r / 2 by omega]
        omega
    · rw [sd_dep_0 q, sd_dep_0 q]
      rw [show C % 2 = 0 by omega, Nat.zero_add] at h2
      have i := ih (C / 2) r t h1 h2
      omega
theorem sd_dep_x : ∀ k C u : Nat, C < 2 ^ k → (∀ j, u.testBit j = true → C.testBit j = true) → ∃ r, r < 2 ^ sd_pc k C ∧ sd_dep k C r = u := by
  intro k
  induction k with
  | zero =>
    intro C u hC h
    rw [Nat.pow_zero] at hC
    refine ⟨0, by show 0 < 1; decide, ?_⟩
    refine (Nat.eq_of_testBit_eq (fun j => ?_)).symm
    show u.testBit j = Nat.testBit 0 j
    rw [Nat.zero_testBit]
    cases q : u.testBit j with
    | false => rfl
    | true =>
      have c := h j q
      rw [show C = 0 by omega, Nat.zero_testBit] at c
      exact c.symm
  | succ k ih =>
    intro C u hC h
    rw [Nat.pow_succ] at hC
    obtain ⟨r, h1, h2⟩ := ih (C / 2) (u / 2) (by first | decide | omega) (fun j hj => by
      rw [Nat.testBit_div_two] at hj ⊢
      exact h (j + 1) hj)
    have h0 : u % 2 = 1 → C % 2 = 1 := fun z => by
      have c := h 0 (by rw [Nat.testBit_zero]; exact decide_eq_true z)
      rw [Nat.testBit_zero] at c
      exact of_decide_eq_true c
    by_cases q : C % 2 = 1
    · refine ⟨2 * r + u % 2, ?_, ?_⟩
      · show 2 * r + u % 2 < 2 ^ (C % 2 + sd_pc k (C / 2))
        rw [q, Nat.add_comm 1, Nat.pow_succ]
        omega
      · rw [sd_dep_1 q, show (2 * r + u % 2) / 2 = r by omega, h2]
        omega
    · refine ⟨r, ?_, ?_⟩
      · show r < 2 ^ (C % 2 + sd_pc k (C / 2))
        rw [show C % 2 = 0 by omega, Nat.zero_add]
        exact h1
      · rw [sd_dep_0 q, h2]
        omega
theorem sd_dep_s {C r : Nat} (hC : C < 4096) : ∀ j, (sd_dep 12 C r).testBit j = true → C.testBit j = true := fun j hj => by
  rw [← sd_depQ 12 12 C r (Nat.le_refl _) hC, Nat.testBit_and] at hj
  exact (Bool.and_eq_true _ _ ▸ hj).2
/-- the machine's step to the next subset -/
theorem sd_nxt {s C : Nat} {v w : Int} {r : Nat} (hC : C < 4096) (hs : s = sd_dep 12 C r) (hv : v = pz_w ((s : Int) - (C : Int))) (hw : w = (Int32.ofInt v &&& Int32.ofInt (C : Int)).toInt) : w = (sd_dep 12 C (r + 1) : Int) := by
  have le := sd_dep_le 12 C r
  rw [pz_wi (by first | decide | omega) (by first | decide | omega)] at hv
  have p : (2 : Nat) ^ 32 = 4294967296 := rfl
  have n1 : (Int32.ofInt v).toBitVec.toNat = (s + (4294967296 - C)) % 4294967296 := by
    show (BitVec.ofInt 32 v).toNat = _
    have e : ((2 ^ 32 : Nat) : Int) = 4294967296 := rfl
    rw [BitVec.toNat_ofInt, hv, e]
    omega
  have e := sd_depP 12 32 C r (by decide) hC
  rw [← hs, p] at e
  have n2 : (Int32.ofInt v &&& Int32.ofInt (C : Int)).toBitVec.toNat = sd_dep 12 C (r + 1) := by
    show ((Int32.ofInt v).toBitVec &&& (Int32.ofInt (C : Int)).toBitVec).toNat = _
    rw [BitVec.toNat_and, pz_n12s hC, n1, ← e]
    by_cases q : s = C
    · rw [q, show C + (4294967296 - C) = 4294967296 by omega, Nat.mod_self, ← p]
      refine Nat.eq_of_testBit_eq (fun j => ?_)
      rw [Nat.testBit_and, Nat.testBit_and, Nat.zero_testBit, Bool.false_and]
      by_cases y : j < 12
      · rw [Nat.testBit_two_pow_of_ne (by first | decide | omega), Bool.false_and]
      · rw [Nat.testBit_lt_two_pow (x := C) (Nat.lt_of_lt_of_le hC (sd_tpw (k := 12) (n := j) (by first | decide | omega))), Bool.and_false]
    · rw [Nat.mod_eq_of_lt (by first | decide | omega)]
  have le2 := sd_dep_le 12 C (r + 1)
  rw [hw, pz_i32_n n2 (by first | decide | omega)]
/-- a set out of its bits -/
def sd_cK : Nat → (Nat → Bool) → Nat
  | 0, _ => 0
  | k + 1, f => 2 * sd_cK k (fun j => f (j + 1)) + (if f 0 = true then 1 else 0)
theorem sd_cK_b : ∀ (k : Nat) (f : Nat → Bool), sd_cK k f < 2 ^ k ∧ ∀ j, j < k → (sd_cK k f).testBit j = f j := by
  intro k
  induction k with
  | zero => exact fun f => ⟨by show 0 < 1; decide, fun j hj => absurd hj (Nat.not_lt_zero _)⟩
  | succ k ih =>
    intro f
    obtain ⟨h1, h2⟩ := ih (fun j => f (j + 1))
    have e : sd_cK (k + 1) f = 2 * sd_cK k (fun j => f (j + 1)) + (if f 0 = true then 1 else 0) := rfl
    have b : (if f 0 = true then 1 else 0) < 2 := by split <;> omega
    refine ⟨?_, fun j hj => ?_⟩
    · rw [e, Nat.pow_succ]
      omega
    · cases j with
      | zero =>
        rw [Nat.testBit_zero, e]
        cases q : f 0 with
        | false => exact decide_eq_false (by rw [if_neg (by decide)]; omega)
        | true => exact decide_eq_true (by rw [if_pos rfl]; omega)
      | succ j =>
        rw [Nat.testBit_succ, show sd_cK (k + 1) f / 2 = sd_cK k (fun j => f (j + 1)) by rw [e]; omega]
        exact h2 j (by first | decide | omega)
def sd_cC (F : Nat → Int) : Nat := sd_cK 12 (fun k => decide (sd_cb F k))
theorem sd_cC_l {F : Nat → Int} : sd_cC F < 4096 := (sd_cK_b 12 _).1
theorem sd_cC_t {F : Nat → Int} (w : sd_wf F) : ∀ k, (sd_cC F).testBit k = decide (sd_cb F k) := fun k => by
  by_cases q : k < 12
  · exact (sd_cK_b 12 (fun k => decide (sd_cb F k))).2 k q
  · have m := w.1
    rw [decide_eq_false (fun z => by
      have z1 := z.1
      omega)]
    exact Nat.testBit_lt_two_pow (Nat.lt_of_lt_of_le sd_cC_l (sd_tpw (k := 12) (n := k) (by first | decide | omega)))
theorem sd_cC_z {F : Nat → Int} {v : Int} (w : sd_wf F) (h : pz_zs v (fun k => decide (sd_cb F k))) : v = (sd_cC F : Int) := pz_sb_ext h ⟨sd_cC F, rfl, sd_cC_l, sd_cC_t w⟩ (fun _ => rfl)
/-- how many -/
theorem sd_cnt_0 {f : Nat → Bool} : ∀ k, pz_cnt f (k + 1) = (if f 0 = true then 1 else 0) + pz_cnt (fun j => f (j + 1)) k := by
  intro k
  induction k with
  | zero =>
    show 0 + (if f 0 = true then 1 else 0) = (if f 0 = true then 1 else 0) + 0
    omega
  | succ k ih =>
    show pz_cnt f (k + 1) + (if f (k + 1) = true then 1 else 0) = (if f 0 = true then 1 else 0) + (pz_cnt (fun j => f (j + 1)) k + (if f (k + 1) = true then 1 else 0))
    rw [ih]
    omega
theorem sd_pc_c : ∀ k C : Nat, (sd_pc k C : Int) = pz_cnt C.testBit k := by
  intro k
  induction k with
  | zero => exact fun C => rfl
  | succ k ih =>
    intro C
    rw [sd_cnt_0, Nat.testBit_zero]
    have e : (fun j => C.testBit (j + 1)) = (C / 2).testBit := funext fun j => (Nat.testBit_div_two C j).symm
    rw [e, ← ih (C / 2)]
    show ((C % 2 + sd_pc k (C / 2) : Nat) : Int) = _
    by_cases q : C % 2 = 1
    · rw [decide_eq_true q, if_pos rfl]
      omega
    · rw [decide_eq_false q, if_neg (by decide)]
      omega
theorem sd_pc_l {C : Nat} : sd_pc 12 C ≤ 12 := by
  have a := sd_pc_c 12 C
  have b := pz_cnt_b (f := C.testBit) 12
  omega
/-- what BRIDGES cost; the best of the first r subsets -/
def sd_cs (ls : List pz_lne) (F : Nat → Int) (u : Nat) : Nat → Int
  | 0 => 0
  | m + 1 => sd_cs ls F u m + (if u.testBit m = true then sd_co ls F m else 0)
theorem sd_cs_b {ls : List pz_lne} {F : Nat → Int} {u : Nat} : ∀ m : Nat, 0 ≤ sd_cs ls F u m ∧ sd_cs ls F u m ≤ 99 * (m : Int) := by
  intro m
  induction m with
  | zero => exact ⟨Int.le_refl _, Int.le_refl _⟩
  | succ m ih =>
    have c := sd_co_b (ls := ls) (F := F) (i := m)
    show 0 ≤ sd_cs ls F u m + _ ∧ sd_cs ls F u m + _ ≤ 99 * ((m + 1 : Nat) : Int)
    split <;> omega
def sd_cst (ls : List pz_lne) (F : Nat → Int) (u : Nat) : Int := sd_cs ls F u (sd_n F)
theorem sd_cst_b {ls : List pz_lne} {F : Nat → Int} {u : Nat} (w : sd_wf F) : 0 ≤ sd_cst ls F u ∧ sd_cst ls F u ≤ 1188 := by
  have b := sd_cs_b (ls := ls) (F := F) (u := u) (sd_n F)
  have k := sd_n_i w
  have m := w.1
  unfold sd_cst
  omega
def sd_bu (F : Nat → Int) (u : Nat) : Nat → Bool := fun k => sd_bn F k || u.testBit k
abbrev sd_btr (ls : List pz_lne) (F : Nat → Int) (u : Nat) (b : Int) : Prop := b = -1 ∨ sd_cst ls F u < sd_cst ls F b.toNat ∨ (sd_cst ls F u = sd_cst ls F b.toNat ∧ pz_cnt u.testBit 12 < pz_cnt b.toNat.testBit 12)
def sd_bs (ls : List pz_lne) (F : Nat → Int) (d : Nat) (h : Int) (u : Nat) (b : Int) : Int := if h ≤ sd_lsv ls F d (sd_bu F u) ∧ sd_btr ls F u b then (u : Int) else b
def sd_bf (ls : List pz_lne) (F : Nat → Int) (d : Nat) (h : Int) (C : Nat) : Nat → Int
  | 0 => -1
  | r + 1 => sd_bs ls F d h (sd_dep 12 C r) (sd_bf ls F d h C r)
theorem sd_bf_b {ls : List pz_lne} {F : Nat → Int} {d : Nat} {h : Int} {C : Nat} : ∀ r, -1 ≤ sd_bf ls F d h C r ∧ sd_bf ls F d h C r ≤ (C : Int) := by
  intro r
  induction r with
  | zero => exact ⟨Int.le_refl _, by show (-1 : Int) ≤ C; omega⟩
  | succ r ih =>
    have l := sd_dep_le 12 C r
    show -1 ≤ sd_bs ls F d h (sd_dep 12 C r) (sd_bf ls F d h C r) ∧ sd_bs ls F d h (sd_dep 12 C r) (sd_bf ls F d h C r) ≤ (C : Int)
    unfold sd_bs
    split <;> omega
def sd_bbe (ls : List pz_lne) (F : Nat → Int) (d : Nat) (h : Int) : Int := sd_bf ls F d h (sd_cC F) (2 ^ sd_pc 12 (sd_cC F))
def sd_brv (ls : List pz_lne) (F : Nat → Int) (d h w : Int) : Int := if (1 ≤ d ∧ d ≤ 60) ∧ (0 ≤ h ∧ h ≤ 1000000) ∧ 0 ≤ w ∧ w ≤ 1 then (if sd_bbe ls F d.toNat h = -1 ∨ w = 1 then sd_bbe ls F d.toNat h else pz_w (d * sd_cst ls F (sd_bbe ls F d.toNat h).toNat)) else -1
theorem sd_bu_0 {F : Nat → Int} {u : Nat} (w : sd_wf F) (hu : ∀ j, u.testBit j = true → (sd_cC F).testBit j = true) : sd_bu F u 0 = false := by
  have c : u.testBit 0 = false := by
    cases q : u.testBit 0 with
    | false => rfl
    | true =>
      have z := hu 0 q
      rw [sd_cC_t w] at z
      have z2 := of_decide_eq_true z
      exact absurd z2.2.2.1 (by decide)
  show (decide (((0 : Nat) : Int) < F 88 ∧ F (64 + 0) = 1) || u.testBit 0) = false
  rw [c, Bool.or_false]
  refine decide_eq_false (fun z => ?_)
  have p := (w.2.2 0 (by have := z.1; omega)).2.2.2.2.2.2
  have z2 := z.2
  omega
theorem sd_bu_z {F : Nat → Int} {x v : Int} {u : Nat} (h : pz_zs x (sd_bn F)) (hu : u < 4096) (hv : v = (Int32.ofInt x ||| Int32.ofInt (u : Int)).toInt) : pz_zs v (sd_bu F u) := by
  rw [hv]
  exact pz_sb_or h ⟨u, rfl, hu, fun _ => rfl⟩
/-- the model: all numbers up to s looked at -/
def sd_bmE (ls : List pz_lne) (F : Nat → Int) (d : Nat) (h b s : Int) : Prop := 0 ≤ s ∧ ∃ r : Nat, r ≤ 2 ^ sd_pc 12 (sd_cC F) ∧ (∀ q : Nat, q < r → (sd_dep 12 (sd_cC F) q : Int) < s) ∧ (r < 2 ^ sd_pc 12 (sd_cC F) → s ≤ (sd_dep 12 (sd_cC F) r : Int)) ∧ b = sd_bf ls F d h (sd_cC F) r
theorem sd_bmE_0 {ls : List pz_lne} {F : Nat → Int} {d : Nat} {h : Int} : sd_bmE ls F d h (-1) 0 := ⟨Int.le_refl _, 0, Nat.zero_le _, fun q hq => absurd hq (Nat.not_lt_zero _), fun _ => by omega, rfl⟩
theorem sd_bmE_n {ls : List pz_lne} {F : Nat → Int} {d : Nat} {h b s t : Int} (e : sd_bmE ls F d h b s) (ht : t = s + 1) (hn : ¬ ∀ j, s.toNat.testBit j = true → (sd_cC F).testBit j = true) : sd_bmE ls F d h b t := by
  obtain ⟨h0, r, h1, h2, h3, h4⟩ := e
  refine ⟨by omega, r, h1, fun q hq => by have := h2 q hq; omega, fun hr => ?_, h4⟩
  have l := h3 hr
  have ne : s ≠ (sd_dep 12 (sd_cC F) r : Int) := fun z => hn (by
    rw [show s.toNat = sd_dep 12 (sd_cC F) r by omega]
    exact sd_dep_s sd_cC_l)
  omega
theorem sd_bmE_y {ls : List pz_lne} {F : Nat → Int} {d : Nat} {h b s t c : Int} (e : sd_bmE ls F d h b s) (ht : t = s + 1) (hy : ∀ j, s.toNat.testBit j = true → (sd_cC F).testBit j = true) (hc : c = sd_bs ls F d h s.toNat b) : sd_bmE ls F d h c t := by
  obtain ⟨h0, r, h1, h2, h3, h4⟩ := e
  obtain ⟨q, q1, q2⟩ := sd_dep_x 12 (sd_cC F) s.toNat sd_cC_l hy
  have qr : q = r := by
    by_cases a : q < r
    · have := h2 q a
      omega
    · by_cases b : r < q
      · have m := sd_dep_m 12 (sd_cC F) r q b q1
        have l := h3 (by first | decide | omega)
        omega
      · omega
  rw [qr] at q1 q2
  refine ⟨by omega, r + 1, q1, fun k hk => ?_, fun hr => ?_, ?_⟩
  · by_cases a : k < r
    · have := h2 k a
      omega
    · rw [show k = r by omega]
      omega
  · have m := sd_dep_m 12 (sd_cC F) r (r + 1) (by first | decide | omega) hr
    omega
  · rw [hc, ← q2, h4]
    rfl
theorem sd_bmE_z {ls : List pz_lne} {F : Nat → Int} {d : Nat} {h b s : Int} (e : sd_bmE ls F d h b s) (hs : (sd_cC F : Int) < s) : b = sd_bbe ls F d h := by
  obtain ⟨h0, r, h1, h2, h3, h4⟩ := e
  have l := sd_dep_le 12 (sd_cC F) r
  have rr : r = 2 ^ sd_pc 12 (sd_cC F) := by
    by_cases a : r < 2 ^ sd_pc 12 (sd_cC F)
    · have := h3 a
      omega
    · omega
  rw [h4, rr]
  rfl
theorem sd_bmE_b {ls : List pz_lne} {F : Nat → Int} {d : Nat} {h b s : Int} (e : sd_bmE ls F d h b s) : -1 ≤ b ∧ b < 4096 := by
  obtain ⟨h0, r, h1, h2, h3, h4⟩ := e
  have a := sd_bf_b (ls := ls) (F := F) (d := d) (h := h) (C := sd_cC F) r
  have l := sd_cC_l (F := F)
  omega
theorem sd_cbn_e {F : Nat → Int} {x : Int} (h0 : 0 ≤ x) (hx : x = F 88) : ∀ k, (decide (k < x.toNat) && decide (sd_cb F k)) = decide (sd_cb F k) := fun k => by
  by_cases z : sd_cb F k
  · have z1 := z.1
    rw [decide_eq_true z, decide_eq_true (show k < x.toNat by omega)]
    rfl
  · rw [decide_eq_false z, Bool.and_false]
theorem sd_sub0 {s C : Nat} {v : Int} (h : pz_zs v (fun k => s.testBit k && !C.testBit k)) : v = 0 ↔ ∀ j, s.testBit j = true → C.testBit j = true := by
  obtain ⟨t, h1, h2, h3⟩ := h
  have h3 : ∀ k, t.testBit k = (s.testBit k && !C.testBit k) := h3
  constructor
  · intro z j hj
    have b := h3 j
    rw [show t = 0 by omega, Nat.zero_testBit, hj, Bool.true_and] at b
    cases q : C.testBit j with
    | true => rfl
    | false =>
      rw [q] at b
      cases b
  · intro z
    have e : t = 0 := Nat.eq_of_testBit_eq (fun j => by
      rw [h3 j, Nat.zero_testBit]
      cases q : s.testBit j with
      | false => rfl
      | true =>
        rw [z j q]
        rfl)
    omega
theorem sd_zsn {v : Int} (h0 : 0 ≤ v) (h1 : v < 4096) : pz_zs v v.toNat.testBit := ⟨v.toNat, by omega, by omega, fun _ => rfl⟩
/-- the class: r subsets looked at -/
def sd_bcE (ls : List pz_lne) (F : Nat → Int) (d : Nat) (h best cost ones i : Int) (t : Nat) : Prop := ∃ r : Nat, (r : Int) + i = ((2 ^ sd_pc 12 (sd_cC F) : Nat) : Int) ∧ ones = (sd_dep 12 (sd_cC F) r : Int) ∧ best = sd_bf ls F d h (sd_cC F) (r + t) ∧ (best ≠ -1 → cost = sd_cst ls F best.toNat)
theorem sd_bcE_0 {ls : List pz_lne} {F : Nat → Int} {d : Nat} {h i v : Int} (hv : pz_bcx (sd_cC F : Int) v) (hi : i = (Int32.ofInt 1 <<< (Int32.ofInt v &&& 31)).toInt) : sd_bcE ls F d h (-1) 0 0 i 0 ∧ 0 ≤ i := by
  have c := hv (sd_cC F).testBit ⟨sd_cC F, rfl, sd_cC_l, fun _ => rfl⟩
  rw [← sd_pc_c] at c
  have l := sd_pc_l (C := sd_cC F)
  rw [c, pz_shv (by first | decide | omega) (by first | decide | omega), Int.toNat_natCast] at hi
  refine ⟨⟨0, by omega, ?_, rfl, fun z => absurd rfl z⟩, by rw [hi]; exact Int.natCast_nonneg _⟩
  have z : ∀ k C : Nat, sd_dep k C 0 = 0 := by
    intro k
    induction k with
    | zero => exact fun C => rfl
    | succ k ih =>
      intro C
      by_cases q : C % 2 = 1
      · rw [sd_dep_1 q, ih]
      · rw [sd_dep_0 q, ih]
  rw [z]
  rfl
theorem sd_bcE_b {ls : List pz_lne} {F : Nat → Int} {d t : Nat} {h best cost ones i : Int} (e : sd_bcE ls F d h best cost ones i t) : (-1 ≤ best ∧ best < 4096) ∧ 0 ≤ ones ∧ ones < 4096 := by
  obtain ⟨r, h1, h2, h3, h4⟩ := e
  have a := sd_bf_b (ls := ls) (F := F) (d := d) (h := h) (C := sd_cC F) (r + t)
  have l := sd_cC_l (F := F)
  have m := sd_dep_le 12 (sd_cC F) r
  omega
theorem sd_bcE_y {ls : List pz_lne} {F : Nat → Int} {d : Nat} {h best cost ones i c : Int} (e : sd_bcE ls F d h best cost ones i 0) (hk : h ≤ sd_lsv ls F d (sd_bu F ones.toNat)) (hb : sd_btr ls F ones.toNat best) (hc : c = sd_cst ls F ones.toNat) : sd_bcE ls F d h ones c ones i 1 := by
  obtain ⟨r, h1, h2, h3, h4⟩ := e
  have n : sd_dep 12 (sd_cC F) r = ones.toNat := by omega
  refine ⟨r, h1, h2, ?_, fun _ => hc⟩
  show ones = sd_bs ls F d h (sd_dep 12 (sd_cC F) r) (sd_bf ls F d h (sd_cC F) r)
  rw [n, show sd_bf ls F d h (sd_cC F) r = best from h3.symm]
  refine Eq.trans ?_ (if_pos ⟨hk, hb⟩).symm
  omega
theorem sd_bcE_n {ls : List pz_lne} {F : Nat → Int} {d : Nat} {h best cost ones i : Int} (e : sd_bcE ls F d h best cost ones i 0) (hk : ¬ (h ≤ sd_lsv ls F d (sd_bu F ones.toNat) ∧ sd_btr ls F ones.toNat best)) : sd_bcE ls F d h best cost ones i 1 := by
  obtain ⟨r, h1, h2, h3, h4⟩ := e
  have n : sd_dep 12 (sd_cC F) r = ones.toNat := by omega
  refine ⟨r, h1, h2, ?_, h4⟩
  show best = sd_bs ls F d h (sd_dep 12 (sd_cC F) r) (sd_bf ls F d h (sd_cC F) r)
  rw [n, show sd_bf ls F d h (sd_cC F) r = best from h3.symm]
  exact (if_neg hk).symm
theorem sd_bcE_s {ls : List pz_lne} {F : Nat → Int} {d : Nat} {h best cost ones i j can v w : Int} (e : sd_bcE ls F d h best cost ones i 1) (hc : can = (sd_cC F : Int)) (hv : v = pz_w (ones - can)) (hw : w = (Int32.ofInt v &&& Int32.ofInt can).toInt) (hj : j = i - 1) : sd_bcE ls F d h best cost w j 0 := by
  obtain ⟨r, h1, h2, h3, h4⟩ := e
  rw [hc] at hv hw
  rw [h2] at hv
  exact ⟨r + 1, by omega, sd_nxt sd_cC_l rfl hv hw, h3, h4⟩
theorem sd_bcE_z {ls : List pz_lne} {F : Nat → Int} {d : Nat} {h best cost ones i : Int} (e : sd_bcE ls F d h best cost ones i 0) (hi : i = 0) : best = sd_bbe ls F d h := by
  obtain ⟨r, h1, h2, h3, h4⟩ := e
  rw [h3, show r + 0 = 2 ^ sd_pc 12 (sd_cC F) by omega]
  rfl
end
