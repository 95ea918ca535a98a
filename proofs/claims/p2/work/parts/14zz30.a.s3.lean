def k4_X4_reckonSpans : pz_C := (2, 0, fun a M => (match a with | [.inr (.inr (4, k)), .inr (.inr (0, c))] => pz_ic M | _ => False), fun a M r M' => (match a, r with | [.inr (.inr (4, k)), .inr (.inr (0, c))], none => ((∀ b j : Nat, b ≠ 55 → M' b j = M b j) ∧ (c = 71 → ∀ (ls : List pz_lne) (F : Nat → Int) (d : Nat), sd_se M 71 F → sd_wf F → sd_al M ls F d (F 88) → sd_sp M' ls F d)) ∧ pq_pr pq_Pk M M' | _, _ => False))
abbrev ct4_X4_reckonSpans : List (Bool × Nat × pz_C) := [(true, 68, k3_X4_oddsWith)]
set_option maxRecDepth 100000 in
set_option maxHeartbeats 4000000 in
theorem h4_X4_reckonSpans : pz_H yX4_reckonSpans cX4_reckonSpans 6 none k4_X4_reckonSpans 2 45 := by
  refine pz_mk (own := RX4) (tb := t_X4_reckonSpans) (fl := pz_flf fl_RX4) (ci := pz_cif ci_RX4) (ct := pz_ctf ct4_X4_reckonSpans) (rz := false) (by decide +kernel) rfl t_X4_reckonSpans_ok (pz_flk fl_RX4_ok) (pz_cik ci_RX4_ok) ?_ ?_ (rfl) ?_ ?_
  · exact fun i k' h => pz_ctk (l := ct4_X4_reckonSpans) (P := fun b i k => b = true → pz_cV 2 45 RX4 i k) (List.forall_mem_cons.mpr ⟨(fun _ => v3_X4_oddsWith (by decide) (by decide) (pz_mt 900 (by decide +kernel))), fun _ h => absurd h List.not_mem_nil⟩) true i k' h rfl
  · exact fun i k' h => pz_ctk (l := ct4_X4_reckonSpans) (P := fun b i k => b = false → (pz_cS 2 45 RX4 i k ∨ (k = pz_kac ∧ 1 ≤ 2 ∧ 60 ≤ 45 ∧ Cond.methodLink RX4 i arraycopyName ∈ pz_tbl))) (List.forall_mem_cons.mpr ⟨((fun z => by cases z)), fun _ h => absurd h List.not_mem_nil⟩) false i k' h rfl
  · intro a M hlen hpre
    obtain ⟨k, c, rfl, hpre⟩ : ∃ k c, a = [.inr (.inr (4, k)), .inr (.inr (0, c))] ∧ (pz_ic M) := by
      have hpre : (match (generalizing := false) a with | [.inr (.inr (4, k)), .inr (.inr (0, c))] => pz_ic M | _ => False) := hpre
      split at hpre
      · exact ⟨_, _, rfl, hpre⟩
      · exact hpre.elim
    exact Nat.le_of_ble_eq_true rfl
  · intro a M hlen hcan hM hpre Ok hgo
    obtain ⟨k, c, rfl, hpre⟩ : ∃ k c, a = [.inr (.inr (4, k)), .inr (.inr (0, c))] ∧ (pz_ic M) := by
      have hpre : (match (generalizing := false) a with | [.inr (.inr (4, k)), .inr (.inr (0, c))] => pz_ic M | _ => False) := hpre
      split at hpre
      · exact ⟨_, _, rfl, hpre⟩
      · exact hpre.elim
    obtain ⟨k_k, hc_k⟩ := pz_tlm hcan
    have k_k : pz_kd k = 4 ∧ k < 231 := k_k
    have R_k := pz_kd4 k_k.1
    subst R_k
    obtain ⟨k_c, hc_c⟩ := pz_tlm hc_k
    have k_c : pz_kd c = 0 ∧ c < 231 := k_c
    have R_c := pz_kd0 k_c.1
    have hI : pz_ic M := hpre
    have hI0 := hI
    have hS : pq_pr pq_Pk M M := pq_pr.rf
    have L2 : ∀ (fo : Nat) (x2 : Int) (d3 : Option pz_V) (d4 : Option pz_V) (d5 : Option pz_V) (N2 : pz_M), (12 - x2).toNat < fo → (pq_pr pq_Pk M N2) → (0 ≤ x2) → (∀ b j : Nat, b ≠ 55 → N2 b j = M b j) → (c = 71 → ∀ (ls : List pz_lne) (F : Nat → Int) (d : Nat), sd_se M 71 F → sd_wf F → sd_al M ls F d (F 88) → x2 ≤ F 88 ∧ sd_spI N2 ls F d x2 x2) → Ok 2 [some (.inr (.inr (4, 6))), some (.inr (.inr (0, c))), some (.inl x2), d3, d4, d5] [] N2 := by
      intro fo
      induction fo with
      | zero => exact fun _ _ _ _ _ hn => absurd hn (Nat.not_lt_zero _)
      | succ fo ih2 =>
        intro x2 d3 d4 d5 N2 hn2 hS g2_1 g2_2 g2_3
        have hI : pz_ic N2 := hS.1 hI0
        have hS2 := hS
        have L16 : ∀ (fu : Nat) (x2 : Int) (x3 : Int) (x4 : Int) (d5 : Option pz_V) (N16 : pz_M), (12 - x4).toNat < fu → (pq_pr pq_Pk M N16) → (0 ≤ x4) → (0 ≤ x2) → (x2 < 12) → ((12 - x2).toNat < fo + 1) → (∀ b j : Nat, b ≠ 55 → N16 b j = M b j) → (c = 71 → ∀ (ls : List pz_lne) (F : Nat → Int) (d : Nat), sd_se M 71 F → sd_wf F → sd_al M ls F d (F 88) → (0 ≤ x2 ∧ x2 < F 88 ∧ x2 ≤ x4 ∧ x4 ≤ F 88) ∧ sd_spI N16 ls F d x2 x4 ∧ x3 = sd_oo ls F d (x4.toNat - x2.toNat) x2.toNat 1000000) → Ok 16 [some (.inr (.inr (4, 6))), some (.inr (.inr (0, c))), some (.inl x2), some (.inl x3), some (.inl x4), d5] [] N16 := by
          intro fu
          induction fu with
          | zero => exact fun _ _ _ _ _ hn => absurd hn (Nat.not_lt_zero _)
          | succ fu ih16 =>
            intro x2 x3 x4 d5 N16 hn16 hS g16_1 g16_2 g16_3 g16_4 g16_5 g16_6
            have hI : pz_ic N16 := hS.1 hI0
            have hS16 := hS
            refine hgo (fun p => Nat.beq p 2 || Nat.beq p 16) 43 16 _ _ _ ?_
            intro v19 e19 a19 b19
            have I19 := hI.1 c (by omega) (by omega)
            refine And.intro (fun h22 => ?_) (fun h22 => ?_)
            · skip
              intro v67 e67 a67 b67
              rw [pz_wi (by omega) (by omega)] at e67
              have G2 : c = 71 → ∀ (ls : List pz_lne) (F : Nat → Int) (d : Nat), sd_se M 71 F → sd_wf F → sd_al M ls F d (F 88) → v67 ≤ F 88 ∧ sd_spI N16 ls F d v67 v67 := fun c9 ls F d s w h => by
                obtain ⟨g1, g2, g3⟩ := (by assumption : c = 71 → ∀ (ls : List pz_lne) (F : Nat → Int) (d : Nat), sd_se M 71 F → sd_wf F → sd_al M ls F d (F 88) → (0 ≤ x2 ∧ x2 < F 88 ∧ x2 ≤ x4 ∧ x4 ≤ F 88) ∧ sd_spI N16 ls F d x2 x4 ∧ x3 = sd_oo ls F d (x4.toNat - x2.toNat) x2.toNat 1000000) c9 ls F d s w h
                subst c9
                have n8 := (sd_se_k s w hS16).1
                exact ⟨by omega, sd_spI_r g2 (by omega) e67⟩
              exact ih2 _ _ _ _ _ (by omega) hS (by first | omega | assumption | exact fun _ _ _ => rfl | exact fun _ ls F d s w h => ⟨w.1.1, fun a i _ _ a3 => absurd a3 (by omega)⟩) (by first | omega | assumption | exact fun _ _ _ => rfl | exact fun _ ls F d s w h => ⟨w.1.1, fun a i _ _ a3 => absurd a3 (by omega)⟩) (by first | omega | assumption | exact fun _ _ _ => rfl | exact fun _ ls F d s w h => ⟨w.1.1, fun a i _ _ a3 => absurd a3 (by omega)⟩)
            · skip
              refine And.intro (True.intro) ?_
              intro v30 M30 a30 b30 q30
              obtain ⟨q30, z30⟩ := q30
              subst z30
              intro v37 e37 a37 b37
              try rw [pz_wi (by omega) (by omega)] at e37
              intro v40 e40 a40 b40
              try rw [pz_wi (by omega) (by omega)] at e40
              intro r46 e46 k46
              have R46 := pz_kdA k46 (by decide) (by decide)
              have Q46 := pz_nm e46 k_k.1 (by decide) (by decide) rfl
              have W46 : r46 = 55 := e46
              have Z49 : (((pz_ak 21).2 : Nat) : Int) = 144 := rfl
              refine And.intro (fun h50 => ?_) (fun h50 => ?_)
              · skip
                intro v61 e61 a61 b61
                rw [pz_wi (by omega) (by omega)] at e61
                first
                  | (have G16c : c = 71 → ∀ (ls : List pz_lne) (F : Nat → Int) (d : Nat), sd_se M 71 F → sd_wf F → sd_al M ls F d (F 88) → (0 ≤ x2 ∧ x2 < F 88 ∧ x2 ≤ v61 ∧ v61 ≤ F 88) ∧ sd_spI M60 ls F d x2 v61 ∧ v30 = sd_oo ls F d (v61.toNat - x2.toNat) x2.toNat 1000000 := by
                      rw [e61]
                      assumption)
                  | skip
                exact ih16 _ _ _ _ _ (by omega) hS (by first | omega | assumption) (by first | omega | assumption) (by first | omega | assumption) (by first | omega | assumption) (by first | omega | assumption) (by first | omega | assumption)
              · skip
                intro r54 e54 k54
                have R54 := pz_kdA k54 (by decide) (by decide)
                have Q54 := pz_nm e54 k_k.1 (by decide) (by decide) rfl
                have W54 : r54 = 55 := e54
                refine And.intro (by omega) (And.intro (show _ < (144 : Int) from by omega) ?_)
                intro M60 e60
                have hS : pq_pr pq_Pk M M60 := by
                  rw [e60]
                  exact pq_pr_u hS (by unfold pq_Pk pq_Pw; omega) (by unfold pz_iok; omega)
                have hI : pz_ic M60 := hS.1 hI0
                rw [W54] at e60
                have G16a : ∀ b j : Nat, b ≠ 55 → M60 b j = M b j := fun b j ne => by
                  rw [e60, pz_una ne]
                  exact (by assumption : ∀ b j : Nat, b ≠ 55 → N16 b j = M b j) b j ne
                have G16b : c = 71 → ∀ (ls : List pz_lne) (F : Nat → Int) (d : Nat), sd_se M 71 F → sd_wf F → sd_al M ls F d (F 88) → (0 ≤ x2 ∧ x2 < F 88 ∧ x2 ≤ (x4 + 1) ∧ (x4 + 1) ≤ F 88) ∧ sd_spI M60 ls F d x2 (x4 + 1) ∧ v30 = sd_oo ls F d ((x4 + 1).toNat - x2.toNat) x2.toNat 1000000 := fun c9 ls F d s w h => by
                  obtain ⟨g1, g2, g3⟩ := (by assumption : c = 71 → ∀ (ls : List pz_lne) (F : Nat → Int) (d : Nat), sd_se M 71 F → sd_wf F → sd_al M ls F d (F 88) → (0 ≤ x2 ∧ x2 < F 88 ∧ x2 ≤ x4 ∧ x4 ≤ F 88) ∧ sd_spI N16 ls F d x2 x4 ∧ x3 = sd_oo ls F d (x4.toNat - x2.toNat) x2.toNat 1000000) c9 ls F d s w h
                  have ne := (by assumption : ∀ b j : Nat, b ≠ 55 → N16 b j = M b j)
                  subst c9
                  have s2 := sd_se_k s w hS16
                  have n8 := s2.1
                  have t := q30 rfl ls F d s2 w (fun i hi => (ne 52 i (by decide)).trans (h i hi)) (by omega) (by omega) (by rw [g3]; exact sd_oo_b _ _ _ ⟨by decide, by decide⟩)
                  have o : v30 = sd_oo ls F d ((x4 + 1).toNat - x2.toNat) x2.toNat 1000000 := by
                    rw [show (x4 + 1).toNat - x2.toNat = (x4.toNat - x2.toNat) + 1 by omega, sd_oo_l, ← g3, show x2.toNat + (x4.toNat - x2.toNat) = x4.toNat by omega]
                    exact t
                  refine ⟨⟨by omega, by omega, by omega, by omega⟩, sd_spI_s g2 w (by omega) (by omega) (by omega) rfl (show v40.toNat = 12 * x2.toNat + x4.toNat by omega) e60 ?_, o⟩
                  rw [o]
                  unfold sd_o2
                  rw [show (x4 + 1).toNat - x2.toNat = x4.toNat + 1 - x2.toNat by omega]
                intro v61 e61 a61 b61
                rw [pz_wi (by omega) (by omega)] at e61
                first
                  | (have G16c : c = 71 → ∀ (ls : List pz_lne) (F : Nat → Int) (d : Nat), sd_se M 71 F → sd_wf F → sd_al M ls F d (F 88) → (0 ≤ x2 ∧ x2 < F 88 ∧ x2 ≤ v61 ∧ v61 ≤ F 88) ∧ sd_spI M60 ls F d x2 v61 ∧ v30 = sd_oo ls F d (v61.toNat - x2.toNat) x2.toNat 1000000 := by
                      rw [e61]
                      assumption)
                  | skip
                exact ih16 _ _ _ _ _ (by omega) hS (by first | omega | assumption) (by first | omega | assumption) (by first | omega | assumption) (by first | omega | assumption) (by first | omega | assumption) (by first | omega | assumption)
        refine hgo (fun p => Nat.beq p 2 || Nat.beq p 16) 43 2 _ _ _ ?_
        intro v4 e4 a4 b4
        have I4 := hI.1 c (by omega) (by omega)
        refine And.intro (fun h7 => ?_) (fun h7 => ?_)
        · skip
          skip
          refine And.intro rfl ?_
          refine ⟨⟨by assumption, fun c9 ls F d s w h => ?_⟩, hS⟩
          obtain ⟨g1, g2⟩ := (by assumption : c = 71 → ∀ (ls : List pz_lne) (F : Nat → Int) (d : Nat), sd_se M 71 F → sd_wf F → sd_al M ls F d (F 88) → x2 ≤ F 88 ∧ sd_spI N2 ls F d x2 x2) c9 ls F d s w h
          subst c9
          have n8 := (sd_se_k s w hS2).1
          exact fun a i a1 a2 => g2 a i a1 a2 (Or.inl (by omega))
        · skip
          have G16 : c = 71 → ∀ (ls : List pz_lne) (F : Nat → Int) (d : Nat), sd_se M 71 F → sd_wf F → sd_al M ls F d (F 88) → (0 ≤ x2 ∧ x2 < F 88 ∧ x2 ≤ x2 ∧ x2 ≤ F 88) ∧ sd_spI N2 ls F d x2 x2 ∧ 1000000 = sd_oo ls F d (x2.toNat - x2.toNat) x2.toNat 1000000 := fun c9 ls F d s w h => by
            obtain ⟨g1, g2⟩ := (by assumption : c = 71 → ∀ (ls : List pz_lne) (F : Nat → Int) (d : Nat), sd_se M 71 F → sd_wf F → sd_al M ls F d (F 88) → x2 ≤ F 88 ∧ sd_spI N2 ls F d x2 x2) c9 ls F d s w h
            subst c9
            have n8 := (sd_se_k s w hS2).1
            exact ⟨⟨by omega, by omega, by omega, by omega⟩, g2, by rw [Nat.sub_self]; rfl⟩
          exact L16 _ _ _ _ _ _ (Nat.lt_succ_self _) hS (by first | omega | assumption) (by first | omega | assumption) (by first | omega | assumption) (by first | omega | assumption) (by first | omega | assumption) (by first | omega | assumption)
    refine hgo (fun p => Nat.beq p 2 || Nat.beq p 16) 43 0 _ [] M ?_
    exact L2 _ _ _ _ _ _ (Nat.lt_succ_self _) hS (by first | omega | assumption | exact fun _ _ _ => rfl | exact fun _ ls F d s w h => ⟨w.1.1, fun a i _ _ a3 => absurd a3 (by omega)⟩) (by first | omega | assumption | exact fun _ _ _ => rfl | exact fun _ ls F d s w h => ⟨w.1.1, fun a i _ _ a3 => absurd a3 (by omega)⟩) (by first | omega | assumption | exact fun _ _ _ => rfl | exact fun _ ls F d s w h => ⟨w.1.1, fun a i _ _ a3 => absurd a3 (by omega)⟩)
theorem v4_X4_reckonSpans {fr lo i : Nat} {own : String} (h1 : 2 + 1 ≤ fr) (h2 : 8 + (6 + 11) + 45 ≤ lo) (h3 : .methodLink own i yX4_reckonSpans ∈ lw_tbl) : pz_cV fr lo own i k4_X4_reckonSpans :=
  pz_cVk (maxL := 6) (fr' := 2) (lo' := 45) 1 4 h4_X4_reckonSpans rfl ⟨by decide +kernel, by decide +kernel, by decide +kernel⟩ ⟨(pz_mt 949 (by decide +kernel)), (pz_mt 947 (by decide +kernel)), (pz_mt 948 (by decide +kernel)), (pz_mt 11 (by decide +kernel))⟩ (Or.inl ⟨TX4, 5, rfl⟩) (fun a M _ h => by
    have h : (match (generalizing := false) a with | [.inr (.inr (4, k)), .inr (.inr (0, c))] => pz_ic M | _ => False) := h
    split at h
    · exact ⟨_, _, rfl⟩
    · exact h.elim) h1 h2 h3
def k3_X4_leastOdds : pz_C := (3, 1, fun a M => (match a with | [.inr (.inr (4, k)), .inr (.inr (0, c)), .inl i] => pz_ic M | _ => False), fun a M r M' => (match a, r with | [.inr (.inr (4, k)), .inr (.inr (0, c)), .inl i], some (.inl v) => (c = 71 → ∀ (ls : List pz_lne) (F : Nat → Int) (d : Nat) (b : Nat → Bool), sd_se M 71 F → sd_wf F → sd_sp M ls F d → pz_zs i b → v = sd_lsv ls F d b) ∧ M = M' | _, _ => False))
abbrev ct3_X4_leastOdds : List (Bool × Nat × pz_C) := [(false, 78, k_J9_min_7cf53)]
set_option maxRecDepth 100000 in
set_option maxHeartbeats 4000000 in
theorem h3_X4_leastOdds : pz_H yX4_leastOdds cX4_leastOdds 8 (some .int) k3_X4_leastOdds 1 21 := by
  refine pz_mk (own := RX4) (tb := t_X4_leastOdds) (fl := pz_flf fl_RX4) (ci := pz_cif ci_RX4) (ct := pz_ctf ct3_X4_leastOdds) (rz := false) (by decide +kernel) rfl t_X4_leastOdds_ok (pz_flk fl_RX4_ok) (pz_cik ci_RX4_ok) ?_ ?_ (Or.inl ⟨rfl, rfl⟩) ?_ ?_
  · exact fun i k' h => pz_ctk (l := ct3_X4_leastOdds) (P := fun b i k => b = true → pz_cV 1 21 RX4 i k) (List.forall_mem_cons.mpr ⟨((fun z => by cases z)), fun _ h => absurd h List.not_mem_nil⟩) true i k' h rfl
  · exact fun i k' h => pz_ctk (l := ct3_X4_leastOdds) (P := fun b i k => b = false → (pz_cS 1 21 RX4 i k ∨ (k = pz_kac ∧ 1 ≤ 1 ∧ 60 ≤ 21 ∧ Cond.methodLink RX4 i arraycopyName ∈ pz_tbl))) (List.forall_mem_cons.mpr ⟨(fun _ => Or.inl (s_J9_min_7cf53 (by decide) (by decide) (Or.inl (pz_mt 955 (by decide +kernel))))), fun _ h => absurd h List.not_mem_nil⟩) false i k' h rfl
  · intro a M hlen hpre
    obtain ⟨k, c, i, rfl, hpre⟩ : ∃ k c i, a = [.inr (.inr (4, k)), .inr (.inr (0, c)), .inl i] ∧ (pz_ic M) := by
      have hpre : (match (generalizing := false) a with | [.inr (.inr (4, k)), .inr (.inr (0, c)), .inl i] => pz_ic M | _ => False) := hpre
      split at hpre
      · exact ⟨_, _, _, rfl, hpre⟩
      · exact hpre.elim
    exact Nat.le_of_ble_eq_true rfl
  · intro a M hlen hcan hM hpre Ok hgo
    obtain ⟨k, c, i, rfl, hpre⟩ : ∃ k c i, a = [.inr (.inr (4, k)), .inr (.inr (0, c)), .inl i] ∧ (pz_ic M) := by
      have hpre : (match (generalizing := false) a with | [.inr (.inr (4, k)), .inr (.inr (0, c)), .inl i] => pz_ic M | _ => False) := hpre
      split at hpre
      · exact ⟨_, _, _, rfl, hpre⟩
      · exact hpre.elim
    obtain ⟨k_k, hc_k⟩ := pz_tlm hcan
    have k_k : pz_kd k = 4 ∧ k < 231 := k_k
    have R_k := pz_kd4 k_k.1
    subst R_k
    obtain ⟨k_c, hc_c⟩ := pz_tlm hc_k
    have k_c : pz_kd c = 0 ∧ c < 231 := k_c
    have R_c := pz_kd0 k_c.1
    obtain ⟨k_i, hc_i⟩ := pz_tlm hc_c
    have l_i : -2147483648 ≤ i := k_i.1
    have u_i : i ≤ 2147483647 := k_i.2
    have hI : pz_ic M := hpre
    have L9 : ∀ (fu : Nat) (x3 : Int) (x4 : Int) (x5 : Int) (d6 : Option pz_V) (d7 : Option pz_V), (12 - x5).toNat < fu → (0 ≤ x5) → (0 ≤ x4) → (x4 < 12) → (c = 71 → ∀ (ls : List pz_lne) (F : Nat → Int) (d : Nat) (b : Nat → Bool), sd_se M 71 F → sd_wf F → sd_sp M ls F d → pz_zs i b → sd_lsE ls F d b x3 x4 x5) → Ok 9 [some (.inr (.inr (4, 6))), some (.inr (.inr (0, c))), some (.inl i), some (.inl x3), some (.inl x4), some (.inl x5), d6, d7] [] M := by
      intro fu
      induction fu with
      | zero => exact fun _ _ _ _ _ hn => absurd hn (Nat.not_lt_zero _)
      | succ fu ih9 =>
        intro x3 x4 x5 d6 d7 hn9 g9_0 g9_1 g9_2 g9_3
        refine hgo (fun p => Nat.beq p 9) 54 9 _ _ _ ?_
        intro v12 e12 a12 b12
        have I12 := hI.1 c (by omega) (by omega)
        refine And.intro (fun h15 => ?_) (fun h15 => ?_)
        · skip
          refine And.intro rfl ?_
          refine ⟨fun c9 ls F d b s w p z => ?_, rfl⟩
          have g := (by assumption : c = 71 → ∀ (ls : List pz_lne) (F : Nat → Int) (d : Nat) (b : Nat → Bool), sd_se M 71 F → sd_wf F → sd_sp M ls F d → pz_zs i b → sd_lsE ls F d b x3 x4 x5) c9 ls F d b s w p z
          subst c9
          have n8 := s.1
          exact sd_lsE_z g w (by omega)
        · skip
          intro v22 e22 a22 b22
          try rw [pz_wi (by omega) (by omega)] at e22
          intro v25 e25 a25 b25
          try rw [pz_wi (by omega) (by omega)] at e25
          intro v31 e31 a31 b31
          have I31 := hI.1 c (by omega) (by omega)
          intro v35 e35 a35 b35
          try rw [pz_wi (by omega) (by omega)] at e35
          refine And.intro (fun h36 => ?_) (fun h36 => ?_)
          · skip
            refine And.intro (fun h57 => ?_) (fun h57 => ?_)
            · skip
              intro v86 e86 a86 b86
              rw [pz_wi (by omega) (by omega)] at e86
              first
                | (have G9 : c = 71 → ∀ (ls : List pz_lne) (F : Nat → Int) (d : Nat) (b : Nat → Bool), sd_se M 71 F → sd_wf F → sd_sp M ls F d → pz_zs i b → sd_lsE ls F d b x3 x4 v86 := fun c9 ls F d b s w p z => by
                    have g := (by assumption : c = 71 → ∀ (ls : List pz_lne) (F : Nat → Int) (d : Nat) (b : Nat → Bool), sd_se M 71 F → sd_wf F → sd_sp M ls F d → pz_zs i b → sd_lsE ls F d b x3 x4 x5) c9 ls F d b s w p z
                    subst c9
                    have n8 := s.1
                    have B := pz_sb_at z (by omega) (by omega) e42 e44
                    exact sd_lsE_n g w (by omega) e86 (fun y => y.elim (fun y => by omega) (fun y => by
                      rw [if_pos y] at B
                      omega)))
                | (have G9 : c = 71 → ∀ (ls : List pz_lne) (F : Nat → Int) (d : Nat) (b : Nat → Bool), sd_se M 71 F → sd_wf F → sd_sp M ls F d → pz_zs i b → sd_lsE ls F d b v78 x5 v86 := fun c9 ls F d b s w p z => by
                    have g := (by assumption : c = 71 → ∀ (ls : List pz_lne) (F : Nat → Int) (d : Nat) (b : Nat → Bool), sd_se M 71 F → sd_wf F → sd_sp M ls F d → pz_zs i b → sd_lsE ls F d b x3 x4 x5) c9 ls F d b s w p z
                    subst c9
                    have n8 := s.1
                    have gl := g.1
                    have m := w.1
                    exact sd_lsE_y g w (by omega) e86 (by
                      first
                        | exact Or.inl (by omega)
                        | (have B := pz_sb_at z (by omega) (by omega) e42 e44
                           refine Or.inr ?_
                           by_cases y : b x5.toNat = true
                           · exact y
                           · rw [if_neg y] at B
                             omega)) (by rw [q78, e77, show v25.toNat = 12 * x4.toNat + x5.toNat by omega, p x4.toNat x5.toNat (by omega) (by omega)]))
                | skip
              exact ih9 _ _ _ _ _ (by omega) (by first | omega | assumption | exact fun _ ls F d b s w p z => sd_lsE_0 w) (by first | omega | assumption | exact fun _ ls F d b s w p z => sd_lsE_0 w) (by first | omega | assumption | exact fun _ ls F d b s w p z => sd_lsE_0 w) (by first | omega | assumption | exact fun _ ls F d b s w p z => sd_lsE_0 w)
            · skip
              intro r63 e63 k63
              have R63 := pz_kdA k63 (by decide) (by decide)
              have Z66 : (((pz_ak 21).2 : Nat) : Int) = 144 := rfl
              refine And.intro (fun h67 => ?_) (fun h67 => ?_)
              · skip
                intro v86 e86 a86 b86
                rw [pz_wi (by omega) (by omega)] at e86
                first
                  | (have G9 : c = 71 → ∀ (ls : List pz_lne) (F : Nat → Int) (d : Nat) (b : Nat → Bool), sd_se M 71 F → sd_wf F → sd_sp M ls F d → pz_zs i b → sd_lsE ls F d b x3 x4 v86 := fun c9 ls F d b s w p z => by
                      have g := (by assumption : c = 71 → ∀ (ls : List pz_lne) (F : Nat → Int) (d : Nat) (b : Nat → Bool), sd_se M 71 F → sd_wf F → sd_sp M ls F d → pz_zs i b → sd_lsE ls F d b x3 x4 x5) c9 ls F d b s w p z
                      subst c9
                      have n8 := s.1
                      have B := pz_sb_at z (by omega) (by omega) e42 e44
                      exact sd_lsE_n g w (by omega) e86 (fun y => y.elim (fun y => by omega) (fun y => by
                        rw [if_pos y] at B
                        omega)))
                  | (have G9 : c = 71 → ∀ (ls : List pz_lne) (F : Nat → Int) (d : Nat) (b : Nat → Bool), sd_se M 71 F → sd_wf F → sd_sp M ls F d → pz_zs i b → sd_lsE ls F d b v78 x5 v86 := fun c9 ls F d b s w p z => by
                      have g := (by assumption : c = 71 → ∀ (ls : List pz_lne) (F : Nat → Int) (d : Nat) (b : Nat → Bool), sd_se M 71 F → sd_wf F → sd_sp M ls F d → pz_zs i b → sd_lsE ls F d b x3 x4 x5) c9 ls F d b s w p z
                      subst c9
                      have n8 := s.1
                      have gl := g.1
                      have m := w.1
                      exact sd_lsE_y g w (by omega) e86 (by
                        first
                          | exact Or.inl (by omega)
                          | (have B := pz_sb_at z (by omega) (by omega) e42 e44
                             refine Or.inr ?_
                             by_cases y : b x5.toNat = true
                             · exact y
                             · rw [if_neg y] at B
                               omega)) (by rw [q78, e77, show v25.toNat = 12 * x4.toNat + x5.toNat by omega, p x4.toNat x5.toNat (by omega) (by omega)]))
                  | skip
                exact ih9 _ _ _ _ _ (by omega) (by first | omega | assumption | exact fun _ ls F d b s w p z => sd_lsE_0 w) (by first | omega | assumption | exact fun _ ls F d b s w p z => sd_lsE_0 w) (by first | omega | assumption | exact fun _ ls F d b s w p z => sd_lsE_0 w) (by first | omega | assumption | exact fun _ ls F d b s w p z => sd_lsE_0 w)
              · skip
                intro r72 e72 k72
                have R72 := pz_kdA k72 (by decide) (by decide)
                have W72 : r72 = 55 := e72
                refine And.intro (by omega) (And.intro (show _ < (144 : Int) from by omega) ?_)
                intro v77 e77 a77 b77
                rw [W72] at e77
                refine And.intro (True.intro) ?_
                intro v78 M78 a78 b78 q78
                obtain ⟨q78, z78⟩ := q78
                subst z78
                intro v86 e86 a86 b86
                rw [pz_wi (by omega) (by omega)] at e86
                first
                  | (have G9 : c = 71 → ∀ (ls : List pz_lne) (F : Nat → Int) (d : Nat) (b : Nat → Bool), sd_se M 71 F → sd_wf F → sd_sp M ls F d → pz_zs i b → sd_lsE ls F d b x3 x4 v86 := fun c9 ls F d b s w p z => by
                      have g := (by assumption : c = 71 → ∀ (ls : List pz_lne) (F : Nat → Int) (d : Nat) (b : Nat → Bool), sd_se M 71 F → sd_wf F → sd_sp M ls F d → pz_zs i b → sd_lsE ls F d b x3 x4 x5) c9 ls F d b s w p z
                      subst c9
                      have n8 := s.1
                      have B := pz_sb_at z (by omega) (by omega) e42 e44
                      exact sd_lsE_n g w (by omega) e86 (fun y => y.elim (fun y => by omega) (fun y => by
                        rw [if_pos y] at B
                        omega)))
                  | (have G9 : c = 71 → ∀ (ls : List pz_lne) (F : Nat → Int) (d : Nat) (b : Nat → Bool), sd_se M 71 F → sd_wf F → sd_sp M ls F d → pz_zs i b → sd_lsE ls F d b v78 x5 v86 := fun c9 ls F d b s w p z => by
                      have g := (by assumption : c = 71 → ∀ (ls : List pz_lne) (F : Nat → Int) (d : Nat) (b : Nat → Bool), sd_se M 71 F → sd_wf F → sd_sp M ls F d → pz_zs i b → sd_lsE ls F d b x3 x4 x5) c9 ls F d b s w p z
                      subst c9
                      have n8 := s.1
                      have gl := g.1
                      have m := w.1
                      exact sd_lsE_y g w (by omega) e86 (by
                        first
                          | exact Or.inl (by omega)
                          | (have B := pz_sb_at z (by omega) (by omega) e42 e44
                             refine Or.inr ?_
                             by_cases y : b x5.toNat = true
                             · exact y
                             · rw [if_neg y] at B
                               omega)) (by rw [q78, e77, show v25.toNat = 12 * x4.toNat + x5.toNat by omega, p x4.toNat x5.toNat (by omega) (by omega)]))
                  | skip
                exact ih9 _ _ _ _ _ (by omega) (by first | omega | assumption | exact fun _ ls F d b s w p z => sd_lsE_0 w) (by first | omega | assumption | exact fun _ ls F d b s w p z => sd_lsE_0 w) (by first | omega | assumption | exact fun _ ls F d b s w p z => sd_lsE_0 w) (by first | omega | assumption | exact fun _ ls F d b s w p z => sd_lsE_0 w)
          · skip
            intro v42 e42 a42 b42
            intro v44 e44 a44 b44
            have X44 := pz_a1 e44
            refine And.intro (fun h45 => ?_) (fun h45 => ?_)
            · skip
              refine And.intro (fun h57 => ?_) (fun h57 => ?_)
              · skip
                intro v86 e86 a86 b86
                rw [pz_wi (by omega) (by omega)] at e86
                first
                  | (have G9 : c = 71 → ∀ (ls : List pz_lne) (F : Nat → Int) (d : Nat) (b : Nat → Bool), sd_se M 71 F → sd_wf F → sd_sp M ls F d → pz_zs i b → sd_lsE ls F d b x3 x4 v86 := fun c9 ls F d b s w p z => by
                      have g := (by assumption : c = 71 → ∀ (ls : List pz_lne) (F : Nat → Int) (d : Nat) (b : Nat → Bool), sd_se M 71 F → sd_wf F → sd_sp M ls F d → pz_zs i b → sd_lsE ls F d b x3 x4 x5) c9 ls F d b s w p z
                      subst c9
                      have n8 := s.1
                      have B := pz_sb_at z (by omega) (by omega) e42 e44
                      exact sd_lsE_n g w (by omega) e86 (fun y => y.elim (fun y => by omega) (fun y => by
                        rw [if_pos y] at B
                        omega)))
                  | (have G9 : c = 71 → ∀ (ls : List pz_lne) (F : Nat → Int) (d : Nat) (b : Nat → Bool), sd_se M 71 F → sd_wf F → sd_sp M ls F d → pz_zs i b → sd_lsE ls F d b v78 x5 v86 := fun c9 ls F d b s w p z => by
                      have g := (by assumption : c = 71 → ∀ (ls : List pz_lne) (F : Nat → Int) (d : Nat) (b : Nat → Bool), sd_se M 71 F → sd_wf F → sd_sp M ls F d → pz_zs i b → sd_lsE ls F d b x3 x4 x5) c9 ls F d b s w p z
                      subst c9
                      have n8 := s.1
                      have gl := g.1
                      have m := w.1
                      exact sd_lsE_y g w (by omega) e86 (by
                        first
                          | exact Or.inl (by omega)
                          | (have B := pz_sb_at z (by omega) (by omega) e42 e44
                             refine Or.inr ?_
                             by_cases y : b x5.toNat = true
                             · exact y
                             · rw [if_neg y] at B
                               omega)) (by rw [q78, e77, show v25.toNat = 12 * x4.toNat + x5.toNat by omega, p x4.toNat x5.toNat (by omega) (by omega)]))
                  | skip
                exact ih9 _ _ _ _ _ (by omega) (by first | omega | assumption | exact fun _ ls F d b s w p z => sd_lsE_0 w) (by first | omega | assumption | exact fun _ ls F d b s w p z => sd_lsE_0 w) (by first | omega | assumption | exact fun _ ls F d b s w p z => sd_lsE_0 w) (by first | omega | assumption | exact fun _ ls F d b s w p z => sd_lsE_0 w)
              · skip
                intro r63 e63 k63
                have R63 := pz_kdA k63 (by decide) (by decide)
                have Z66 : (((pz_ak 21).2 : Nat) : Int) = 144 := rfl
                refine And.intro (fun h67 => ?_) (fun h67 => ?_)
                · skip
                  intro v86 e86 a86 b86
                  rw [pz_wi (by omega) (by omega)] at e86
                  first
                    | (have G9 : c = 71 → ∀ (ls : List pz_lne) (F : Nat → Int) (d : Nat) (b : Nat → Bool), sd_se M 71 F → sd_wf F → sd_sp M ls F d → pz_zs i b → sd_lsE ls F d b x3 x4 v86 := fun c9 ls F d b s w p z => by
                        have g := (by assumption : c = 71 → ∀ (ls : List pz_lne) (F : Nat → Int) (d : Nat) (b : Nat → Bool), sd_se M 71 F → sd_wf F → sd_sp M ls F d → pz_zs i b → sd_lsE ls F d b x3 x4 x5) c9 ls F d b s w p z
                        subst c9
                        have n8 := s.1
                        have B := pz_sb_at z (by omega) (by omega) e42 e44
                        exact sd_lsE_n g w (by omega) e86 (fun y => y.elim (fun y => by omega) (fun y => by
                          rw [if_pos y] at B
                          omega)))
                    | (have G9 : c = 71 → ∀ (ls : List pz_lne) (F : Nat → Int) (d : Nat) (b : Nat → Bool), sd_se M 71 F → sd_wf F → sd_sp M ls F d → pz_zs i b → sd_lsE ls F d b v78 x5 v86 := fun c9 ls F d b s w p z => by
                        have g := (by assumption : c = 71 → ∀ (ls : List pz_lne) (F : Nat → Int) (d : Nat) (b : Nat → Bool), sd_se M 71 F → sd_wf F → sd_sp M ls F d → pz_zs i b → sd_lsE ls F d b x3 x4 x5) c9 ls F d b s w p z
                        subst c9
                        have n8 := s.1
                        have gl := g.1
                        have m := w.1
                        exact sd_lsE_y g w (by omega) e86 (by
                          first
                            | exact Or.inl (by omega)
                            | (have B := pz_sb_at z (by omega) (by omega) e42 e44
                               refine Or.inr ?_
                               by_cases y : b x5.toNat = true
                               · exact y
                               · rw [if_neg y] at B
                                 omega)) (by rw [q78, e77, show v25.toNat = 12 * x4.toNat + x5.toNat by omega, p x4.toNat x5.toNat (by omega) (by omega)]))
                    | skip
                  exact ih9 _ _ _ _ _ (by omega) (by first | omega | assumption | exact fun _ ls F d b s w p z => sd_lsE_0 w) (by first | omega | assumption | exact fun _ ls F d b s w p z => sd_lsE_0 w) (by first | omega | assumption | exact fun _ ls F d b s w p z => sd_lsE_0 w) (by first | omega | assumption | exact fun _ ls F d b s w p z => sd_lsE_0 w)
                · skip
                  intro r72 e72 k72
                  have R72 := pz_kdA k72 (by decide) (by decide)
                  have W72 : r72 = 55 := e72
                  refine And.intro (by omega) (And.intro (show _ < (144 : Int) from by omega) ?_)
                  intro v77 e77 a77 b77
                  rw [W72] at e77
                  refine And.intro (True.intro) ?_
                  intro v78 M78 a78 b78 q78
                  obtain ⟨q78, z78⟩ := q78
                  subst z78
                  intro v86 e86 a86 b86
                  rw [pz_wi (by omega) (by omega)] at e86
                  first
                    | (have G9 : c = 71 → ∀ (ls : List pz_lne) (F : Nat → Int) (d : Nat) (b : Nat → Bool), sd_se M 71 F → sd_wf F → sd_sp M ls F d → pz_zs i b → sd_lsE ls F d b x3 x4 v86 := fun c9 ls F d b s w p z => by
                        have g := (by assumption : c = 71 → ∀ (ls : List pz_lne) (F : Nat → Int) (d : Nat) (b : Nat → Bool), sd_se M 71 F → sd_wf F → sd_sp M ls F d → pz_zs i b → sd_lsE ls F d b x3 x4 x5) c9 ls F d b s w p z
                        subst c9
                        have n8 := s.1
                        have B := pz_sb_at z (by omega) (by omega) e42 e44
                        exact sd_lsE_n g w (by omega) e86 (fun y => y.elim (fun y => by omega) (fun y => by
                          rw [if_pos y] at B
                          omega)))
                    | (have G9 : c = 71 → ∀ (ls : List pz_lne) (F : Nat → Int) (d : Nat) (b : Nat → Bool), sd_se M 71 F → sd_wf F → sd_sp M ls F d → pz_zs i b → sd_lsE ls F d b v78 x5 v86 := fun c9 ls F d b s w p z => by
                        have g := (by assumption : c = 71 → ∀ (ls : List pz_lne) (F : Nat → Int) (d : Nat) (b : Nat → Bool), sd_se M 71 F → sd_wf F → sd_sp M ls F d → pz_zs i b → sd_lsE ls F d b x3 x4 x5) c9 ls F d b s w p z
                        subst c9
                        have n8 := s.1
                        have gl := g.1
                        have m := w.1
                        exact sd_lsE_y g w (by omega) e86 (by
                          first
                            | exact Or.inl (by omega)
                            | (have B := pz_sb_at z (by omega) (by omega) e42 e44
                               refine Or.inr ?_
                               by_cases y : b x5.toNat = true
                               · exact y
                               · rw [if_neg y] at B
                                 omega)) (by rw [q78, e77, show v25.toNat = 12 * x4.toNat + x5.toNat by omega, p x4.toNat x5.toNat (by omega) (by omega)]))
                    | skip
                  exact ih9 _ _ _ _ _ (by omega) (by first | omega | assumption | exact fun _ ls F d b s w p z => sd_lsE_0 w) (by first | omega | assumption | exact fun _ ls F d b s w p z => sd_lsE_0 w) (by first | omega | assumption | exact fun _ ls F d b s w p z => sd_lsE_0 w) (by first | omega | assumption | exact fun _ ls F d b s w p z => sd_lsE_0 w)
            · skip
              refine And.intro (fun h57 => ?_) (fun h57 => ?_)
              · skip
                intro v86 e86 a86 b86
                rw [pz_wi (by omega) (by omega)] at e86
                first
                  | (have G9 : c = 71 → ∀ (ls : List pz_lne) (F : Nat → Int) (d : Nat) (b : Nat → Bool), sd_se M 71 F → sd_wf F → sd_sp M ls F d → pz_zs i b → sd_lsE ls F d b x3 x4 v86 := fun c9 ls F d b s w p z => by
                      have g := (by assumption : c = 71 → ∀ (ls : List pz_lne) (F : Nat → Int) (d : Nat) (b : Nat → Bool), sd_se M 71 F → sd_wf F → sd_sp M ls F d → pz_zs i b → sd_lsE ls F d b x3 x4 x5) c9 ls F d b s w p z
                      subst c9
                      have n8 := s.1
                      have B := pz_sb_at z (by omega) (by omega) e42 e44
                      exact sd_lsE_n g w (by omega) e86 (fun y => y.elim (fun y => by omega) (fun y => by
                        rw [if_pos y] at B
                        omega)))
                  | (have G9 : c = 71 → ∀ (ls : List pz_lne) (F : Nat → Int) (d : Nat) (b : Nat → Bool), sd_se M 71 F → sd_wf F → sd_sp M ls F d → pz_zs i b → sd_lsE ls F d b v78 x5 v86 := fun c9 ls F d b s w p z => by
                      have g := (by assumption : c = 71 → ∀ (ls : List pz_lne) (F : Nat → Int) (d : Nat) (b : Nat → Bool), sd_se M 71 F → sd_wf F → sd_sp M ls F d → pz_zs i b → sd_lsE ls F d b x3 x4 x5) c9 ls F d b s w p z
                      subst c9
                      have n8 := s.1
                      have gl := g.1
                      have m := w.1
                      exact sd_lsE_y g w (by omega) e86 (by
                        first
                          | exact Or.inl (by omega)
                          | (have B := pz_sb_at z (by omega) (by omega) e42 e44
                             refine Or.inr ?_
                             by_cases y : b x5.toNat = true
                             · exact y
                             · rw [if_neg y] at B
                               omega)) (by rw [q78, e77, show v25.toNat = 12 * x4.toNat + x5.toNat by omega, p x4.toNat x5.toNat (by omega) (by omega)]))
                  | skip
                exact ih9 _ _ _ _ _ (by omega) (by first | omega | assumption | exact fun _ ls F d b s w p z => sd_lsE_0 w) (by first | omega | assumption | exact fun _ ls F d b s w p z => sd_lsE_0 w) (by first | omega | assumption | exact fun _ ls F d b s w p z => sd_lsE_0 w) (by first | omega | assumption | exact fun _ ls F d b s w p z => sd_lsE_0 w)
              · skip
                intro r63 e63 k63
                have R63 := pz_kdA k63 (by decide) (by decide)
                have Z66 : (((pz_ak 21).2 : Nat) : Int) = 144 := rfl
                refine And.intro (fun h67 => ?_) (fun h67 => ?_)
                · skip
                  intro v86 e86 a86 b86
                  rw [pz_wi (by omega) (by omega)] at e86
                  first
                    | (have G9 : c = 71 → ∀ (ls : List pz_lne) (F : Nat → Int) (d : Nat) (b : Nat → Bool), sd_se M 71 F → sd_wf F → sd_sp M ls F d → pz_zs i b → sd_lsE ls F d b x3 x4 v86 := fun c9 ls F d b s w p z => by
                        have g := (by assumption : c = 71 → ∀ (ls : List pz_lne) (F : Nat → Int) (d : Nat) (b : Nat → Bool), sd_se M 71 F → sd_wf F → sd_sp M ls F d → pz_zs i b → sd_lsE ls F d b x3 x4 x5) c9 ls F d b s w p z
                        subst c9
                        have n8 := s.1
                        have B := pz_sb_at z (by omega) (by omega) e42 e44
                        exact sd_lsE_n g w (by omega) e86 (fun y => y.elim (fun y => by omega) (fun y => by
                          rw [if_pos y] at B
                          omega)))
                    | (have G9 : c = 71 → ∀ (ls : List pz_lne) (F : Nat → Int) (d : Nat) (b : Nat → Bool), sd_se M 71 F → sd_wf F → sd_sp M ls F d → pz_zs i b → sd_lsE ls F d b v78 x5 v86 := fun c9 ls F d b s w p z => by
                        have g := (by assumption : c = 71 → ∀ (ls : List pz_lne) (F : Nat → Int) (d : Nat) (b : Nat → Bool), sd_se M 71 F → sd_wf F → sd_sp M ls F d → pz_zs i b → sd_lsE ls F d b x3 x4 x5) c9 ls F d b s w p z
                        subst c9
                        have n8 := s.1
                        have gl := g.1
                        have m := w.1
                        exact sd_lsE_y g w (by omega) e86 (by
                          first
                            | exact Or.inl (by omega)
                            | (have B := pz_sb_at z (by omega) (by omega) e42 e44
                               refine Or.inr ?_
                               by_cases y : b x5.toNat = true
                               · exact y
                               · rw [if_neg y] at B
                                 omega)) (by rw [q78, e77, show v25.toNat = 12 * x4.toNat + x5.toNat by omega, p x4.toNat x5.toNat (by omega) (by omega)]))
                    | skip
                  exact ih9 _ _ _ _ _ (by omega) (by first | omega | assumption | exact fun _ ls F d b s w p z => sd_lsE_0 w) (by first | omega | assumption | exact fun _ ls F d b s w p z => sd_lsE_0 w) (by first | omega | assumption | exact fun _ ls F d b s w p z => sd_lsE_0 w) (by first | omega | assumption | exact fun _ ls F d b s w p z => sd_lsE_0 w)
                · skip
                  intro r72 e72 k72
                  have R72 := pz_kdA k72 (by decide) (by decide)
                  have W72 : r72 = 55 := e72
                  refine And.intro (by omega) (And.intro (show _ < (144 : Int) from by omega) ?_)
                  intro v77 e77 a77 b77
                  rw [W72] at e77
                  refine And.intro (True.intro) ?_
                  intro v78 M78 a78 b78 q78
                  obtain ⟨q78, z78⟩ := q78
                  subst z78
                  intro v86 e86 a86 b86
                  rw [pz_wi (by omega) (by omega)] at e86
                  first
                    | (have G9 : c = 71 → ∀ (ls : List pz_lne) (F : Nat → Int) (d : Nat) (b : Nat → Bool), sd_se M 71 F → sd_wf F → sd_sp M ls F d → pz_zs i b → sd_lsE ls F d b x3 x4 v86 := fun c9 ls F d b s w p z => by
                        have g := (by assumption : c = 71 → ∀ (ls : List pz_lne) (F : Nat → Int) (d : Nat) (b : Nat → Bool), sd_se M 71 F → sd_wf F → sd_sp M ls F d → pz_zs i b → sd_lsE ls F d b x3 x4 x5) c9 ls F d b s w p z
                        subst c9
                        have n8 := s.1
                        have B := pz_sb_at z (by omega) (by omega) e42 e44
                        exact sd_lsE_n g w (by omega) e86 (fun y => y.elim (fun y => by omega) (fun y => by
                          rw [if_pos y] at B
                          omega)))
                    | (have G9 : c = 71 → ∀ (ls : List pz_lne) (F : Nat → Int) (d : Nat) (b : Nat → Bool), sd_se M 71 F → sd_wf F → sd_sp M ls F d → pz_zs i b → sd_lsE ls F d b v78 x5 v86 := fun c9 ls F d b s w p z => by
                        have g := (by assumption : c = 71 → ∀ (ls : List pz_lne) (F : Nat → Int) (d : Nat) (b : Nat → Bool), sd_se M 71 F → sd_wf F → sd_sp M ls F d → pz_zs i b → sd_lsE ls F d b x3 x4 x5) c9 ls F d b s w p z
                        subst c9
                        have n8 := s.1
                        have gl := g.1
                        have m := w.1
                        exact sd_lsE_y g w (by omega) e86 (by
                          first
                            | exact Or.inl (by omega)
                            | (have B := pz_sb_at z (by omega) (by omega) e42 e44
                               refine Or.inr ?_
                               by_cases y : b x5.toNat = true
                               · exact y
                               · rw [if_neg y] at B
                                 omega)) (by rw [q78, e77, show v25.toNat = 12 * x4.toNat + x5.toNat by omega, p x4.toNat x5.toNat (by omega) (by omega)]))
                    | skip
                  exact ih9 _ _ _ _ _ (by omega) (by first | omega | assumption | exact fun _ ls F d b s w p z => sd_lsE_0 w) (by first | omega | assumption | exact fun _ ls F d b s w p z => sd_lsE_0 w) (by first | omega | assumption | exact fun _ ls F d b s w p z => sd_lsE_0 w) (by first | omega | assumption | exact fun _ ls F d b s w p z => sd_lsE_0 w)
    refine hgo (fun p => Nat.beq p 9) 54 0 _ [] M ?_
    exact L9 _ _ _ _ _ _ (Nat.lt_succ_self _) (by first | omega | assumption | exact fun _ ls F d b s w p z => sd_lsE_0 w) (by first | omega | assumption | exact fun _ ls F d b s w p z => sd_lsE_0 w) (by first | omega | assumption | exact fun _ ls F d b s w p z => sd_lsE_0 w) (by first | omega | assumption | exact fun _ ls F d b s w p z => sd_lsE_0 w)
theorem v3_X4_leastOdds {fr lo i : Nat} {own : String} (h1 : 1 + 1 ≤ fr) (h2 : 8 + (8 + 11) + 21 ≤ lo) (h3 : .methodLink own i yX4_leastOdds ∈ lw_tbl) : pz_cV fr lo own i k3_X4_leastOdds :=
  pz_cVk (maxL := 8) (fr' := 1) (lo' := 21) 2 4 h3_X4_leastOdds rfl ⟨by decide +kernel, by decide +kernel, by decide +kernel⟩ ⟨(pz_mt 954 (by decide +kernel)), (pz_mt 952 (by decide +kernel)), (pz_mt 953 (by decide +kernel)), (pz_mt 11 (by decide +kernel))⟩ (Or.inl ⟨TX4, 5, rfl⟩) (fun a M _ h => by
    have h : (match (generalizing := false) a with | [.inr (.inr (4, k)), .inr (.inr (0, c)), .inl i] => pz_ic M | _ => False) := h
    split at h
    · exact ⟨_, _, rfl⟩
    · exact h.elim) h1 h2 h3
def k4_X11_split : pz_C := (3, 1, fun a M => (match a with | [.inr (.inr (11, th)), .inl d, .inl w] => pz_ic M | _ => False), fun a M r M' => (match a, r with | [.inr (.inr (11, th)), .inl d, .inl w], some (.inl v) => (sd_wc M v (fun ls F => sd_spv ls F d w)) ∧ pq_pr pq_Pk M M' | _, _ => False))
abbrev ct4_X11_split : List (Bool × Nat × pz_C) := [(false, 137, k_X11_within), (true, 337, k3_X0_bridgedOnes), (true, 255, k4_X4_reckon), (true, 340, k4_X4_reckonSpans), (true, 153, k3_X0_canBridge), (true, 343, k3_X4_leastOdds)]
set_option maxRecDepth 100000 in
set_option maxHeartbeats 4000000 in
theorem h4_X11_split : pz_H yX11_split cX11_split 8 (some .int) k4_X11_split 5 120 := by
  refine pz_mk (own := RX11) (tb := t_X11_split) (fl := pz_flf fl_RX11) (ci := pz_cif ci_RX11) (ct := pz_ctf ct4_X11_split) (rz := false) (by decide +kernel) rfl t_X11_split_ok (pz_flk fl_RX11_ok) (pz_cik ci_RX11_ok) ?_ ?_ (Or.inl ⟨rfl, rfl⟩) ?_ ?_
  · exact fun i k' h => pz_ctk (l := ct4_X11_split) (P := fun b i k => b = true → pz_cV 5 120 RX11 i k) (List.forall_mem_cons.mpr ⟨((fun z => by cases z)), List.forall_mem_cons.mpr ⟨(fun _ => v3_X0_bridgedOnes (by decide) (by decide) (pz_mt 1078 (by decide +kernel))), List.forall_mem_cons.mpr ⟨(fun _ => v4_X4_reckon (by decide) (by decide) (pz_mt 884 (by decide +kernel))), List.forall_mem_cons.mpr ⟨(fun _ => v4_X4_reckonSpans (by decide) (by decide) (pz_mt 1079 (by decide +kernel))), List.forall_mem_cons.mpr ⟨(fun _ => v3_X0_canBridge (by decide) (by decide) (pz_mt 525 (by decide +kernel))), List.forall_mem_cons.mpr ⟨(fun _ => v3_X4_leastOdds (by decide) (by decide) (pz_mt 1080 (by decide +kernel))), fun _ h => absurd h List.not_mem_nil⟩⟩⟩⟩⟩⟩) true i k' h rfl
  · exact fun i k' h => pz_ctk (l := ct4_X11_split) (P := fun b i k => b = false → (pz_cS 5 120 RX11 i k ∨ (k = pz_kac ∧ 1 ≤ 5 ∧ 60 ≤ 120 ∧ Cond.methodLink RX11 i arraycopyName ∈ pz_tbl))) (List.forall_mem_cons.mpr ⟨(fun _ => Or.inl (s_X11_within (by decide) (by decide) (Or.inl (pz_mt 425 (by decide +kernel))))), List.forall_mem_cons.mpr ⟨((fun z => by cases z)), List.forall_mem_cons.mpr ⟨((fun z => by cases z)), List.forall_mem_cons.mpr ⟨((fun z => by cases z)), List.forall_mem_cons.mpr ⟨((fun z => by cases z)), List.forall_mem_cons.mpr ⟨((fun z => by cases z)), fun _ h => absurd h List.not_mem_nil⟩⟩⟩⟩⟩⟩) false i k' h rfl
  · intro a M hlen hpre
    obtain ⟨th, d, w, rfl, hpre⟩ : ∃ th d w, a = [.inr (.inr (11, th)), .inl d, .inl w] ∧ (pz_ic M) := by
      have hpre : (match (generalizing := false) a with | [.inr (.inr (11, th)), .inl d, .inl w] => pz_ic M | _ => False) := hpre
      split at hpre
      · exact ⟨_, _, _, rfl, hpre⟩
      · exact hpre.elim
    exact Nat.le_of_ble_eq_true rfl
  · intro a M hlen hcan hM hpre Ok hgo
    obtain ⟨th, d, w, rfl, hpre⟩ : ∃ th d w, a = [.inr (.inr (11, th)), .inl d, .inl w] ∧ (pz_ic M) := by
      have hpre : (match (generalizing := false) a with | [.inr (.inr (11, th)), .inl d, .inl w] => pz_ic M | _ => False) := hpre
      split at hpre
      · exact ⟨_, _, _, rfl, hpre⟩
      · exact hpre.elim
    obtain ⟨k_th, hc_th⟩ := pz_tlm hcan
    have k_th : pz_kd th = 11 ∧ th < 231 := k_th
    have R_th := pz_kd11 k_th.1
    subst R_th
    obtain ⟨k_d, hc_d⟩ := pz_tlm hc_th
    have l_d : -2147483648 ≤ d := k_d.1
    have u_d : d ≤ 2147483647 := k_d.2
    obtain ⟨k_w, hc_w⟩ := pz_tlm hc_d
    have l_w : -2147483648 ≤ w := k_w.1
    have u_w : w ≤ 2147483647 := k_w.2
    have hI : pz_ic M := hpre
    have hI0 := hI
    have hS : pq_pr pq_Pk M M := pq_pr.rf
    have L61 : ∀ (fu : Nat) (x3 : Int) (x4 : Int) (x5 : Int) (x6 : Int) (d7 : Option pz_V) (N61 : pz_M), (12 - x6).toNat < fu → (pq_pr pq_Pk M N61) → (0 ≤ x6) → ((1 ≤ d ∧ d ≤ 60) ∧ 0 ≤ w ∧ w ≤ 1) → (sd_wp M (fun ls F => pz_zs x5 (sd_bn F) ∧ sd_sp N61 ls F d.toNat ∧ sd_spE ls F d.toNat x3 x4 x6)) → Ok 61 [some (.inr (.inr (11, 0))), some (.inl d), some (.inl w), some (.inl x3), some (.inl x4), some (.inl x5), some (.inl x6), d7] [] N61 := by
      intro fu
      induction fu with
      | zero => exact fun _ _ _ _ _ _ hn => absurd hn (Nat.not_lt_zero _)
      | succ fu ih61 =>
        intro x3 x4 x5 x6 d7 N61 hn61 hS g61_1 g61_2 g61_3
        have hI : pz_ic N61 := hS.1 hI0
        have hS61 := hS
        have L119 : ∀ (x3 : Int) (x4 : Int) (x5 : Int) (x6 : Int) (d7 : Option pz_V) (N119 : pz_M), (pq_pr pq_Pk M N119) → (0 ≤ x6) → (x6 < 12) → ((12 - x6).toNat < fu + 1) → ((1 ≤ d ∧ d ≤ 60) ∧ 0 ≤ w ∧ w ≤ 1) → (sd_wp M (fun ls F => pz_zs x5 (sd_bn F) ∧ sd_sp N119 ls F d.toNat ∧ sd_spE ls F d.toNat x3 x4 (x6 + 1))) → Ok 119 [some (.inr (.inr (11, 0))), some (.inl d), some (.inl w), some (.inl x3), some (.inl x4), some (.inl x5), some (.inl x6), d7] [] N119 := by
          intro x3 x4 x5 x6 d7 N119 hS g119_1 g119_2 g119_3 g119_4 g119_5
          have hI : pz_ic N119 := hS.1 hI0
          refine hgo (fun p => Nat.beq p 61 || Nat.beq p 119) 71 119 _ _ _ ?_
          intro v119 e119 a119 b119
          rw [pz_wi (by omega) (by omega)] at e119
          have G61 : sd_wp M (fun ls F => pz_zs x5 (sd_bn F) ∧ sd_sp N119 ls F d.toNat ∧ sd_spE ls F d.toNat x3 x4 v119) := by
            rw [e119]
            assumption
          exact ih61 _ _ _ _ _ _ (by omega) hS (by first | omega | assumption) (by first | omega | assumption) (by first | omega | assumption)
        refine hgo (fun p => Nat.beq p 61 || Nat.beq p 119) 71 61 _ _ _ ?_
        refine pz_nrc (c := 71) rfl ?_
        intro v67 e67 a67 b67
        have I67 := hI.1 71 (by omega) (by omega)
        refine And.intro (fun h70 => ?_) (fun h70 => ?_)
        · skip
          refine And.intro (fun h126 => ?_) (fun h126 => ?_)
          · skip
            refine And.intro rfl ?_
            refine ⟨fun ls l1 F hT hF hW => ?_, hS⟩
            obtain ⟨z1, z2, z3⟩ := (by assumption : sd_wp M (fun ls F => pz_zs x5 (sd_bn F) ∧ sd_sp N61 ls F d.toNat ∧ sd_spE ls F d.toNat x3 x4 x6)) ls l1 F hT hF hW
            have n8 := (sd_se_k hF hW hS).1
            have z := sd_spE_z z3 hW (by omega)
            show _ = sd_spv ls F d w
            unfold sd_spv
            rw [if_pos (by omega), ← z]
            first
              | (rw [if_pos (by omega)]; done)
              | (rw [if_neg (by omega)]; done)
          · skip
            refine And.intro rfl ?_
            refine ⟨fun ls l1 F hT hF hW => ?_, hS⟩
            obtain ⟨z1, z2, z3⟩ := (by assumption : sd_wp M (fun ls F => pz_zs x5 (sd_bn F) ∧ sd_sp N61 ls F d.toNat ∧ sd_spE ls F d.toNat x3 x4 x6)) ls l1 F hT hF hW
            have n8 := (sd_se_k hF hW hS).1
            have z := sd_spE_z z3 hW (by omega)
            show _ = sd_spv ls F d w
            unfold sd_spv
            rw [if_pos (by omega), ← z]
            first
              | (rw [if_pos (by omega)]; done)
              | (rw [if_neg (by omega)]; done)
        · skip
          refine pz_nrc (c := 71) rfl ?_
          refine And.intro (hI) ?_
          intro v79 M79 a79 b79 q79
          obtain ⟨q79, z79⟩ := q79
          subst z79
          refine And.intro (fun h82 => ?_) (fun h82 => ?_)
          · skip
            have G119 : sd_wp M (fun ls F => pz_zs x5 (sd_bn F) ∧ sd_sp N61 ls F d.toNat ∧ sd_spE ls F d.toNat x3 x4 (x6 + 1)) := fun ls l1 F t s w9 => by
              obtain ⟨z1, z2, z3⟩ := (by assumption : sd_wp M (fun ls F => pz_zs x5 (sd_bn F) ∧ sd_sp N61 ls F d.toNat ∧ sd_spE ls F d.toNat x3 x4 x6)) ls l1 F t s w9
              have s2 := sd_se_k s w9 hS61
              have n8 := s2.1
              have cb := q79.2 F s2 w9
              exact ⟨z1, z2, sd_spE_n z3 w9 (by omega) rfl (fun z => absurd (cb.mpr ⟨by omega, z.1⟩) (by omega))⟩
            exact L119 _ _ _ _ _ _ hS (by first | omega | assumption) (by first | omega | assumption) (by first | omega | assumption) (by first | omega | assumption) (by first | omega | assumption)
          · skip
            skip
            refine pz_nrc (c := 6) rfl ?_
            refine pz_nrc (c := 71) rfl ?_
            intro v98 e98 a98 b98
            intro v99 e99 a99 b99
            refine And.intro (hI) ?_
            intro v100 M100 a100 b100 q100
            obtain ⟨q100, z100⟩ := q100
            subst z100
            refine And.intro (fun h109 => ?_) (fun h109 => ?_)
            · skip
              have G119 : sd_wp M (fun ls F => pz_zs x5 (sd_bn F) ∧ sd_sp N61 ls F d.toNat ∧ sd_spE ls F d.toNat x3 x4 (x6 + 1)) := fun ls l1 F t s w9 => by
                obtain ⟨z1, z2, z3⟩ := (by assumption : sd_wp M (fun ls F => pz_zs x5 (sd_bn F) ∧ sd_sp N61 ls F d.toNat ∧ sd_spE ls F d.toNat x3 x4 x6)) ls l1 F t s w9
                have s2 := sd_se_k s w9 hS61
                have n8 := s2.1
                have cb := q79.2 F s2 w9
                have o := q100 rfl ls F d.toNat (sd_bi F x6.toNat) s2 w9 z2 (sd_bi_z z1 (by omega) (by omega) e98 e99)
                exact ⟨z1, z2, sd_spE_n z3 w9 (by omega) rfl (fun z => by
                  have z2 := z.2
                  omega)⟩
              exact L119 _ _ _ _ _ _ hS (by first | omega | assumption) (by first | omega | assumption) (by first | omega | assumption) (by first | omega | assumption) (by first | omega | assumption)
            · skip
              have G119 : sd_wp M (fun ls F => pz_zs x5 (sd_bn F) ∧ sd_sp N61 ls F d.toNat ∧ sd_spE ls F d.toNat x6 v100 (x6 + 1)) := fun ls l1 F t s w9 => by
                obtain ⟨z1, z2, z3⟩ := (by assumption : sd_wp M (fun ls F => pz_zs x5 (sd_bn F) ∧ sd_sp N61 ls F d.toNat ∧ sd_spE ls F d.toNat x3 x4 x6)) ls l1 F t s w9
                have s2 := sd_se_k s w9 hS61
                have n8 := s2.1
                have cb := q79.2 F s2 w9
                have o := q100 rfl ls F d.toNat (sd_bi F x6.toNat) s2 w9 z2 (sd_bi_z z1 (by omega) (by omega) e98 e99)
                exact ⟨z1, z2, sd_spE_y z3 w9 (by omega) rfl (cb.mp (by omega)).2 o (by omega)⟩
              exact L119 _ _ _ _ _ _ hS (by first | omega | assumption) (by first | omega | assumption) (by first | omega | assumption) (by first | omega | assumption) (by first | omega | assumption)
    refine hgo (fun p => Nat.beq p 61 || Nat.beq p 119) 71 0 _ [] M ?_
    refine And.intro (True.intro) ?_
    intro v4 M4 a4 b4 q4
    obtain ⟨q4, z4⟩ := q4
    subst z4
    refine And.intro (fun h7 => ?_) (fun h7 => ?_)
    · skip
      refine And.intro rfl ?_
      refine ⟨fun ls l1 F hT hF hW => ?_, hS⟩
      show _ = sd_spv ls F d w
      unfold sd_spv
      rw [if_neg (fun z => by
        first
          | (split at q4 <;> omega)
          | (split at q4 <;> split at q13 <;> omega)
          | omega)]
    · skip
      refine And.intro (True.intro) ?_
      intro v13 M13 a13 b13 q13
      obtain ⟨q13, z13⟩ := q13
      subst z13
      refine And.intro (fun h16 => ?_) (fun h16 => ?_)
      · skip
        have GP : (1 ≤ d ∧ d ≤ 60) ∧ 0 ≤ w ∧ w ≤ 1 := by
          split at q4 <;> split at q13 <;> omega
        refine pz_nrc (c := 71) rfl ?_
        refine And.intro (hI) ?_
        intro v30 M30 a30 b30 q30
        obtain ⟨q30, z30⟩ := q30
        subst z30
        refine pz_nrc (c := 6) rfl ?_
        refine pz_nrc (c := 71) rfl ?_
        refine And.intro (hI) ?_
        intro M44 q44
        obtain ⟨q44, z44⟩ := q44
        have hS : pq_pr pq_Pk M M44 := hS.tr z44
        have hI : pz_ic M44 := hS.1 hI0
        have hS44 := hS
        refine pz_nrc (c := 6) rfl ?_
        refine pz_nrc (c := 71) rfl ?_
        refine And.intro (hI) ?_
        intro M55 q55
        obtain ⟨q55, z55⟩ := q55
        have hS : pq_pr pq_Pk M M55 := hS.tr z55
        have hI : pz_ic M55 := hS.1 hI0
        have G61 : sd_wp M (fun ls F => pz_zs v30 (sd_bn F) ∧ sd_sp M55 ls F d.toNat ∧ sd_spE ls F d.toNat (-1) (-1) 0) := fun ls l1 F t s w9 => ⟨q30 F s w9, q55.2 rfl ls F d.toNat (sd_se_k s w9 hS44) w9 (q44 rfl (by omega) ls l1 F t s w9).al, sd_spE_0 w9⟩
        exact L61 _ _ _ _ _ _ _ (Nat.lt_succ_self _) hS (by first | omega | assumption) (by first | omega | assumption) (by first | omega | assumption)
      · skip
        skip
        refine And.intro rfl ?_
        refine ⟨fun ls l1 F hT hF hW => ?_, hS⟩
        show _ = sd_spv ls F d w
        unfold sd_spv
        rw [if_neg (fun z => by
          first
            | (split at q4 <;> omega)
            | (split at q4 <;> split at q13 <;> omega)
            | omega)]
theorem v4_X11_split {fr lo i : Nat} {own : String} (h1 : 5 + 1 ≤ fr) (h2 : 8 + (8 + 11) + 120 ≤ lo) (h3 : .methodLink own i yX11_split ∈ lw_tbl) : pz_cV fr lo own i k4_X11_split :=
  pz_cVk (maxL := 8) (fr' := 5) (lo' := 120) 2 11 h4_X11_split rfl ⟨by decide +kernel, by decide +kernel, by decide +kernel⟩ ⟨(pz_mt 1077 (by decide +kernel)), (pz_mt 1075 (by decide +kernel)), (pz_mt 1076 (by decide +kernel)), (pz_mt 1 (by decide +kernel))⟩ (Or.inl ⟨TX11, 14, rfl⟩) (fun a M _ h => by
    have h : (match (generalizing := false) a with | [.inr (.inr (11, th)), .inl d, .inl w] => pz_ic M | _ => False) := h
    split at h
    · exact ⟨_, _, rfl⟩
    · exact h.elim) h1 h2 h3
