def k4_X4_reckon : pz_C := (3, 0, fun a M => (match a with | [.inr (.inr (4, k)), .inr (.inr (0, c)), .inl n] => pz_ic M | _ => False), fun a M r M' => (match a, r with | [.inr (.inr (4, k)), .inr (.inr (0, c)), .inl n], none => (c = 71 → 0 ≤ n → sd_wp M (fun ls F => sd_ar M' ls F n.toNat (F 88))) ∧ pq_pr pq_Pk M M' | _, _ => False))
abbrev ct4_X4_reckon : List (Bool × Nat × pz_C) := [(true, 44, k3_X3_tells), (false, 33, k_X4_leftAfter)]
set_option maxRecDepth 100000 in
set_option maxHeartbeats 4000000 in
theorem h4_X4_reckon : pz_H yX4_reckon cX4_reckon 4 none k4_X4_reckon 4 97 := by
  refine pz_mk (own := RX4) (tb := t_X4_reckon) (fl := pz_flf fl_RX4) (ci := pz_cif ci_RX4) (ct := pz_ctf ct4_X4_reckon) (rz := false) (by decide +kernel) rfl t_X4_reckon_ok (pz_flk fl_RX4_ok) (pz_cik ci_RX4_ok) ?_ ?_ (rfl) ?_ ?_
  · exact fun i k' h => pz_ctk (l := ct4_X4_reckon) (P := fun b i k => b = true → pz_cV 4 97 RX4 i k) (List.forall_mem_cons.mpr ⟨(fun _ => v3_X3_tells (by decide) (by decide) (pz_mt 888 (by decide +kernel))), List.forall_mem_cons.mpr ⟨((fun z => by cases z)), fun _ h => absurd h List.not_mem_nil⟩⟩) true i k' h rfl
  · exact fun i k' h => pz_ctk (l := ct4_X4_reckon) (P := fun b i k => b = false → (pz_cS 4 97 RX4 i k ∨ (k = pz_kac ∧ 1 ≤ 4 ∧ 60 ≤ 97 ∧ Cond.methodLink RX4 i arraycopyName ∈ pz_tbl))) (List.forall_mem_cons.mpr ⟨((fun z => by cases z)), List.forall_mem_cons.mpr ⟨(fun _ => Or.inl (s_X4_leftAfter (by decide) (by decide) (Or.inl (pz_mt 889 (by decide +kernel))))), fun _ h => absurd h List.not_mem_nil⟩⟩) false i k' h rfl
  · intro a M hlen hpre
    obtain ⟨k, c, n, rfl, hpre⟩ : ∃ k c n, a = [.inr (.inr (4, k)), .inr (.inr (0, c)), .inl n] ∧ (pz_ic M) := by
      have hpre : (match (generalizing := false) a with | [.inr (.inr (4, k)), .inr (.inr (0, c)), .inl n] => pz_ic M | _ => False) := hpre
      split at hpre
      · exact ⟨_, _, _, rfl, hpre⟩
      · exact hpre.elim
    exact Nat.le_of_ble_eq_true rfl
  · intro a M hlen hcan hM hpre Ok hgo
    obtain ⟨k, c, n, rfl, hpre⟩ : ∃ k c n, a = [.inr (.inr (4, k)), .inr (.inr (0, c)), .inl n] ∧ (pz_ic M) := by
      have hpre : (match (generalizing := false) a with | [.inr (.inr (4, k)), .inr (.inr (0, c)), .inl n] => pz_ic M | _ => False) := hpre
      split at hpre
      · exact ⟨_, _, _, rfl, hpre⟩
      · exact hpre.elim
    obtain ⟨k_k, hc_k⟩ := pz_tlm hcan
    have k_k : pz_kd k = 4 ∧ k < 231 := k_k
    have R_k := pz_kd4 k_k.1
    subst R_k
    obtain ⟨k_c, hc_c⟩ := pz_tlm hc_k
    have k_c : pz_kd c = 0 ∧ c < 231 := k_c
    have R_c := pz_kd0 k_c.1
    obtain ⟨k_n, hc_n⟩ := pz_tlm hc_c
    have l_n : -2147483648 ≤ n := k_n.1
    have u_n : n ≤ 2147483647 := k_n.2
    have hI : pz_ic M := hpre
    have hI0 := hI
    have hS : pq_pr pq_Pk M M := pq_pr.rf
    have L2 : ∀ (fu : Nat) (x3 : Int) (N2 : pz_M), (12 - x3).toNat < fu → (pq_pr pq_Pk M N2) → (0 ≤ x3) → (c = 71 → 0 ≤ n → sd_wp M (fun ls F => x3 ≤ F 88 ∧ sd_ar N2 ls F n.toNat x3)) → Ok 2 [some (.inr (.inr (4, 6))), some (.inr (.inr (0, c))), some (.inl n), some (.inl x3)] [] N2 := by
      intro fu
      induction fu with
      | zero => exact fun _ _ hn => absurd hn (Nat.not_lt_zero _)
      | succ fu ih2 =>
        intro x3 N2 hn2 hS g2_1 g2_2
        have hI : pz_ic N2 := hS.1 hI0
        have hS2 := hS
        refine hgo (fun p => Nat.beq p 2) 44 2 _ _ _ ?_
        intro v4 e4 a4 b4
        have I4 := hI.1 c (by omega) (by omega)
        refine And.intro (fun h7 => ?_) (fun h7 => ?_)
        · skip
          refine And.intro rfl ?_
          refine ⟨fun c9 n9 ls l1 F t s w => ?_, hS⟩
          obtain ⟨g1, g2⟩ := (by assumption : c = 71 → 0 ≤ n → sd_wp M (fun ls F => x3 ≤ F 88 ∧ sd_ar N2 ls F n.toNat x3)) c9 n9 ls l1 F t s w
          subst c9
          have n8 := (sd_se_k s w hS2).1
          have m := w.1
          have e : x3 = F 88 := by omega
          rw [e] at g2
          exact g2
        · skip
          refine And.intro (fun h13 => ?_) (fun h13 => ?_)
          · skip
            refine And.intro rfl ?_
            refine ⟨fun c9 n9 ls l1 F t s w => ?_, hS⟩
            obtain ⟨g1, g2⟩ := (by assumption : c = 71 → 0 ≤ n → sd_wp M (fun ls F => x3 ≤ F 88 ∧ sd_ar N2 ls F n.toNat x3)) c9 n9 ls l1 F t s w
            subst c9
            have n8 := (sd_se_k s w hS2).1
            have m := w.1
            have e : x3 = F 88 := by omega
            rw [e] at g2
            exact g2
          · skip
            intro r17 e17 k17
            have R17 := pz_kdA k17 (by decide) (by decide)
            have Q17 := pz_nm e17 k_k.1 (by decide) (by decide) rfl
            have W17 : r17 = 53 := e17
            intro r22 e22 k22
            have R22 := pz_kd3 k22
            have L22 : r22 = 10 := by rw [e22]; rfl
            refine And.intro (hI) ?_
            intro v28 M28 a28 b28 q28
            obtain ⟨q28, z28⟩ := q28
            have hS : pq_pr pq_Pk M M28 := hS.tr z28.wpk
            have hI : pz_ic M28 := hS.1 hI0
            rw [L22] at q28
            refine And.intro (by omega) (And.intro (show _ < (12 : Int) from by omega) ?_)
            intro M31 e31
            have hS : pq_pr pq_Pk M M31 := by
              rw [e31]
              exact pq_pr_u hS (by unfold pq_Pk pq_Pw; omega) (by unfold pz_iok; omega)
            have hI : pz_ic M31 := hS.1 hI0
            rw [W17] at e31
            have hS31 := hS
            intro r33 e33 k33
            have R33 := pz_kdA k33 (by decide) (by decide)
            have Q33 := pz_nm e33 k_k.1 (by decide) (by decide) rfl
            have W33 : r33 = 54 := e33
            intro r38 e38 k38
            have R38 := pz_kd3 k38
            have L38 : r38 = 10 := by rw [e38]; rfl
            refine And.intro (hI) ?_
            intro v44 M44 a44 b44 q44
            obtain ⟨q44, z44⟩ := q44
            have hS : pq_pr pq_Pk M M44 := hS.tr z44.wpk
            have hI : pz_ic M44 := hS.1 hI0
            rw [L38] at q44
            refine And.intro (by omega) (And.intro (show _ < (12 : Int) from by omega) ?_)
            intro M47 e47
            have hS : pq_pr pq_Pk M M47 := by
              rw [e47]
              exact pq_pr_u hS (by unfold pq_Pk pq_Pw; omega) (by unfold pz_iok; omega)
            have hI : pz_ic M47 := hS.1 hI0
            rw [W33] at e47
            intro r49 e49 k49
            have R49 := pz_kdA k49 (by decide) (by decide)
            have Q49 := pz_nm e49 k_k.1 (by decide) (by decide) rfl
            have W49 : r49 = 52 := e49
            intro r54 e54 k54
            have R54 := pz_kdA k54 (by decide) (by decide)
            have Q54 := pz_nm e54 k_k.1 (by decide) (by decide) rfl
            have W54 : r54 = 53 := e54
            refine And.intro (by omega) (And.intro (show _ < (12 : Int) from by omega) ?_)
            intro v58 e58 a58 b58
            rw [W54] at e58
            refine And.intro (True.intro) ?_
            intro v60 M60 a60 b60 q60
            obtain ⟨q60, z60⟩ := q60
            subst z60
            refine And.intro (by omega) (And.intro (show _ < (12 : Int) from by omega) ?_)
            intro M63 e63
            have hS : pq_pr pq_Pk M M63 := by
              rw [e63]
              exact pq_pr_u hS (by unfold pq_Pk pq_Pw; omega) (by unfold pz_iok; omega)
            have hI : pz_ic M63 := hS.1 hI0
            rw [W49] at e63
            intro v64 e64 a64 b64
            rw [pz_wi (by omega) (by omega)] at e64
            have G2 : c = 71 → 0 ≤ n → sd_wp M (fun ls F => v64 ≤ F 88 ∧ sd_ar M63 ls F n.toNat v64) := fun c9 n9 ls l1 F t s w => by
              obtain ⟨g1, g2⟩ := (by assumption : c = 71 → 0 ≤ n → sd_wp M (fun ls F => x3 ≤ F 88 ∧ sd_ar N2 ls F n.toNat x3)) c9 n9 ls l1 F t s w
              subst c9
              have s2 := sd_se_k s w hS2
              have n8 := s2.1
              have r := sd_tel0 (⟨by decide, by decide⟩ : 71 ≤ 71 ∧ 71 < 80) (sd_tx_k t hS2) s2 w (show 0 ≤ x3 by omega) (by omega) q28.2
              have cc := sd_tel3 (⟨by decide, by decide⟩ : 71 ≤ 71 ∧ 71 < 80) (sd_tx_k t hS31) (sd_se_k s w hS31) w (show 0 ≤ x3 by omega) (by omega) q44.2
              have E58 : v58 = v28 := by
                rw [e58, e47, pz_una (by decide), z44.2 53 x3.toNat (by unfold pq_Pw; omega), e31, pz_uu]
              have l := q60 (by omega) (by omega) n9
              rw [E58] at l
              exact ⟨by omega, sd_ar_u g2 (by omega) e64 z28 e31 z44 e47 e63 r cc l⟩
            exact ih2 _ _ (by omega) hS (by first | omega | assumption | exact fun _ _ ls l1 F t s w => ⟨w.1.1, fun i hi => absurd hi (by omega)⟩) (by first | omega | assumption | exact fun _ _ ls l1 F t s w => ⟨w.1.1, fun i hi => absurd hi (by omega)⟩)
    refine hgo (fun p => Nat.beq p 2) 44 0 _ [] M ?_
    exact L2 _ _ _ (Nat.lt_succ_self _) hS (by first | omega | assumption | exact fun _ _ ls l1 F t s w => ⟨w.1.1, fun i hi => absurd hi (by omega)⟩) (by first | omega | assumption | exact fun _ _ ls l1 F t s w => ⟨w.1.1, fun i hi => absurd hi (by omega)⟩)
theorem v4_X4_reckon {fr lo i : Nat} {own : String} (h1 : 4 + 1 ≤ fr) (h2 : 8 + (4 + 11) + 97 ≤ lo) (h3 : .methodLink own i yX4_reckon ∈ lw_tbl) : pz_cV fr lo own i k4_X4_reckon :=
  pz_cVk (maxL := 4) (fr' := 4) (lo' := 97) 2 4 h4_X4_reckon rfl ⟨by decide +kernel, by decide +kernel, by decide +kernel⟩ ⟨(pz_mt 887 (by decide +kernel)), (pz_mt 885 (by decide +kernel)), (pz_mt 886 (by decide +kernel)), (pz_mt 11 (by decide +kernel))⟩ (Or.inl ⟨TX4, 5, rfl⟩) (fun a M _ h => by
    have h : (match (generalizing := false) a with | [.inr (.inr (4, k)), .inr (.inr (0, c)), .inl n] => pz_ic M | _ => False) := h
    split at h
    · exact ⟨_, _, rfl⟩
    · exact h.elim) h1 h2 h3
def k4_X4_oneDayMore : pz_C := (2, 0, fun a M => (match a with | [.inr (.inr (4, k)), .inr (.inr (0, c))] => pz_ic M | _ => False), fun a M r M' => (match a, r with | [.inr (.inr (4, k)), .inr (.inr (0, c))], none => (c = 71 → ∀ (ls : List pz_lne) (F : Nat → Int) (d : Nat), sd_se M 71 F → sd_wf F → sd_ar M ls F d (F 88) → sd_ar M' ls F (d + 1) (F 88)) ∧ pq_pr pq_Pk M M' | _, _ => False))
abbrev ct4_X4_oneDayMore : List (Bool × Nat × pz_C) := [(false, 29, k_X4_leftNext)]
set_option maxRecDepth 100000 in
set_option maxHeartbeats 4000000 in
theorem h4_X4_oneDayMore : pz_H yX4_oneDayMore cX4_oneDayMore 3 none k4_X4_oneDayMore 1 21 := by
  refine pz_mk (own := RX4) (tb := t_X4_oneDayMore) (fl := pz_flf fl_RX4) (ci := pz_cif ci_RX4) (ct := pz_ctf ct4_X4_oneDayMore) (rz := false) (by decide +kernel) rfl t_X4_oneDayMore_ok (pz_flk fl_RX4_ok) (pz_cik ci_RX4_ok) ?_ ?_ (rfl) ?_ ?_
  · exact fun i k' h => pz_ctk (l := ct4_X4_oneDayMore) (P := fun b i k => b = true → pz_cV 1 21 RX4 i k) (List.forall_mem_cons.mpr ⟨((fun z => by cases z)), fun _ h => absurd h List.not_mem_nil⟩) true i k' h rfl
  · exact fun i k' h => pz_ctk (l := ct4_X4_oneDayMore) (P := fun b i k => b = false → (pz_cS 1 21 RX4 i k ∨ (k = pz_kac ∧ 1 ≤ 1 ∧ 60 ≤ 21 ∧ Cond.methodLink RX4 i arraycopyName ∈ pz_tbl))) (List.forall_mem_cons.mpr ⟨(fun _ => Or.inl (s_X4_leftNext (by decide) (by decide) (Or.inl (pz_mt 893 (by decide +kernel))))), fun _ h => absurd h List.not_mem_nil⟩) false i k' h rfl
  · intro a M hlen hpre
    obtain ⟨k, c, rfl, hpre⟩ : ∃ k c, a = [.inr (.inr (4, k)), .inr (.inr (0, c))] ∧ (pz_ic M) := by
      have hpre : (match (generalizing := false) a with | [.inr (.inr (4, k)), .inr (.inr (0, c))] => pz_ic M | _ => False) := hpre
      split at hpre
      · exact ⟨_, _, rfl, hpre⟩
      · exact hpre.elim
    exact Nat.le_of_ble_eq_true rfl
  · intro a M hlen hcan hM hpre Ok hgo
    obtain ⟨k, c, rfl, hpre⟩ : ∃ k c, a = [.inr (.inr (4, k)), .inr (.inr (0, c))] ∧ (pz_ic M) := by
      have hpre : (match (generalizing := false) a with | [.inr (.inr (4, k)), .inr (.inr (0, c))] => pz_ic M | _ => False) := hpre
      split at hpre
      · exact ⟨_, _, rfl, hpre⟩
      · exact hpre.elim
    obtain ⟨k_k, hc_k⟩ := pz_tlm hcan
    have k_k : pz_kd k = 4 ∧ k < 231 := k_k
    have R_k := pz_kd4 k_k.1
    subst R_k
    obtain ⟨k_c, hc_c⟩ := pz_tlm hc_k
    have k_c : pz_kd c = 0 ∧ c < 231 := k_c
    have R_c := pz_kd0 k_c.1
    have hI : pz_ic M := hpre
    have hI0 := hI
    have hS : pq_pr pq_Pk M M := pq_pr.rf
    have L2 : ∀ (fu : Nat) (x2 : Int) (N2 : pz_M), (12 - x2).toNat < fu → (pq_pr pq_Pk M N2) → (0 ≤ x2) → (c = 71 → ∀ (ls : List pz_lne) (F : Nat → Int) (d : Nat), sd_se M 71 F → sd_wf F → sd_ar M ls F d (F 88) → x2 ≤ F 88 ∧ sd_a2 N2 ls F d x2 (F 88)) → Ok 2 [some (.inr (.inr (4, 6))), some (.inr (.inr (0, c))), some (.inl x2)] [] N2 := by
      intro fu
      induction fu with
      | zero => exact fun _ _ hn => absurd hn (Nat.not_lt_zero _)
      | succ fu ih2 =>
        intro x2 N2 hn2 hS g2_1 g2_2
        have hI : pz_ic N2 := hS.1 hI0
        have hS2 := hS
        refine hgo (fun p => Nat.beq p 2) 27 2 _ _ _ ?_
        intro v4 e4 a4 b4
        have I4 := hI.1 c (by omega) (by omega)
        refine And.intro (fun h7 => ?_) (fun h7 => ?_)
        · skip
          refine And.intro rfl ?_
          refine ⟨fun c9 ls F d s w h => ?_, hS⟩
          obtain ⟨g1, g2⟩ := (by assumption : c = 71 → ∀ (ls : List pz_lne) (F : Nat → Int) (d : Nat), sd_se M 71 F → sd_wf F → sd_ar M ls F d (F 88) → x2 ≤ F 88 ∧ sd_a2 N2 ls F d x2 (F 88)) c9 ls F d s w h
          subst c9
          have n8 := (sd_se_k s w hS2).1
          have m := w.1
          exact sd_a2_z g2 (by omega)
        · skip
          refine And.intro (fun h13 => ?_) (fun h13 => ?_)
          · skip
            refine And.intro rfl ?_
            refine ⟨fun c9 ls F d s w h => ?_, hS⟩
            obtain ⟨g1, g2⟩ := (by assumption : c = 71 → ∀ (ls : List pz_lne) (F : Nat → Int) (d : Nat), sd_se M 71 F → sd_wf F → sd_ar M ls F d (F 88) → x2 ≤ F 88 ∧ sd_a2 N2 ls F d x2 (F 88)) c9 ls F d s w h
            subst c9
            have n8 := (sd_se_k s w hS2).1
            have m := w.1
            exact sd_a2_z g2 (by omega)
          · skip
            intro r17 e17 k17
            have R17 := pz_kdA k17 (by decide) (by decide)
            have Q17 := pz_nm e17 k_k.1 (by decide) (by decide) rfl
            have W17 : r17 = 52 := e17
            intro r22 e22 k22
            have R22 := pz_kdA k22 (by decide) (by decide)
            have Q22 := pz_nm e22 k_k.1 (by decide) (by decide) rfl
            have W22 : r22 = 52 := e22
            refine And.intro (by omega) (And.intro (show _ < (12 : Int) from by omega) ?_)
            intro v26 e26 a26 b26
            rw [W22] at e26
            intro r28 e28 k28
            have R28 := pz_kdA k28 (by decide) (by decide)
            have Q28 := pz_nm e28 k_k.1 (by decide) (by decide) rfl
            have W28 : r28 = 53 := e28
            refine And.intro (by omega) (And.intro (show _ < (12 : Int) from by omega) ?_)
            intro v32 e32 a32 b32
            rw [W28] at e32
            refine And.intro (True.intro) ?_
            intro v33 M33 a33 b33 q33
            obtain ⟨q33, z33⟩ := q33
            subst z33
            refine And.intro (by omega) (And.intro (show _ < (12 : Int) from by omega) ?_)
            intro M36 e36
            have hS : pq_pr pq_Pk M M36 := by
              rw [e36]
              exact pq_pr_u hS (by unfold pq_Pk pq_Pw; omega) (by unfold pz_iok; omega)
            have hI : pz_ic M36 := hS.1 hI0
            rw [W17] at e36
            intro v37 e37 a37 b37
            rw [pz_wi (by omega) (by omega)] at e37
            have G2 : c = 71 → ∀ (ls : List pz_lne) (F : Nat → Int) (d : Nat), sd_se M 71 F → sd_wf F → sd_ar M ls F d (F 88) → v37 ≤ F 88 ∧ sd_a2 M36 ls F d v37 (F 88) := fun c9 ls F d s w h => by
              obtain ⟨g1, g2⟩ := (by assumption : c = 71 → ∀ (ls : List pz_lne) (F : Nat → Int) (d : Nat), sd_se M 71 F → sd_wf F → sd_ar M ls F d (F 88) → x2 ≤ F 88 ∧ sd_a2 N2 ls F d x2 (F 88)) c9 ls F d s w h
              subst c9
              have n8 := (sd_se_k s w hS2).1
              have g3 := g2 x2.toNat (by omega)
              have b := sd_rd_b (ls := ls) (F := F) (i := x2.toNat)
              have lb := pz_lf_b b.1 b.2 d
              rw [if_neg (by omega)] at g3
              have l := q33 (by omega) (by omega) (by omega) (by omega)
              exact ⟨by omega, sd_a2_s g2 (by omega) (by omega) e37 e36 (by
                rw [l, e26, e32, g3.1, g3.2.1]
                rfl)⟩
            exact ih2 _ _ (by omega) hS (by first | omega | assumption | exact fun _ ls F d s w h => ⟨w.1.1, sd_a2_0 h⟩) (by first | omega | assumption | exact fun _ ls F d s w h => ⟨w.1.1, sd_a2_0 h⟩)
    refine hgo (fun p => Nat.beq p 2) 27 0 _ [] M ?_
    exact L2 _ _ _ (Nat.lt_succ_self _) hS (by first | omega | assumption | exact fun _ ls F d s w h => ⟨w.1.1, sd_a2_0 h⟩) (by first | omega | assumption | exact fun _ ls F d s w h => ⟨w.1.1, sd_a2_0 h⟩)
theorem v4_X4_oneDayMore {fr lo i : Nat} {own : String} (h1 : 1 + 1 ≤ fr) (h2 : 8 + (3 + 11) + 21 ≤ lo) (h3 : .methodLink own i yX4_oneDayMore ∈ lw_tbl) : pz_cV fr lo own i k4_X4_oneDayMore :=
  pz_cVk (maxL := 3) (fr' := 1) (lo' := 21) 1 4 h4_X4_oneDayMore rfl ⟨by decide +kernel, by decide +kernel, by decide +kernel⟩ ⟨(pz_mt 1064 (by decide +kernel)), (pz_mt 1062 (by decide +kernel)), (pz_mt 1063 (by decide +kernel)), (pz_mt 11 (by decide +kernel))⟩ (Or.inl ⟨TX4, 5, rfl⟩) (fun a M _ h => by
    have h : (match (generalizing := false) a with | [.inr (.inr (4, k)), .inr (.inr (0, c))] => pz_ic M | _ => False) := h
    split at h
    · exact ⟨_, _, rfl⟩
    · exact h.elim) h1 h2 h3
def k3_X4_chanceOf : pz_C := (2, 1, fun a M => (match a with | [.inr (.inr (4, k)), .inl i] => True | _ => False), fun a M r M' => (match a, r with | [.inr (.inr (4, k)), .inl i], some (.inl v) => (v = if 0 ≤ i ∧ i < 12 then pz_w (1000000 - M 52 i.toNat) else 0) ∧ M = M' | _, _ => False))
abbrev ct3_X4_chanceOf : List (Bool × Nat × pz_C) := []
set_option maxRecDepth 100000 in
set_option maxHeartbeats 4000000 in
theorem h3_X4_chanceOf : pz_H yX4_chanceOf cX4_chanceOf 2 (some .int) k3_X4_chanceOf 0 0 := by
  refine pz_mk (own := RX4) (tb := t_X4_chanceOf) (fl := pz_flf fl_RX4) (ci := pz_cif ci_RX4) (ct := pz_ctf ct3_X4_chanceOf) (rz := false) (by decide +kernel) rfl t_X4_chanceOf_ok (pz_flk fl_RX4_ok) (pz_cik ci_RX4_ok) ?_ ?_ (Or.inl ⟨rfl, rfl⟩) ?_ ?_
  · exact fun i k' h => pz_ctk (l := ct3_X4_chanceOf) (P := fun b i k => b = true → pz_cV 0 0 RX4 i k) (fun _ h => absurd h List.not_mem_nil) true i k' h rfl
  · exact fun i k' h => pz_ctk (l := ct3_X4_chanceOf) (P := fun b i k => b = false → (pz_cS 0 0 RX4 i k ∨ (k = pz_kac ∧ 1 ≤ 0 ∧ 60 ≤ 0 ∧ Cond.methodLink RX4 i arraycopyName ∈ pz_tbl))) (fun _ h => absurd h List.not_mem_nil) false i k' h rfl
  · intro a M hlen hpre
    obtain ⟨k, i, rfl, hpre⟩ : ∃ k i, a = [.inr (.inr (4, k)), .inl i] ∧ (True) := by
      have hpre : (match (generalizing := false) a with | [.inr (.inr (4, k)), .inl i] => True | _ => False) := hpre
      split at hpre
      · exact ⟨_, _, rfl, hpre⟩
      · exact hpre.elim
    exact Nat.le_of_ble_eq_true rfl
  · intro a M hlen hcan hM hpre Ok hgo
    obtain ⟨k, i, rfl, hpre⟩ : ∃ k i, a = [.inr (.inr (4, k)), .inl i] ∧ (True) := by
      have hpre : (match (generalizing := false) a with | [.inr (.inr (4, k)), .inl i] => True | _ => False) := hpre
      split at hpre
      · exact ⟨_, _, rfl, hpre⟩
      · exact hpre.elim
    obtain ⟨k_k, hc_k⟩ := pz_tlm hcan
    have k_k : pz_kd k = 4 ∧ k < 231 := k_k
    have R_k := pz_kd4 k_k.1
    subst R_k
    obtain ⟨k_i, hc_i⟩ := pz_tlm hc_k
    have l_i : -2147483648 ≤ i := k_i.1
    have u_i : i ≤ 2147483647 := k_i.2
    refine hgo (fun _ => false) 16 0 _ [] M ?_
    refine And.intro (fun h1 => ?_) (fun h1 => ?_)
    · skip
      refine And.intro rfl ?_
      refine ⟨?_, rfl⟩
      first
        | (rw [if_pos (by omega), e18, e17]; done)
        | (rw [if_neg (by omega)]; done)
    · skip
      refine And.intro (fun h7 => ?_) (fun h7 => ?_)
      · skip
        refine And.intro rfl ?_
        refine ⟨?_, rfl⟩
        first
          | (rw [if_pos (by omega), e18, e17]; done)
          | (rw [if_neg (by omega)]; done)
      · skip
        intro r13 e13 k13
        have R13 := pz_kdA k13 (by decide) (by decide)
        have W13 : r13 = 52 := e13
        refine And.intro (by omega) (And.intro (show _ < (12 : Int) from by omega) ?_)
        intro v17 e17 a17 b17
        rw [W13] at e17
        intro v18 e18 a18 b18
        refine And.intro rfl ?_
        refine ⟨?_, rfl⟩
        first
          | (rw [if_pos (by omega), e18, e17]; done)
          | (rw [if_neg (by omega)]; done)
theorem v3_X4_chanceOf {fr lo i : Nat} {own : String} (h1 : 0 + 1 ≤ fr) (h2 : 8 + (2 + 11) + 0 ≤ lo) (h3 : .methodLink own i yX4_chanceOf ∈ lw_tbl) : pz_cV fr lo own i k3_X4_chanceOf :=
  pz_cVk (maxL := 2) (fr' := 0) (lo' := 0) 1 4 h3_X4_chanceOf rfl ⟨by decide +kernel, by decide +kernel, by decide +kernel⟩ ⟨(pz_mt 908 (by decide +kernel)), (pz_mt 906 (by decide +kernel)), (pz_mt 907 (by decide +kernel)), (pz_mt 11 (by decide +kernel))⟩ (Or.inl ⟨TX4, 5, rfl⟩) (fun a M _ h => by
    have h : (match (generalizing := false) a with | [.inr (.inr (4, k)), .inl i] => True | _ => False) := h
    split at h
    · exact ⟨_, _, rfl⟩
    · exact h.elim) h1 h2 h3
def k3_X4_oddsWith : pz_C := (4, 1, fun a M => (match a with | [.inr (.inr (4, k)), .inr (.inr (0, c)), .inl o, .inl i] => True | _ => False), fun a M r M' => (match a, r with | [.inr (.inr (4, k)), .inr (.inr (0, c)), .inl o, .inl i], some (.inl v) => (c = 71 → ∀ (ls : List pz_lne) (F : Nat → Int) (d : Nat), sd_se M 71 F → sd_wf F → sd_al M ls F d (F 88) → 0 ≤ i → i < F 88 → (0 ≤ o ∧ o ≤ 1000000) → v = sd_ow ls F d i.toNat o) ∧ M = M' | _, _ => False))
abbrev ct3_X4_oddsWith : List (Bool × Nat × pz_C) := [(true, 50, k_X0_at), (true, 61, k3_X4_chanceOf), (false, 65, k_X4_times)]
set_option maxRecDepth 100000 in
set_option maxHeartbeats 4000000 in
theorem h3_X4_oddsWith : pz_H yX4_oddsWith cX4_oddsWith 5 (some .int) k3_X4_oddsWith 1 21 := by
  refine pz_mk (own := RX4) (tb := t_X4_oddsWith) (fl := pz_flf fl_RX4) (ci := pz_cif ci_RX4) (ct := pz_ctf ct3_X4_oddsWith) (rz := false) (by decide +kernel) rfl t_X4_oddsWith_ok (pz_flk fl_RX4_ok) (pz_cik ci_RX4_ok) ?_ ?_ (Or.inl ⟨rfl, rfl⟩) ?_ ?_
  · exact fun i k' h => pz_ctk (l := ct3_X4_oddsWith) (P := fun b i k => b = true → pz_cV 1 21 RX4 i k) (List.forall_mem_cons.mpr ⟨(fun _ => v_X0_at (by decide) (by decide) (pz_mt 904 (by decide +kernel))), List.forall_mem_cons.mpr ⟨(fun _ => v3_X4_chanceOf (by decide) (by decide) (pz_mt 905 (by decide +kernel))), List.forall_mem_cons.mpr ⟨((fun z => by cases z)), fun _ h => absurd h List.not_mem_nil⟩⟩⟩) true i k' h rfl
  · exact fun i k' h => pz_ctk (l := ct3_X4_oddsWith) (P := fun b i k => b = false → (pz_cS 1 21 RX4 i k ∨ (k = pz_kac ∧ 1 ≤ 1 ∧ 60 ≤ 21 ∧ Cond.methodLink RX4 i arraycopyName ∈ pz_tbl))) (List.forall_mem_cons.mpr ⟨((fun z => by cases z)), List.forall_mem_cons.mpr ⟨((fun z => by cases z)), List.forall_mem_cons.mpr ⟨(fun _ => Or.inl (s_X4_times (by decide) (by decide) (Or.inl (pz_mt 909 (by decide +kernel))))), fun _ h => absurd h List.not_mem_nil⟩⟩⟩) false i k' h rfl
  · intro a M hlen hpre
    obtain ⟨k, c, o, i, rfl, hpre⟩ : ∃ k c o i, a = [.inr (.inr (4, k)), .inr (.inr (0, c)), .inl o, .inl i] ∧ (True) := by
      have hpre : (match (generalizing := false) a with | [.inr (.inr (4, k)), .inr (.inr (0, c)), .inl o, .inl i] => True | _ => False) := hpre
      split at hpre
      · exact ⟨_, _, _, _, rfl, hpre⟩
      · exact hpre.elim
    exact Nat.le_of_ble_eq_true rfl
  · intro a M hlen hcan hM hpre Ok hgo
    obtain ⟨k, c, o, i, rfl, hpre⟩ : ∃ k c o i, a = [.inr (.inr (4, k)), .inr (.inr (0, c)), .inl o, .inl i] ∧ (True) := by
      have hpre : (match (generalizing := false) a with | [.inr (.inr (4, k)), .inr (.inr (0, c)), .inl o, .inl i] => True | _ => False) := hpre
      split at hpre
      · exact ⟨_, _, _, _, rfl, hpre⟩
      · exact hpre.elim
    obtain ⟨k_k, hc_k⟩ := pz_tlm hcan
    have k_k : pz_kd k = 4 ∧ k < 231 := k_k
    have R_k := pz_kd4 k_k.1
    subst R_k
    obtain ⟨k_c, hc_c⟩ := pz_tlm hc_k
    have k_c : pz_kd c = 0 ∧ c < 231 := k_c
    have R_c := pz_kd0 k_c.1
    obtain ⟨k_o, hc_o⟩ := pz_tlm hc_c
    have l_o : -2147483648 ≤ o := k_o.1
    have u_o : o ≤ 2147483647 := k_o.2
    obtain ⟨k_i, hc_i⟩ := pz_tlm hc_o
    have l_i : -2147483648 ≤ i := k_i.1
    have u_i : i ≤ 2147483647 := k_i.2
    refine hgo (fun _ => false) 22 0 _ [] M ?_
    refine And.intro (True.intro) ?_
    intro r2 M2 k2 q2
    have R2 := pz_kd5 k2
    obtain ⟨q2, z2⟩ := q2
    subst z2
    have A2 := pz_at_lk R_c q2
    have B2 : 89 + 13 * (c - 71) ≤ r2 ∧ r2 ≤ 89 + 13 * (c - 71) + 12 := by
      rw [A2]
      exact pz_lnk_c
    intro v9 e9 a9 b9
    refine And.intro (fun h12 => ?_) (fun h12 => ?_)
    · skip
      intro v19 e19 a19 b19
      refine And.intro (fun h22 => ?_) (fun h22 => ?_)
      · skip
        refine And.intro (True.intro) ?_
        intro v32 M32 a32 b32 q32
        obtain ⟨q32, z32⟩ := q32
        subst z32
        refine And.intro (True.intro) ?_
        intro v35 M35 a35 b35 q35
        obtain ⟨q35, z35⟩ := q35
        subst z35
        refine And.intro rfl ?_
        refine ⟨fun c9 ls F d s w h h0 h1 ho => ?_, rfl⟩
        subst c9
        have m := w.1
        have b := sd_at (⟨by decide, by decide⟩ : 71 ≤ 71 ∧ 71 < 80) s w h0 h1 A2
        have b4 := b.2.2.2.2.1
        have b5 := b.2.2.2.2.2.1
        have P := w.2.2 i.toNat (by omega)
        unfold sd_lw at P
        unfold sd_ow
        first
          | (rw [if_pos (by omega)]; done)
          | (rw [if_neg (by omega), if_pos (by omega)]; done)
          | (have c := h i.toNat (by omega)
             have rb := sd_rd_b (ls := ls) (F := F) (i := i.toNat)
             have lb := pz_lf_b rb.1 rb.2 d
             rw [if_pos (by omega), c, pz_wi (by omega) (by omega)] at q32
             have t := q35 ho.1 ho.2 (by omega) (by omega)
             rw [if_neg (by omega), if_neg (by omega), t, q32]
             rfl)
      · skip
        refine And.intro rfl ?_
        refine ⟨fun c9 ls F d s w h h0 h1 ho => ?_, rfl⟩
        subst c9
        have m := w.1
        have b := sd_at (⟨by decide, by decide⟩ : 71 ≤ 71 ∧ 71 < 80) s w h0 h1 A2
        have b4 := b.2.2.2.2.1
        have b5 := b.2.2.2.2.2.1
        have P := w.2.2 i.toNat (by omega)
        unfold sd_lw at P
        unfold sd_ow
        first
          | (rw [if_pos (by omega)]; done)
          | (rw [if_neg (by omega), if_pos (by omega)]; done)
          | (have c := h i.toNat (by omega)
             have rb := sd_rd_b (ls := ls) (F := F) (i := i.toNat)
             have lb := pz_lf_b rb.1 rb.2 d
             rw [if_pos (by omega), c, pz_wi (by omega) (by omega)] at q32
             have t := q35 ho.1 ho.2 (by omega) (by omega)
             rw [if_neg (by omega), if_neg (by omega), t, q32]
             rfl)
    · skip
      refine And.intro rfl ?_
      refine ⟨fun c9 ls F d s w h h0 h1 ho => ?_, rfl⟩
      subst c9
      have m := w.1
      have b := sd_at (⟨by decide, by decide⟩ : 71 ≤ 71 ∧ 71 < 80) s w h0 h1 A2
      have b4 := b.2.2.2.2.1
      have b5 := b.2.2.2.2.2.1
      have P := w.2.2 i.toNat (by omega)
      unfold sd_lw at P
      unfold sd_ow
      first
        | (rw [if_pos (by omega)]; done)
        | (rw [if_neg (by omega), if_pos (by omega)]; done)
        | (have c := h i.toNat (by omega)
           have rb := sd_rd_b (ls := ls) (F := F) (i := i.toNat)
           have lb := pz_lf_b rb.1 rb.2 d
           rw [if_pos (by omega), c, pz_wi (by omega) (by omega)] at q32
           have t := q35 ho.1 ho.2 (by omega) (by omega)
           rw [if_neg (by omega), if_neg (by omega), t, q32]
           rfl)
theorem v3_X4_oddsWith {fr lo i : Nat} {own : String} (h1 : 1 + 1 ≤ fr) (h2 : 8 + (5 + 11) + 21 ≤ lo) (h3 : .methodLink own i yX4_oddsWith ∈ lw_tbl) : pz_cV fr lo own i k3_X4_oddsWith :=
  pz_cVk (maxL := 5) (fr' := 1) (lo' := 21) 3 4 h3_X4_oddsWith rfl ⟨by decide +kernel, by decide +kernel, by decide +kernel⟩ ⟨(pz_mt 903 (by decide +kernel)), (pz_mt 901 (by decide +kernel)), (pz_mt 902 (by decide +kernel)), (pz_mt 11 (by decide +kernel))⟩ (Or.inl ⟨TX4, 5, rfl⟩) (fun a M _ h => by
    have h : (match (generalizing := false) a with | [.inr (.inr (4, k)), .inr (.inr (0, c)), .inl o, .inl i] => True | _ => False) := h
    split at h
    · exact ⟨_, _, rfl⟩
    · exact h.elim) h1 h2 h3
def k3_X4_oddsOf : pz_C := (4, 1, fun a M => (match a with | [.inr (.inr (4, k)), .inr (.inr (0, c)), .inl i, .inl j] => pz_ic M ∧ j ≤ 1000 | _ => False), fun a M r M' => (match a, r with | [.inr (.inr (4, k)), .inr (.inr (0, c)), .inl i, .inl j], some (.inl v) => (c = 71 → ∀ (ls : List pz_lne) (F : Nat → Int) (d : Nat), sd_se M 71 F → sd_wf F → sd_al M ls F d (F 88) → i = 0 → j = F 88 - 1 → v = sd_od9 ls F d) ∧ M = M' | _, _ => False))
abbrev ct3_X4_oddsOf : List (Bool × Nat × pz_C) := [(true, 68, k3_X4_oddsWith)]
set_option maxRecDepth 100000 in
set_option maxHeartbeats 4000000 in
theorem h3_X4_oddsOf : pz_H yX4_oddsOf cX4_oddsOf 6 (some .int) k3_X4_oddsOf 2 45 := by
  refine pz_mk (own := RX4) (tb := t_X4_oddsOf) (fl := pz_flf fl_RX4) (ci := pz_cif ci_RX4) (ct := pz_ctf ct3_X4_oddsOf) (rz := false) (by decide +kernel) rfl t_X4_oddsOf_ok (pz_flk fl_RX4_ok) (pz_cik ci_RX4_ok) ?_ ?_ (Or.inl ⟨rfl, rfl⟩) ?_ ?_
  · exact fun i k' h => pz_ctk (l := ct3_X4_oddsOf) (P := fun b i k => b = true → pz_cV 2 45 RX4 i k) (List.forall_mem_cons.mpr ⟨(fun _ => v3_X4_oddsWith (by decide) (by decide) (pz_mt 900 (by decide +kernel))), fun _ h => absurd h List.not_mem_nil⟩) true i k' h rfl
  · exact fun i k' h => pz_ctk (l := ct3_X4_oddsOf) (P := fun b i k => b = false → (pz_cS 2 45 RX4 i k ∨ (k = pz_kac ∧ 1 ≤ 2 ∧ 60 ≤ 45 ∧ Cond.methodLink RX4 i arraycopyName ∈ pz_tbl))) (List.forall_mem_cons.mpr ⟨((fun z => by cases z)), fun _ h => absurd h List.not_mem_nil⟩) false i k' h rfl
  · intro a M hlen hpre
    obtain ⟨k, c, i, j, rfl, hpre⟩ : ∃ k c i j, a = [.inr (.inr (4, k)), .inr (.inr (0, c)), .inl i, .inl j] ∧ (pz_ic M ∧ j ≤ 1000) := by
      have hpre : (match (generalizing := false) a with | [.inr (.inr (4, k)), .inr (.inr (0, c)), .inl i, .inl j] => pz_ic M ∧ j ≤ 1000 | _ => False) := hpre
      split at hpre
      · exact ⟨_, _, _, _, rfl, hpre⟩
      · exact hpre.elim
    exact Nat.le_of_ble_eq_true rfl
  · intro a M hlen hcan hM hpre Ok hgo
    obtain ⟨k, c, i, j, rfl, hpre⟩ : ∃ k c i j, a = [.inr (.inr (4, k)), .inr (.inr (0, c)), .inl i, .inl j] ∧ (pz_ic M ∧ j ≤ 1000) := by
      have hpre : (match (generalizing := false) a with | [.inr (.inr (4, k)), .inr (.inr (0, c)), .inl i, .inl j] => pz_ic M ∧ j ≤ 1000 | _ => False) := hpre
      split at hpre
      · exact ⟨_, _, _, _, rfl, hpre⟩
      · exact hpre.elim
    obtain ⟨k_k, hc_k⟩ := pz_tlm hcan
    have k_k : pz_kd k = 4 ∧ k < 231 := k_k
    have R_k := pz_kd4 k_k.1
    subst R_k
    obtain ⟨k_c, hc_c⟩ := pz_tlm hc_k
    have k_c : pz_kd c = 0 ∧ c < 231 := k_c
    have R_c := pz_kd0 k_c.1
    obtain ⟨k_i, hc_i⟩ := pz_tlm hc_c
    have l_i : -2147483648 ≤ i := k_i.1
    have u_i : i ≤ 2147483647 := k_i.2
    obtain ⟨k_j, hc_j⟩ := pz_tlm hc_i
    have l_j : -2147483648 ≤ j := k_j.1
    have u_j : j ≤ 2147483647 := k_j.2
    have hI : pz_ic M := hpre.1
    have L7 : ∀ (fu : Nat) (x4 : Int) (x5 : Int), (j + 1 - x5).toNat < fu → (-2147483648 ≤ x5) → (c = 71 → ∀ (ls : List pz_lne) (F : Nat → Int) (d : Nat), sd_se M 71 F → sd_wf F → sd_al M ls F d (F 88) → i = 0 → j = F 88 - 1 → (0 ≤ x5 ∧ x5 ≤ F 88) ∧ (0 ≤ x4 ∧ x4 ≤ 1000000) ∧ sd_oo ls F d (sd_n F - x5.toNat) x5.toNat x4 = sd_od9 ls F d) → Ok 7 [some (.inr (.inr (4, 6))), some (.inr (.inr (0, c))), some (.inl i), some (.inl j), some (.inl x4), some (.inl x5)] [] M := by
      intro fu
      induction fu with
      | zero => exact fun _ _ hn => absurd hn (Nat.not_lt_zero _)
      | succ fu ih7 =>
        intro x4 x5 hn7 g7_0 g7_1
        refine hgo (fun p => Nat.beq p 7) 19 7 _ _ _ ?_
        refine And.intro (fun h10 => ?_) (fun h10 => ?_)
        · skip
          refine And.intro rfl ?_
          refine ⟨fun c9 ls F d s w h h0 h1 => ?_, rfl⟩
          obtain ⟨g1, g2, g3⟩ := (by assumption : c = 71 → ∀ (ls : List pz_lne) (F : Nat → Int) (d : Nat), sd_se M 71 F → sd_wf F → sd_al M ls F d (F 88) → i = 0 → j = F 88 - 1 → (0 ≤ x5 ∧ x5 ≤ F 88) ∧ (0 ≤ x4 ∧ x4 ≤ 1000000) ∧ sd_oo ls F d (sd_n F - x5.toNat) x5.toNat x4 = sd_od9 ls F d) c9 ls F d s w h h0 h1
          have k9 := sd_n_i w
          rw [show sd_n F - x5.toNat = 0 by omega] at g3
          exact g3
        · skip
          refine And.intro (True.intro) ?_
          intro v19 M19 a19 b19 q19
          obtain ⟨q19, z19⟩ := q19
          subst z19
          intro v24 e24 a24 b24
          rw [pz_wi (by omega) (by omega)] at e24
          have G7 : c = 71 → ∀ (ls : List pz_lne) (F : Nat → Int) (d : Nat), sd_se M 71 F → sd_wf F → sd_al M ls F d (F 88) → i = 0 → j = F 88 - 1 → (0 ≤ v24 ∧ v24 ≤ F 88) ∧ (0 ≤ v19 ∧ v19 ≤ 1000000) ∧ sd_oo ls F d (sd_n F - v24.toNat) v24.toNat v19 = sd_od9 ls F d := fun c9 ls F d s w h h0 h1 => by
            obtain ⟨g1, g2, g3⟩ := (by assumption : c = 71 → ∀ (ls : List pz_lne) (F : Nat → Int) (d : Nat), sd_se M 71 F → sd_wf F → sd_al M ls F d (F 88) → i = 0 → j = F 88 - 1 → (0 ≤ x5 ∧ x5 ≤ F 88) ∧ (0 ≤ x4 ∧ x4 ≤ 1000000) ∧ sd_oo ls F d (sd_n F - x5.toNat) x5.toNat x4 = sd_od9 ls F d) c9 ls F d s w h h0 h1
            have k9 := sd_n_i w
            have t := q19 c9 ls F d s w h (by omega) (by omega) g2
            have g4 := sd_oo_s g3 (show sd_n F - x5.toNat = (sd_n F - v24.toNat) + 1 by omega) t
            rw [show x5.toNat + 1 = v24.toNat by omega] at g4
            exact ⟨⟨by omega, by omega⟩, by rw [t]; exact sd_ow_b g2, g4⟩
          exact ih7 _ _ (by omega) (by first | omega | assumption | exact fun _ ls F d s w h h0 h1 => ⟨⟨by omega, by have := w.1.1; omega⟩, ⟨by decide, by decide⟩, by rw [h0]; rfl⟩) (by first | omega | assumption | exact fun _ ls F d s w h h0 h1 => ⟨⟨by omega, by have := w.1.1; omega⟩, ⟨by decide, by decide⟩, by rw [h0]; rfl⟩)
    refine hgo (fun p => Nat.beq p 7) 19 0 _ [] M ?_
    exact L7 _ _ _ (Nat.lt_succ_self _) (by first | omega | assumption | exact fun _ ls F d s w h h0 h1 => ⟨⟨by omega, by have := w.1.1; omega⟩, ⟨by decide, by decide⟩, by rw [h0]; rfl⟩) (by first | omega | assumption | exact fun _ ls F d s w h h0 h1 => ⟨⟨by omega, by have := w.1.1; omega⟩, ⟨by decide, by decide⟩, by rw [h0]; rfl⟩)
theorem v3_X4_oddsOf {fr lo i : Nat} {own : String} (h1 : 2 + 1 ≤ fr) (h2 : 8 + (6 + 11) + 45 ≤ lo) (h3 : .methodLink own i yX4_oddsOf ∈ lw_tbl) : pz_cV fr lo own i k3_X4_oddsOf :=
  pz_cVk (maxL := 6) (fr' := 2) (lo' := 45) 3 4 h3_X4_oddsOf rfl ⟨by decide +kernel, by decide +kernel, by decide +kernel⟩ ⟨(pz_mt 899 (by decide +kernel)), (pz_mt 897 (by decide +kernel)), (pz_mt 898 (by decide +kernel)), (pz_mt 11 (by decide +kernel))⟩ (Or.inl ⟨TX4, 5, rfl⟩) (fun a M _ h => by
    have h : (match (generalizing := false) a with | [.inr (.inr (4, k)), .inr (.inr (0, c)), .inl i, .inl j] => pz_ic M ∧ j ≤ 1000 | _ => False) := h
    split at h
    · exact ⟨_, _, rfl⟩
    · exact h.elim) h1 h2 h3
def k4_X11_odds : pz_C := (2, 1, fun a M => (match a with | [.inr (.inr (11, th)), .inl d] => pz_ic M | _ => False), fun a M r M' => (match a, r with | [.inr (.inr (11, th)), .inl d], some (.inl v) => (sd_wc M v (fun ls F => sd_odv ls F d)) ∧ pq_pr pq_Pk M M' | _, _ => False))
abbrev ct4_X11_odds : List (Bool × Nat × pz_C) := [(false, 137, k_X11_within), (true, 255, k4_X4_reckon), (true, 258, k3_X4_oddsOf)]
set_option maxRecDepth 100000 in
set_option maxHeartbeats 4000000 in
theorem h4_X11_odds : pz_H yX11_odds cX11_odds 2 (some .int) k4_X11_odds 5 120 := by
  refine pz_mk (own := RX11) (tb := t_X11_odds) (fl := pz_flf fl_RX11) (ci := pz_cif ci_RX11) (ct := pz_ctf ct4_X11_odds) (rz := false) (by decide +kernel) rfl t_X11_odds_ok (pz_flk fl_RX11_ok) (pz_cik ci_RX11_ok) ?_ ?_ (Or.inl ⟨rfl, rfl⟩) ?_ ?_
  · exact fun i k' h => pz_ctk (l := ct4_X11_odds) (P := fun b i k => b = true → pz_cV 5 120 RX11 i k) (List.forall_mem_cons.mpr ⟨((fun z => by cases z)), List.forall_mem_cons.mpr ⟨(fun _ => v4_X4_reckon (by decide) (by decide) (pz_mt 884 (by decide +kernel))), List.forall_mem_cons.mpr ⟨(fun _ => v3_X4_oddsOf (by decide) (by decide) (pz_mt 896 (by decide +kernel))), fun _ h => absurd h List.not_mem_nil⟩⟩⟩) true i k' h rfl
  · exact fun i k' h => pz_ctk (l := ct4_X11_odds) (P := fun b i k => b = false → (pz_cS 5 120 RX11 i k ∨ (k = pz_kac ∧ 1 ≤ 5 ∧ 60 ≤ 120 ∧ Cond.methodLink RX11 i arraycopyName ∈ pz_tbl))) (List.forall_mem_cons.mpr ⟨(fun _ => Or.inl (s_X11_within (by decide) (by decide) (Or.inl (pz_mt 425 (by decide +kernel))))), List.forall_mem_cons.mpr ⟨((fun z => by cases z)), List.forall_mem_cons.mpr ⟨((fun z => by cases z)), fun _ h => absurd h List.not_mem_nil⟩⟩⟩) false i k' h rfl
  · intro a M hlen hpre
    obtain ⟨th, d, rfl, hpre⟩ : ∃ th d, a = [.inr (.inr (11, th)), .inl d] ∧ (pz_ic M) := by
      have hpre : (match (generalizing := false) a with | [.inr (.inr (11, th)), .inl d] => pz_ic M | _ => False) := hpre
      split at hpre
      · exact ⟨_, _, rfl, hpre⟩
      · exact hpre.elim
    exact Nat.le_of_ble_eq_true rfl
  · intro a M hlen hcan hM hpre Ok hgo
    obtain ⟨th, d, rfl, hpre⟩ : ∃ th d, a = [.inr (.inr (11, th)), .inl d] ∧ (pz_ic M) := by
      have hpre : (match (generalizing := false) a with | [.inr (.inr (11, th)), .inl d] => pz_ic M | _ => False) := hpre
      split at hpre
      · exact ⟨_, _, rfl, hpre⟩
      · exact hpre.elim
    obtain ⟨k_th, hc_th⟩ := pz_tlm hcan
    have k_th : pz_kd th = 11 ∧ th < 231 := k_th
    have R_th := pz_kd11 k_th.1
    subst R_th
    obtain ⟨k_d, hc_d⟩ := pz_tlm hc_th
    have l_d : -2147483648 ≤ d := k_d.1
    have u_d : d ≤ 2147483647 := k_d.2
    have hI : pz_ic M := hpre
    have hI0 := hI
    have hS : pq_pr pq_Pk M M := pq_pr.rf
    refine hgo (fun _ => false) 27 0 _ [] M ?_
    refine And.intro (True.intro) ?_
    intro v4 M4 a4 b4 q4
    obtain ⟨q4, z4⟩ := q4
    subst z4
    refine And.intro (fun h7 => ?_) (fun h7 => ?_)
    · skip
      have GP : 1 ≤ d ∧ d ≤ 60 := by
        split at q4 <;> omega
      refine pz_nrc (c := 6) rfl ?_
      refine pz_nrc (c := 71) rfl ?_
      refine And.intro (hI) ?_
      intro M21 q21
      obtain ⟨q21, z21⟩ := q21
      have hS : pq_pr pq_Pk M M21 := hS.tr z21
      have hI : pz_ic M21 := hS.1 hI0
      refine pz_nrc (c := 6) rfl ?_
      refine pz_nrc (c := 71) rfl ?_
      refine pz_nrc (c := 71) rfl ?_
      intro v37 e37 a37 b37
      have I37 := hI.1 71 (by omega) (by omega)
      intro v41 e41 a41 b41
      try rw [pz_wi (by omega) (by omega)] at e41
      refine And.intro (And.intro hI (by omega)) ?_
      intro v42 M42 a42 b42 q42
      obtain ⟨q42, z42⟩ := q42
      subst z42
      refine And.intro rfl ?_
      refine ⟨fun ls l1 F hT hF hW => ?_, hS⟩
      have s2 := sd_se_k hF hW hS
      have n8 := s2.1
      have a := q21 rfl (by omega) ls l1 F hT hF hW
      show _ = sd_odv ls F d
      unfold sd_odv
      rw [if_pos (by omega)]
      exact q42 rfl ls F d.toNat s2 hW a.al rfl (by omega)
    · skip
      skip
      refine And.intro rfl ?_
      refine ⟨fun ls l1 F hT hF hW => ?_, hS⟩
      show _ = sd_odv ls F d
      unfold sd_odv
      rw [if_neg (fun z => by split at q4 <;> omega)]
theorem v4_X11_odds {fr lo i : Nat} {own : String} (h1 : 5 + 1 ≤ fr) (h2 : 8 + (2 + 11) + 120 ≤ lo) (h3 : .methodLink own i yX11_odds ∈ lw_tbl) : pz_cV fr lo own i k4_X11_odds :=
  pz_cVk (maxL := 2) (fr' := 5) (lo' := 120) 1 11 h4_X11_odds rfl ⟨by decide +kernel, by decide +kernel, by decide +kernel⟩ ⟨(pz_mt 883 (by decide +kernel)), (pz_mt 881 (by decide +kernel)), (pz_mt 882 (by decide +kernel)), (pz_mt 1 (by decide +kernel))⟩ (Or.inl ⟨TX11, 14, rfl⟩) (fun a M _ h => by
    have h : (match (generalizing := false) a with | [.inr (.inr (11, th)), .inl d] => pz_ic M | _ => False) := h
    split at h
    · exact ⟨_, _, rfl⟩
    · exact h.elim) h1 h2 h3
