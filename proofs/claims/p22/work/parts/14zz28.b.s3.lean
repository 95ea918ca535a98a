section
noncomputable def k4_X11_soon : pz_C := (2, 1, fun a M => (match a with | [.inr (.inr (11, th)), .inl h] => pz_ic M | _ => False), fun a M r M' => (match a, r with | [.inr (.inr (11, th)), .inl h], some (.inl v) => (sd_wc M v (fun ls F => sd_sov ls F h)) ∧ pq_pr pq_Pk M M' | _, _ => False))
noncomputable abbrev ct4_X11_soon : List (Bool × Nat × pz_C) := [(false, 137, k_X11_within), (true, 255, k4_X4_reckon), (true, 331, k4_X4_oneDayMore), (true, 258, k3_X4_oddsOf)]
set_option maxRecDepth 100000 in
set_option maxHeartbeats 4000000 in
theorem h4_X11_soon : pz_H yX11_soon cX11_soon 3 (some .int) k4_X11_soon 5 120 := by
  refine pz_mk (own := RX11) (tb := t_X11_soon) (fl := pz_flf fl_RX11) (ci := pz_cif ci_RX11) (ct := pz_ctf ct4_X11_soon) (rz := false) (pz_pfc_RX11 yX11_soon rfl) rfl t_X11_soon_ok (pz_flk fl_RX11_ok) (pz_cik ci_RX11_ok) ?_ ?_ (Or.inl ⟨rfl, rfl⟩) ?_ ?_
  · exact fun i k' h => pz_ctk (l := ct4_X11_soon) (P := fun b i k => b = true → pz_cV 5 120 RX11 i k) (List.forall_mem_cons.mpr ⟨((fun z => by cases z)), List.forall_mem_cons.mpr ⟨(fun _ => v4_X4_reckon (by decide) (by decide) pz_wq884), List.forall_mem_cons.mpr ⟨(fun _ => v4_X4_oneDayMore (by decide) (by decide) pz_wq1061), List.forall_mem_cons.mpr ⟨(fun _ => v3_X4_oddsOf (by decide) (by decide) pz_wq896), fun _ h => absurd h List.not_mem_nil⟩⟩⟩⟩) true i k' h rfl
  · exact fun i k' h => pz_ctk (l := ct4_X11_soon) (P := fun b i k => b = false → (pz_cS 5 120 RX11 i k ∨ (k = pz_kac ∧ 1 ≤ 5 ∧ 60 ≤ 120 ∧ Cond.methodLink RX11 i arraycopyName ∈ pz_tbl))) (List.forall_mem_cons.mpr ⟨(fun _ => Or.inl (s_X11_within (by decide) (by decide) (Or.inl pz_wq425))), List.forall_mem_cons.mpr ⟨((fun z => by cases z)), List.forall_mem_cons.mpr ⟨((fun z => by cases z)), List.forall_mem_cons.mpr ⟨((fun z => by cases z)), fun _ h => absurd h List.not_mem_nil⟩⟩⟩⟩) false i k' h rfl
  · intro a M hlen hpre
    obtain ⟨th, h, rfl, hpre⟩ : ∃ th h, a = [.inr (.inr (11, th)), .inl h] ∧ (pz_ic M) := by
      have hpre : (match (generalizing := false) a with | [.inr (.inr (11, th)), .inl h] => pz_ic M | _ => False) := hpre
      split at hpre
      · exact ⟨_, _, rfl, hpre⟩
      · exact hpre.elim
    exact Nat.le_of_ble_eq_true rfl
  · intro a M hlen hcan hM hpre Ok hgo
    obtain ⟨th, h, rfl, hpre⟩ : ∃ th h, a = [.inr (.inr (11, th)), .inl h] ∧ (pz_ic M) := by
      have hpre : (match (generalizing := false) a with | [.inr (.inr (11, th)), .inl h] => pz_ic M | _ => False) := hpre
      split at hpre
      · exact ⟨_, _, rfl, hpre⟩
      · exact hpre.elim
    obtain ⟨k_th, hc_th⟩ := pz_tlm hcan
    have k_th : pz_kd th = 11 ∧ th < 231 := k_th
    have R_th := pz_kd11 k_th.1
    subst R_th
    obtain ⟨k_h, hc_h⟩ := pz_tlm hc_th
    have l_h : -2147483648 ≤ h := k_h.1
    have u_h : h ≤ 2147483647 := k_h.2
    have hI : pz_ic M := hpre
    have hI0 := hI
    have hS : pq_pr pq_Pk M M := pq_pr.rf
    have L27 : ∀ (fu : Nat) (x2 : Int) (N27 : pz_M), (61 - x2).toNat < fu → (pq_pr pq_Pk M N27) → (0 ≤ x2) → (1 ≤ x2) → (x2 ≤ 61) → (0 ≤ h ∧ h ≤ 1000000) → (sd_wp M (fun ls F => sd_ar N27 ls F (x2 - 1).toNat (F 88) ∧ sd_son ls F h (61 - x2).toNat x2.toNat = sd_son ls F h 60 1)) → Ok 27 [some (.inr (.inr (11, 0))), some (.inl h), some (.inl x2)] [] N27 := by
      intro fu
      induction fu with
      | zero => exact fun _ _ hn => absurd hn (Nat.not_lt_zero _)
      | succ fu ih27 =>
        intro x2 N27 hn27 hS g27_1 g27_2 g27_3 g27_4 g27_5
        have hI : pz_ic N27 := hS.1 hI0
        have hS27 := hS
        refine hgo (fun p => Nat.beq p 27) 44 27 _ _ _ ?_
        refine And.intro (fun h30 => ?_) (fun h30 => ?_)
        · skip
          refine And.intro rfl ?_
          refine ⟨fun ls l1 F hT hF hW => ?_, hS⟩
          obtain ⟨a, cc⟩ := (by assumption : sd_wp M (fun ls F => sd_ar N27 ls F (x2 - 1).toNat (F 88) ∧ sd_son ls F h (61 - x2).toNat x2.toNat = sd_son ls F h 60 1)) ls l1 F hT hF hW
          show _ = sd_sov ls F h
          unfold sd_sov
          rw [if_pos (by first | decide | omega), ← cc, show (61 - x2).toNat = 0 by omega]
          rfl
        · skip
          refine pz_nrc (c := 6) rfl ?_
          refine pz_nrc (c := 71) rfl ?_
          refine And.intro (hI) ?_
          intro M41 q41
          obtain ⟨q41, z41⟩ := q41
          have hS : pq_pr pq_Pk M M41 := hS.tr z41
          have hI : pz_ic M41 := hS.1 hI0
          refine pz_nrc (c := 6) rfl ?_
          refine pz_nrc (c := 71) rfl ?_
          refine pz_nrc (c := 71) rfl ?_
          intro v57 e57 a57 b57
          have I57 := hI.1 71 (by first | decide | omega) (by first | decide | omega)
          intro v61 e61 a61 b61
          try rw [pz_wi (by first | decide | omega) (by first | decide | omega)] at e61
          refine And.intro (And.intro hI (by first | decide | omega)) ?_
          intro v62 M62 a62 b62 q62
          obtain ⟨q62, z62⟩ := q62
          subst z62
          have G62 : sd_wp M (fun ls F => sd_ar M41 ls F x2.toNat (F 88) ∧ v62 = sd_od9 ls F x2.toNat ∧ sd_son ls F h (61 - x2).toNat x2.toNat = sd_son ls F h 60 1) := fun ls l1 F t s w => by
            obtain ⟨g1, g2⟩ := (by assumption : sd_wp M (fun ls F => sd_ar N27 ls F (x2 - 1).toNat (F 88) ∧ sd_son ls F h (61 - x2).toNat x2.toNat = sd_son ls F h 60 1)) ls l1 F t s w
            have a := q41 rfl ls F _ (sd_se_k s w hS27) w g1
            rw [show (x2 - 1).toNat + 1 = x2.toNat by omega] at a
            have s3 := sd_se_k s w hS
            have n8 := s3.1
            exact ⟨a, q62 rfl ls F _ s3 w a.al rfl (by first | decide | omega), g2⟩
          refine And.intro (fun h66 => ?_) (fun h66 => ?_)
          · skip
            intro v71 e71 a71 b71
            rw [pz_wi (by first | decide | omega) (by first | decide | omega)] at e71
            have G27 : sd_wp M (fun ls F => sd_ar M41 ls F (v71 - 1).toNat (F 88) ∧ sd_son ls F h (61 - v71).toNat v71.toNat = sd_son ls F h 60 1) := fun ls l1 F t s w => by
              obtain ⟨a, b, cc⟩ := (by assumption : sd_wp M (fun ls F => sd_ar M41 ls F x2.toNat (F 88) ∧ v62 = sd_od9 ls F x2.toNat ∧ sd_son ls F h (61 - x2).toNat x2.toNat = sd_son ls F h 60 1)) ls l1 F t s w
              refine ⟨by rw [show (v71 - 1).toNat = x2.toNat by omega]; exact a, ?_⟩
              rw [← cc, show (61 - x2).toNat = (61 - v71).toNat + 1 by omega, show v71.toNat = x2.toNat + 1 by omega]
              exact (if_neg (by first | decide | omega)).symm
            exact ih27 _ _ (by first | decide | omega) hS (by first | omega | assumption) (by first | omega | assumption) (by first | omega | assumption) (by first | omega | assumption) (by first | omega | assumption)
          · skip
            refine And.intro rfl ?_
            refine ⟨fun ls l1 F hT hF hW => ?_, hS⟩
            obtain ⟨a, b, cc⟩ := (by assumption : sd_wp M (fun ls F => sd_ar M41 ls F x2.toNat (F 88) ∧ v62 = sd_od9 ls F x2.toNat ∧ sd_son ls F h (61 - x2).toNat x2.toNat = sd_son ls F h 60 1)) ls l1 F hT hF hW
            show _ = sd_sov ls F h
            unfold sd_sov
            rw [if_pos (by first | decide | omega), ← cc, show (61 - x2).toNat = (60 - x2).toNat + 1 by omega]
            refine Eq.trans ?_ (if_pos (by first | decide | omega)).symm
            omega
    refine hgo (fun p => Nat.beq p 27) 44 0 _ [] M ?_
    refine And.intro (True.intro) ?_
    intro v5 M5 a5 b5 q5
    obtain ⟨q5, z5⟩ := q5
    subst z5
    refine And.intro (fun h8 => ?_) (fun h8 => ?_)
    · skip
      have GP : 0 ≤ h ∧ h ≤ 1000000 := by
        split at q5 <;> omega
      refine pz_nrc (c := 6) rfl ?_
      refine pz_nrc (c := 71) rfl ?_
      refine And.intro (hI) ?_
      intro M22 q22
      obtain ⟨q22, z22⟩ := q22
      have hS : pq_pr pq_Pk M M22 := hS.tr z22
      have hI : pz_ic M22 := hS.1 hI0
      have G27 : sd_wp M (fun ls F => sd_ar M22 ls F ((1 : Int) - 1).toNat (F 88) ∧ sd_son ls F h (61 - (1 : Int)).toNat (1 : Int).toNat = sd_son ls F h 60 1) := fun ls l1 F t s w => ⟨q22 rfl (by decide) ls l1 F t s w, rfl⟩
      exact L27 _ _ _ (Nat.lt_succ_self _) hS (by first | omega | assumption) (by first | omega | assumption) (by first | omega | assumption) (by first | omega | assumption) (by first | omega | assumption)
    · skip
      skip
      refine And.intro rfl ?_
      refine ⟨fun ls l1 F hT hF hW => ?_, hS⟩
      show _ = sd_sov ls F h
      unfold sd_sov
      rw [if_neg (fun z => by split at q5 <;> omega)]
theorem v4_X11_soon {fr lo i : Nat} {own : String} (h1 : 5 + 1 ≤ fr) (h2 : 8 + (3 + 11) + 120 ≤ lo) (h3 : .methodLink own i yX11_soon ∈ lw_tbl) : pz_cV fr lo own i k4_X11_soon :=
  pz_cVk (maxL := 3) (fr' := 5) (lo' := 120) 1 11 h4_X11_soon rfl ⟨(pz_nhc_RX11 yX11_soon rfl).1, (pz_nhc_RX11 yX11_soon rfl).2, pz_ds5⟩ ⟨pz_wq1060, pz_wq1058, pz_wq1059, pz_wq1⟩ (Or.inl ⟨TX11, 14, rfl⟩) (fun a M _ h => by
    have h : (match (generalizing := false) a with | [.inr (.inr (11, th)), .inl h] => pz_ic M | _ => False) := h
    split at h
    · exact ⟨_, _, rfl⟩
    · exact h.elim) h1 h2 h3
noncomputable def k4_X4_oddsHurried : pz_C := (4, 1, fun a M => (match a with | [.inr (.inr (4, k)), .inr (.inr (0, c)), .inl i, .inl n] => pz_ic M | _ => False), fun a M r M' => (match a, r with | [.inr (.inr (4, k)), .inr (.inr (0, c)), .inl i, .inl n], some (.inl v) => (c = 71 → 0 ≤ n → ∀ (ls : List pz_lne) (l1 : List (List Int)) (F : Nat → Int), sd_tx M ls l1 → sd_se M 71 F → sd_wf F → sd_ar M ls F n.toNat (F 88) → 0 ≤ i → i < F 88 → v = sd_hu ls F n.toNat i.toNat ∧ sd_ar M' ls F n.toNat (F 88)) ∧ pq_pr pq_Pk M M' | _, _ => False))
noncomputable abbrev ct4_X4_oddsHurried : List (Bool × Nat × pz_C) := [(true, 50, k_X0_at), (true, 44, k3_X3_tells), (false, 33, k_X4_leftAfter), (true, 75, k3_X4_oddsOf)]
set_option maxRecDepth 100000 in
set_option maxHeartbeats 4000000 in
theorem h4_X4_oddsHurried : pz_H yX4_oddsHurried cX4_oddsHurried 8 (some .int) k4_X4_oddsHurried 4 97 := by
  refine pz_mk (own := RX4) (tb := t_X4_oddsHurried) (fl := pz_flf fl_RX4) (ci := pz_cif ci_RX4) (ct := pz_ctf ct4_X4_oddsHurried) (rz := false) (pz_pfc_RX4 yX4_oddsHurried rfl) rfl t_X4_oddsHurried_ok (pz_flk fl_RX4_ok) (pz_cik ci_RX4_ok) ?_ ?_ (Or.inl ⟨rfl, rfl⟩) ?_ ?_
  · exact fun i k' h => pz_ctk (l := ct4_X4_oddsHurried) (P := fun b i k => b = true → pz_cV 4 97 RX4 i k) (List.forall_mem_cons.mpr ⟨(fun _ => v_X0_at (by decide) (by decide) pz_wq904), List.forall_mem_cons.mpr ⟨(fun _ => v3_X3_tells (by decide) (by decide) pz_wq888), List.forall_mem_cons.mpr ⟨((fun z => by cases z)), List.forall_mem_cons.mpr ⟨(fun _ => v3_X4_oddsOf (by decide) (by decide) pz_wq1073), fun _ h => absurd h List.not_mem_nil⟩⟩⟩⟩) true i k' h rfl
  · exact fun i k' h => pz_ctk (l := ct4_X4_oddsHurried) (P := fun b i k => b = false → (pz_cS 4 97 RX4 i k ∨ (k = pz_kac ∧ 1 ≤ 4 ∧ 60 ≤ 97 ∧ Cond.methodLink RX4 i arraycopyName ∈ pz_tbl))) (List.forall_mem_cons.mpr ⟨((fun z => by cases z)), List.forall_mem_cons.mpr ⟨((fun z => by cases z)), List.forall_mem_cons.mpr ⟨(fun _ => Or.inl (s_X4_leftAfter (by decide) (by decide) (Or.inl pz_wq889))), List.forall_mem_cons.mpr ⟨((fun z => by cases z)), fun _ h => absurd h List.not_mem_nil⟩⟩⟩⟩) false i k' h rfl
  · intro a M hlen hpre
    obtain ⟨k, c, i, n, rfl, hpre⟩ : ∃ k c i n, a = [.inr (.inr (4, k)), .inr (.inr (0, c)), .inl i, .inl n] ∧ (pz_ic M) := by
      have hpre : (match (generalizing := false) a with | [.inr (.inr (4, k)), .inr (.inr (0, c)), .inl i, .inl n] => pz_ic M | _ => False) := hpre
      split at hpre
      · exact ⟨_, _, _, _, rfl, hpre⟩
      · exact hpre.elim
    exact Nat.le_of_ble_eq_true rfl
  · intro a M hlen hcan hM hpre Ok hgo
    obtain ⟨k, c, i, n, rfl, hpre⟩ : ∃ k c i n, a = [.inr (.inr (4, k)), .inr (.inr (0, c)), .inl i, .inl n] ∧ (pz_ic M) := by
      have hpre : (match (generalizing := false) a with | [.inr (.inr (4, k)), .inr (.inr (0, c)), .inl i, .inl n] => pz_ic M | _ => False) := hpre
      split at hpre
      · exact ⟨_, _, _, _, rfl, hpre⟩
      · exact hpre.elim
    obtain ⟨k_k, hc_k⟩ := pz_tlm hcan
    have k_k : pz_kd k = 4 ∧ k < 231 := k_k
    have R_k := pz_kd4 k_k.1
    subst R_k
    obtain ⟨k_c, hc_c⟩ := pz_tlm hc_k
    have k_c : pz_kd c = 0 ∧ c < 231 := k_c
    have R_c := pz_kd0 k_c.1
    obtain ⟨k_i, hc_i⟩ := pz_tlm hc_c
    have l_i : -2147483648 ≤ i := k_i.1
    have u_i : i ≤ 2147483647 := k_i.2
    obtain ⟨k_n, hc_n⟩ := pz_tlm hc_i
    have l_n : -2147483648 ≤ n := k_n.1
    have u_n : n ≤ 2147483647 := k_n.2
    have hI : pz_ic M := hpre
    have hI0 := hI
    have hS : pq_pr pq_Pk M M := pq_pr.rf
    refine hgo (fun _ => false) 55 0 _ [] M ?_
    refine And.intro (True.intro) ?_
    intro r2 M2 k2 q2
    have R2 := pz_kd5 k2
    obtain ⟨q2, z2⟩ := q2
    subst z2
    have A2 := pz_at_lk R_c q2
    have B2 : 89 + 13 * (c - 71) ≤ r2 ∧ r2 ≤ 89 + 13 * (c - 71) + 12 := by
      rw [A2]
      exact pz_lnk_c
    refine And.intro (fun h8 => ?_) (fun h8 => ?_)
    · skip
      refine And.intro rfl ?_
      exact ⟨fun c9 n9 ls l1 F t s w a h0 h1 => by
        have m := w.1
        exfalso
        omega, hS⟩
    · skip
      refine And.intro (fun h14 => ?_) (fun h14 => ?_)
      · skip
        intro v21 e21 a21 b21
        intro r27 e27 k27
        have R27 := pz_kdA k27 (by decide) (by decide)
        have Q27 := pz_nm e27 k_k.1 (by decide) (by decide) rfl
        have W27 : r27 = 52 := e27
        have lo31 : (0 : Int) ≤ i := by omega
        have tn31 : (((i).toNat : Nat) : Int) = i := Int.toNat_of_nonneg lo31
        refine And.intro (lo31) (And.intro (show _ < (12 : Int) from by omega) ?_)
        intro v31 e31 a31 b31
        rw [W27] at e31
        intro M37 e37
        have hS : pq_pr (pq_Ph r2) M M37 := by
          rw [e37]
          exact pq_pr_u hS.kph (Or.inr ⟨rfl, rfl⟩) (by unfold pz_iok; first | decide | omega)
        have hI : pz_ic M37 := hS.1 hI0
        have T37_0 := pz_uve e37 r2 3
        intro r41 e41 k41
        have R41 := pz_kdA k41 (by decide) (by decide)
        have Q41 := pz_nm e41 k_k.1 (by decide) (by decide) rfl
        have W41 : r41 = 52 := e41
        intro r46 e46 k46
        have R46 := pz_kd3 k46
        have L46 : r46 = 10 := by rw [e46]; rfl
        refine And.intro (hI) ?_
        intro v52 M52 a52 b52 q52
        obtain ⟨q52, z52⟩ := q52
        have hS : pq_pr (pq_Ph r2) M M52 := hS.tr z52.wph
        have hI : pz_ic M52 := hS.1 hI0
        rw [L46] at q52
        refine And.intro (True.intro) ?_
        intro v56 M56 a56 b56 q56
        obtain ⟨q56, z56⟩ := q56
        subst z56
        refine And.intro (lo31) (And.intro (show _ < (12 : Int) from by omega) ?_)
        intro M59 e59
        have hS : pq_pr (pq_Ph r2) M M59 := by
          rw [e59]
          exact pq_pr_u hS (by unfold pq_Ph pq_Pk pq_Pw; first | decide | omega) (by unfold pz_iok; first | decide | omega)
        have hI : pz_ic M59 := hS.1 hI0
        have T59_0 := pz_uve e59 r2 3
        rw [W41] at e59
        intro v64 e64 a64 b64
        have I64 := hI.1 c (by first | decide | omega) (by first | decide | omega)
        intro v68 e68 a68 b68
        try rw [pz_wi (by first | decide | omega) (by first | decide | omega)] at e68
        refine And.intro (And.intro hI (by first | decide | omega)) ?_
        intro v69 M69 a69 b69 q69
        obtain ⟨q69, z69⟩ := q69
        subst z69
        intro M78 e78
        have hS : pq_pr (pq_Ph r2) M M78 := by
          rw [e78]
          exact pq_pr_u hS (Or.inr ⟨rfl, rfl⟩) (by unfold pz_iok; first | decide | omega)
        have hI : pz_ic M78 := hS.1 hI0
        have T78_0 := pz_uve e78 r2 3
        intro r82 e82 k82
        have R82 := pz_kdA k82 (by decide) (by decide)
        have Q82 := pz_nm e82 k_k.1 (by decide) (by decide) rfl
        have W82 : r82 = 52 := e82
        refine And.intro (lo31) (And.intro (show _ < (12 : Int) from by omega) ?_)
        intro M88 e88
        have hS : pq_pr (pq_Ph r2) M M88 := by
          rw [e88]
          exact pq_pr_u hS (by unfold pq_Ph pq_Pk pq_Pw; first | decide | omega) (by unfold pz_iok; first | decide | omega)
        have hI : pz_ic M88 := hS.1 hI0
        have T88_0 := pz_uve e88 r2 3
        rw [W82] at e88
        refine And.intro rfl ?_
        have hS9 : pq_pr pq_Pk M M88 := hS.hpk (by first | decide | omega)
        refine ⟨fun c9 n9 ls l1 F t s w a h0 h1 => ?_, hS9⟩
        subst c9
        have m := w.1
        have rr := sd_lnk_i A2 h0 (by first | decide | omega)
        have r89 : 89 ≤ r2 := by
          rw [rr]
          unfold pz_lb
          omega
        have w1 := sd_sl0_wf w (i := i.toNat) (by first | decide | omega)
        have f88 := sd_sl0_88 (F := F) (i := i.toNat)
        have s37 : sd_se M37 71 (sd_sl0 F i.toNat) := by
          rw [e37, rr]
          exact sd_se_w (f := 3) (⟨by decide, by decide⟩ : 71 ≤ 71 ∧ 71 < 80) s (by first | decide | omega) (by first | decide | omega) (by decide)
        have t37 : sd_tx M37 ls l1 := sd_tx_cg t (fun b j q => by
          rw [e37]
          exact pz_una (by first | decide | omega))
        have r := sd_tel0 (⟨by decide, by decide⟩ : 71 ≤ 71 ∧ 71 < 80) t37 s37 w1 h0 (by first | decide | omega) q52.2
        have s52 := sd_se_d (⟨by decide, by decide⟩ : 71 ≤ 71 ∧ 71 < 80) s37 w1 z52
        have s59 : sd_se M59 71 (sd_sl0 F i.toNat) := sd_se_cg s52 (fun b j q => by
          rw [e59]
          exact pz_una (by unfold pz_lb at q; first | decide | omega)) (by first | decide | omega)
        have n8 := s59.1
        have l := q56 (by first | decide | omega) (by first | decide | omega) n9
        have e52 : ∀ b j : Nat, 52 ≤ b → b ≤ 54 → M52 b j = M b j := fun b j x y => by
          rw [z52.2 b j (by unfold pq_Pw; first | decide | omega), e37, pz_una (by first | decide | omega)]
        have al : sd_al M59 ls (sd_sl0 F i.toNat) n.toNat (F 88) := sd_al_1 (i := i.toNat) (l := v56) a (fun j => by
          rw [e59]
          by_cases y : j = i.toNat
          · rw [if_pos y, y, pz_uu]
          · rw [if_neg y, pz_unk y, e52 52 j (by decide) (by decide)]) (by rw [l, r]) (fun j hj ne => sd_rd_sl t.2.1 (by first | decide | omega) hj (by first | decide | omega) ne)
        have vv := q69 rfl ls _ n.toNat s59 w1 (by rw [f88]; exact al) rfl (by first | decide | omega)
        refine ⟨vv, fun j hj => ?_⟩
        have g := a j hj
        have keep9 : ∀ b : Nat, 52 ≤ b → b ≤ 54 → ¬ (b = 52 ∧ j = i.toNat) → M88 b j = M b j := fun b x y ne => by
          rw [e88, pz_une ne, e78, pz_una (by first | decide | omega), e59, pz_une ne, e52 b j x y]
        rw [keep9 53 (by decide) (by decide) (by first | decide | omega), keep9 54 (by decide) (by decide) (by first | decide | omega)]
        by_cases y : j = i.toNat
        · rw [e88, y, pz_uu, e31]
          rw [y] at g
          exact g
        · rw [keep9 52 (by decide) (by decide) (by first | decide | omega)]
          exact g
      · skip
        refine And.intro rfl ?_
        exact ⟨fun c9 n9 ls l1 F t s w a h0 h1 => by
          have m := w.1
          exfalso
          omega, hS⟩
theorem v4_X4_oddsHurried {fr lo i : Nat} {own : String} (h1 : 4 + 1 ≤ fr) (h2 : 8 + (8 + 11) + 97 ≤ lo) (h3 : .methodLink own i yX4_oddsHurried ∈ lw_tbl) : pz_cV fr lo own i k4_X4_oddsHurried :=
  pz_cVk (maxL := 8) (fr' := 4) (lo' := 97) 3 4 h4_X4_oddsHurried rfl ⟨(pz_nhc_RX4 yX4_oddsHurried rfl).1, (pz_nhc_RX4 yX4_oddsHurried rfl).2, pz_ds36⟩ ⟨pz_wq1072, pz_wq1070, pz_wq1071, pz_wq11⟩ (Or.inl ⟨TX4, 5, rfl⟩) (fun a M _ h => by
    have h : (match (generalizing := false) a with | [.inr (.inr (4, k)), .inr (.inr (0, c)), .inl i, .inl n] => pz_ic M | _ => False) := h
    split at h
    · exact ⟨_, _, rfl⟩
    · exact h.elim) h1 h2 h3
noncomputable def k4_X11_hurry : pz_C := (3, 1, fun a M => (match a with | [.inr (.inr (11, th)), .inl d, .inl w] => pz_ic M | _ => False), fun a M r M' => (match a, r with | [.inr (.inr (11, th)), .inl d, .inl w], some (.inl v) => (sd_wc M v (fun ls F => sd_huv ls F d w)) ∧ pq_pr pq_Pk M M' | _, _ => False))
noncomputable abbrev ct4_X11_hurry : List (Bool × Nat × pz_C) := [(false, 137, k_X11_within), (true, 255, k4_X4_reckon), (true, 334, k4_X4_oddsHurried)]
set_option maxRecDepth 100000 in
set_option maxHeartbeats 4000000 in
theorem h4_X11_hurry : pz_H yX11_hurry cX11_hurry 7 (some .int) k4_X11_hurry 5 124 := by
  refine pz_mk (own := RX11) (tb := t_X11_hurry) (fl := pz_flf fl_RX11) (ci := pz_cif ci_RX11) (ct := pz_ctf ct4_X11_hurry) (rz := false) (pz_pfc_RX11 yX11_hurry rfl) rfl t_X11_hurry_ok (pz_flk fl_RX11_ok) (pz_cik ci_RX11_ok) ?_ ?_ (Or.inl ⟨rfl, rfl⟩) ?_ ?_
  · exact fun i k' h => pz_ctk (l := ct4_X11_hurry) (P := fun b i k => b = true → pz_cV 5 124 RX11 i k) (List.forall_mem_cons.mpr ⟨((fun z => by cases z)), List.forall_mem_cons.mpr ⟨(fun _ => v4_X4_reckon (by decide) (by decide) pz_wq884), List.forall_mem_cons.mpr ⟨(fun _ => v4_X4_oddsHurried (by decide) (by decide) pz_wq1069), fun _ h => absurd h List.not_mem_nil⟩⟩⟩) true i k' h rfl
  · exact fun i k' h => pz_ctk (l := ct4_X11_hurry) (P := fun b i k => b = false → (pz_cS 5 124 RX11 i k ∨ (k = pz_kac ∧ 1 ≤ 5 ∧ 60 ≤ 124 ∧ Cond.methodLink RX11 i arraycopyName ∈ pz_tbl))) (List.forall_mem_cons.mpr ⟨(fun _ => Or.inl (s_X11_within (by decide) (by decide) (Or.inl pz_wq425))), List.forall_mem_cons.mpr ⟨((fun z => by cases z)), List.forall_mem_cons.mpr ⟨((fun z => by cases z)), fun _ h => absurd h List.not_mem_nil⟩⟩⟩) false i k' h rfl
  · intro a M hlen hpre
    obtain ⟨th, d, w, rfl, hpre⟩ : ∃ th d w, a = [.inr (.inr (11, th)), .inl d, .inl w] ∧ (pz_ic M) := by
      have hpre : (match (generalizing := false) a with | [.inr (.inr (11, th)), .inl d, .inl w] => pz_ic M | _ => False) := hpre
      split at hpre
      · exact ⟨_, _, _, rfl, hpre⟩
      · exact hpre.elim
    exact Nat.le_of_ble_eq_true rfl
  · intro a M hlen hcan hM hpre Ok hgo
    obtain ⟨th, d, w, rfl, hpre⟩ : ∃ th d w, a = [.inr (.inr (11, th)), .inl d, .inl w] ∧ (pz_ic M) := by
      have hpre : (match (generalizing := false) a with | [.inr (.inr (11, th)), .inl d, .inl w] => pz_ic M | _ => False) := hpre
      split at hpre
      · exact ⟨_, _, _, rfl, hpre⟩
      · exact hpre.elim
    obtain ⟨k_th, hc_th⟩ := pz_tlm hcan
    have k_th : pz_kd th = 11 ∧ th < 231 := k_th
    have R_th := pz_kd11 k_th.1
    subst R_th
    obtain ⟨k_d, hc_d⟩ := pz_tlm hc_th
    have l_d : -2147483648 ≤ d := k_d.1
    have u_d : d ≤ 2147483647 := k_d.2
    obtain ⟨k_w, hc_w⟩ := pz_tlm hc_d
    have l_w : -2147483648 ≤ w := k_w.1
    have u_w : w ≤ 2147483647 := k_w.2
    have hI : pz_ic M := hpre
    have hI0 := hI
    have hS : pq_pr pq_Pk M M := pq_pr.rf
    have L41 : ∀ (fu : Nat) (x3 : Int) (x4 : Int) (x5 : Int) (d6 : Option pz_V) (N41 : pz_M), (12 - x5).toNat < fu → (pq_pr pq_Pk M N41) → (0 ≤ x5) → ((1 ≤ d ∧ d ≤ 60) ∧ 0 ≤ w ∧ w ≤ 1) → (sd_wp M (fun ls F => sd_ar N41 ls F d.toNat (F 88) ∧ sd_huE ls F d.toNat x3 x4 x5)) → Ok 41 [some (.inr (.inr (11, 0))), some (.inl d), some (.inl w), some (.inl x3), some (.inl x4), some (.inl x5), d6] [] N41 := by
      intro fu
      induction fu with
      | zero => exact fun _ _ _ _ _ hn => absurd hn (Nat.not_lt_zero _)
      | succ fu ih41 =>
        intro x3 x4 x5 d6 N41 hn41 hS g41_1 g41_2 g41_3
        have hI : pz_ic N41 := hS.1 hI0
        have hS41 := hS
        have L83 : ∀ (x3 : Int) (x4 : Int) (x5 : Int) (x6 : Int) (N83 : pz_M), (pq_pr pq_Pk M N83) → (0 ≤ x5) → (x5 < 12) → ((12 - x5).toNat < fu + 1) → ((1 ≤ d ∧ d ≤ 60) ∧ 0 ≤ w ∧ w ≤ 1) → (sd_wp M (fun ls F => sd_ar N83 ls F d.toNat (F 88) ∧ sd_huE ls F d.toNat x3 x4 (x5 + 1))) → Ok 83 [some (.inr (.inr (11, 0))), some (.inl d), some (.inl w), some (.inl x3), some (.inl x4), some (.inl x5), some (.inl x6)] [] N83 := by
          intro x3 x4 x5 x6 N83 hS g83_1 g83_2 g83_3 g83_4 g83_5
          have hI : pz_ic N83 := hS.1 hI0
          have hS83 := hS
          refine hgo (fun p => Nat.beq p 41 || Nat.beq p 83) 54 83 _ _ _ ?_
          intro v83 e83 a83 b83
          rw [pz_wi (by first | decide | omega) (by first | decide | omega)] at e83
          have G41 : sd_wp M (fun ls F => sd_ar N83 ls F d.toNat (F 88) ∧ sd_huE ls F d.toNat x3 x4 v83) := by
            rw [e83]
            assumption
          exact ih41 _ _ _ _ _ (by first | decide | omega) hS (by first | omega | assumption) (by first | omega | assumption) (by first | omega | assumption)
        refine hgo (fun p => Nat.beq p 41 || Nat.beq p 83) 54 41 _ _ _ ?_
        refine pz_nrc (c := 71) rfl ?_
        intro v47 e47 a47 b47
        have I47 := hI.1 71 (by first | decide | omega) (by first | decide | omega)
        refine And.intro (fun h50 => ?_) (fun h50 => ?_)
        · skip
          refine And.intro (fun h90 => ?_) (fun h90 => ?_)
          · skip
            refine And.intro rfl ?_
            refine ⟨fun ls l1 F hT hF hW => ?_, hS⟩
            obtain ⟨g1, g2⟩ := (by assumption : sd_wp M (fun ls F => sd_ar N41 ls F d.toNat (F 88) ∧ sd_huE ls F d.toNat x3 x4 x5)) ls l1 F hT hF hW
            have n8 := (sd_se_k hF hW hS).1
            show _ = sd_huv ls F d w
            unfold sd_huv
            rcases sd_huE_z g2 hW (by first | decide | omega) with ⟨z1, z2, z3⟩ | ⟨z1, z2, z3⟩
            · rw [if_neg (fun z => z.2.2 z1)]
              omega
            · rw [if_pos ⟨by omega, by omega, z1⟩]
              first
                | (rw [if_pos (by first | decide | omega)]
                   omega)
                | (rw [if_neg (by first | decide | omega)]
                   omega)
          · skip
            refine And.intro rfl ?_
            refine ⟨fun ls l1 F hT hF hW => ?_, hS⟩
            obtain ⟨g1, g2⟩ := (by assumption : sd_wp M (fun ls F => sd_ar N41 ls F d.toNat (F 88) ∧ sd_huE ls F d.toNat x3 x4 x5)) ls l1 F hT hF hW
            have n8 := (sd_se_k hF hW hS).1
            show _ = sd_huv ls F d w
            unfold sd_huv
            rcases sd_huE_z g2 hW (by first | decide | omega) with ⟨z1, z2, z3⟩ | ⟨z1, z2, z3⟩
            · rw [if_neg (fun z => z.2.2 z1)]
              omega
            · rw [if_pos ⟨by omega, by omega, z1⟩]
              first
                | (rw [if_pos (by first | decide | omega)]
                   omega)
                | (rw [if_neg (by first | decide | omega)]
                   omega)
        · skip
          refine pz_nrc (c := 6) rfl ?_
          refine pz_nrc (c := 71) rfl ?_
          refine And.intro (hI) ?_
          intro v64 M64 a64 b64 q64
          obtain ⟨q64, z64⟩ := q64
          have hS : pq_pr pq_Pk M M64 := hS.tr z64
          have hI : pz_ic M64 := hS.1 hI0
          have G64 : sd_wp M (fun ls F => sd_ar M64 ls F d.toNat (F 88) ∧ (0 ≤ x5 ∧ x5 < F 88) ∧ sd_huE ls F d.toNat x3 x4 x5 ∧ v64 = sd_hu ls F d.toNat x5.toNat) := fun ls l1 F t s w9 => by
            obtain ⟨g1, g2⟩ := (by assumption : sd_wp M (fun ls F => sd_ar N41 ls F d.toNat (F 88) ∧ sd_huE ls F d.toNat x3 x4 x5)) ls l1 F t s w9
            have s2 := sd_se_k s w9 hS41
            have n8 := s2.1
            have a := q64 rfl (by first | decide | omega) ls l1 F (sd_tx_k t hS41) s2 w9 g1 (by first | decide | omega) (by first | decide | omega)
            exact ⟨a.2, ⟨by omega, by omega⟩, g2, a.1⟩
          refine And.intro (fun h73 => ?_) (fun h73 => ?_)
          · skip
            have G83 : sd_wp M (fun ls F => sd_ar M64 ls F d.toNat (F 88) ∧ sd_huE ls F d.toNat x3 x4 (x5 + 1)) := fun ls l1 F t s w9 => by
              obtain ⟨a, b, cc, e⟩ := G64 ls l1 F t s w9
              exact ⟨a, sd_huE_n cc w9 b.2 rfl e (by first | decide | omega)⟩
            exact L83 _ _ _ _ _ hS (by first | omega | assumption) (by first | omega | assumption) (by first | omega | assumption) (by first | omega | assumption) (by first | omega | assumption)
          · skip
            have G83 : sd_wp M (fun ls F => sd_ar M64 ls F d.toNat (F 88) ∧ sd_huE ls F d.toNat x5 v64 (x5 + 1)) := fun ls l1 F t s w9 => by
              obtain ⟨a, b, cc, e⟩ := G64 ls l1 F t s w9
              exact ⟨a, sd_huE_y cc w9 b.2 rfl e (by first | decide | omega)⟩
            exact L83 _ _ _ _ _ hS (by first | omega | assumption) (by first | omega | assumption) (by first | omega | assumption) (by first | omega | assumption) (by first | omega | assumption)
    refine hgo (fun p => Nat.beq p 41 || Nat.beq p 83) 54 0 _ [] M ?_
    refine And.intro (True.intro) ?_
    intro v4 M4 a4 b4 q4
    obtain ⟨q4, z4⟩ := q4
    subst z4
    refine And.intro (fun h7 => ?_) (fun h7 => ?_)
    · skip
      refine And.intro rfl ?_
      refine ⟨fun ls l1 F hT hF hW => ?_, hS⟩
      show _ = sd_huv ls F d w
      unfold sd_huv
      rw [if_neg (fun z => by
        first
          | (split at q4 <;> omega)
          | (split at q4 <;> split at q13 <;> omega)
          | omega)]
    · skip
      refine And.intro (True.intro) ?_
      intro v13 M13 a13 b13 q13
      obtain ⟨q13, z13⟩ := q13
      subst z13
      refine And.intro (fun h16 => ?_) (fun h16 => ?_)
      · skip
        have GP : (1 ≤ d ∧ d ≤ 60) ∧ 0 ≤ w ∧ w ≤ 1 := by
          split at q4 <;> split at q13 <;> omega
        refine pz_nrc (c := 6) rfl ?_
        refine pz_nrc (c := 71) rfl ?_
        refine And.intro (hI) ?_
        intro M35 q35
        obtain ⟨q35, z35⟩ := q35
        have hS : pq_pr pq_Pk M M35 := hS.tr z35
        have hI : pz_ic M35 := hS.1 hI0
        have G41 : sd_wp M (fun ls F => sd_ar M35 ls F d.toNat (F 88) ∧ sd_huE ls F d.toNat (-1) (-1) 0) := fun ls l1 F t s w9 => ⟨q35 rfl (by first | decide | omega) ls l1 F t s w9, sd_huE_0 w9⟩
        exact L41 _ _ _ _ _ _ (Nat.lt_succ_self _) hS (by first | omega | assumption) (by first | omega | assumption) (by first | omega | assumption)
      · skip
        skip
        refine And.intro rfl ?_
        refine ⟨fun ls l1 F hT hF hW => ?_, hS⟩
        show _ = sd_huv ls F d w
        unfold sd_huv
        rw [if_neg (fun z => by
          first
            | (split at q4 <;> omega)
            | (split at q4 <;> split at q13 <;> omega)
            | omega)]
theorem v4_X11_hurry {fr lo i : Nat} {own : String} (h1 : 5 + 1 ≤ fr) (h2 : 8 + (7 + 11) + 124 ≤ lo) (h3 : .methodLink own i yX11_hurry ∈ lw_tbl) : pz_cV fr lo own i k4_X11_hurry :=
  pz_cVk (maxL := 7) (fr' := 5) (lo' := 124) 2 11 h4_X11_hurry rfl ⟨(pz_nhc_RX11 yX11_hurry rfl).1, (pz_nhc_RX11 yX11_hurry rfl).2, pz_ds10⟩ ⟨pz_wq1068, pz_wq1066, pz_wq1067, pz_wq1⟩ (Or.inl ⟨TX11, 14, rfl⟩) (fun a M _ h => by
    have h : (match (generalizing := false) a with | [.inr (.inr (11, th)), .inl d, .inl w] => pz_ic M | _ => False) := h
    split at h
    · exact ⟨_, _, rfl⟩
    · exact h.elim) h1 h2 h3
end
section
noncomputable def k4_X12_readyBy : pz_C := (3, 2, fun a M => (match a with | [.inr (.inr (12, th)), .inl i, .inl n] => pz_im M ∧ 0 ≤ i ∧ i < 12 | _ => False), fun a M r M' => (match a, r with | [.inr (.inr (12, th)), .inl i, .inl n], some (.inr (.inl v)) => (i < M 60 88 → 0 ≤ n → ∀ ls : List pz_lne, pq_wlw ls (M 60) → (∀ q ∈ ls, pv_ln q) → v = sd_rb ls (M 60) n.toNat i.toNat) ∧ pz_rl pz_QV M M' | _, _ => False))
noncomputable abbrev ct4_X12_readyBy : List (Bool × Nat × pz_C) := [(true, 62, k3_X12_isOut), (true, 297, k3_X12_isReady), (true, 370, k3_X12_readyOf), (false, 408, k_X12_sureBy)]
set_option maxRecDepth 100000 in
set_option maxHeartbeats 4000000 in
theorem h4_X12_readyBy : pz_H yX12_readyBy cX12_readyBy 3 (some .long) k4_X12_readyBy 5 116 := by
  refine pz_mk (own := RX12) (tb := t_X12_readyBy) (fl := pz_flf fl_RX12) (ci := pz_cif ci_RX12) (ct := pz_ctf ct4_X12_readyBy) (rz := false) (pz_pfc_RX12 yX12_readyBy rfl) rfl t_X12_readyBy_ok (pz_flk fl_RX12_ok) (pz_cik ci_RX12_ok) ?_ ?_ (rfl) ?_ ?_
  · exact fun i k' h => pz_ctk (l := ct4_X12_readyBy) (P := fun b i k => b = true → pz_cV 5 116 RX12 i k) (List.forall_mem_cons.mpr ⟨(fun _ => v3_X12_isOut (by decide) (by decide) pz_wq1419), List.forall_mem_cons.mpr ⟨(fun _ => v3_X12_isReady (by decide) (by decide) pz_wq1465), List.forall_mem_cons.mpr ⟨(fun _ => v3_X12_readyOf (by decide) (by decide) pz_wq1539), List.forall_mem_cons.mpr ⟨((fun z => by cases z)), fun _ h => absurd h List.not_mem_nil⟩⟩⟩⟩) true i k' h rfl
  · exact fun i k' h => pz_ctk (l := ct4_X12_readyBy) (P := fun b i k => b = false → (pz_cS 5 116 RX12 i k ∨ (k = pz_kac ∧ 1 ≤ 5 ∧ 60 ≤ 116 ∧ Cond.methodLink RX12 i arraycopyName ∈ pz_tbl))) (List.forall_mem_cons.mpr ⟨((fun z => by cases z)), List.forall_mem_cons.mpr ⟨((fun z => by cases z)), List.forall_mem_cons.mpr ⟨((fun z => by cases z)), List.forall_mem_cons.mpr ⟨(fun _ => Or.inl (s_X12_sureBy (by decide) (by decide) (Or.inl pz_wq1626))), fun _ h => absurd h List.not_mem_nil⟩⟩⟩⟩) false i k' h rfl
  · intro a M hlen hpre
    obtain ⟨th, i, n, rfl, hpre⟩ : ∃ th i n, a = [.inr (.inr (12, th)), .inl i, .inl n] ∧ (pz_im M ∧ 0 ≤ i ∧ i < 12) := by
      have hpre : (match (generalizing := false) a with | [.inr (.inr (12, th)), .inl i, .inl n] => pz_im M ∧ 0 ≤ i ∧ i < 12 | _ => False) := hpre
      split at hpre
      · exact ⟨_, _, _, rfl, hpre⟩
      · exact hpre.elim
    exact Nat.le_of_ble_eq_true rfl
  · intro a M hlen hcan hM hpre Ok hgo
    obtain ⟨th, i, n, rfl, hpre⟩ : ∃ th i n, a = [.inr (.inr (12, th)), .inl i, .inl n] ∧ (pz_im M ∧ 0 ≤ i ∧ i < 12) := by
      have hpre : (match (generalizing := false) a with | [.inr (.inr (12, th)), .inl i, .inl n] => pz_im M ∧ 0 ≤ i ∧ i < 12 | _ => False) := hpre
      split at hpre
      · exact ⟨_, _, _, rfl, hpre⟩
      · exact hpre.elim
    obtain ⟨k_th, hc_th⟩ := pz_tlm hcan
    have k_th : pz_kd th = 12 ∧ th < 231 := k_th
    have R_th := pz_kd12 k_th.1
    subst R_th
    clear k_th
    obtain ⟨k_i, hc_i⟩ := pz_tlm hc_th
    have l_i : -2147483648 ≤ i := k_i.1
    have u_i : i ≤ 2147483647 := k_i.2
    obtain ⟨k_n, hc_n⟩ := pz_tlm hc_i
    have l_n : -2147483648 ≤ n := k_n.1
    have u_n : n ≤ 2147483647 := k_n.2
    have hI : pz_im M := hpre.1
    have hI0 := hI
    have hS : pz_rl pz_QV M M := pz_rl.rf
    refine hgo (fun _ => false) 20 0 _ [] M ?_
    refine And.intro (And.intro hI (And.intro (by first | decide | omega) (by first | decide | omega))) ?_
    intro v2 M2 a2 b2 q2
    obtain ⟨q2, z2⟩ := q2
    subst z2
    clear a2 b2
    refine And.intro (fun h5 => ?_) (fun h5 => ?_)
    · skip
      replace q2 := q2.resolve_left (fun z => absurd (z.1.symm.trans h5) (by decide))
      refine And.intro (And.intro hI (And.intro (by first | decide | omega) (by first | decide | omega))) ?_
      intro v14 M14 a14 b14 q14
      obtain ⟨q14, z14⟩ := q14
      subst z14
      clear a14 b14
      refine And.intro (fun h17 => ?_) (fun h17 => ?_)
      · skip
        replace q14 := q14.resolve_left (fun z => absurd (z.1.symm.trans h17) (by decide))
        refine And.intro (And.intro hI (And.intro (by first | decide | omega) (by first | decide | omega))) ?_
        intro v28 M28 a28 b28 q28
        obtain ⟨q28, z28⟩ := q28
        have hS : pz_rl pz_QV M M28 := hS.tr (pz_rl.wk pz_wk_QS_QV z28)
        have hI : pz_im M28 := hS.1 hI0
        clear a28 b28
        refine And.intro (True.intro) ?_
        intro v32 M32 a32 b32 q32
        obtain ⟨q32, z32⟩ := q32
        subst z32
        refine And.intro rfl ?_
        refine ⟨fun hi hn ls hl hq => ?_, hS⟩
        rw [show (52 + i).toNat = 52 + i.toNat by omega] at q2
        unfold sd_rb
        first
          | (rw [if_pos (by first | decide | omega)]; done)
          | (rw [show (40 + i).toNat = 40 + i.toNat by omega] at q14
             first
               | (rw [if_neg (by first | decide | omega), if_pos (by first | decide | omega)]; done)
               | (have r := q28.1 hi ls hl hq
                  have s := q32 (by first | decide | omega) (by first | decide | omega) hn
                  rw [if_neg (by first | decide | omega), if_neg (by first | decide | omega), s, r]
                  rfl))
          | (rw [if_pos (by first | decide | omega)]
             rfl)
      · skip
        replace q14 := q14.resolve_right (fun z => h17 z.1)
        refine And.intro rfl ?_
        refine ⟨fun hi hn ls hl hq => ?_, hS⟩
        rw [show (52 + i).toNat = 52 + i.toNat by omega] at q2
        unfold sd_rb
        first
          | (rw [if_pos (by first | decide | omega)]; done)
          | (rw [show (40 + i).toNat = 40 + i.toNat by omega] at q14
             first
               | (rw [if_neg (by first | decide | omega), if_pos (by first | decide | omega)]; done)
               | (have r := q28.1 hi ls hl hq
                  have s := q32 (by first | decide | omega) (by first | decide | omega) hn
                  rw [if_neg (by first | decide | omega), if_neg (by first | decide | omega), s, r]
                  rfl))
          | (rw [if_pos (by first | decide | omega)]
             rfl)
    · skip
      replace q2 := q2.resolve_right (fun z => h5 z.1)
      refine And.intro rfl ?_
      refine ⟨fun hi hn ls hl hq => ?_, hS⟩
      rw [show (52 + i).toNat = 52 + i.toNat by omega] at q2
      unfold sd_rb
      first
        | (rw [if_pos (by first | decide | omega)]; done)
        | (rw [show (40 + i).toNat = 40 + i.toNat by omega] at q14
           first
             | (rw [if_neg (by first | decide | omega), if_pos (by first | decide | omega)]; done)
             | (have r := q28.1 hi ls hl hq
                have s := q32 (by first | decide | omega) (by first | decide | omega) hn
                rw [if_neg (by first | decide | omega), if_neg (by first | decide | omega), s, r]
                rfl))
        | (rw [if_pos (by first | decide | omega)]
           rfl)
theorem v4_X12_readyBy {fr lo i : Nat} {own : String} (h1 : 5 + 1 ≤ fr) (h2 : 8 + (3 + 11) + 116 ≤ lo) (h3 : .methodLink own i yX12_readyBy ∈ lw_tbl) : pz_cV fr lo own i k4_X12_readyBy :=
  pz_cVk (maxL := 3) (fr' := 5) (lo' := 116) 2 12 h4_X12_readyBy rfl ⟨(pz_nhc_RX12 yX12_readyBy rfl).1, (pz_nhc_RX12 yX12_readyBy rfl).2, pz_ds11⟩ ⟨pz_wq1625, pz_wq1624, pz_ws75, pz_wq13⟩ (Or.inl ⟨TX12, 28, rfl⟩) (fun a M _ h => by
    have h : (match (generalizing := false) a with | [.inr (.inr (12, th)), .inl i, .inl n] => pz_im M ∧ 0 ≤ i ∧ i < 12 | _ => False) := h
    split at h
    · exact ⟨_, _, rfl⟩
    · exact h.elim) h1 h2 h3
end
section
noncomputable def k4_X12_allBy : pz_C := (4, 2, fun a M => (match a with | [.inr (.inr (12, th)), .inl i, .inl j, .inl n] => pz_im M ∧ 0 ≤ i ∧ j < 12 | _ => False), fun a M r M' => (match a, r with | [.inr (.inr (12, th)), .inl i, .inl j, .inl n], some (.inr (.inl v)) => (∀ ls : List pz_lne, pq_wlw ls (M 60) → (∀ q ∈ ls, pv_ln q) → sd_wf (M 60) → j < M 60 88 → 0 ≤ n → v = sd_oo ls (M 60) n.toNat (j + 1 - i).toNat i.toNat 1000000) ∧ pz_rl pz_QV M M' | _, _ => False))
noncomputable abbrev ct4_X12_allBy : List (Bool × Nat × pz_C) := [(true, 297, k3_X12_isReady), (true, 62, k3_X12_isOut), (true, 412, k4_X12_readyBy)]
set_option maxRecDepth 100000 in
set_option maxHeartbeats 4000000 in
theorem h4_X12_allBy : pz_H yX12_allBy cX12_allBy 7 (some .long) k4_X12_allBy 6 138 := by
  refine pz_mk (own := RX12) (tb := t_X12_allBy) (fl := pz_flf fl_RX12) (ci := pz_cif ci_RX12) (ct := pz_ctf ct4_X12_allBy) (rz := false) (pz_pfc_RX12 yX12_allBy rfl) rfl t_X12_allBy_ok (pz_flk fl_RX12_ok) (pz_cik ci_RX12_ok) ?_ ?_ (rfl) ?_ ?_
  · exact fun i k' h => pz_ctk (l := ct4_X12_allBy) (P := fun b i k => b = true → pz_cV 6 138 RX12 i k) (List.forall_mem_cons.mpr ⟨(fun _ => v3_X12_isReady (by decide) (by decide) pz_wq1465), List.forall_mem_cons.mpr ⟨(fun _ => v3_X12_isOut (by decide) (by decide) pz_wq1419), List.forall_mem_cons.mpr ⟨(fun _ => v4_X12_readyBy (by decide) (by decide) pz_wq1622), fun _ h => absurd h List.not_mem_nil⟩⟩⟩) true i k' h rfl
  · exact fun i k' h => pz_ctk (l := ct4_X12_allBy) (P := fun b i k => b = false → (pz_cS 6 138 RX12 i k ∨ (k = pz_kac ∧ 1 ≤ 6 ∧ 60 ≤ 138 ∧ Cond.methodLink RX12 i arraycopyName ∈ pz_tbl))) (List.forall_mem_cons.mpr ⟨((fun z => by cases z)), List.forall_mem_cons.mpr ⟨((fun z => by cases z)), List.forall_mem_cons.mpr ⟨((fun z => by cases z)), fun _ h => absurd h List.not_mem_nil⟩⟩⟩) false i k' h rfl
  · intro a M hlen hpre
    obtain ⟨th, i, j, n, rfl, hpre⟩ : ∃ th i j n, a = [.inr (.inr (12, th)), .inl i, .inl j, .inl n] ∧ (pz_im M ∧ 0 ≤ i ∧ j < 12) := by
      have hpre : (match (generalizing := false) a with | [.inr (.inr (12, th)), .inl i, .inl j, .inl n] => pz_im M ∧ 0 ≤ i ∧ j < 12 | _ => False) := hpre
      split at hpre
      · exact ⟨_, _, _, _, rfl, hpre⟩
      · exact hpre.elim
    exact Nat.le_of_ble_eq_true rfl
  · intro a M hlen hcan hM hpre Ok hgo
    obtain ⟨th, i, j, n, rfl, hpre⟩ : ∃ th i j n, a = [.inr (.inr (12, th)), .inl i, .inl j, .inl n] ∧ (pz_im M ∧ 0 ≤ i ∧ j < 12) := by
      have hpre : (match (generalizing := false) a with | [.inr (.inr (12, th)), .inl i, .inl j, .inl n] => pz_im M ∧ 0 ≤ i ∧ j < 12 | _ => False) := hpre
      split at hpre
      · exact ⟨_, _, _, _, rfl, hpre⟩
      · exact hpre.elim
    obtain ⟨k_th, hc_th⟩ := pz_tlm hcan
    have k_th : pz_kd th = 12 ∧ th < 231 := k_th
    have R_th := pz_kd12 k_th.1
    subst R_th
    clear k_th
    obtain ⟨k_i, hc_i⟩ := pz_tlm hc_th
    have l_i : -2147483648 ≤ i := k_i.1
    have u_i : i ≤ 2147483647 := k_i.2
    obtain ⟨k_j, hc_j⟩ := pz_tlm hc_i
    have l_j : -2147483648 ≤ j := k_j.1
    have u_j : j ≤ 2147483647 := k_j.2
    obtain ⟨k_n, hc_n⟩ := pz_tlm hc_j
    have l_n : -2147483648 ≤ n := k_n.1
    have u_n : n ≤ 2147483647 := k_n.2
    have hI : pz_im M := hpre.1
    have hI0 := hI
    have hS : pz_rl pz_QV M M := pz_rl.rf
    have L8 : ∀ (fu : Nat) (x4 : Int) (x6 : Int) (N8 : pz_M), (12 - x6).toNat < fu → (pz_rl pz_QV M N8) → (0 ≤ x6) → (∀ ls : List pz_lne, pq_wlw ls (M 60) → (∀ q ∈ ls, pv_ln q) → sd_wf (M 60) → j < M 60 88 → 0 ≤ n → (0 ≤ x4 ∧ x4 ≤ 1000000) ∧ sd_oo ls (M 60) n.toNat (j + 1 - x6).toNat x6.toNat x4 = sd_oo ls (M 60) n.toNat (j + 1 - i).toNat i.toNat 1000000) → Ok 8 [some (.inr (.inr (12, 1))), some (.inl i), some (.inl j), some (.inl n), some (.inr (.inl x4)), none, some (.inl x6)] [] N8 := by
      intro fu
      induction fu with
      | zero => exact fun _ _ _ hn => absurd hn (Nat.not_lt_zero _)
      | succ fu ih8 =>
        intro x4 x6 N8 hn8 hS g8_1 g8_2
        have hI : pz_im N8 := hS.1 hI0
        have W8 : N8 60 = M 60 := funext fun j => hS.2 60 j (by unfold pz_QV; first | decide | omega)
        have L48 : ∀ (x4 : Int) (x6 : Int) (N48 : pz_M), (pz_rl pz_QV M N48) → (0 ≤ x6) → (x6 < 12) → ((12 - x6).toNat < fu + 1) → (∀ ls : List pz_lne, pq_wlw ls (M 60) → (∀ q ∈ ls, pv_ln q) → sd_wf (M 60) → j < M 60 88 → 0 ≤ n → (0 ≤ x4 ∧ x4 ≤ 1000000) ∧ sd_oo ls (M 60) n.toNat (j + 1 - (x6 + 1)).toNat (x6 + 1).toNat x4 = sd_oo ls (M 60) n.toNat (j + 1 - i).toNat i.toNat 1000000) → Ok 48 [some (.inr (.inr (12, 1))), some (.inl i), some (.inl j), some (.inl n), some (.inr (.inl x4)), none, some (.inl x6)] [] N48 := by
          intro x4 x6 N48 hS g48_1 g48_2 g48_3 g48_4
          have hI : pz_im N48 := hS.1 hI0
          refine hgo (fun p => Nat.beq p 8 || Nat.beq p 48) 30 48 _ _ _ ?_
          intro v48 e48 a48 b48
          rw [pz_wi (by first | decide | omega) (by first | decide | omega)] at e48
          have G8 : ∀ ls : List pz_lne, pq_wlw ls (M 60) → (∀ q ∈ ls, pv_ln q) → sd_wf (M 60) → j < M 60 88 → 0 ≤ n → (0 ≤ x4 ∧ x4 ≤ 1000000) ∧ sd_oo ls (M 60) n.toNat (j + 1 - v48).toNat v48.toNat x4 = sd_oo ls (M 60) n.toNat (j + 1 - i).toNat i.toNat 1000000 := by
            rw [e48]
            assumption
          exact ih8 _ _ _ (by first | decide | omega) hS (by first | omega | assumption | exact fun ls hl hq hW hj hn => ⟨⟨by decide, by decide⟩, rfl⟩) (by first | omega | assumption | exact fun ls hl hq hW hj hn => ⟨⟨by decide, by decide⟩, rfl⟩)
        refine hgo (fun p => Nat.beq p 8 || Nat.beq p 48) 30 8 _ _ _ ?_
        refine And.intro (fun h11 => ?_) (fun h11 => ?_)
        · skip
          refine And.intro rfl ?_
          refine ⟨fun ls hl hq hW hj hn => ?_, hS⟩
          obtain ⟨g1, g2⟩ := (by assumption : ∀ ls : List pz_lne, pq_wlw ls (M 60) → (∀ q ∈ ls, pv_ln q) → sd_wf (M 60) → j < M 60 88 → 0 ≤ n → (0 ≤ x4 ∧ x4 ≤ 1000000) ∧ sd_oo ls (M 60) n.toNat (j + 1 - x6).toNat x6.toNat x4 = sd_oo ls (M 60) n.toNat (j + 1 - i).toNat i.toNat 1000000) ls hl hq hW hj hn
          rw [show (j + 1 - x6).toNat = 0 by omega] at g2
          exact g2
        · skip
          refine And.intro (And.intro hI (And.intro (by first | decide | omega) (by first | decide | omega))) ?_
          intro v17 M17 a17 b17 q17
          obtain ⟨q17, z17⟩ := q17
          subst z17
          clear a17 b17
          rw [W8] at q17
          refine And.intro (fun h20 => ?_) (fun h20 => ?_)
          · skip
            replace q17 := q17.resolve_left (fun z => absurd (z.1.symm.trans h20) (by decide))
            refine And.intro (And.intro hI (And.intro (by first | decide | omega) (by first | decide | omega))) ?_
            intro v38 M38 a38 b38 q38
            obtain ⟨q38, z38⟩ := q38
            have hS : pz_rl pz_QV M M38 := hS.tr z38
            have hI : pz_im M38 := hS.1 hI0
            rw [W8] at q38
            intro v41 e41 a41 b41
            refine And.intro (by first | decide | omega) ?_
            intro v45 e45 a45 b45
            have G48 : ∀ ls : List pz_lne, pq_wlw ls (M 60) → (∀ q ∈ ls, pv_ln q) → sd_wf (M 60) → j < M 60 88 → 0 ≤ n → (0 ≤ v45 ∧ v45 ≤ 1000000) ∧ sd_oo ls (M 60) n.toNat (j + 1 - (x6 + 1)).toNat (x6 + 1).toNat v45 = sd_oo ls (M 60) n.toNat (j + 1 - i).toNat i.toNat 1000000 := fun ls hl hq hW hj hn => by
              obtain ⟨g1, g2⟩ := (by assumption : ∀ ls : List pz_lne, pq_wlw ls (M 60) → (∀ q ∈ ls, pv_ln q) → sd_wf (M 60) → j < M 60 88 → 0 ≤ n → (0 ≤ x4 ∧ x4 ≤ 1000000) ∧ sd_oo ls (M 60) n.toNat (j + 1 - x6).toNat x6.toNat x4 = sd_oo ls (M 60) n.toNat (j + 1 - i).toNat i.toNat 1000000) ls hl hq hW hj hn
              have r := q38 (by first | decide | omega) hn ls hl hq
              rw [show (40 + x6).toNat = 40 + x6.toNat by omega] at q17
              have o := sd_ow_r (F := M 60) (i := x6.toNat) (by
                first
                  | omega
                  | (rw [show (52 + x6).toNat = 52 + x6.toNat by omega] at q26
                     omega)) g1 r e41 e45
              have g3 := sd_oo_s g2 (show (j + 1 - x6).toNat = (j + 1 - (x6 + 1)).toNat + 1 by omega) o
              rw [show x6.toNat + 1 = (x6 + 1).toNat by omega] at g3
              exact ⟨by rw [o]; exact sd_ow_b g1, g3⟩
            exact L48 _ _ _ hS (by first | omega | assumption) (by first | omega | assumption) (by first | omega | assumption) (by first | omega | assumption)
          · skip
            replace q17 := q17.resolve_right (fun z => h20 z.1)
            refine And.intro (And.intro hI (And.intro (by first | decide | omega) (by first | decide | omega))) ?_
            intro v26 M26 a26 b26 q26
            obtain ⟨q26, z26⟩ := q26
            subst z26
            clear a26 b26
            rw [W8] at q26
            refine And.intro (fun h29 => ?_) (fun h29 => ?_)
            · skip
              have G48 : ∀ ls : List pz_lne, pq_wlw ls (M 60) → (∀ q ∈ ls, pv_ln q) → sd_wf (M 60) → j < M 60 88 → 0 ≤ n → (0 ≤ x4 ∧ x4 ≤ 1000000) ∧ sd_oo ls (M 60) n.toNat (j + 1 - (x6 + 1)).toNat (x6 + 1).toNat x4 = sd_oo ls (M 60) n.toNat (j + 1 - i).toNat i.toNat 1000000 := fun ls hl hq hW hj hn => by
                obtain ⟨g1, g2⟩ := (by assumption : ∀ ls : List pz_lne, pq_wlw ls (M 60) → (∀ q ∈ ls, pv_ln q) → sd_wf (M 60) → j < M 60 88 → 0 ≤ n → (0 ≤ x4 ∧ x4 ≤ 1000000) ∧ sd_oo ls (M 60) n.toNat (j + 1 - x6).toNat x6.toNat x4 = sd_oo ls (M 60) n.toNat (j + 1 - i).toNat i.toNat 1000000) ls hl hq hW hj hn
                rw [show (40 + x6).toNat = 40 + x6.toNat by omega] at q17
                rw [show (52 + x6).toNat = 52 + x6.toNat by omega] at q26
                have o : x4 = sd_ow ls (M 60) n.toNat x6.toNat x4 := by
                  unfold sd_ow
                  rw [if_neg (by first | decide | omega), if_pos (by first | decide | omega)]
                have g3 := sd_oo_s g2 (show (j + 1 - x6).toNat = (j + 1 - (x6 + 1)).toNat + 1 by omega) o
                rw [show x6.toNat + 1 = (x6 + 1).toNat by omega] at g3
                exact ⟨g1, g3⟩
              replace q26 := q26.resolve_left (fun z => absurd (z.1.symm.trans h29) (by decide))
              exact L48 _ _ _ hS (by first | omega | assumption) (by first | omega | assumption) (by first | omega | assumption) (by first | omega | assumption)
            · skip
              skip
              replace q26 := q26.resolve_right (fun z => h29 z.1)
              refine And.intro (And.intro hI (And.intro (by first | decide | omega) (by first | decide | omega))) ?_
              intro v38 M38 a38 b38 q38
              obtain ⟨q38, z38⟩ := q38
              have hS : pz_rl pz_QV M M38 := hS.tr z38
              have hI : pz_im M38 := hS.1 hI0
              rw [W8] at q38
              intro v41 e41 a41 b41
              refine And.intro (by first | decide | omega) ?_
              intro v45 e45 a45 b45
              have G48 : ∀ ls : List pz_lne, pq_wlw ls (M 60) → (∀ q ∈ ls, pv_ln q) → sd_wf (M 60) → j < M 60 88 → 0 ≤ n → (0 ≤ v45 ∧ v45 ≤ 1000000) ∧ sd_oo ls (M 60) n.toNat (j + 1 - (x6 + 1)).toNat (x6 + 1).toNat v45 = sd_oo ls (M 60) n.toNat (j + 1 - i).toNat i.toNat 1000000 := fun ls hl hq hW hj hn => by
                obtain ⟨g1, g2⟩ := (by assumption : ∀ ls : List pz_lne, pq_wlw ls (M 60) → (∀ q ∈ ls, pv_ln q) → sd_wf (M 60) → j < M 60 88 → 0 ≤ n → (0 ≤ x4 ∧ x4 ≤ 1000000) ∧ sd_oo ls (M 60) n.toNat (j + 1 - x6).toNat x6.toNat x4 = sd_oo ls (M 60) n.toNat (j + 1 - i).toNat i.toNat 1000000) ls hl hq hW hj hn
                have r := q38 (by first | decide | omega) hn ls hl hq
                rw [show (40 + x6).toNat = 40 + x6.toNat by omega] at q17
                have o := sd_ow_r (F := M 60) (i := x6.toNat) (by
                  first
                    | omega
                    | (rw [show (52 + x6).toNat = 52 + x6.toNat by omega] at q26
                       omega)) g1 r e41 e45
                have g3 := sd_oo_s g2 (show (j + 1 - x6).toNat = (j + 1 - (x6 + 1)).toNat + 1 by omega) o
                rw [show x6.toNat + 1 = (x6 + 1).toNat by omega] at g3
                exact ⟨by rw [o]; exact sd_ow_b g1, g3⟩
              exact L48 _ _ _ hS (by first | omega | assumption) (by first | omega | assumption) (by first | omega | assumption) (by first | omega | assumption)
    refine hgo (fun p => Nat.beq p 8 || Nat.beq p 48) 30 0 _ [] M ?_
    exact L8 _ _ _ _ (Nat.lt_succ_self _) hS (by first | omega | assumption | exact fun ls hl hq hW hj hn => ⟨⟨by decide, by decide⟩, rfl⟩) (by first | omega | assumption | exact fun ls hl hq hW hj hn => ⟨⟨by decide, by decide⟩, rfl⟩)
theorem v4_X12_allBy {fr lo i : Nat} {own : String} (h1 : 6 + 1 ≤ fr) (h2 : 8 + (7 + 11) + 138 ≤ lo) (h3 : .methodLink own i yX12_allBy ∈ lw_tbl) : pz_cV fr lo own i k4_X12_allBy :=
  pz_cVk (maxL := 7) (fr' := 6) (lo' := 138) 3 12 h4_X12_allBy rfl ⟨(pz_nhc_RX12 yX12_allBy rfl).1, (pz_nhc_RX12 yX12_allBy rfl).2, pz_ds15⟩ ⟨pz_wq1620, pz_wq1619, pz_ws74, pz_wq13⟩ (Or.inl ⟨TX12, 28, rfl⟩) (fun a M _ h => by
    have h : (match (generalizing := false) a with | [.inr (.inr (12, th)), .inl i, .inl j, .inl n] => pz_im M ∧ 0 ≤ i ∧ j < 12 | _ => False) := h
    split at h
    · exact ⟨_, _, rfl⟩
    · exact h.elim) h1 h2 h3
end
section
noncomputable def k4_X12_odds : pz_C := (2, 1, fun a M => (match a with | [.inr (.inr (12, th)), .inl n] => pz_im M | _ => False), fun a M r M' => (match a, r with | [.inr (.inr (12, th)), .inl n], some (.inl v) => (sd_wm M v (fun ls F => sd_odv ls F n)) ∧ pz_rl pz_QV M M' | _, _ => False))
noncomputable abbrev ct4_X12_odds : List (Bool × Nat × pz_C) := [(false, 54, k_X12_isIn), (true, 415, k4_X12_allBy)]
set_option maxRecDepth 100000 in
set_option maxHeartbeats 4000000 in
theorem h4_X12_odds : pz_H yX12_odds cX12_odds 2 (some .int) k4_X12_odds 7 164 := by
  refine pz_mk (own := RX12) (tb := t_X12_odds) (fl := pz_flf fl_RX12) (ci := pz_cif ci_RX12) (ct := pz_ctf ct4_X12_odds) (rz := false) (pz_pfc_RX12 yX12_odds rfl) rfl t_X12_odds_ok (pz_flk fl_RX12_ok) (pz_cik ci_RX12_ok) ?_ ?_ (Or.inl ⟨rfl, rfl⟩) ?_ ?_
  · exact fun i k' h => pz_ctk (l := ct4_X12_odds) (P := fun b i k => b = true → pz_cV 7 164 RX12 i k) (List.forall_mem_cons.mpr ⟨((fun z => by cases z)), List.forall_mem_cons.mpr ⟨(fun _ => v4_X12_allBy (by decide) (by decide) pz_wq1617), fun _ h => absurd h List.not_mem_nil⟩⟩) true i k' h rfl
  · exact fun i k' h => pz_ctk (l := ct4_X12_odds) (P := fun b i k => b = false → (pz_cS 7 164 RX12 i k ∨ (k = pz_kac ∧ 1 ≤ 7 ∧ 60 ≤ 164 ∧ Cond.methodLink RX12 i arraycopyName ∈ pz_tbl))) (List.forall_mem_cons.mpr ⟨(fun _ => Or.inl (s_X12_isIn (by decide) (by decide) (Or.inl pz_wq1217))), List.forall_mem_cons.mpr ⟨((fun z => by cases z)), fun _ h => absurd h List.not_mem_nil⟩⟩) false i k' h rfl
  · intro a M hlen hpre
    obtain ⟨th, n, rfl, hpre⟩ : ∃ th n, a = [.inr (.inr (12, th)), .inl n] ∧ (pz_im M) := by
      have hpre : (match (generalizing := false) a with | [.inr (.inr (12, th)), .inl n] => pz_im M | _ => False) := hpre
      split at hpre
      · exact ⟨_, _, rfl, hpre⟩
      · exact hpre.elim
    exact Nat.le_of_ble_eq_true rfl
  · intro a M hlen hcan hM hpre Ok hgo
    obtain ⟨th, n, rfl, hpre⟩ : ∃ th n, a = [.inr (.inr (12, th)), .inl n] ∧ (pz_im M) := by
      have hpre : (match (generalizing := false) a with | [.inr (.inr (12, th)), .inl n] => pz_im M | _ => False) := hpre
      split at hpre
      · exact ⟨_, _, rfl, hpre⟩
      · exact hpre.elim
    obtain ⟨k_th, hc_th⟩ := pz_tlm hcan
    have k_th : pz_kd th = 12 ∧ th < 231 := k_th
    have R_th := pz_kd12 k_th.1
    subst R_th
    clear k_th
    obtain ⟨k_n, hc_n⟩ := pz_tlm hc_th
    have l_n : -2147483648 ≤ n := k_n.1
    have u_n : n ≤ 2147483647 := k_n.2
    have hI : pz_im M := hpre
    have hI0 := hI
    have hS : pz_rl pz_QV M M := pz_rl.rf
    have I88 := hI.1.1
    refine hgo (fun _ => false) 21 0 _ [] M ?_
    refine And.intro (True.intro) ?_
    intro v4 M4 a4 b4 q4
    obtain ⟨q4, z4⟩ := q4
    subst z4
    clear a4 b4
    refine And.intro (fun h7 => ?_) (fun h7 => ?_)
    · skip
      replace q4 := q4.resolve_left (fun z => absurd (z.1.symm.trans h7) (by decide))
      clear h7
      refine And.intro rfl ?_
      refine ⟨fun ls hl hq hW => ?_, hS⟩
      have hm := hW.1
      show _ = sd_odv ls (M 60) n
      unfold sd_odv
      first
        | (have q := q22 ls hl hq hW (by first | decide | omega) (by first | decide | omega)
           have b := sd_od9_b (ls := ls) (F := M 60) (d := n.toNat)
           rw [show (v20 + 1 - 0).toNat = sd_n (M 60) by unfold sd_n; omega] at q
           have q : v22 = sd_od9 ls (M 60) n.toNat := q
           rw [if_pos (by first | decide | omega), e25, q, pz_wi (by first | decide | omega) (by first | decide | omega)])
        | rw [if_neg (by first | decide | omega)]
    · skip
      replace q4 := q4.resolve_right (fun z => h7 z.1)
      clear h7
      refine pz_nrc (c := 60) rfl ?_
      refine And.intro (by first | decide | omega) (And.intro (show _ < (1725 : Int) from by omega) ?_)
      intro v18 e18 a18 b18
      replace e18 : v18 = M 60 88 := e18
      have I18 : 0 ≤ v18 ∧ v18 ≤ 12 := by
        rw [e18]
        exact hI.1.1
      clear a18 b18
      intro v20 e20 a20 b20
      rw [pz_wi (by first | decide | omega) (by first | decide | omega)] at e20
      clear a20 b20
      refine And.intro (And.intro hI (And.intro (by first | decide | omega) (by first | decide | omega))) ?_
      intro v22 M22 a22 b22 q22
      obtain ⟨q22, z22⟩ := q22
      have hS : pz_rl pz_QV M M22 := hS.tr z22
      have hI : pz_im M22 := hS.1 hI0
      intro v25 e25 a25 b25
      refine And.intro rfl ?_
      refine ⟨fun ls hl hq hW => ?_, hS⟩
      have hm := hW.1
      show _ = sd_odv ls (M 60) n
      unfold sd_odv
      first
        | (have q := q22 ls hl hq hW (by first | decide | omega) (by first | decide | omega)
           have b := sd_od9_b (ls := ls) (F := M 60) (d := n.toNat)
           rw [show (v20 + 1 - 0).toNat = sd_n (M 60) by unfold sd_n; omega] at q
           have q : v22 = sd_od9 ls (M 60) n.toNat := q
           rw [if_pos (by first | decide | omega), e25, q, pz_wi (by first | decide | omega) (by first | decide | omega)])
        | rw [if_neg (by first | decide | omega)]
theorem v4_X12_odds {fr lo i : Nat} {own : String} (h1 : 7 + 1 ≤ fr) (h2 : 8 + (2 + 11) + 164 ≤ lo) (h3 : .methodLink own i yX12_odds ∈ lw_tbl) : pz_cV fr lo own i k4_X12_odds :=
  pz_cVk (maxL := 2) (fr' := 7) (lo' := 164) 1 12 h4_X12_odds rfl ⟨(pz_nhc_RX12 yX12_odds rfl).1, (pz_nhc_RX12 yX12_odds rfl).2, pz_ds5⟩ ⟨pz_wq1616, pz_wq1614, pz_wq1615, pz_wq13⟩ (Or.inl ⟨TX12, 28, rfl⟩) (fun a M _ h => by
    have h : (match (generalizing := false) a with | [.inr (.inr (12, th)), .inl n] => pz_im M | _ => False) := h
    split at h
    · exact ⟨_, _, rfl⟩
    · exact h.elim) h1 h2 h3
end
section
noncomputable def k4_X12_soon : pz_C := (2, 1, fun a M => (match a with | [.inr (.inr (12, th)), .inl h] => pz_im M | _ => False), fun a M r M' => (match a, r with | [.inr (.inr (12, th)), .inl h], some (.inl v) => (sd_wm M v (fun ls F => sd_sov ls F h)) ∧ pz_rl pz_QV M M' | _, _ => False))
noncomputable abbrev ct4_X12_soon : List (Bool × Nat × pz_C) := [(false, 54, k_X12_isIn), (true, 415, k4_X12_allBy)]
set_option maxRecDepth 100000 in
set_option maxHeartbeats 4000000 in
theorem h4_X12_soon : pz_H yX12_soon cX12_soon 3 (some .int) k4_X12_soon 7 164 := by
  refine pz_mk (own := RX12) (tb := t_X12_soon) (fl := pz_flf fl_RX12) (ci := pz_cif ci_RX12) (ct := pz_ctf ct4_X12_soon) (rz := false) (pz_pfc_RX12 yX12_soon rfl) rfl t_X12_soon_ok (pz_flk fl_RX12_ok) (pz_cik ci_RX12_ok) ?_ ?_ (Or.inl ⟨rfl, rfl⟩) ?_ ?_
  · exact fun i k' h => pz_ctk (l := ct4_X12_soon) (P := fun b i k => b = true → pz_cV 7 164 RX12 i k) (List.forall_mem_cons.mpr ⟨((fun z => by cases z)), List.forall_mem_cons.mpr ⟨(fun _ => v4_X12_allBy (by decide) (by decide) pz_wq1617), fun _ h => absurd h List.not_mem_nil⟩⟩) true i k' h rfl
  · exact fun i k' h => pz_ctk (l := ct4_X12_soon) (P := fun b i k => b = false → (pz_cS 7 164 RX12 i k ∨ (k = pz_kac ∧ 1 ≤ 7 ∧ 60 ≤ 164 ∧ Cond.methodLink RX12 i arraycopyName ∈ pz_tbl))) (List.forall_mem_cons.mpr ⟨(fun _ => Or.inl (s_X12_isIn (by decide) (by decide) (Or.inl pz_wq1217))), List.forall_mem_cons.mpr ⟨((fun z => by cases z)), fun _ h => absurd h List.not_mem_nil⟩⟩) false i k' h rfl
  · intro a M hlen hpre
    obtain ⟨th, h, rfl, hpre⟩ : ∃ th h, a = [.inr (.inr (12, th)), .inl h] ∧ (pz_im M) := by
      have hpre : (match (generalizing := false) a with | [.inr (.inr (12, th)), .inl h] => pz_im M | _ => False) := hpre
      split at hpre
      · exact ⟨_, _, rfl, hpre⟩
      · exact hpre.elim
    exact Nat.le_of_ble_eq_true rfl
  · intro a M hlen hcan hM hpre Ok hgo
    obtain ⟨th, h, rfl, hpre⟩ : ∃ th h, a = [.inr (.inr (12, th)), .inl h] ∧ (pz_im M) := by
      have hpre : (match (generalizing := false) a with | [.inr (.inr (12, th)), .inl h] => pz_im M | _ => False) := hpre
      split at hpre
      · exact ⟨_, _, rfl, hpre⟩
      · exact hpre.elim
    obtain ⟨k_th, hc_th⟩ := pz_tlm hcan
    have k_th : pz_kd th = 12 ∧ th < 231 := k_th
    have R_th := pz_kd12 k_th.1
    subst R_th
    clear k_th
    obtain ⟨k_h, hc_h⟩ := pz_tlm hc_th
    have l_h : -2147483648 ≤ h := k_h.1
    have u_h : h ≤ 2147483647 := k_h.2
    have hI : pz_im M := hpre
    have hI0 := hI
    have hS : pz_rl pz_QV M M := pz_rl.rf
    have I88 := hI.1.1
    have L15 : ∀ (fu : Nat) (x2 : Int) (N15 : pz_M), (61 - x2).toNat < fu → (pz_rl pz_QV M N15) → (0 ≤ x2) → (1 ≤ x2) → (x2 ≤ 61) → (0 ≤ h ∧ h ≤ 1000000) → (∀ ls : List pz_lne, pq_wlw ls (M 60) → (∀ q ∈ ls, pv_ln q) → sd_wf (M 60) → sd_son ls (M 60) h (61 - x2).toNat x2.toNat = sd_son ls (M 60) h 60 1) → Ok 15 [some (.inr (.inr (12, 1))), some (.inl h), some (.inl x2)] [] N15 := by
      intro fu
      induction fu with
      | zero => exact fun _ _ hn => absurd hn (Nat.not_lt_zero _)
      | succ fu ih15 =>
        intro x2 N15 hn15 hS g15_1 g15_2 g15_3 g15_4 g15_5
        have hI : pz_im N15 := hS.1 hI0
        have W15 : N15 60 = M 60 := funext fun j => hS.2 60 j (by unfold pz_QV; first | decide | omega)
        refine hgo (fun p => Nat.beq p 15) 34 15 _ _ _ ?_
        refine And.intro (fun h18 => ?_) (fun h18 => ?_)
        · skip
          refine And.intro rfl ?_
          refine ⟨fun ls hl hq hW => ?_, hS⟩
          have hm := hW.1
          show _ = sd_sov ls (M 60) h
          have g := (by assumption : ∀ ls : List pz_lne, pq_wlw ls (M 60) → (∀ q ∈ ls, pv_ln q) → sd_wf (M 60) → sd_son ls (M 60) h (61 - x2).toNat x2.toNat = sd_son ls (M 60) h 60 1) ls hl hq hW
          unfold sd_sov
          rw [if_pos (by first | decide | omega), ← g, show (61 - x2).toNat = 0 by omega]
          rfl
        · skip
          refine pz_nrc (c := 60) rfl ?_
          refine And.intro (by first | decide | omega) (And.intro (show _ < (1725 : Int) from by omega) ?_)
          intro v29 e29 a29 b29
          replace e29 : v29 = N15 60 88 := e29
          have I29 : 0 ≤ v29 ∧ v29 ≤ 12 := by
            rw [e29]
            exact hI.1.1
          clear a29 b29
          rw [W15] at e29
          intro v31 e31 a31 b31
          rw [pz_wi (by first | decide | omega) (by first | decide | omega)] at e31
          clear a31 b31
          refine And.intro (And.intro hI (And.intro (by first | decide | omega) (by first | decide | omega))) ?_
          intro v33 M33 a33 b33 q33
          obtain ⟨q33, z33⟩ := q33
          have hS : pz_rl pz_QV M M33 := hS.tr z33
          have hI : pz_im M33 := hS.1 hI0
          rw [W15] at q33
          have G33 : ∀ ls : List pz_lne, pq_wlw ls (M 60) → (∀ q ∈ ls, pv_ln q) → sd_wf (M 60) → v33 = sd_od9 ls (M 60) x2.toNat := fun ls hl hq hW => by
            have q := q33 ls hl hq hW (by first | decide | omega) (by first | decide | omega)
            rw [show (v31 + 1 - 0).toNat = sd_n (M 60) by unfold sd_n; omega] at q
            exact q
          refine And.intro (fun h38 => ?_) ?_
          · skip
            refine And.intro (fun h39 => ?_) (fun h39 => ?_)
            · skip
              intro v44 e44 a44 b44
              rw [pz_wi (by first | decide | omega) (by first | decide | omega)] at e44
              have G15 : ∀ ls : List pz_lne, pq_wlw ls (M 60) → (∀ q ∈ ls, pv_ln q) → sd_wf (M 60) → sd_son ls (M 60) h (61 - v44).toNat v44.toNat = sd_son ls (M 60) h 60 1 := fun ls hl hq hW => by
                have g := (by assumption : ∀ ls : List pz_lne, pq_wlw ls (M 60) → (∀ q ∈ ls, pv_ln q) → sd_wf (M 60) → sd_son ls (M 60) h (61 - x2).toNat x2.toNat = sd_son ls (M 60) h 60 1) ls hl hq hW
                have q := G33 ls hl hq hW
                rw [← g, show (61 - x2).toNat = (61 - v44).toNat + 1 by omega, show v44.toNat = x2.toNat + 1 by omega]
                exact (if_neg (by first | decide | omega)).symm
              exact ih15 _ _ (by first | decide | omega) hS (by first | omega | assumption | exact fun _ _ _ _ => rfl) (by first | omega | assumption | exact fun _ _ _ _ => rfl) (by first | omega | assumption | exact fun _ _ _ _ => rfl) (by first | omega | assumption | exact fun _ _ _ _ => rfl) (by first | omega | assumption | exact fun _ _ _ _ => rfl)
            · skip
              exact absurd h39 (by decide)
          refine And.intro (fun h38 => ?_) ?_
          · skip
            refine And.intro (fun h39 => ?_) (fun h39 => ?_)
            · skip
              exact absurd h39 (by decide)
            · skip
              refine And.intro rfl ?_
              refine ⟨fun ls hl hq hW => ?_, hS⟩
              have hm := hW.1
              show _ = sd_sov ls (M 60) h
              have g := (by assumption : ∀ ls : List pz_lne, pq_wlw ls (M 60) → (∀ q ∈ ls, pv_ln q) → sd_wf (M 60) → sd_son ls (M 60) h (61 - x2).toNat x2.toNat = sd_son ls (M 60) h 60 1) ls hl hq hW
              have q := G33 ls hl hq hW
              unfold sd_sov
              rw [if_pos (by first | decide | omega), ← g, show (61 - x2).toNat = (60 - x2).toNat + 1 by omega]
              refine Eq.trans ?_ (if_pos (by first | decide | omega)).symm
              omega
          intro h38
          refine And.intro (fun h39 => ?_) (fun h39 => ?_)
          · skip
            exact absurd h39 (by decide)
          · skip
            refine And.intro rfl ?_
            refine ⟨fun ls hl hq hW => ?_, hS⟩
            have hm := hW.1
            show _ = sd_sov ls (M 60) h
            have g := (by assumption : ∀ ls : List pz_lne, pq_wlw ls (M 60) → (∀ q ∈ ls, pv_ln q) → sd_wf (M 60) → sd_son ls (M 60) h (61 - x2).toNat x2.toNat = sd_son ls (M 60) h 60 1) ls hl hq hW
            have q := G33 ls hl hq hW
            unfold sd_sov
            rw [if_pos (by first | decide | omega), ← g, show (61 - x2).toNat = (60 - x2).toNat + 1 by omega]
            refine Eq.trans ?_ (if_pos (by first | decide | omega)).symm
            omega
    refine hgo (fun p => Nat.beq p 15) 34 0 _ [] M ?_
    refine And.intro (True.intro) ?_
    intro v5 M5 a5 b5 q5
    obtain ⟨q5, z5⟩ := q5
    subst z5
    clear a5 b5
    refine And.intro (fun h8 => ?_) (fun h8 => ?_)
    · skip
      replace q5 := q5.resolve_right (fun z => h8 z.1)
      clear h8
      exact L15 _ _ _ (Nat.lt_succ_self _) hS (by first | omega | assumption | exact fun _ _ _ _ => rfl) (by first | omega | assumption | exact fun _ _ _ _ => rfl) (by first | omega | assumption | exact fun _ _ _ _ => rfl) (by first | omega | assumption | exact fun _ _ _ _ => rfl) (by first | omega | assumption | exact fun _ _ _ _ => rfl)
    · skip
      replace q5 := q5.resolve_left (fun z => absurd (z.1.symm.trans h8) (by decide))
      clear h8
      refine And.intro rfl ?_
      refine ⟨fun ls hl hq hW => ?_, hS⟩
      have hm := hW.1
      show _ = sd_sov ls (M 60) h
      unfold sd_sov
      rw [if_neg (by first | decide | omega)]
theorem v4_X12_soon {fr lo i : Nat} {own : String} (h1 : 7 + 1 ≤ fr) (h2 : 8 + (3 + 11) + 164 ≤ lo) (h3 : .methodLink own i yX12_soon ∈ lw_tbl) : pz_cV fr lo own i k4_X12_soon :=
  pz_cVk (maxL := 3) (fr' := 7) (lo' := 164) 1 12 h4_X12_soon rfl ⟨(pz_nhc_RX12 yX12_soon rfl).1, (pz_nhc_RX12 yX12_soon rfl).2, pz_ds5⟩ ⟨pz_wq1642, pz_wq1640, pz_wq1641, pz_wq13⟩ (Or.inl ⟨TX12, 28, rfl⟩) (fun a M _ h => by
    have h : (match (generalizing := false) a with | [.inr (.inr (12, th)), .inl h] => pz_im M | _ => False) := h
    split at h
    · exact ⟨_, _, rfl⟩
    · exact h.elim) h1 h2 h3
end
section
noncomputable def k4_X12_hurriedBy : pz_C := (3, 2, fun a M => (match a with | [.inr (.inr (12, th)), .inl i, .inl n] => pz_im M ∧ 0 ≤ i ∧ i < 12 | _ => False), fun a M r M' => (match a, r with | [.inr (.inr (12, th)), .inl i, .inl n], some (.inr (.inl v)) => (∀ ls : List pz_lne, pq_wlw ls (M 60) → (∀ q ∈ ls, pv_ln q) → sd_wf (M 60) → i < M 60 88 → 0 ≤ n → v = sd_hu ls (M 60) n.toNat i.toNat) ∧ pz_rl pz_QV M M' | _, _ => False))
noncomputable abbrev ct4_X12_hurriedBy : List (Bool × Nat × pz_C) := [(true, 415, k4_X12_allBy)]
set_option maxRecDepth 100000 in
set_option maxHeartbeats 4000000 in
theorem h4_X12_hurriedBy : pz_H yX12_hurriedBy cX12_hurriedBy 6 (some .long) k4_X12_hurriedBy 7 164 := by
  refine pz_mk (own := RX12) (tb := t_X12_hurriedBy) (fl := pz_flf fl_RX12) (ci := pz_cif ci_RX12) (ct := pz_ctf ct4_X12_hurriedBy) (rz := false) (pz_pfc_RX12 yX12_hurriedBy rfl) rfl t_X12_hurriedBy_ok (pz_flk fl_RX12_ok) (pz_cik ci_RX12_ok) ?_ ?_ (rfl) ?_ ?_
  · exact fun i k' h => pz_ctk (l := ct4_X12_hurriedBy) (P := fun b i k => b = true → pz_cV 7 164 RX12 i k) (List.forall_mem_cons.mpr ⟨(fun _ => v4_X12_allBy (by decide) (by decide) pz_wq1617), fun _ h => absurd h List.not_mem_nil⟩) true i k' h rfl
  · exact fun i k' h => pz_ctk (l := ct4_X12_hurriedBy) (P := fun b i k => b = false → (pz_cS 7 164 RX12 i k ∨ (k = pz_kac ∧ 1 ≤ 7 ∧ 60 ≤ 164 ∧ Cond.methodLink RX12 i arraycopyName ∈ pz_tbl))) (List.forall_mem_cons.mpr ⟨((fun z => by cases z)), fun _ h => absurd h List.not_mem_nil⟩) false i k' h rfl
  · intro a M hlen hpre
    obtain ⟨th, i, n, rfl, hpre⟩ : ∃ th i n, a = [.inr (.inr (12, th)), .inl i, .inl n] ∧ (pz_im M ∧ 0 ≤ i ∧ i < 12) := by
      have hpre : (match (generalizing := false) a with | [.inr (.inr (12, th)), .inl i, .inl n] => pz_im M ∧ 0 ≤ i ∧ i < 12 | _ => False) := hpre
      split at hpre
      · exact ⟨_, _, _, rfl, hpre⟩
      · exact hpre.elim
    exact Nat.le_of_ble_eq_true rfl
  · intro a M hlen hcan hM hpre Ok hgo
    obtain ⟨th, i, n, rfl, hpre⟩ : ∃ th i n, a = [.inr (.inr (12, th)), .inl i, .inl n] ∧ (pz_im M ∧ 0 ≤ i ∧ i < 12) := by
      have hpre : (match (generalizing := false) a with | [.inr (.inr (12, th)), .inl i, .inl n] => pz_im M ∧ 0 ≤ i ∧ i < 12 | _ => False) := hpre
      split at hpre
      · exact ⟨_, _, _, rfl, hpre⟩
      · exact hpre.elim
    obtain ⟨k_th, hc_th⟩ := pz_tlm hcan
    have k_th : pz_kd th = 12 ∧ th < 231 := k_th
    have R_th := pz_kd12 k_th.1
    subst R_th
    clear k_th
    obtain ⟨k_i, hc_i⟩ := pz_tlm hc_th
    have l_i : -2147483648 ≤ i := k_i.1
    have u_i : i ≤ 2147483647 := k_i.2
    obtain ⟨k_n, hc_n⟩ := pz_tlm hc_i
    have l_n : -2147483648 ≤ n := k_n.1
    have u_n : n ≤ 2147483647 := k_n.2
    have hI : pz_im M := hpre.1
    have hI0 := hI
    have hS : pz_rl pz_QV M M := pz_rl.rf
    refine hgo (fun _ => false) 36 0 _ [] M ?_
    refine pz_nrc (c := 60) rfl ?_
    intro v7 e7 a7 b7
    rw [pz_wi (by first | decide | omega) (by first | decide | omega)] at e7
    clear a7 b7
    have lo8 : (0 : Int) ≤ v7 := by omega
    have tn8 : (((v7).toNat : Nat) : Int) = v7 := Int.toNat_of_nonneg lo8
    refine And.intro (lo8) (And.intro (show _ < (1725 : Int) from by omega) ?_)
    intro v8 e8 a8 b8
    refine pz_nrc (c := 60) rfl ?_
    intro v17 e17 a17 b17
    rw [pz_wi (by first | decide | omega) (by first | decide | omega)] at e17
    clear a17 b17
    have lo19 : (0 : Int) ≤ v17 := by omega
    have tn19 : (((v17).toNat : Nat) : Int) = v17 := Int.toNat_of_nonneg lo19
    refine And.intro (lo19) (And.intro (show _ < (1725 : Int) from by omega) ?_)
    intro M19 e19
    have hS : pz_rl (pz_Qh (93 + i).toNat) M M19 := by
      rw [e19]
      exact pz_rl_u hS.vh (by unfold pz_Qh; first | decide | omega) (by exact pz_iom_w2 (by first | decide | omega) (by first | decide | omega))
    have hI : pz_im M19 := hS.1 hI0
    have T19_0 := pz_uve e19 60 (93 + i).toNat
    refine pz_nrc (c := 60) rfl ?_
    refine And.intro (by first | decide | omega) (And.intro (show _ < (1725 : Int) from by omega) ?_)
    intro v28 e28 a28 b28
    replace e28 : v28 = M19 60 88 := e28
    have I28 : 0 ≤ v28 ∧ v28 ≤ 12 := by
      rw [e28]
      exact hI.1.1
    clear a28 b28
    intro v30 e30 a30 b30
    rw [pz_wi (by first | decide | omega) (by first | decide | omega)] at e30
    clear a30 b30
    refine And.intro (And.intro hI (And.intro (by first | decide | omega) (by first | decide | omega))) ?_
    intro v32 M32 a32 b32 q32
    obtain ⟨q32, z32⟩ := q32
    have hS : pz_rl (pz_Qh (93 + i).toNat) M M32 := hS.tr z32.vh
    have hI : pz_im M32 := hS.1 hI0
    refine pz_nrc (c := 60) rfl ?_
    intro v44 e44 a44 b44
    rw [pz_wi (by first | decide | omega) (by first | decide | omega)] at e44
    clear a44 b44
    have lo46 : (0 : Int) ≤ v44 := by omega
    have tn46 : (((v44).toNat : Nat) : Int) = v44 := Int.toNat_of_nonneg lo46
    refine And.intro (lo46) (And.intro (show _ < (1725 : Int) from by omega) ?_)
    intro M46 e46
    have hS : pz_rl (pz_Qh (93 + i).toNat) M M46 := by
      rw [e46]
      exact pz_rl_u hS (by unfold pz_Qh; first | decide | omega) (by exact pz_iom_w2 (by first | decide | omega) (by first | decide | omega))
    have hI : pz_im M46 := hS.1 hI0
    have T46_0 := pz_uve e46 60 (93 + i).toNat
    refine And.intro rfl ?_
    have hS9 : pz_rl pz_QV M M46 := pz_rl.hv hS (by rw [e46, pz_ue ⟨rfl, by omega⟩, e8]; congr 1; omega)
    refine ⟨fun ls hl hq hW hi hn => ?_, hS9⟩
    have W19 : M19 60 = sd_sl0 (M 60) i.toNat := by
      rw [e19, sd_um, show v17.toNat = 93 + i.toNat by omega]
      rfl
    have f88 := sd_sl0_88 (F := M 60) (i := i.toNat)
    have n19 : M19 60 88 = M 60 88 := by
      rw [W19]
      exact f88
    rw [W19] at q32
    have q := q32 ls (sd_wlw_cg hl (fun j y => sd_un (by first | decide | omega))) hq (sd_sl0_wf hW (by first | decide | omega)) (by first | decide | omega) hn
    rw [show (v30 + 1 - 0).toNat = sd_n (sd_sl0 (M 60) i.toNat) by unfold sd_n; omega] at q
    exact q
theorem v4_X12_hurriedBy {fr lo i : Nat} {own : String} (h1 : 7 + 1 ≤ fr) (h2 : 8 + (6 + 11) + 164 ≤ lo) (h3 : .methodLink own i yX12_hurriedBy ∈ lw_tbl) : pz_cV fr lo own i k4_X12_hurriedBy :=
  pz_cVk (maxL := 6) (fr' := 7) (lo' := 164) 2 12 h4_X12_hurriedBy rfl ⟨(pz_nhc_RX12 yX12_hurriedBy rfl).1, (pz_nhc_RX12 yX12_hurriedBy rfl).2, pz_ds11⟩ ⟨pz_wq1651, pz_wq1650, pz_ws76, pz_wq13⟩ (Or.inl ⟨TX12, 28, rfl⟩) (fun a M _ h => by
    have h : (match (generalizing := false) a with | [.inr (.inr (12, th)), .inl i, .inl n] => pz_im M ∧ 0 ≤ i ∧ i < 12 | _ => False) := h
    split at h
    · exact ⟨_, _, rfl⟩
    · exact h.elim) h1 h2 h3
noncomputable def k4_X12_hurry : pz_C := (3, 1, fun a M => (match a with | [.inr (.inr (12, th)), .inl n, .inl w] => pz_im M | _ => False), fun a M r M' => (match a, r with | [.inr (.inr (12, th)), .inl n, .inl w], some (.inl v) => (sd_wm M v (fun ls F => sd_huv ls F n w)) ∧ pz_rl pz_QV M M' | _, _ => False))
noncomputable abbrev ct4_X12_hurry : List (Bool × Nat × pz_C) := [(false, 54, k_X12_isIn), (true, 422, k4_X12_hurriedBy)]
set_option maxRecDepth 100000 in
set_option maxHeartbeats 4000000 in
theorem h4_X12_hurry : pz_H yX12_hurry cX12_hurry 5 (some .int) k4_X12_hurry 8 189 := by
  refine pz_mk (own := RX12) (tb := t_X12_hurry) (fl := pz_flf fl_RX12) (ci := pz_cif ci_RX12) (ct := pz_ctf ct4_X12_hurry) (rz := false) (pz_pfc_RX12 yX12_hurry rfl) rfl t_X12_hurry_ok (pz_flk fl_RX12_ok) (pz_cik ci_RX12_ok) ?_ ?_ (Or.inl ⟨rfl, rfl⟩) ?_ ?_
  · exact fun i k' h => pz_ctk (l := ct4_X12_hurry) (P := fun b i k => b = true → pz_cV 8 189 RX12 i k) (List.forall_mem_cons.mpr ⟨((fun z => by cases z)), List.forall_mem_cons.mpr ⟨(fun _ => v4_X12_hurriedBy (by decide) (by decide) pz_wq1648), fun _ h => absurd h List.not_mem_nil⟩⟩) true i k' h rfl
  · exact fun i k' h => pz_ctk (l := ct4_X12_hurry) (P := fun b i k => b = false → (pz_cS 8 189 RX12 i k ∨ (k = pz_kac ∧ 1 ≤ 8 ∧ 60 ≤ 189 ∧ Cond.methodLink RX12 i arraycopyName ∈ pz_tbl))) (List.forall_mem_cons.mpr ⟨(fun _ => Or.inl (s_X12_isIn (by decide) (by decide) (Or.inl pz_wq1217))), List.forall_mem_cons.mpr ⟨((fun z => by cases z)), fun _ h => absurd h List.not_mem_nil⟩⟩) false i k' h rfl
  · intro a M hlen hpre
    obtain ⟨th, n, w, rfl, hpre⟩ : ∃ th n w, a = [.inr (.inr (12, th)), .inl n, .inl w] ∧ (pz_im M) := by
      have hpre : (match (generalizing := false) a with | [.inr (.inr (12, th)), .inl n, .inl w] => pz_im M | _ => False) := hpre
      split at hpre
      · exact ⟨_, _, _, rfl, hpre⟩
      · exact hpre.elim
    exact Nat.le_of_ble_eq_true rfl
  · intro a M hlen hcan hM hpre Ok hgo
    obtain ⟨th, n, w, rfl, hpre⟩ : ∃ th n w, a = [.inr (.inr (12, th)), .inl n, .inl w] ∧ (pz_im M) := by
      have hpre : (match (generalizing := false) a with | [.inr (.inr (12, th)), .inl n, .inl w] => pz_im M | _ => False) := hpre
      split at hpre
      · exact ⟨_, _, _, rfl, hpre⟩
      · exact hpre.elim
    obtain ⟨k_th, hc_th⟩ := pz_tlm hcan
    have k_th : pz_kd th = 12 ∧ th < 231 := k_th
    have R_th := pz_kd12 k_th.1
    subst R_th
    clear k_th
    obtain ⟨k_n, hc_n⟩ := pz_tlm hc_th
    have l_n : -2147483648 ≤ n := k_n.1
    have u_n : n ≤ 2147483647 := k_n.2
    obtain ⟨k_w, hc_w⟩ := pz_tlm hc_n
    have l_w : -2147483648 ≤ w := k_w.1
    have u_w : w ≤ 2147483647 := k_w.2
    have hI : pz_im M := hpre
    have hI0 := hI
    have hS : pz_rl pz_QV M M := pz_rl.rf
    have I88 := hI.1.1
    have L36 : ∀ (fu : Nat) (x3 : Int) (x4 : Int) (N36 : pz_M), (12 - x4).toNat < fu → (pz_rl pz_QV M N36) → (0 ≤ x4) → (0 ≤ x3) → (x3 < 12) → ((1 ≤ n ∧ n ≤ 60) ∧ (0 ≤ w ∧ w ≤ 1) ∧ M 60 88 ≠ 0) → (∀ ls : List pz_lne, pq_wlw ls (M 60) → (∀ q ∈ ls, pv_ln q) → sd_wf (M 60) → M 60 88 ≠ 0 → sd_hmE ls (M 60) n.toNat x3 x4) → Ok 36 [some (.inr (.inr (12, 1))), some (.inl n), some (.inl w), some (.inl x3), some (.inl x4)] [] N36 := by
      intro fu
      induction fu with
      | zero => exact fun _ _ _ hn => absurd hn (Nat.not_lt_zero _)
      | succ fu ih36 =>
        intro x3 x4 N36 hn36 hS g36_1 g36_2 g36_3 g36_4 g36_5
        have hI : pz_im N36 := hS.1 hI0
        have W36 : N36 60 = M 60 := funext fun j => hS.2 60 j (by unfold pz_QV; first | decide | omega)
        refine hgo (fun p => Nat.beq p 36) 53 36 _ _ _ ?_
        refine pz_nrc (c := 60) rfl ?_
        refine And.intro (by first | decide | omega) (And.intro (show _ < (1725 : Int) from by omega) ?_)
        intro v44 e44 a44 b44
        replace e44 : v44 = N36 60 88 := e44
        have I44 : 0 ≤ v44 ∧ v44 ≤ 12 := by
          rw [e44]
          exact hI.1.1
        clear a44 b44
        rw [W36] at e44
        refine And.intro (fun h45 => ?_) (fun h45 => ?_)
        · skip
          refine And.intro (fun h75 => ?_) (fun h75 => ?_)
          · skip
            refine And.intro (And.intro hI (And.intro (by first | decide | omega) (by first | decide | omega))) ?_
            intro v85 M85 a85 b85 q85
            obtain ⟨q85, z85⟩ := q85
            have hS : pz_rl pz_QV M M85 := hS.tr z85
            have hI : pz_im M85 := hS.1 hI0
            intro v88 e88 a88 b88
            refine And.intro rfl ?_
            refine ⟨fun ls hl hq hW => ?_, hS⟩
            have hm := hW.1
            show _ = sd_huv ls (M 60) n w
            have z := sd_hmE_z ((by assumption : ∀ ls : List pz_lne, pq_wlw ls (M 60) → (∀ q ∈ ls, pv_ln q) → sd_wf (M 60) → M 60 88 ≠ 0 → sd_hmE ls (M 60) n.toNat x3 x4) ls hl hq hW (by first | decide | omega)) hW (by first | decide | omega)
            unfold sd_huv
            rw [if_pos (by first | decide | omega)]
            first
              | (rw [if_pos (by first | decide | omega)]
                 exact z)
              | (have g0 := ((by assumption : ∀ ls : List pz_lne, pq_wlw ls (M 60) → (∀ q ∈ ls, pv_ln q) → sd_wf (M 60) → M 60 88 ≠ 0 → sd_hmE ls (M 60) n.toNat x3 x4) ls hl hq hW (by first | decide | omega)).2.1
                 have a := q85 ls (by rw [W36]; exact hl) hq (by rw [W36]; exact hW) (by rw [W36]; omega) (by first | decide | omega)
                 rw [W36] at a
                 have b := sd_hu_b (ls := ls) (F := M 60) (d := n.toNat) (i := x3.toNat)
                 rw [if_neg (by first | decide | omega), e88, a, pz_wi (by first | decide | omega) (by first | decide | omega), show x3.toNat = sd_hub ls (M 60) n.toNat (sd_n (M 60) - 1) 1 0 by omega])
          · skip
            refine And.intro rfl ?_
            refine ⟨fun ls hl hq hW => ?_, hS⟩
            have hm := hW.1
            show _ = sd_huv ls (M 60) n w
            have z := sd_hmE_z ((by assumption : ∀ ls : List pz_lne, pq_wlw ls (M 60) → (∀ q ∈ ls, pv_ln q) → sd_wf (M 60) → M 60 88 ≠ 0 → sd_hmE ls (M 60) n.toNat x3 x4) ls hl hq hW (by first | decide | omega)) hW (by first | decide | omega)
            unfold sd_huv
            rw [if_pos (by first | decide | omega)]
            first
              | (rw [if_pos (by first | decide | omega)]
                 exact z)
              | (have g0 := ((by assumption : ∀ ls : List pz_lne, pq_wlw ls (M 60) → (∀ q ∈ ls, pv_ln q) → sd_wf (M 60) → M 60 88 ≠ 0 → sd_hmE ls (M 60) n.toNat x3 x4) ls hl hq hW (by first | decide | omega)).2.1
                 have a := q85 ls (by rw [W36]; exact hl) hq (by rw [W36]; exact hW) (by rw [W36]; omega) (by first | decide | omega)
                 rw [W36] at a
                 have b := sd_hu_b (ls := ls) (F := M 60) (d := n.toNat) (i := x3.toNat)
                 rw [if_neg (by first | decide | omega), e88, a, pz_wi (by first | decide | omega) (by first | decide | omega), show x3.toNat = sd_hub ls (M 60) n.toNat (sd_n (M 60) - 1) 1 0 by omega])
        · skip
          refine And.intro (And.intro hI (And.intro (by first | decide | omega) (by first | decide | omega))) ?_
          intro v52 M52 a52 b52 q52
          obtain ⟨q52, z52⟩ := q52
          have hS : pz_rl pz_QV M M52 := hS.tr z52
          have hI : pz_im M52 := hS.1 hI0
          have W52 : M52 60 = N36 60 := funext fun j => z52.2 60 j (by unfold pz_QV; first | decide | omega)
          refine And.intro (And.intro hI (And.intro (by first | decide | omega) (by first | decide | omega))) ?_
          intro v58 M58 a58 b58 q58
          obtain ⟨q58, z58⟩ := q58
          have hS : pz_rl pz_QV M M58 := hS.tr z58
          have hI : pz_im M58 := hS.1 hI0
          refine And.intro (fun h61 => ?_) ?_
          · skip
            refine And.intro (fun h62 => ?_) (fun h62 => ?_)
            · skip
              have G36 : ∀ ls : List pz_lne, pq_wlw ls (M 60) → (∀ q ∈ ls, pv_ln q) → sd_wf (M 60) → M 60 88 ≠ 0 → sd_hmE ls (M 60) n.toNat x3 (x4 + 1) := fun ls hl hq hW h8 => by
                have g := (by assumption : ∀ ls : List pz_lne, pq_wlw ls (M 60) → (∀ q ∈ ls, pv_ln q) → sd_wf (M 60) → M 60 88 ≠ 0 → sd_hmE ls (M 60) n.toNat x3 x4) ls hl hq hW h8
                have g0 := g.2.1
                have a := q52 ls (by rw [W36]; exact hl) hq (by rw [W36]; exact hW) (by rw [W36]; omega) (by first | decide | omega)
                rw [W36] at a
                have b := q58 ls (by rw [W52, W36]; exact hl) hq (by rw [W52, W36]; exact hW) (by rw [W52, W36]; omega) (by first | decide | omega)
                rw [W52, W36] at b
                exact sd_hmE_s g hW (by first | decide | omega) rfl (Or.inr ⟨by omega, rfl⟩)
              intro v68 e68 a68 b68
              rw [pz_wi (by first | decide | omega) (by first | decide | omega)] at e68
              first
                | (have G36c : ∀ ls : List pz_lne, pq_wlw ls (M 60) → (∀ q ∈ ls, pv_ln q) → sd_wf (M 60) → M 60 88 ≠ 0 → sd_hmE ls (M 60) n.toNat x3 v68 := by
                    rw [e68]
                    assumption)
                | (have G36c : ∀ ls : List pz_lne, pq_wlw ls (M 60) → (∀ q ∈ ls, pv_ln q) → sd_wf (M 60) → M 60 88 ≠ 0 → sd_hmE ls (M 60) n.toNat x4 v68 := by
                    rw [e68]
                    assumption)
              exact ih36 _ _ _ (by first | decide | omega) hS (by first | omega | assumption | exact fun ls hl hq hW h8 => ⟨⟨by decide, by omega⟩, ⟨by decide, by omega⟩, rfl⟩) (by first | omega | assumption | exact fun ls hl hq hW h8 => ⟨⟨by decide, by omega⟩, ⟨by decide, by omega⟩, rfl⟩) (by first | omega | assumption | exact fun ls hl hq hW h8 => ⟨⟨by decide, by omega⟩, ⟨by decide, by omega⟩, rfl⟩) (by first | omega | assumption | exact fun ls hl hq hW h8 => ⟨⟨by decide, by omega⟩, ⟨by decide, by omega⟩, rfl⟩) (by first | omega | assumption | exact fun ls hl hq hW h8 => ⟨⟨by decide, by omega⟩, ⟨by decide, by omega⟩, rfl⟩)
            · skip
              exact absurd h62 (by decide)
          refine And.intro (fun h61 => ?_) ?_
          · skip
            refine And.intro (fun h62 => ?_) (fun h62 => ?_)
            · skip
              have G36 : ∀ ls : List pz_lne, pq_wlw ls (M 60) → (∀ q ∈ ls, pv_ln q) → sd_wf (M 60) → M 60 88 ≠ 0 → sd_hmE ls (M 60) n.toNat x3 (x4 + 1) := fun ls hl hq hW h8 => by
                have g := (by assumption : ∀ ls : List pz_lne, pq_wlw ls (M 60) → (∀ q ∈ ls, pv_ln q) → sd_wf (M 60) → M 60 88 ≠ 0 → sd_hmE ls (M 60) n.toNat x3 x4) ls hl hq hW h8
                have g0 := g.2.1
                have a := q52 ls (by rw [W36]; exact hl) hq (by rw [W36]; exact hW) (by rw [W36]; omega) (by first | decide | omega)
                rw [W36] at a
                have b := q58 ls (by rw [W52, W36]; exact hl) hq (by rw [W52, W36]; exact hW) (by rw [W52, W36]; omega) (by first | decide | omega)
                rw [W52, W36] at b
                exact sd_hmE_s g hW (by first | decide | omega) rfl (Or.inr ⟨by omega, rfl⟩)
              intro v68 e68 a68 b68
              rw [pz_wi (by first | decide | omega) (by first | decide | omega)] at e68
              first
                | (have G36c : ∀ ls : List pz_lne, pq_wlw ls (M 60) → (∀ q ∈ ls, pv_ln q) → sd_wf (M 60) → M 60 88 ≠ 0 → sd_hmE ls (M 60) n.toNat x3 v68 := by
                    rw [e68]
                    assumption)
                | (have G36c : ∀ ls : List pz_lne, pq_wlw ls (M 60) → (∀ q ∈ ls, pv_ln q) → sd_wf (M 60) → M 60 88 ≠ 0 → sd_hmE ls (M 60) n.toNat x4 v68 := by
                    rw [e68]
                    assumption)
              exact ih36 _ _ _ (by first | decide | omega) hS (by first | omega | assumption | exact fun ls hl hq hW h8 => ⟨⟨by decide, by omega⟩, ⟨by decide, by omega⟩, rfl⟩) (by first | omega | assumption | exact fun ls hl hq hW h8 => ⟨⟨by decide, by omega⟩, ⟨by decide, by omega⟩, rfl⟩) (by first | omega | assumption | exact fun ls hl hq hW h8 => ⟨⟨by decide, by omega⟩, ⟨by decide, by omega⟩, rfl⟩) (by first | omega | assumption | exact fun ls hl hq hW h8 => ⟨⟨by decide, by omega⟩, ⟨by decide, by omega⟩, rfl⟩) (by first | omega | assumption | exact fun ls hl hq hW h8 => ⟨⟨by decide, by omega⟩, ⟨by decide, by omega⟩, rfl⟩)
            · skip
              exact absurd h62 (by decide)
          intro h61
          refine And.intro (fun h62 => ?_) (fun h62 => ?_)
          · skip
            exact absurd h62 (by decide)
          · skip
            have G36 : ∀ ls : List pz_lne, pq_wlw ls (M 60) → (∀ q ∈ ls, pv_ln q) → sd_wf (M 60) → M 60 88 ≠ 0 → sd_hmE ls (M 60) n.toNat x4 (x4 + 1) := fun ls hl hq hW h8 => by
              have g := (by assumption : ∀ ls : List pz_lne, pq_wlw ls (M 60) → (∀ q ∈ ls, pv_ln q) → sd_wf (M 60) → M 60 88 ≠ 0 → sd_hmE ls (M 60) n.toNat x3 x4) ls hl hq hW h8
              have g0 := g.2.1
              have a := q52 ls (by rw [W36]; exact hl) hq (by rw [W36]; exact hW) (by rw [W36]; omega) (by first | decide | omega)
              rw [W36] at a
              have b := q58 ls (by rw [W52, W36]; exact hl) hq (by rw [W52, W36]; exact hW) (by rw [W52, W36]; omega) (by first | decide | omega)
              rw [W52, W36] at b
              exact sd_hmE_s g hW (by first | decide | omega) rfl (Or.inl ⟨by omega, rfl⟩)
            intro v68 e68 a68 b68
            rw [pz_wi (by first | decide | omega) (by first | decide | omega)] at e68
            first
              | (have G36c : ∀ ls : List pz_lne, pq_wlw ls (M 60) → (∀ q ∈ ls, pv_ln q) → sd_wf (M 60) → M 60 88 ≠ 0 → sd_hmE ls (M 60) n.toNat x3 v68 := by
                  rw [e68]
                  assumption)
              | (have G36c : ∀ ls : List pz_lne, pq_wlw ls (M 60) → (∀ q ∈ ls, pv_ln q) → sd_wf (M 60) → M 60 88 ≠ 0 → sd_hmE ls (M 60) n.toNat x4 v68 := by
                  rw [e68]
                  assumption)
            exact ih36 _ _ _ (by first | decide | omega) hS (by first | omega | assumption | exact fun ls hl hq hW h8 => ⟨⟨by decide, by omega⟩, ⟨by decide, by omega⟩, rfl⟩) (by first | omega | assumption | exact fun ls hl hq hW h8 => ⟨⟨by decide, by omega⟩, ⟨by decide, by omega⟩, rfl⟩) (by first | omega | assumption | exact fun ls hl hq hW h8 => ⟨⟨by decide, by omega⟩, ⟨by decide, by omega⟩, rfl⟩) (by first | omega | assumption | exact fun ls hl hq hW h8 => ⟨⟨by decide, by omega⟩, ⟨by decide, by omega⟩, rfl⟩) (by first | omega | assumption | exact fun ls hl hq hW h8 => ⟨⟨by decide, by omega⟩, ⟨by decide, by omega⟩, rfl⟩)
    refine hgo (fun p => Nat.beq p 36) 53 0 _ [] M ?_
    refine And.intro (True.intro) ?_
    intro v4 M4 a4 b4 q4
    obtain ⟨q4, z4⟩ := q4
    subst z4
    clear a4 b4
    refine And.intro (fun h7 => ?_) (fun h7 => ?_)
    · skip
      replace q4 := q4.resolve_left (fun z => absurd (z.1.symm.trans h7) (by decide))
      clear h7
      refine And.intro rfl ?_
      refine ⟨fun ls hl hq hW => ?_, hS⟩
      have hm := hW.1
      show _ = sd_huv ls (M 60) n w
      unfold sd_huv
      rw [if_neg (by first | decide | omega)]
    · skip
      replace q4 := q4.resolve_right (fun z => h7 z.1)
      clear h7
      refine And.intro (True.intro) ?_
      intro v13 M13 a13 b13 q13
      obtain ⟨q13, z13⟩ := q13
      subst z13
      clear a13 b13
      refine And.intro (fun h16 => ?_) (fun h16 => ?_)
      · skip
        replace q13 := q13.resolve_left (fun z => absurd (z.1.symm.trans h16) (by decide))
        clear h16
        refine And.intro rfl ?_
        refine ⟨fun ls hl hq hW => ?_, hS⟩
        have hm := hW.1
        show _ = sd_huv ls (M 60) n w
        unfold sd_huv
        rw [if_neg (by first | decide | omega)]
      · skip
        replace q13 := q13.resolve_right (fun z => h16 z.1)
        clear h16
        refine pz_nrc (c := 60) rfl ?_
        refine And.intro (by first | decide | omega) (And.intro (show _ < (1725 : Int) from by omega) ?_)
        intro v25 e25 a25 b25
        replace e25 : v25 = M 60 88 := e25
        have I25 : 0 ≤ v25 ∧ v25 ≤ 12 := by
          rw [e25]
          exact hI.1.1
        clear a25 b25
        refine And.intro (fun h26 => ?_) (fun h26 => ?_)
        · skip
          have GP : (1 ≤ n ∧ n ≤ 60) ∧ (0 ≤ w ∧ w ≤ 1) ∧ M 60 88 ≠ 0 := by omega
          replace h26 : 1 ≤ v25 := by omega
          exact L36 _ _ _ _ (Nat.lt_succ_self _) hS (by first | omega | assumption | exact fun ls hl hq hW h8 => ⟨⟨by decide, by omega⟩, ⟨by decide, by omega⟩, rfl⟩) (by first | omega | assumption | exact fun ls hl hq hW h8 => ⟨⟨by decide, by omega⟩, ⟨by decide, by omega⟩, rfl⟩) (by first | omega | assumption | exact fun ls hl hq hW h8 => ⟨⟨by decide, by omega⟩, ⟨by decide, by omega⟩, rfl⟩) (by first | omega | assumption | exact fun ls hl hq hW h8 => ⟨⟨by decide, by omega⟩, ⟨by decide, by omega⟩, rfl⟩) (by first | omega | assumption | exact fun ls hl hq hW h8 => ⟨⟨by decide, by omega⟩, ⟨by decide, by omega⟩, rfl⟩)
        · skip
          skip
          refine And.intro rfl ?_
          refine ⟨fun ls hl hq hW => ?_, hS⟩
          have hm := hW.1
          show _ = sd_huv ls (M 60) n w
          unfold sd_huv
          rw [if_neg (by first | decide | omega)]
theorem v4_X12_hurry {fr lo i : Nat} {own : String} (h1 : 8 + 1 ≤ fr) (h2 : 8 + (5 + 11) + 189 ≤ lo) (h3 : .methodLink own i yX12_hurry ∈ lw_tbl) : pz_cV fr lo own i k4_X12_hurry :=
  pz_cVk (maxL := 5) (fr' := 8) (lo' := 189) 2 12 h4_X12_hurry rfl ⟨(pz_nhc_RX12 yX12_hurry rfl).1, (pz_nhc_RX12 yX12_hurry rfl).2, pz_ds10⟩ ⟨pz_wq1647, pz_wq1645, pz_wq1646, pz_wq13⟩ (Or.inl ⟨TX12, 28, rfl⟩) (fun a M _ h => by
    have h : (match (generalizing := false) a with | [.inr (.inr (12, th)), .inl n, .inl w] => pz_im M | _ => False) := h
    split at h
    · exact ⟨_, _, rfl⟩
    · exact h.elim) h1 h2 h3
end
section
/-! the ODDS of PARTS -/
theorem sd_oo_l {ls : List pz_lne} {F : Nat → Int} {d : Nat} : ∀ (m i : Nat) (a : Int), sd_oo ls F d (m + 1) i a = sd_ow ls F d (i + m) (sd_oo ls F d m i a) := by
  intro m
  induction m with
  | zero => exact fun i a => rfl
  | succ m ih =>
    intro i a
    show sd_oo ls F d (m + 1) (i + 1) (sd_ow ls F d i a) = _
    rw [ih (i + 1) (sd_ow ls F d i a), show i + 1 + m = i + (m + 1) by omega]
    rfl
def sd_o2 (ls : List pz_lne) (F : Nat → Int) (d a i : Nat) : Int := sd_oo ls F d (i + 1 - a) a 1000000
theorem sd_o2_b {ls : List pz_lne} {F : Nat → Int} {d a i : Nat} : 0 ≤ sd_o2 ls F d a i ∧ sd_o2 ls F d a i ≤ 1000000 := sd_oo_b _ _ _ ⟨by decide, by decide⟩
def sd_sp (N : pz_M) (ls : List pz_lne) (F : Nat → Int) (d : Nat) : Prop := ∀ a i : Nat, a ≤ i → (i : Int) < F 88 → N 55 (12 * a + i) = sd_o2 ls F d a i
theorem sd_sp_cg {N N' : pz_M} {ls : List pz_lne} {F : Nat → Int} {d : Nat} (h : sd_sp N ls F d) (e : ∀ j : Nat, N' 55 j = N 55 j) : sd_sp N' ls F d := fun a i h1 h2 => (e _).trans (h a i h1 h2)
def sd_spI (N : pz_M) (ls : List pz_lne) (F : Nat → Int) (d : Nat) (x y : Int) : Prop := ∀ a i : Nat, a ≤ i → (i : Int) < F 88 → ((a : Int) < x ∨ ((a : Int) = x ∧ (i : Int) < y)) → N 55 (12 * a + i) = sd_o2 ls F d a i
theorem sd_spI_s {N N' : pz_M} {ls : List pz_lne} {F : Nat → Int} {d j : Nat} {x y z v : Int} (h : sd_spI N ls F d x y) (w : sd_wf F) (h0 : 0 ≤ x) (h1 : x ≤ y) (h2 : y < F 88) (hz : z = y + 1) (hj : j = 12 * x.toNat + y.toNat) (e : N' = pz_u N 55 j v) (hv : v = sd_o2 ls F d x.toNat y.toNat) : sd_spI N' ls F d x z := fun a i a1 a2 a3 => by
  have m := w.1
  rw [e]
  by_cases q : 12 * a + i = j
  · rw [q, pz_uu, hv, show a = x.toNat by omega, show i = y.toNat by omega]
  · rw [pz_unk q]
    exact h a i a1 a2 (by first | decide | omega)
theorem sd_spI_r {N : pz_M} {ls : List pz_lne} {F : Nat → Int} {d : Nat} {x y z : Int} (h : sd_spI N ls F d x y) (hy : F 88 ≤ y) (hz : z = x + 1) : sd_spI N ls F d z z := fun a i a1 a2 a3 => h a i a1 a2 (by first | decide | omega)
/-- the PARTS, the class' way -/
def sd_lsp (ls : List pz_lne) (F : Nat → Int) (d : Nat) (b : Nat → Bool) : Nat → Nat → Nat → Int → Int
  | 0, _, _, l => l
  | m + 1, i, a, l => if i + 1 = sd_n F ∨ b i = true then sd_lsp ls F d b m (i + 1) i (min l (sd_o2 ls F d a i)) else sd_lsp ls F d b m (i + 1) a l
def sd_lsv (ls : List pz_lne) (F : Nat → Int) (d : Nat) (b : Nat → Bool) : Int := sd_lsp ls F d b (sd_n F) 0 0 1000000
theorem sd_lsp_b {ls : List pz_lne} {F : Nat → Int} {d : Nat} {b : Nat → Bool} : ∀ (m i a : Nat) (l : Int), 0 ≤ l ∧ l ≤ 1000000 → 0 ≤ sd_lsp ls F d b m i a l ∧ sd_lsp ls F d b m i a l ≤ 1000000 := by
  intro m
  induction m with
  | zero => exact fun i a l h => h
  | succ m ih =>
    intro i a l h
    have o := sd_o2_b (ls := ls) (F := F) (d := d) (a := a) (i := i)
    show 0 ≤ (if i + 1 = sd_n F ∨ b i = true then sd_lsp ls F d b m (i + 1) i (min l (sd_o2 ls F d a i)) else sd_lsp ls F d b m (i + 1) a l) ∧ (if i + 1 = sd_n F ∨ b i = true then sd_lsp ls F d b m (i + 1) i (min l (sd_o2 ls F d a i)) else sd_lsp ls F d b m (i + 1) a l) ≤ 1000000
    by_cases q : i + 1 = sd_n F ∨ b i = true
    · rw [if_pos q]
      exact ih _ _ _ (by first | decide | omega)
    · rw [if_neg q]
      exact ih _ _ _ h
theorem sd_lsv_b {ls : List pz_lne} {F : Nat → Int} {d : Nat} {b : Nat → Bool} : 0 ≤ sd_lsv ls F d b ∧ sd_lsv ls F d b ≤ 1000000 := sd_lsp_b _ _ _ _ ⟨by decide, by decide⟩
def sd_lsE (ls : List pz_lne) (F : Nat → Int) (d : Nat) (b : Nat → Bool) (l a x : Int) : Prop := (0 ≤ a ∧ a ≤ x ∧ x ≤ F 88) ∧ sd_lsp ls F d b (sd_n F - x.toNat) x.toNat a.toNat l = sd_lsv ls F d b
theorem sd_lsE_0 {ls : List pz_lne} {F : Nat → Int} {d : Nat} {b : Nat → Bool} (w : sd_wf F) : sd_lsE ls F d b 1000000 0 0 := ⟨⟨by decide, by decide, w.1.1⟩, rfl⟩
theorem sd_lsE_n {ls : List pz_lne} {F : Nat → Int} {d : Nat} {b : Nat → Bool} {l a x y : Int} (h : sd_lsE ls F d b l a x) (w : sd_wf F) (hx : x < F 88) (hy : y = x + 1) (hn : ¬ (x = F 88 - 1 ∨ b x.toNat = true)) : sd_lsE ls F d b l a y := by
  obtain ⟨h1, h2⟩ := h
  have k9 := sd_n_i w
  rw [show sd_n F - x.toNat = (sd_n F - y.toNat) + 1 by omega] at h2
  have h2 : (if x.toNat + 1 = sd_n F ∨ b x.toNat = true then sd_lsp ls F d b (sd_n F - y.toNat) (x.toNat + 1) x.toNat (min l (sd_o2 ls F d a.toNat x.toNat)) else sd_lsp ls F d b (sd_n F - y.toNat) (x.toNat + 1) a.toNat l) = _ := h2
  rw [if_neg (fun z => hn (z.imp (fun q => by omega) id)), show x.toNat + 1 = y.toNat by omega] at h2
  exact ⟨by omega, h2⟩
theorem sd_lsE_y {ls : List pz_lne} {F : Nat → Int} {d : Nat} {b : Nat → Bool} {l a x y l' : Int} (h : sd_lsE ls F d b l a x) (w : sd_wf F) (hx : x < F 88) (hy : y = x + 1) (hn : x = F 88 - 1 ∨ b x.toNat = true) (hl : l' = min l (sd_o2 ls F d a.toNat x.toNat)) : sd_lsE ls F d b l' x y := by
  obtain ⟨h1, h2⟩ := h
  have k9 := sd_n_i w
  rw [show sd_n F - x.toNat = (sd_n F - y.toNat) + 1 by omega] at h2
  have h2 : (if x.toNat + 1 = sd_n F ∨ b x.toNat = true then sd_lsp ls F d b (sd_n F - y.toNat) (x.toNat + 1) x.toNat (min l (sd_o2 ls F d a.toNat x.toNat)) else sd_lsp ls F d b (sd_n F - y.toNat) (x.toNat + 1) a.toNat l) = _ := h2
  rw [if_pos (hn.imp (fun q => by omega) id), show x.toNat + 1 = y.toNat by omega, ← hl] at h2
  exact ⟨by omega, h2⟩
theorem sd_lsE_z {ls : List pz_lne} {F : Nat → Int} {d : Nat} {b : Nat → Bool} {l a x : Int} (h : sd_lsE ls F d b l a x) (w : sd_wf F) (hx : ¬ x < F 88) : l = sd_lsv ls F d b := by
  obtain ⟨h1, h2⟩ := h
  have k9 := sd_n_i w
  rw [show sd_n F - x.toNat = 0 by omega] at h2
  exact h2
/-- the PARTS, the model's way: from where one begins -/
def sd_lsA (ls : List pz_lne) (F : Nat → Int) (d : Nat) (b : Nat → Bool) (a : Nat) (l : Int) : Int := if a = 0 then sd_lsp ls F d b (sd_n F) 0 0 l else sd_lsp ls F d b (sd_n F - (a + 1)) (a + 1) a l
theorem sd_lsW {ls : List pz_lne} {F : Nat → Int} {d : Nat} {b : Nat → Bool} {a e : Nat} {l : Int} (he : e < sd_n F) (hb : ∀ k, a < k → k < e → b k = false) : ∀ t i : Nat, i + t = e → a < i → sd_lsp ls F d b (sd_n F - i) i a l = sd_lsp ls F d b (sd_n F - e) e a l := by
  intro t
  induction t with
  | zero =>
    intro i hi ha
    rw [show i = e by omega]
  | succ t ih =>
    intro i hi ha
    rw [show sd_n F - i = (sd_n F - (i + 1)) + 1 by omega]
    show (if i + 1 = sd_n F ∨ b i = true then sd_lsp ls F d b (sd_n F - (i + 1)) (i + 1) i (min l (sd_o2 ls F d a i)) else sd_lsp ls F d b (sd_n F - (i + 1)) (i + 1) a l) = _
    rw [if_neg (fun z => z.elim (fun q => by omega) (fun q => by rw [hb i ha (by first | decide | omega)] at q; cases q))]
    exact ih (i + 1) (by first | decide | omega) (by first | decide | omega)
theorem sd_lsA_s {ls : List pz_lne} {F : Nat → Int} {d : Nat} {b : Nat → Bool} {a : Nat} {l : Int} (ha : a < sd_n F) (ha2 : a = 0 ∨ a + 1 < sd_n F) (b0 : b 0 = false) : sd_lsA ls F d b a l = if sd_end b (sd_n F) a + 1 = sd_n F then min l (sd_o2 ls F d a (sd_end b (sd_n F) a)) else sd_lsA ls F d b (sd_end b (sd_n F) a) (min l (sd_o2 ls F d a (sd_end b (sd_n F) a))) := by
  obtain ⟨e1, e2, e3, e4, e5⟩ := sd_end_s (b := b) ha
  generalize sd_end b (sd_n F) a = e at e1 e2 e3 e4 e5 ⊢
  have last : sd_lsp ls F d b (sd_n F - e) e a l = if e + 1 = sd_n F then min l (sd_o2 ls F d a e) else sd_lsp ls F d b (sd_n F - (e + 1)) (e + 1) e (min l (sd_o2 ls F d a e)) := by
    rw [show sd_n F - e = (sd_n F - (e + 1)) + 1 by omega]
    show (if e + 1 = sd_n F ∨ b e = true then sd_lsp ls F d b (sd_n F - (e + 1)) (e + 1) e (min l (sd_o2 ls F d a e)) else sd_lsp ls F d b (sd_n F - (e + 1)) (e + 1) a l) = _
    by_cases q : e + 1 = sd_n F
    · rw [if_pos (Or.inl q), if_pos q, show sd_n F - (e + 1) = 0 by omega]
      rfl
    · rw [if_pos (Or.inr (e5 (by first | decide | omega))), if_neg q]
  have whole : sd_lsA ls F d b a l = sd_lsp ls F d b (sd_n F - e) e a l := by
    unfold sd_lsA
    by_cases a0 : a = 0
    · subst a0
      rw [if_pos rfl]
      by_cases n1 : sd_n F = 1
      · rw [show e = 0 by omega, Nat.sub_zero]
      · have p1 := e3 (by first | decide | omega)
        have h := sd_lsW (ls := ls) (d := d) (l := l) e2 e4 (e - 1) 1 (by first | decide | omega) (by decide)
        rw [← h]
        have s : sd_lsp ls F d b ((sd_n F - 1) + 1) 0 0 l = sd_lsp ls F d b (sd_n F - 1) 1 0 l := by
          show (if 0 + 1 = sd_n F ∨ b 0 = true then sd_lsp ls F d b (sd_n F - 1) (0 + 1) 0 (min l (sd_o2 ls F d 0 0)) else sd_lsp ls F d b (sd_n F - 1) (0 + 1) 0 l) = _
          rw [if_neg (fun z => z.elim (fun q => by omega) (fun q => by rw [b0] at q; cases q))]
        rw [show sd_n F - 1 + 1 = sd_n F by omega] at s
        exact s
    · rw [if_neg a0]
      have q : a + 1 < sd_n F := ha2.resolve_left a0
      have p1 := e3 q
      exact sd_lsW e2 e4 (e - (a + 1)) (a + 1) (by first | decide | omega) (by first | decide | omega)
  rw [whole, last]
  by_cases q : e + 1 = sd_n F
  · rw [if_pos q, if_pos q]
  · rw [if_neg q, if_neg q]
    unfold sd_lsA
    rw [if_neg (by have := e3 (by first | decide | omega); omega)]
def sd_lmE (ls : List pz_lne) (F : Nat → Int) (d : Nat) (b : Nat → Bool) (l a : Int) : Prop := (0 ≤ l ∧ l ≤ 1000000) ∧ ((a = F 88 ∧ l = sd_lsv ls F d b) ∨ ((0 ≤ a ∧ a < F 88) ∧ (a = 0 ∨ a + 1 < F 88) ∧ sd_lsA ls F d b a.toNat l = sd_lsv ls F d b))
theorem sd_lmE_0 {ls : List pz_lne} {F : Nat → Int} {d : Nat} {b : Nat → Bool} (w : sd_wf F) : sd_lmE ls F d b 1000000 0 := by
  refine ⟨⟨by decide, by decide⟩, ?_⟩
  by_cases q : F 88 = 0
  · refine Or.inl ⟨q.symm, ?_⟩
    unfold sd_lsv sd_n
    rw [q]
    rfl
  · have m := w.1
    exact Or.inr ⟨⟨by decide, by omega⟩, Or.inl rfl, rfl⟩
theorem sd_lmE_s {ls : List pz_lne} {F : Nat → Int} {d : Nat} {b : Nat → Bool} {l a e l' a' p : Int} (h : sd_lmE ls F d b l a) (w : sd_wf F) (b0 : b 0 = false) (ha : a < F 88) (h0 : 0 ≤ a) (he : e = (sd_end b (sd_n F) a.toNat : Int)) (hp : p = sd_o2 ls F d a.toNat e.toNat) (hl : l' = min l p) (ha' : (e = F 88 - 1 ∧ a' = F 88) ∨ (e ≠ F 88 - 1 ∧ a' = e)) : sd_lmE ls F d b l' a' := by
  obtain ⟨h1, h2⟩ := h
  have k9 := sd_n_i w
  rcases h2 with ⟨z, -⟩ | ⟨z1, z2, z3⟩
  · exfalso
    omega
  · have an : a.toNat < sd_n F := by omega
    have s := sd_lsA_s (ls := ls) (d := d) (l := l) an (by first | decide | omega) b0
    obtain ⟨e1, e2, e3, -, -⟩ := sd_end_s (b := b) an
    have o := sd_o2_b (ls := ls) (F := F) (d := d) (a := a.toNat) (i := e.toNat)
    rw [show sd_end b (sd_n F) a.toNat = e.toNat by omega] at s e1 e2 e3
    rw [← hp, ← hl] at s
    refine ⟨by omega, ?_⟩
    rcases ha' with ⟨y1, y2⟩ | ⟨y1, y2⟩
    · rw [if_pos (by first | decide | omega)] at s
      exact Or.inl ⟨y2, s.symm.trans z3⟩
    · rw [if_neg (by first | decide | omega)] at s
      refine Or.inr ⟨by omega, by omega, ?_⟩
      rw [y2]
      exact s.symm.trans z3
/-- SPLIT -/
def sd_bi (F : Nat → Int) (i : Nat) : Nat → Bool := fun k => sd_bn F k || decide (i = k)
theorem sd_bi_z {F : Nat → Int} {x y v : Int} {i : Int} (h : pz_zs x (sd_bn F)) (h0 : 0 ≤ i) (h1 : i ≤ 11) (hy : y = (Int32.ofInt 1 <<< (Int32.ofInt i &&& 31)).toInt) (hv : v = (Int32.ofInt x ||| Int32.ofInt y).toInt) : pz_zs v (sd_bi F i.toNat) := by
  rw [hv]
  refine pz_sb_or h ?_
  rw [hy]
  exact pz_sb_1 h0 h1
theorem sd_bi_0 {F : Nat → Int} {i : Nat} (w : sd_wf F) (hi : sd_cb F i) : sd_bi F i 0 = false := by
  have h1 := hi.1
  have h2 := hi.2.2.1
  have p := (w.2.2 0 (by first | decide | omega)).2.2.2.2.2.2
  show (decide (((0 : Nat) : Int) < F 88 ∧ F (64 + 0) = 1) || decide (i = 0)) = false
  rw [decide_eq_false (show ¬ i = 0 by omega), decide_eq_false (fun z => by
    have z2 := z.2
    omega)]
  rfl
def sd_spt (ls : List pz_lne) (F : Nat → Int) (d : Nat) : Nat → Nat → Int → Int → Int × Int
  | 0, _, b, g => (b, g)
  | m + 1, i, b, g => if sd_cb F i ∧ g < sd_lsv ls F d (sd_bi F i) then sd_spt ls F d m (i + 1) (i : Int) (sd_lsv ls F d (sd_bi F i)) else sd_spt ls F d m (i + 1) b g
def sd_spv (ls : List pz_lne) (F : Nat → Int) (d w : Int) : Int := if (1 ≤ d ∧ d ≤ 60) ∧ 0 ≤ w ∧ w ≤ 1 then (if w = 0 then (sd_spt ls F d.toNat (sd_n F) 0 (-1) (-1)).1 else (sd_spt ls F d.toNat (sd_n F) 0 (-1) (-1)).2) else -1
def sd_spE (ls : List pz_lne) (F : Nat → Int) (d : Nat) (b g x : Int) : Prop := (0 ≤ x ∧ x ≤ F 88) ∧ ((b = -1 ∧ g = -1) ∨ (0 ≤ b ∧ 0 ≤ g ∧ g ≤ 1000000)) ∧ sd_spt ls F d (sd_n F - x.toNat) x.toNat b g = sd_spt ls F d (sd_n F) 0 (-1) (-1)
theorem sd_spE_0 {ls : List pz_lne} {F : Nat → Int} {d : Nat} (w : sd_wf F) : sd_spE ls F d (-1) (-1) 0 := ⟨⟨by decide, w.1.1⟩, Or.inl ⟨rfl, rfl⟩, rfl⟩
theorem sd_spE_n {ls : List pz_lne} {F : Nat → Int} {d : Nat} {b g x y : Int} (h : sd_spE ls F d b g x) (w : sd_wf F) (hx : x < F 88) (hy : y = x + 1) (hn : ¬ (sd_cb F x.toNat ∧ g < sd_lsv ls F d (sd_bi F x.toNat))) : sd_spE ls F d b g y := by
  obtain ⟨h1, h2, h3⟩ := h
  have k9 := sd_n_i w
  rw [show sd_n F - x.toNat = (sd_n F - y.toNat) + 1 by omega] at h3
  have h3 : (if sd_cb F x.toNat ∧ g < sd_lsv ls F d (sd_bi F x.toNat) then sd_spt ls F d (sd_n F - y.toNat) (x.toNat + 1) (x.toNat : Int) (sd_lsv ls F d (sd_bi F x.toNat)) else sd_spt ls F d (sd_n F - y.toNat) (x.toNat + 1) b g) = _ := h3
  rw [if_neg hn, show x.toNat + 1 = y.toNat by omega] at h3
  exact ⟨by omega, h2, h3⟩
theorem sd_spE_y {ls : List pz_lne} {F : Nat → Int} {d : Nat} {b g x y o : Int} (h : sd_spE ls F d b g x) (w : sd_wf F) (hx : x < F 88) (hy : y = x + 1) (hc : sd_cb F x.toNat) (ho : o = sd_lsv ls F d (sd_bi F x.toNat)) (hn : g < o) : sd_spE ls F d x o y := by
  obtain ⟨h1, h2, h3⟩ := h
  have k9 := sd_n_i w
  have lb := sd_lsv_b (ls := ls) (F := F) (d := d) (b := sd_bi F x.toNat)
  rw [show sd_n F - x.toNat = (sd_n F - y.toNat) + 1 by omega] at h3
  have h3 : (if sd_cb F x.toNat ∧ g < sd_lsv ls F d (sd_bi F x.toNat) then sd_spt ls F d (sd_n F - y.toNat) (x.toNat + 1) (x.toNat : Int) (sd_lsv ls F d (sd_bi F x.toNat)) else sd_spt ls F d (sd_n F - y.toNat) (x.toNat + 1) b g) = _ := h3
  rw [if_pos ⟨hc, by omega⟩, show x.toNat + 1 = y.toNat by omega, show ((x.toNat : Nat) : Int) = x by omega, ← ho] at h3
  exact ⟨by omega, Or.inr (by first | decide | omega), h3⟩
theorem sd_spE_z {ls : List pz_lne} {F : Nat → Int} {d : Nat} {b g x : Int} (h : sd_spE ls F d b g x) (w : sd_wf F) (hx : ¬ x < F 88) : (b, g) = sd_spt ls F d (sd_n F) 0 (-1) (-1) := by
  obtain ⟨h1, h2, h3⟩ := h
  have k9 := sd_n_i w
  rw [show sd_n F - x.toNat = 0 by omega] at h3
  exact h3
end
