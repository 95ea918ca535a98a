def k4_X11_soon : pz_C := (2, 1, fun a M => (match a with | [.inr (.inr (11, th)), .inl h] => pz_ic M | _ => False), fun a M r M' => (match a, r with | [.inr (.inr (11, th)), .inl h], some (.inl v) => (sd_wc M v (fun ls F => sd_sov ls F h)) ∧ pq_pr pq_Pk M M' | _, _ => False))
abbrev ct4_X11_soon : List (Bool × Nat × pz_C) := [(false, 137, k_X11_within), (true, 255, k4_X4_reckon), (true, 331, k4_X4_oneDayMore), (true, 258, k3_X4_oddsOf)]
set_option maxRecDepth 100000 in
set_option maxHeartbeats 4000000 in
theorem h4_X11_soon : pz_H yX11_soon cX11_soon 3 (some .int) k4_X11_soon 5 120 := by
  refine pz_mk (own := RX11) (tb := t_X11_soon) (fl := pz_flf fl_RX11) (ci := pz_cif ci_RX11) (ct := pz_ctf ct4_X11_soon) (rz := false) (by decide +kernel) rfl t_X11_soon_ok (pz_flk fl_RX11_ok) (pz_cik ci_RX11_ok) ?_ ?_ (Or.inl ⟨rfl, rfl⟩) ?_ ?_
  · exact fun i k' h => pz_ctk (l := ct4_X11_soon) (P := fun b i k => b = true → pz_cV 5 120 RX11 i k) (List.forall_mem_cons.mpr ⟨((fun z => by cases z)), List.forall_mem_cons.mpr ⟨(fun _ => v4_X4_reckon (by decide) (by decide) (pz_mt 884 (by decide +kernel))), List.forall_mem_cons.mpr ⟨(fun _ => v4_X4_oneDayMore (by decide) (by decide) (pz_mt 1061 (by decide +kernel))), List.forall_mem_cons.mpr ⟨(fun _ => v3_X4_oddsOf (by decide) (by decide) (pz_mt 896 (by decide +kernel))), fun _ h => absurd h List.not_mem_nil⟩⟩⟩⟩) true i k' h rfl
  · exact fun i k' h => pz_ctk (l := ct4_X11_soon) (P := fun b i k => b = false → (pz_cS 5 120 RX11 i k ∨ (k = pz_kac ∧ 1 ≤ 5 ∧ 60 ≤ 120 ∧ Cond.methodLink RX11 i arraycopyName ∈ pz_tbl))) (List.forall_mem_cons.mpr ⟨(fun _ => Or.inl (s_X11_within (by decide) (by decide) (Or.inl (pz_mt 425 (by decide +kernel))))), List.forall_mem_cons.mpr ⟨((fun z => by cases z)), List.forall_mem_cons.mpr ⟨((fun z => by cases z)), List.forall_mem_cons.mpr ⟨((fun z => by cases z)), fun _ h => absurd h List.not_mem_nil⟩⟩⟩⟩) false i k' h rfl
  · intro a M hlen hpre
    obtain ⟨th, h, rfl, hpre⟩ : ∃ th h, a = [.inr (.inr (11, th)), .inl h] ∧ (pz_ic M) := by
      have hpre : (match (generalizing := false) a with | [.inr (.inr (11, th)), .inl h] => pz_ic M | _ => False) := hpre
      split at hpre
      · exact ⟨_, _, rfl, hpre⟩
      · exact hpre.elim
    exact Nat.le_of_ble_eq_true rfl
  · intro a M hlen hcan hM hpre Ok hgo
    obtain ⟨th, h, rfl, hpre⟩ : ∃ th h, a = [.inr (.inr (11, th)), .inl h] ∧ (pz_ic M) := by
      have hpre : (match (generalizing := false) a with | [.inr (.inr (11, th)), .inl h] => pz_ic M | _ => False) := hpre
      split at hpre
      · exact ⟨_, _, rfl, hpre⟩
      · exact hpre.elim
    obtain ⟨k_th, hc_th⟩ := pz_tlm hcan
    have k_th : pz_kd th = 11 ∧ th < 231 := k_th
    have R_th := pz_kd11 k_th.1
    subst R_th
    obtain ⟨k_h, hc_h⟩ := pz_tlm hc_th
    have l_h : -2147483648 ≤ h := k_h.1
    have u_h : h ≤ 2147483647 := k_h.2
    have hI : pz_ic M := hpre
    have hI0 := hI
    have hS : pq_pr pq_Pk M M := pq_pr.rf
    have L27 : ∀ (fu : Nat) (x2 : Int) (N27 : pz_M), (61 - x2).toNat < fu → (pq_pr pq_Pk M N27) → (0 ≤ x2) → (1 ≤ x2) → (x2 ≤ 61) → (0 ≤ h ∧ h ≤ 1000000) → (sd_wp M (fun ls F => sd_ar N27 ls F (x2 - 1).toNat (F 88) ∧ sd_son ls F h (61 - x2).toNat x2.toNat = sd_son ls F h 60 1)) → Ok 27 [some (.inr (.inr (11, 0))), some (.inl h), some (.inl x2)] [] N27 := by
      intro fu
      induction fu with
      | zero => exact fun _ _ hn => absurd hn (Nat.not_lt_zero _)
      | succ fu ih27 =>
        intro x2 N27 hn27 hS g27_1 g27_2 g27_3 g27_4 g27_5
        have hI : pz_ic N27 := hS.1 hI0
        have hS27 := hS
        refine hgo (fun p => Nat.beq p 27) 44 27 _ _ _ ?_
        refine And.intro (fun h30 => ?_) (fun h30 => ?_)
        · skip
          refine And.intro rfl ?_
          refine ⟨fun ls l1 F hT hF hW => ?_, hS⟩
          obtain ⟨a, cc⟩ := (by assumption : sd_wp M (fun ls F => sd_ar N27 ls F (x2 - 1).toNat (F 88) ∧ sd_son ls F h (61 - x2).toNat x2.toNat = sd_son ls F h 60 1)) ls l1 F hT hF hW
          show _ = sd_sov ls F h
          unfold sd_sov
          rw [if_pos (by omega), ← cc, show (61 - x2).toNat = 0 by omega]
          rfl
        · skip
          refine pz_nrc (c := 6) rfl ?_
          refine pz_nrc (c := 71) rfl ?_
          refine And.intro (hI) ?_
          intro M41 q41
          obtain ⟨q41, z41⟩ := q41
          have hS : pq_pr pq_Pk M M41 := hS.tr z41
          have hI : pz_ic M41 := hS.1 hI0
          refine pz_nrc (c := 6) rfl ?_
          refine pz_nrc (c := 71) rfl ?_
          refine pz_nrc (c := 71) rfl ?_
          intro v57 e57 a57 b57
          have I57 := hI.1 71 (by omega) (by omega)
          intro v61 e61 a61 b61
          try rw [pz_wi (by omega) (by omega)] at e61
          refine And.intro (And.intro hI (by omega)) ?_
          intro v62 M62 a62 b62 q62
          obtain ⟨q62, z62⟩ := q62
          subst z62
          have G62 : sd_wp M (fun ls F => sd_ar M41 ls F x2.toNat (F 88) ∧ v62 = sd_od9 ls F x2.toNat ∧ sd_son ls F h (61 - x2).toNat x2.toNat = sd_son ls F h 60 1) := fun ls l1 F t s w => by
            obtain ⟨g1, g2⟩ := (by assumption : sd_wp M (fun ls F => sd_ar N27 ls F (x2 - 1).toNat (F 88) ∧ sd_son ls F h (61 - x2).toNat x2.toNat = sd_son ls F h 60 1)) ls l1 F t s w
            have a := q41 rfl ls F _ (sd_se_k s w hS27) w g1
            rw [show (x2 - 1).toNat + 1 = x2.toNat by omega] at a
            have s3 := sd_se_k s w hS
            have n8 := s3.1
            exact ⟨a, q62 rfl ls F _ s3 w a.al rfl (by omega), g2⟩
          refine And.intro (fun h66 => ?_) (fun h66 => ?_)
          · skip
            intro v71 e71 a71 b71
            rw [pz_wi (by omega) (by omega)] at e71
            have G27 : sd_wp M (fun ls F => sd_ar M41 ls F (v71 - 1).toNat (F 88) ∧ sd_son ls F h (61 - v71).toNat v71.toNat = sd_son ls F h 60 1) := fun ls l1 F t s w => by
              obtain ⟨a, b, cc⟩ := (by assumption : sd_wp M (fun ls F => sd_ar M41 ls F x2.toNat (F 88) ∧ v62 = sd_od9 ls F x2.toNat ∧ sd_son ls F h (61 - x2).toNat x2.toNat = sd_son ls F h 60 1)) ls l1 F t s w
              refine ⟨by rw [show (v71 - 1).toNat = x2.toNat by omega]; exact a, ?_⟩
              rw [← cc, show (61 - x2).toNat = (61 - v71).toNat + 1 by omega, show v71.toNat = x2.toNat + 1 by omega]
              exact (if_neg (by omega)).symm
            exact ih27 _ _ (by omega) hS (by first | omega | assumption) (by first | omega | assumption) (by first | omega | assumption) (by first | omega | assumption) (by first | omega | assumption)
          · skip
            refine And.intro rfl ?_
            refine ⟨fun ls l1 F hT hF hW => ?_, hS⟩
            obtain ⟨a, b, cc⟩ := (by assumption : sd_wp M (fun ls F => sd_ar M41 ls F x2.toNat (F 88) ∧ v62 = sd_od9 ls F x2.toNat ∧ sd_son ls F h (61 - x2).toNat x2.toNat = sd_son ls F h 60 1)) ls l1 F hT hF hW
            show _ = sd_sov ls F h
            unfold sd_sov
            rw [if_pos (by omega), ← cc, show (61 - x2).toNat = (60 - x2).toNat + 1 by omega]
            refine Eq.trans ?_ (if_pos (by omega)).symm
            omega
    refine hgo (fun p => Nat.beq p 27) 44 0 _ [] M ?_
    refine And.intro (True.intro) ?_
    intro v5 M5 a5 b5 q5
    obtain ⟨q5, z5⟩ := q5
    subst z5
    refine And.intro (fun h8 => ?_) (fun h8 => ?_)
    · skip
      have GP : 0 ≤ h ∧ h ≤ 1000000 := by
        split at q5 <;> omega
      refine pz_nrc (c := 6) rfl ?_
      refine pz_nrc (c := 71) rfl ?_
      refine And.intro (hI) ?_
      intro M22 q22
      obtain ⟨q22, z22⟩ := q22
      have hS : pq_pr pq_Pk M M22 := hS.tr z22
      have hI : pz_ic M22 := hS.1 hI0
      have G27 : sd_wp M (fun ls F => sd_ar M22 ls F ((1 : Int) - 1).toNat (F 88) ∧ sd_son ls F h (61 - (1 : Int)).toNat (1 : Int).toNat = sd_son ls F h 60 1) := fun ls l1 F t s w => ⟨q22 rfl (by decide) ls l1 F t s w, rfl⟩
      exact L27 _ _ _ (Nat.lt_succ_self _) hS (by first | omega | assumption) (by first | omega | assumption) (by first | omega | assumption) (by first | omega | assumption) (by first | omega | assumption)
    · skip
      skip
      refine And.intro rfl ?_
      refine ⟨fun ls l1 F hT hF hW => ?_, hS⟩
      show _ = sd_sov ls F h
      unfold sd_sov
      rw [if_neg (fun z => by split at q5 <;> omega)]
theorem v4_X11_soon {fr lo i : Nat} {own : String} (h1 : 5 + 1 ≤ fr) (h2 : 8 + (3 + 11) + 120 ≤ lo) (h3 : .methodLink own i yX11_soon ∈ lw_tbl) : pz_cV fr lo own i k4_X11_soon :=
  pz_cVk (maxL := 3) (fr' := 5) (lo' := 120) 1 11 h4_X11_soon rfl ⟨by decide +kernel, by decide +kernel, by decide +kernel⟩ ⟨(pz_mt 1060 (by decide +kernel)), (pz_mt 1058 (by decide +kernel)), (pz_mt 1059 (by decide +kernel)), (pz_mt 1 (by decide +kernel))⟩ (Or.inl ⟨TX11, 14, rfl⟩) (fun a M _ h => by
    have h : (match (generalizing := false) a with | [.inr (.inr (11, th)), .inl h] => pz_ic M | _ => False) := h
    split at h
    · exact ⟨_, _, rfl⟩
    · exact h.elim) h1 h2 h3
def k4_X4_oddsHurried : pz_C := (4, 1, fun a M => (match a with | [.inr (.inr (4, k)), .inr (.inr (0, c)), .inl i, .inl n] => pz_ic M | _ => False), fun a M r M' => (match a, r with | [.inr (.inr (4, k)), .inr (.inr (0, c)), .inl i, .inl n], some (.inl v) => (c = 71 → 0 ≤ n → ∀ (ls : List pz_lne) (l1 : List (List Int)) (F : Nat → Int), sd_tx M ls l1 → sd_se M 71 F → sd_wf F → sd_ar M ls F n.toNat (F 88) → 0 ≤ i → i < F 88 → v = sd_hu ls F n.toNat i.toNat ∧ sd_ar M' ls F n.toNat (F 88)) ∧ pq_pr pq_Pk M M' | _, _ => False))
abbrev ct4_X4_oddsHurried : List (Bool × Nat × pz_C) := [(true, 50, k_X0_at), (true, 44, k3_X3_tells), (false, 33, k_X4_leftAfter), (true, 75, k3_X4_oddsOf)]
set_option maxRecDepth 100000 in
set_option maxHeartbeats 4000000 in
theorem h4_X4_oddsHurried : pz_H yX4_oddsHurried cX4_oddsHurried 8 (some .int) k4_X4_oddsHurried 4 97 := by
  refine pz_mk (own := RX4) (tb := t_X4_oddsHurried) (fl := pz_flf fl_RX4) (ci := pz_cif ci_RX4) (ct := pz_ctf ct4_X4_oddsHurried) (rz := false) (by decide +kernel) rfl t_X4_oddsHurried_ok (pz_flk fl_RX4_ok) (pz_cik ci_RX4_ok) ?_ ?_ (Or.inl ⟨rfl, rfl⟩) ?_ ?_
  · exact fun i k' h => pz_ctk (l := ct4_X4_oddsHurried) (P := fun b i k => b = true → pz_cV 4 97 RX4 i k) (List.forall_mem_cons.mpr ⟨(fun _ => v_X0_at (by decide) (by decide) (pz_mt 904 (by decide +kernel))), List.forall_mem_cons.mpr ⟨(fun _ => v3_X3_tells (by decide) (by decide) (pz_mt 888 (by decide +kernel))), List.forall_mem_cons.mpr ⟨((fun z => by cases z)), List.forall_mem_cons.mpr ⟨(fun _ => v3_X4_oddsOf (by decide) (by decide) (pz_mt 1073 (by decide +kernel))), fun _ h => absurd h List.not_mem_nil⟩⟩⟩⟩) true i k' h rfl
  · exact fun i k' h => pz_ctk (l := ct4_X4_oddsHurried) (P := fun b i k => b = false → (pz_cS 4 97 RX4 i k ∨ (k = pz_kac ∧ 1 ≤ 4 ∧ 60 ≤ 97 ∧ Cond.methodLink RX4 i arraycopyName ∈ pz_tbl))) (List.forall_mem_cons.mpr ⟨((fun z => by cases z)), List.forall_mem_cons.mpr ⟨((fun z => by cases z)), List.forall_mem_cons.mpr ⟨(fun _ => Or.inl (s_X4_leftAfter (by decide) (by decide) (Or.inl (pz_mt 889 (by decide +kernel))))), List.forall_mem_cons.mpr ⟨((fun z => by cases z)), fun _ h => absurd h List.not_mem_nil⟩⟩⟩⟩) false i k' h rfl
  · intro a M hlen hpre
    obtain ⟨k, c, i, n, rfl, hpre⟩ : ∃ k c i n, a = [.inr (.inr (4, k)), .inr (.inr (0, c)), .inl i, .inl n] ∧ (pz_ic M) := by
      have hpre : (match (generalizing := false) a with | [.inr (.inr (4, k)), .inr (.inr (0, c)), .inl i, .inl n] => pz_ic M | _ => False) := hpre
      split at hpre
      · exact ⟨_, _, _, _, rfl, hpre⟩
      · exact hpre.elim
    exact Nat.le_of_ble_eq_true rfl
  · intro a M hlen hcan hM hpre Ok hgo
    obtain ⟨k, c, i, n, rfl, hpre⟩ : ∃ k c i n, a = [.inr (.inr (4, k)), .inr (.inr (0, c)), .inl i, .inl n] ∧ (pz_ic M) := by
      have hpre : (match (generalizing := false) a with | [.inr (.inr (4, k)), .inr (.inr (0, c)), .inl i, .inl n] => pz_ic M | _ => False) := hpre
      split at hpre
      · exact ⟨_, _, _, _, rfl, hpre⟩
      · exact hpre.elim
    obtain ⟨k_k, hc_k⟩ := pz_tlm hcan
    have k_k : pz_kd k = 4 ∧ k < 231 := k_k
    have R_k := pz_kd4 k_k.1
    subst R_k
    obtain ⟨k_c, hc_c⟩ := pz_tlm hc_k
    have k_c : pz_kd c = 0 ∧ c < 231 := k_c
    have R_c := pz_kd0 k_c.1
    obtain ⟨k_i, hc_i⟩ := pz_tlm hc_c
    have l_i : -2147483648 ≤ i := k_i.1
    have u_i : i ≤ 2147483647 := k_i.2
    obtain ⟨k_n, hc_n⟩ := pz_tlm hc_i
    have l_n : -2147483648 ≤ n := k_n.1
    have u_n : n ≤ 2147483647 := k_n.2
    have hI : pz_ic M := hpre
    have hI0 := hI
    have hS : pq_pr pq_Pk M M := pq_pr.rf
    refine hgo (fun _ => false) 55 0 _ [] M ?_
    refine And.intro (True.intro) ?_
    intro r2 M2 k2 q2
    have R2 := pz_kd5 k2
    obtain ⟨q2, z2⟩ := q2
    subst z2
    have A2 := pz_at_lk R_c q2
    have B2 : 89 + 13 * (c - 71) ≤ r2 ∧ r2 ≤ 89 + 13 * (c - 71) + 12 := by
      rw [A2]
      exact pz_lnk_c
    refine And.intro (fun h8 => ?_) (fun h8 => ?_)
    · skip
      refine And.intro rfl ?_
      exact ⟨fun c9 n9 ls l1 F t s w a h0 h1 => by
        have m := w.1
        exfalso
        omega, hS⟩
    · skip
      refine And.intro (fun h14 => ?_) (fun h14 => ?_)
      · skip
        intro v21 e21 a21 b21
        intro r27 e27 k27
        have R27 := pz_kdA k27 (by decide) (by decide)
        have Q27 := pz_nm e27 k_k.1 (by decide) (by decide) rfl
        have W27 : r27 = 52 := e27
        refine And.intro (by omega) (And.intro (show _ < (12 : Int) from by omega) ?_)
        intro v31 e31 a31 b31
        rw [W27] at e31
        intro M37 e37
        have hS : pq_pr (pq_Ph r2) M M37 := by
          rw [e37]
          exact pq_pr_u hS.kph (Or.inr ⟨rfl, rfl⟩) (by unfold pz_iok; omega)
        have hI : pz_ic M37 := hS.1 hI0
        have T37_0 := pz_uve e37 r2 3
        intro r41 e41 k41
        have R41 := pz_kdA k41 (by decide) (by decide)
        have Q41 := pz_nm e41 k_k.1 (by decide) (by decide) rfl
        have W41 : r41 = 52 := e41
        intro r46 e46 k46
        have R46 := pz_kd3 k46
        have L46 : r46 = 10 := by rw [e46]; rfl
        refine And.intro (hI) ?_
        intro v52 M52 a52 b52 q52
        obtain ⟨q52, z52⟩ := q52
        have hS : pq_pr (pq_Ph r2) M M52 := hS.tr z52.wph
        have hI : pz_ic M52 := hS.1 hI0
        rw [L46] at q52
        refine And.intro (True.intro) ?_
        intro v56 M56 a56 b56 q56
        obtain ⟨q56, z56⟩ := q56
        subst z56
        refine And.intro (by omega) (And.intro (show _ < (12 : Int) from by omega) ?_)
        intro M59 e59
        have hS : pq_pr (pq_Ph r2) M M59 := by
          rw [e59]
          exact pq_pr_u hS (by unfold pq_Ph pq_Pk pq_Pw; omega) (by unfold pz_iok; omega)
        have hI : pz_ic M59 := hS.1 hI0
        have T59_0 := pz_uve e59 r2 3
        rw [W41] at e59
        intro v64 e64 a64 b64
        have I64 := hI.1 c (by omega) (by omega)
        intro v68 e68 a68 b68
        try rw [pz_wi (by omega) (by omega)] at e68
        refine And.intro (And.intro hI (by omega)) ?_
        intro v69 M69 a69 b69 q69
        obtain ⟨q69, z69⟩ := q69
        subst z69
        intro M78 e78
        have hS : pq_pr (pq_Ph r2) M M78 := by
          rw [e78]
          exact pq_pr_u hS (Or.inr ⟨rfl, rfl⟩) (by unfold pz_iok; omega)
        have hI : pz_ic M78 := hS.1 hI0
        have T78_0 := pz_uve e78 r2 3
        intro r82 e82 k82
        have R82 := pz_kdA k82 (by decide) (by decide)
        have Q82 := pz_nm e82 k_k.1 (by decide) (by decide) rfl
        have W82 : r82 = 52 := e82
        refine And.intro (by omega) (And.intro (show _ < (12 : Int) from by omega) ?_)
        intro M88 e88
        have hS : pq_pr (pq_Ph r2) M M88 := by
          rw [e88]
          exact pq_pr_u hS (by unfold pq_Ph pq_Pk pq_Pw; omega) (by unfold pz_iok; omega)
        have hI : pz_ic M88 := hS.1 hI0
        have T88_0 := pz_uve e88 r2 3
        rw [W82] at e88
        refine And.intro rfl ?_
        have hS9 : pq_pr pq_Pk M M88 := hS.hpk (by omega)
        refine ⟨fun c9 n9 ls l1 F t s w a h0 h1 => ?_, hS9⟩
        subst c9
        have m := w.1
        have rr := sd_lnk_i A2 h0 (by omega)
        have r89 : 89 ≤ r2 := by
          rw [rr]
          unfold pz_lb
          omega
        have w1 := sd_sl0_wf w (i := i.toNat) (by omega)
        have f88 := sd_sl0_88 (F := F) (i := i.toNat)
        have s37 : sd_se M37 71 (sd_sl0 F i.toNat) := by
          rw [e37, rr]
          exact sd_se_w (f := 3) (⟨by decide, by decide⟩ : 71 ≤ 71 ∧ 71 < 80) s (by omega) (by omega) (by decide)
        have t37 : sd_tx M37 ls l1 := sd_tx_cg t (fun b j q => by
          rw [e37]
          exact pz_una (by omega))
        have r := sd_tel0 (⟨by decide, by decide⟩ : 71 ≤ 71 ∧ 71 < 80) t37 s37 w1 h0 (by omega) q52.2
        have s52 := sd_se_d (⟨by decide, by decide⟩ : 71 ≤ 71 ∧ 71 < 80) s37 w1 z52
        have s59 : sd_se M59 71 (sd_sl0 F i.toNat) := sd_se_cg s52 (fun b j q => by
          rw [e59]
          exact pz_una (by unfold pz_lb at q; omega)) (by omega)
        have n8 := s59.1
        have l := q56 (by omega) (by omega) n9
        have e52 : ∀ b j : Nat, 52 ≤ b → b ≤ 54 → M52 b j = M b j := fun b j x y => by
          rw [z52.2 b j (by unfold pq_Pw; omega), e37, pz_una (by omega)]
        have al : sd_al M59 ls (sd_sl0 F i.toNat) n.toNat (F 88) := sd_al_1 (i := i.toNat) (l := v56) a (fun j => by
          rw [e59]
          by_cases y : j = i.toNat
          · rw [if_pos y, y, pz_uu]
          · rw [if_neg y, pz_unk y, e52 52 j (by decide) (by decide)]) (by rw [l, r]) (fun j hj ne => sd_rd_sl t.2.1 (by omega) hj (by omega) ne)
        have vv := q69 rfl ls _ n.toNat s59 w1 (by rw [f88]; exact al) rfl (by omega)
        refine ⟨vv, fun j hj => ?_⟩
        have g := a j hj
        have keep9 : ∀ b : Nat, 52 ≤ b → b ≤ 54 → ¬ (b = 52 ∧ j = i.toNat) → M88 b j = M b j := fun b x y ne => by
          rw [e88, pz_une ne, e78, pz_una (by omega), e59, pz_une ne, e52 b j x y]
        rw [keep9 53 (by decide) (by decide) (by omega), keep9 54 (by decide) (by decide) (by omega)]
        by_cases y : j = i.toNat
        · rw [e88, y, pz_uu, e31]
          rw [y] at g
          exact g
        · rw [keep9 52 (by decide) (by decide) (by omega)]
          exact g
      · skip
        refine And.intro rfl ?_
        exact ⟨fun c9 n9 ls l1 F t s w a h0 h1 => by
          have m := w.1
          exfalso
          omega, hS⟩
theorem v4_X4_oddsHurried {fr lo i : Nat} {own : String} (h1 : 4 + 1 ≤ fr) (h2 : 8 + (8 + 11) + 97 ≤ lo) (h3 : .methodLink own i yX4_oddsHurried ∈ lw_tbl) : pz_cV fr lo own i k4_X4_oddsHurried :=
  pz_cVk (maxL := 8) (fr' := 4) (lo' := 97) 3 4 h4_X4_oddsHurried rfl ⟨by decide +kernel, by decide +kernel, by decide +kernel⟩ ⟨(pz_mt 1072 (by decide +kernel)), (pz_mt 1070 (by decide +kernel)), (pz_mt 1071 (by decide +kernel)), (pz_mt 11 (by decide +kernel))⟩ (Or.inl ⟨TX4, 5, rfl⟩) (fun a M _ h => by
    have h : (match (generalizing := false) a with | [.inr (.inr (4, k)), .inr (.inr (0, c)), .inl i, .inl n] => pz_ic M | _ => False) := h
    split at h
    · exact ⟨_, _, rfl⟩
    · exact h.elim) h1 h2 h3
def k4_X11_hurry : pz_C := (3, 1, fun a M => (match a with | [.inr (.inr (11, th)), .inl d, .inl w] => pz_ic M | _ => False), fun a M r M' => (match a, r with | [.inr (.inr (11, th)), .inl d, .inl w], some (.inl v) => (sd_wc M v (fun ls F => sd_huv ls F d w)) ∧ pq_pr pq_Pk M M' | _, _ => False))
abbrev ct4_X11_hurry : List (Bool × Nat × pz_C) := [(false, 137, k_X11_within), (true, 255, k4_X4_reckon), (true, 334, k4_X4_oddsHurried)]
set_option maxRecDepth 100000 in
set_option maxHeartbeats 4000000 in
theorem h4_X11_hurry : pz_H yX11_hurry cX11_hurry 7 (some .int) k4_X11_hurry 5 124 := by
  refine pz_mk (own := RX11) (tb := t_X11_hurry) (fl := pz_flf fl_RX11) (ci := pz_cif ci_RX11) (ct := pz_ctf ct4_X11_hurry) (rz := false) (by decide +kernel) rfl t_X11_hurry_ok (pz_flk fl_RX11_ok) (pz_cik ci_RX11_ok) ?_ ?_ (Or.inl ⟨rfl, rfl⟩) ?_ ?_
  · exact fun i k' h => pz_ctk (l := ct4_X11_hurry) (P := fun b i k => b = true → pz_cV 5 124 RX11 i k) (List.forall_mem_cons.mpr ⟨((fun z => by cases z)), List.forall_mem_cons.mpr ⟨(fun _ => v4_X4_reckon (by decide) (by decide) (pz_mt 884 (by decide +kernel))), List.forall_mem_cons.mpr ⟨(fun _ => v4_X4_oddsHurried (by decide) (by decide) (pz_mt 1069 (by decide +kernel))), fun _ h => absurd h List.not_mem_nil⟩⟩⟩) true i k' h rfl
  · exact fun i k' h => pz_ctk (l := ct4_X11_hurry) (P := fun b i k => b = false → (pz_cS 5 124 RX11 i k ∨ (k = pz_kac ∧ 1 ≤ 5 ∧ 60 ≤ 124 ∧ Cond.methodLink RX11 i arraycopyName ∈ pz_tbl))) (List.forall_mem_cons.mpr ⟨(fun _ => Or.inl (s_X11_within (by decide) (by decide) (Or.inl (pz_mt 425 (by decide +kernel))))), List.forall_mem_cons.mpr ⟨((fun z => by cases z)), List.forall_mem_cons.mpr ⟨((fun z => by cases z)), fun _ h => absurd h List.not_mem_nil⟩⟩⟩) false i k' h rfl
  · intro a M hlen hpre
    obtain ⟨th, d, w, rfl, hpre⟩ : ∃ th d w, a = [.inr (.inr (11, th)), .inl d, .inl w] ∧ (pz_ic M) := by
      have hpre : (match (generalizing := false) a with | [.inr (.inr (11, th)), .inl d, .inl w] => pz_ic M | _ => False) := hpre
      split at hpre
      · exact ⟨_, _, _, rfl, hpre⟩
      · exact hpre.elim
    exact Nat.le_of_ble_eq_true rfl
  · intro a M hlen hcan hM hpre Ok hgo
    obtain ⟨th, d, w, rfl, hpre⟩ : ∃ th d w, a = [.inr (.inr (11, th)), .inl d, .inl w] ∧ (pz_ic M) := by
      have hpre : (match (generalizing := false) a with | [.inr (.inr (11, th)), .inl d, .inl w] => pz_ic M | _ => False) := hpre
      split at hpre
      · exact ⟨_, _, _, rfl, hpre⟩
      · exact hpre.elim
    obtain ⟨k_th, hc_th⟩ := pz_tlm hcan
    have k_th : pz_kd th = 11 ∧ th < 231 := k_th
    have R_th := pz_kd11 k_th.1
    subst R_th
    obtain ⟨k_d, hc_d⟩ := pz_tlm hc_th
    have l_d : -2147483648 ≤ d := k_d.1
    have u_d : d ≤ 2147483647 := k_d.2
    obtain ⟨k_w, hc_w⟩ := pz_tlm hc_d
    have l_w : -2147483648 ≤ w := k_w.1
    have u_w : w ≤ 2147483647 := k_w.2
    have hI : pz_ic M := hpre
    have hI0 := hI
    have hS : pq_pr pq_Pk M M := pq_pr.rf
    have L41 : ∀ (fu : Nat) (x3 : Int) (x4 : Int) (x5 : Int) (d6 : Option pz_V) (N41 : pz_M), (12 - x5).toNat < fu → (pq_pr pq_Pk M N41) → (0 ≤ x5) → ((1 ≤ d ∧ d ≤ 60) ∧ 0 ≤ w ∧ w ≤ 1) → (sd_wp M (fun ls F => sd_ar N41 ls F d.toNat (F 88) ∧ sd_huE ls F d.toNat x3 x4 x5)) → Ok 41 [some (.inr (.inr (11, 0))), some (.inl d), some (.inl w), some (.inl x3), some (.inl x4), some (.inl x5), d6] [] N41 := by
      intro fu
      induction fu with
      | zero => exact fun _ _ _ _ _ hn => absurd hn (Nat.not_lt_zero _)
      | succ fu ih41 =>
        intro x3 x4 x5 d6 N41 hn41 hS g41_1 g41_2 g41_3
        have hI : pz_ic N41 := hS.1 hI0
        have hS41 := hS
        have L83 : ∀ (x3 : Int) (x4 : Int) (x5 : Int) (x6 : Int) (N83 : pz_M), (pq_pr pq_Pk M N83) → (0 ≤ x5) → (x5 < 12) → ((12 - x5).toNat < fu + 1) → ((1 ≤ d ∧ d ≤ 60) ∧ 0 ≤ w ∧ w ≤ 1) → (sd_wp M (fun ls F => sd_ar N83 ls F d.toNat (F 88) ∧ sd_huE ls F d.toNat x3 x4 (x5 + 1))) → Ok 83 [some (.inr (.inr (11, 0))), some (.inl d), some (.inl w), some (.inl x3), some (.inl x4), some (.inl x5), some (.inl x6)] [] N83 := by
          intro x3 x4 x5 x6 N83 hS g83_1 g83_2 g83_3 g83_4 g83_5
          have hI : pz_ic N83 := hS.1 hI0
          have hS83 := hS
          refine hgo (fun p => Nat.beq p 41 || Nat.beq p 83) 54 83 _ _ _ ?_
          intro v83 e83 a83 b83
          rw [pz_wi (by omega) (by omega)] at e83
          have G41 : sd_wp M (fun ls F => sd_ar N83 ls F d.toNat (F 88) ∧ sd_huE ls F d.toNat x3 x4 v83) := by
            rw [e83]
            assumption
          exact ih41 _ _ _ _ _ (by omega) hS (by first | omega | assumption) (by first | omega | assumption) (by first | omega | assumption)
        refine hgo (fun p => Nat.beq p 41 || Nat.beq p 83) 54 41 _ _ _ ?_
        refine pz_nrc (c := 71) rfl ?_
        intro v47 e47 a47 b47
        have I47 := hI.1 71 (by omega) (by omega)
        refine And.intro (fun h50 => ?_) (fun h50 => ?_)
        · skip
          refine And.intro (fun h90 => ?_) (fun h90 => ?_)
          · skip
            refine And.intro rfl ?_
            refine ⟨fun ls l1 F hT hF hW => ?_, hS⟩
            obtain ⟨g1, g2⟩ := (by assumption : sd_wp M (fun ls F => sd_ar N41 ls F d.toNat (F 88) ∧ sd_huE ls F d.toNat x3 x4 x5)) ls l1 F hT hF hW
            have n8 := (sd_se_k hF hW hS).1
            show _ = sd_huv ls F d w
            unfold sd_huv
            rcases sd_huE_z g2 hW (by omega) with ⟨z1, z2, z3⟩ | ⟨z1, z2, z3⟩
            · rw [if_neg (fun z => z.2.2 z1)]
              omega
            · rw [if_pos ⟨by omega, by omega, z1⟩]
              first
                | (rw [if_pos (by omega)]
                   omega)
                | (rw [if_neg (by omega)]
                   omega)
          · skip
            refine And.intro rfl ?_
            refine ⟨fun ls l1 F hT hF hW => ?_, hS⟩
            obtain ⟨g1, g2⟩ := (by assumption : sd_wp M (fun ls F => sd_ar N41 ls F d.toNat (F 88) ∧ sd_huE ls F d.toNat x3 x4 x5)) ls l1 F hT hF hW
            have n8 := (sd_se_k hF hW hS).1
            show _ = sd_huv ls F d w
            unfold sd_huv
            rcases sd_huE_z g2 hW (by omega) with ⟨z1, z2, z3⟩ | ⟨z1, z2, z3⟩
            · rw [if_neg (fun z => z.2.2 z1)]
              omega
            · rw [if_pos ⟨by omega, by omega, z1⟩]
              first
                | (rw [if_pos (by omega)]
                   omega)
                | (rw [if_neg (by omega)]
                   omega)
        · skip
          refine pz_nrc (c := 6) rfl ?_
          refine pz_nrc (c := 71) rfl ?_
          refine And.intro (hI) ?_
          intro v64 M64 a64 b64 q64
          obtain ⟨q64, z64⟩ := q64
          have hS : pq_pr pq_Pk M M64 := hS.tr z64
          have hI : pz_ic M64 := hS.1 hI0
          have G64 : sd_wp M (fun ls F => sd_ar M64 ls F d.toNat (F 88) ∧ (0 ≤ x5 ∧ x5 < F 88) ∧ sd_huE ls F d.toNat x3 x4 x5 ∧ v64 = sd_hu ls F d.toNat x5.toNat) := fun ls l1 F t s w9 => by
            obtain ⟨g1, g2⟩ := (by assumption : sd_wp M (fun ls F => sd_ar N41 ls F d.toNat (F 88) ∧ sd_huE ls F d.toNat x3 x4 x5)) ls l1 F t s w9
            have s2 := sd_se_k s w9 hS41
            have n8 := s2.1
            have a := q64 rfl (by omega) ls l1 F (sd_tx_k t hS41) s2 w9 g1 (by omega) (by omega)
            exact ⟨a.2, ⟨by omega, by omega⟩, g2, a.1⟩
          refine And.intro (fun h73 => ?_) (fun h73 => ?_)
          · skip
            have G83 : sd_wp M (fun ls F => sd_ar M64 ls F d.toNat (F 88) ∧ sd_huE ls F d.toNat x3 x4 (x5 + 1)) := fun ls l1 F t s w9 => by
              obtain ⟨a, b, cc, e⟩ := G64 ls l1 F t s w9
              exact ⟨a, sd_huE_n cc w9 b.2 rfl e (by omega)⟩
            exact L83 _ _ _ _ _ hS (by first | omega | assumption) (by first | omega | assumption) (by first | omega | assumption) (by first | omega | assumption) (by first | omega | assumption)
          · skip
            have G83 : sd_wp M (fun ls F => sd_ar M64 ls F d.toNat (F 88) ∧ sd_huE ls F d.toNat x5 v64 (x5 + 1)) := fun ls l1 F t s w9 => by
              obtain ⟨a, b, cc, e⟩ := G64 ls l1 F t s w9
              exact ⟨a, sd_huE_y cc w9 b.2 rfl e (by omega)⟩
            exact L83 _ _ _ _ _ hS (by first | omega | assumption) (by first | omega | assumption) (by first | omega | assumption) (by first | omega | assumption) (by first | omega | assumption)
    refine hgo (fun p => Nat.beq p 41 || Nat.beq p 83) 54 0 _ [] M ?_
    refine And.intro (True.intro) ?_
    intro v4 M4 a4 b4 q4
    obtain ⟨q4, z4⟩ := q4
    subst z4
    refine And.intro (fun h7 => ?_) (fun h7 => ?_)
    · skip
      refine And.intro rfl ?_
      refine ⟨fun ls l1 F hT hF hW => ?_, hS⟩
      show _ = sd_huv ls F d w
      unfold sd_huv
      rw [if_neg (fun z => by
        first
          | (split at q4 <;> omega)
          | (split at q4 <;> split at q13 <;> omega)
          | omega)]
    · skip
      refine And.intro (True.intro) ?_
      intro v13 M13 a13 b13 q13
      obtain ⟨q13, z13⟩ := q13
      subst z13
      refine And.intro (fun h16 => ?_) (fun h16 => ?_)
      · skip
        have GP : (1 ≤ d ∧ d ≤ 60) ∧ 0 ≤ w ∧ w ≤ 1 := by
          split at q4 <;> split at q13 <;> omega
        refine pz_nrc (c := 6) rfl ?_
        refine pz_nrc (c := 71) rfl ?_
        refine And.intro (hI) ?_
        intro M35 q35
        obtain ⟨q35, z35⟩ := q35
        have hS : pq_pr pq_Pk M M35 := hS.tr z35
        have hI : pz_ic M35 := hS.1 hI0
        have G41 : sd_wp M (fun ls F => sd_ar M35 ls F d.toNat (F 88) ∧ sd_huE ls F d.toNat (-1) (-1) 0) := fun ls l1 F t s w9 => ⟨q35 rfl (by omega) ls l1 F t s w9, sd_huE_0 w9⟩
        exact L41 _ _ _ _ _ _ (Nat.lt_succ_self _) hS (by first | omega | assumption) (by first | omega | assumption) (by first | omega | assumption)
      · skip
        skip
        refine And.intro rfl ?_
        refine ⟨fun ls l1 F hT hF hW => ?_, hS⟩
        show _ = sd_huv ls F d w
        unfold sd_huv
        rw [if_neg (fun z => by
          first
            | (split at q4 <;> omega)
            | (split at q4 <;> split at q13 <;> omega)
            | omega)]
theorem v4_X11_hurry {fr lo i : Nat} {own : String} (h1 : 5 + 1 ≤ fr) (h2 : 8 + (7 + 11) + 124 ≤ lo) (h3 : .methodLink own i yX11_hurry ∈ lw_tbl) : pz_cV fr lo own i k4_X11_hurry :=
  pz_cVk (maxL := 7) (fr' := 5) (lo' := 124) 2 11 h4_X11_hurry rfl ⟨by decide +kernel, by decide +kernel, by decide +kernel⟩ ⟨(pz_mt 1068 (by decide +kernel)), (pz_mt 1066 (by decide +kernel)), (pz_mt 1067 (by decide +kernel)), (pz_mt 1 (by decide +kernel))⟩ (Or.inl ⟨TX11, 14, rfl⟩) (fun a M _ h => by
    have h : (match (generalizing := false) a with | [.inr (.inr (11, th)), .inl d, .inl w] => pz_ic M | _ => False) := h
    split at h
    · exact ⟨_, _, rfl⟩
    · exact h.elim) h1 h2 h3
