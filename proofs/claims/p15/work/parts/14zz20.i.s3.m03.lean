section
/-! the law's relation: the state is the same in the class and in the model -/
theorem pz_XV_0 {B : Nat → Int} {n i : Nat} (h : pz_T B n i = 100) : 0 ≤ pz_XV B n i := by
  have hp := pz_T_end (B := B) (n := n) (i := i) (by first | decide | omega)
  unfold pz_T at h
  unfold pz_XV
  generalize pz_tp B n i = p at h hp
  by_cases q : pz_let (B p) = true
  · rw [pz_tt_l hp q] at h
    have := pz_wd_r (B := B) (p := p) (e := pz_te B n p)
    omega
  · by_cases q2 : pz_dig (B p) = true
    · rw [pz_tt_d hp q q2] at h
      have l : pz_te B n p ≤ p + 4 := by
        split at h
        · assumption
        · omega
      have e := pz_te_d hp q q2
      unfold pz_tx
      exact (pz_dv_b _ (by first | decide | omega) (fun j hj => of_decide_eq_true ((pz_whl_s (p := pz_dig) (B := B) (n := n) (i := p)).2.2.1 (p + j) (by first | decide | omega) (by first | decide | omega)).2)).1
    · rw [pz_tt_s hp q q2] at h
      split at h
      · rename_i y
        have := pz_sgn_i.mp y
        omega
      · omega
def pz_xv (j : Nat) : Prop := j = 89 ∨ j = 90 ∨ (129 ≤ j ∧ j < 209) ∨ 841 ≤ j
def sd_LQ (t a : Nat) (M : pz_M) : Prop := ∃ (ls : List pz_lne) (l1 : List (List Int)), (pq_ltx t ls M ∧ pq_wlw ls (M a) ∧ pz_lok ls ∧ ∀ q ∈ ls, pv_ln q) ∧ pq_rtx t 1 l1 M ∧ pq_wp l1 (M a) ∧ ∃ n : Int, pq_ok n 1 l1
theorem sd_LQ_mv {t a t' a' : Nat} {M M' : pz_M} (h : sd_LQ t a M) (e10 : ∀ j : Nat, j < 2 → M' (10 + t') j = M (10 + t) j) (e27 : ∀ k j : Nat, k < 4 → j < 16 → M' (27 + 6 * t' + k) j = M (27 + 6 * t + k) j) (e31 : ∀ j : Nat, j < 400 → M' (31 + 6 * t') j = M (31 + 6 * t) j) (e13 : M' (12 + 3 * t' + 1) 0 = M (12 + 3 * t + 1) 0) (e20 : ∀ j : Nat, j < 80 → M' (19 + 3 * t' + 1) j = M (19 + 3 * t + 1) j) (e2 : ∀ j : Nat, pz_xv j → j < 1725 → M' a' j = M a j) : sd_LQ t' a' M' := by
  obtain ⟨ls, l1, ⟨x1, x2, x3, x4⟩, p1, p2, n, p3⟩ := h
  exact ⟨ls, l1, ⟨pq_ltx_mv x3 x1 e10 e27 e31, pq_wl_mv x3 x2 (fun j y => e2 j (by unfold pq_wf at y; unfold pz_xv; omega)), x3, x4⟩, pq_rtx_mv p3.1 p1 e13 (fun j hj => e20 j hj), pq_wp_mv p3.1 p2 (fun j y => e2 j (by unfold pq_wf at y; unfold pz_xv; omega)), n, p3⟩
theorem sd_LQ_cg {t a : Nat} {M M' : pz_M} (h : sd_LQ t a M) (e : ∀ b j : Nat, pz_xcl t b → M' b j = M b j) (e2 : ∀ j : Nat, pz_xv j → M' a j = M a j) : sd_LQ t a M' :=
  sd_LQ_mv h (fun j _ => e _ j (by unfold pz_xcl; first | decide | omega)) (fun k j hk _ => e _ j (by unfold pz_xcl; first | decide | omega)) (fun j _ => e _ j (by unfold pz_xcl; first | decide | omega)) (e _ _ (by unfold pz_xcl; first | decide | omega)) (fun j _ => e _ j (by unfold pz_xcl; first | decide | omega)) (fun j y _ => e2 j y)
theorem sd_LQ_img {d s t t' a a' : Nat} {M M' : pz_M} (hd : d = 8 + t') (hs : s = 8 + t) (h : sd_LQ t a M) (q : pz_Ti d s M M') (e2 : ∀ j : Nat, j < 1725 → M' a' j = M a j) : sd_LQ t' a' M' := by
  obtain ⟨q1, q2, q3, q4, q5, -⟩ := q
  subst hd
  subst hs
  refine sd_LQ_mv h (fun j hj => ?_) (fun k j hk hj => ?_) (fun j hj => ?_) ?_ (fun j hj => ?_) (fun j _ hj => e2 j hj)
  · have x := q1 j hj
    rw [show 8 + t' + 2 = 10 + t' by omega, show 8 + t + 2 = 10 + t by omega] at x
    exact x
  · have x := q2 k j hk hj
    rw [show 27 + 6 * (8 + t' - 8) + k = 27 + 6 * t' + k by omega, show 27 + 6 * (8 + t - 8) + k = 27 + 6 * t + k by omega] at x
    exact x
  · have x := q3 j hj
    rw [show 31 + 6 * (8 + t' - 8) = 31 + 6 * t' by omega, show 31 + 6 * (8 + t - 8) = 31 + 6 * t by omega] at x
    exact x
  · have x := q4 0 (by first | decide | omega)
    rw [show 13 + 3 * (8 + t' - 8) + 0 = 12 + 3 * t' + 1 by omega, show 13 + 3 * (8 + t - 8) + 0 = 12 + 3 * t + 1 by omega] at x
    exact x
  · have x := q5 0 j (by first | decide | omega) hj
    rw [show 20 + 3 * (8 + t' - 8) + 0 = 19 + 3 * t' + 1 by omega, show 20 + 3 * (8 + t - 8) + 0 = 19 + 3 * t + 1 by omega] at x
    exact x
theorem sd_LQ_x {M : pz_M} (h : sd_LQ 0 60 M) : ∃ (ls : List pz_lne) (l1 : List (List Int)), sd_tx M ls l1 ∧ sd_tm (M 60) ls l1 := by
  obtain ⟨ls, l1, ⟨x1, x2, x3, x4⟩, p1, p2, p3⟩ := h
  exact ⟨ls, l1, ⟨x1, x4, p1, p3⟩, x2, x4, p2, p3⟩
/-- THE LAW told anew -/
theorem sd_RT_ln {M M1 M2 : pz_M} {k v v' : Int} (hI : pz_ic M) (hR : pz_RV M) (h : pq_te k (M 71 3) M M1 v) (z : pq_pr pq_Pt M M1) (h' : pq_tx k M1 M2 v') (k0 : k = 0) : (∃ ls : List pz_lne, (∀ q ∈ ls, pv_ln q) ∧ (∃ T X : Nat → Int, pz_gl T X 0 0 (.ok ls)) ∧ pq_lt ls M1 ∧ (∀ b j : Nat, (13 ≤ b ∧ b ≤ 15) ∨ (20 ≤ b ∧ b ≤ 22) → M1 b j = M b j) ∧ pq_wlw ls (M2 60) ∧ ∀ j : Nat, ¬ pq_wf 0 j → M2 60 j = M1 60 j) ∨ ((∀ b j : Nat, pq_xc b → M1 b j = M b j) ∧ ∀ j : Nat, M2 60 j = M1 60 j) := by
  have i4 := hI.2.2.2.2.1
  have by9 := pz_TP_byt hI hR.2.1
  have e67 : M1 67 = M 67 := funext fun j => z.2 67 j (by unfold pq_Pt; first | decide | omega)
  have e16 : M1 1 16 = M 4 1 := (z.2 1 16 (by unfold pq_Pt; first | decide | omega)).trans hR.2.1.1.symm
  have tT : pq_TM M1 = pz_T (M 67) (M 4 1).toNat := by
    unfold pq_TM
    rw [e67, e16]
  have tX : pq_XM M1 = pz_XV (M 67) (M 4 1).toNat := by
    unfold pq_XM
    rw [e67, e16]
  have tb : pz_tb M1 := fun i hi => by
    rw [e67, (hR.2.1.2 i (by rw [← e16]; exact hi)).2]
    exact Int.emod_nonneg _ (by decide)
  have ag : ∀ c, pz_T (M 48) (M 4 1).toNat c = 101 → pz_agr c (pz_T (M 48) (M 4 1).toNat) (pz_XV (M 48) (M 4 1).toNat) (pq_TM M1) (pq_XM M1) := fun c hc => ⟨hc, fun i _ => by
    rw [tT, tX]
    exact ⟨(pz_T_cg by9 i).symm, fun y => (pz_X_cg by9 y).symm⟩⟩
  have hX : ∀ i, pq_TM M1 i = 100 → 0 ≤ pq_XM M1 i := fun i q => by
    rw [tT] at q
    rw [tX]
    exact pz_XV_0 q
  obtain ⟨x1, x2, x3⟩ := h' tb
  obtain ⟨h1, h2, h3⟩ := h
  obtain ⟨c, T, X, a, b⟩ := h1 k0
  have A := pz_agr_c a (ag c a.1)
  rcases b with ⟨ls, b1, b2, b3, b4, b5, b6⟩ | ⟨f, j, b1, b2, b3, b4, b5⟩
  · have D := pz_gl_det A b1 (Nat.zero_le _)
    rcases x1 k0 with ⟨ls', y1, y2, y3, y4, y5, y6⟩ | ⟨f', j', y1, y2, y3, y4, -⟩
    · have d := Sum.inl.inj (D _ y1)
      subst d
      subst k0
      exact Or.inl ⟨_, pv_gl_q hX y1 _ rfl, ⟨_, _, b1⟩, b5, b6, y5, y6⟩
    · have d := D _ y1
      cases d
  · have D := pz_gl_det A b1 (Nat.zero_le _)
    rcases x1 k0 with ⟨ls', y1, y2, y3, y4, -⟩ | ⟨f', j', y1, y2, y3, y4, y5⟩
    · have d := D _ y1
      cases d
    · exact Or.inr ⟨b5, y5⟩
theorem sd_LQ_text {M M1 M2 : pz_M} {k v v' : Int} (hI : pz_ic M) (hI1 : pz_ic M1) (hR : pz_RV M) (h : pq_te k (M 71 3) M M1 v) (z : pq_pr pq_Pt M M1) (h' : pq_tx k M1 M2 v') (z' : pz_rl pz_QT M1 M2) (q : sd_LQ 0 60 M) : sd_LQ 0 60 M2 := by
  have m2 : ∀ b j, pz_xcl 0 b → M2 b j = M1 b j := fun b j y => z'.2 b j (by unfold pz_xcl at y; unfold pz_QT; omega)
  have e60 : ∀ j, M1 60 j = M 60 j := fun j => z.2 60 j (by unfold pq_Pt; first | decide | omega)
  have same : (∀ b j : Nat, pq_xc b → M1 b j = M b j) → (∀ j : Nat, M2 60 j = M1 60 j) → sd_LQ 0 60 M2 := fun c1 c2 => sd_LQ_cg q (fun b j y => (m2 b j y).trans (c1 b j (by unfold pz_xcl at y; unfold pq_xc; omega))) (fun j _ => (c2 j).trans (e60 j))
  obtain ⟨ls, l1, ⟨x1, x2, x3, x4⟩, p1, p2, n, p3⟩ := id q
  by_cases k0 : k = 0
  · rcases sd_RT_ln hI hR h z h' k0 with ⟨ls', g1, g2, ⟨c1, c2, c3, c4⟩, c5, c6, c7⟩ | ⟨c1, c2⟩
    · have i1 := hI1.2.2.2.1 10 (by first | decide | omega) (by first | decide | omega)
      have x0 : pz_lok ls' := ⟨by omega, by omega, g2⟩
      have fc : ∀ b j, (13 ≤ b ∧ b ≤ 15) ∨ (20 ≤ b ∧ b ≤ 22) → M2 b j = M b j := fun b j y => (m2 b j (by unfold pz_xcl; first | decide | omega)).trans (c5 b j y)
      refine ⟨ls', l1, ⟨⟨?_, ?_, fun i hi => ?_, fun i hi => ?_⟩, c6, x0, g1⟩, pq_rtx_mv p3.1 p1 (fc _ _ (by first | decide | omega)) (fun j _ => fc _ j (by first | decide | omega)), pq_wp_mv p3.1 p2 (fun j y _ => (c7 j (by unfold pq_wf at y ⊢; omega)).trans (e60 j)), n, p3⟩
      · exact (m2 10 0 (by unfold pz_xcl; first | decide | omega)).trans c1
      · exact (m2 10 1 (by unfold pz_xcl; first | decide | omega)).trans c2
      · exact (m2 31 i (by unfold pz_xcl; first | decide | omega)).trans (c3 i hi)
      · show pq_l1 ls' i (M2 27 i) (M2 28 i) (M2 29 i) (M2 30 i)
        rw [m2 27 i (by unfold pz_xcl; first | decide | omega), m2 28 i (by unfold pz_xcl; first | decide | omega), m2 29 i (by unfold pz_xcl; first | decide | omega), m2 30 i (by unfold pz_xcl; first | decide | omega)]
        exact c4 i hi
    · exact same c1 c2
  · obtain ⟨-, -, -, c⟩ := pz_RT_cmp hI hR h z h'
    rcases c with ⟨ls', k9, -⟩ | ⟨lr, k3, c1, ⟨c2, c3⟩, c5, c6, c7⟩ | ⟨c1, c2⟩
    · exact absurd k9 k0
    · have fc : ∀ b j, pz_xcl 0 b → b ≠ 12 + k.toNat → b ≠ 19 + k.toNat → M2 b j = M b j := fun b j y y1 y2 => (m2 b j y).trans (c5 b j (by unfold pz_xcl at y; unfold pq_xc; omega) y1 y2)
      have X : pq_ltx 0 ls M2 ∧ pq_wlw ls (M2 60) := ⟨pq_ltx_mv x3 x1 (fun j _ => fc _ j (by unfold pz_xcl; first | decide | omega) (by first | decide | omega) (by first | decide | omega)) (fun k j hk _ => fc _ j (by unfold pz_xcl; first | decide | omega) (by first | decide | omega) (by first | decide | omega)) (fun j _ => fc _ j (by unfold pz_xcl; first | decide | omega) (by first | decide | omega) (by first | decide | omega)), pq_wl_mv x3 x2 (fun j y _ => (c7 j (by unfold pq_wf at y ⊢; omega)).trans (e60 j))⟩
      by_cases k1 : k = 1
      · subst k1
        refine ⟨ls, lr, ⟨X.1, X.2, x3, x4⟩, ⟨?_, fun a b ha hb => ?_⟩, c6.1 rfl, _, c1⟩
        · rw [m2 _ _ (by unfold pz_xcl; first | decide | omega)]
          exact c2
        · rw [m2 _ _ (by unfold pz_xcl; first | decide | omega)]
          exact c3 a b ha hb
      · exact ⟨ls, l1, ⟨X.1, X.2, x3, x4⟩, pq_rtx_mv p3.1 p1 (fc _ _ (by unfold pz_xcl; first | decide | omega) (by first | decide | omega) (by first | decide | omega)) (fun j _ => fc _ j (by unfold pz_xcl; first | decide | omega) (by first | decide | omega) (by first | decide | omega)), pq_wp_mv p3.1 p2 (fun j y _ => (c7 j (by unfold pq_wf at y ⊢; omega)).trans (e60 j)), n, p3⟩
    · exact same c1 c2
def sd_RZ (M : pz_M) : Prop := (M 71 0 = 0 ∧ M 72 0 ≠ 0) ∧ (sd_se M 71 (M 60) ∧ sd_pg M (M 60) ∧ sd_wf (M 60)) ∧ sd_LQ 0 60 M ∧ (∃ L : List (Nat → Int), sd_ck M L ∧ sd_mq M L) ∧ (sd_se M 73 (M 61) ∧ (∀ k : Nat, k < 600 → M 46 k = M 61 (241 + k)) ∧ sd_wf (M 61) ∧ sd_LQ 1 61 M)
def pz_RZ (M : pz_M) : Prop := pz_RX M ∧ sd_RZ M
def sd_rz (b j : Nat) : Prop := b = 71 ∨ (b = 72 ∧ j = 0) ∨ (73 ≤ b ∧ b < 80) ∨ (89 ≤ b ∧ b ≤ 100) ∨ (115 ≤ b ∧ b ≤ 126) ∨ (128 ≤ b ∧ b < 206) ∨ (b = 45 ∧ j < 600) ∨ b = 46 ∨ b = 3 ∨ b = 10 ∨ b = 11 ∨ (13 ≤ b ∧ b ≤ 18) ∨ (20 ≤ b ∧ b ≤ 25) ∨ (27 ≤ b ∧ b ≤ 31) ∨ (33 ≤ b ∧ b ≤ 37) ∨ b = 60 ∨ b = 61 ∨ b = 62 ∨ (b = 1 ∧ j = 4)
/-- the image's part -/
theorem sd_im_cg {M N : pz_M} (h : sd_se M 73 (M 61) ∧ (∀ k : Nat, k < 600 → M 46 k = M 61 (241 + k)) ∧ sd_wf (M 61) ∧ sd_LQ 1 61 M) (e : ∀ b j : Nat, b = 73 ∨ (115 ≤ b ∧ b ≤ 126) ∨ b = 46 ∨ b = 61 ∨ b = 11 ∨ (16 ≤ b ∧ b ≤ 18) ∨ (23 ≤ b ∧ b ≤ 25) ∨ (33 ≤ b ∧ b ≤ 37) → N b j = M b j) : sd_se N 73 (N 61) ∧ (∀ k : Nat, k < 600 → N 46 k = N 61 (241 + k)) ∧ sd_wf (N 61) ∧ sd_LQ 1 61 N := by
  obtain ⟨h1, h2, h3, h4⟩ := h
  have w : N 61 = M 61 := funext fun j => e 61 j (by first | decide | omega)
  have m := h3.1
  rw [w]
  exact ⟨sd_se_cg h1 (fun b j q => e b j (by unfold pz_lb at q; first | decide | omega)) (by first | decide | omega), fun k hk => (e 46 k (by first | decide | omega)).trans (h2 k hk), h3, sd_LQ_cg h4 (fun b j y => e b j (by unfold pz_xcl at y; first | decide | omega)) (fun j _ => e 61 j (by first | decide | omega))⟩
theorem sd_RZ_cg {M N : pz_M} (h : sd_RZ M) (e : ∀ b j : Nat, sd_rz b j → N b j = M b j) : sd_RZ N := by
  obtain ⟨h1, ⟨h2, h3, h4⟩, h5, ⟨L, h6, h7⟩, h8⟩ := h
  have w : N 60 = M 60 := funext fun j => e 60 j (by unfold sd_rz; first | decide | omega)
  have m := h4.1
  refine ⟨?_, ?_, sd_LQ_cg h5 (fun b j y => e b j (by unfold pz_xcl at y; unfold sd_rz; omega)) (fun j _ => e 60 j (by unfold sd_rz; first | decide | omega)), ⟨L, sd_ck_cg h6 (fun b j y => e b j (by unfold sd_rz; first | decide | omega)), sd_mq_cg h7 (e 1 4 (by unfold sd_rz; first | decide | omega)) (fun j => e 62 j (by unfold sd_rz; first | decide | omega)) (fun j _ => e 60 j (by unfold sd_rz; first | decide | omega))⟩, sd_im_cg h8 (fun b j y => e b j (by unfold sd_rz; first | decide | omega))⟩
  · rw [e 71 0 (by unfold sd_rz; first | decide | omega), e 72 0 (by unfold sd_rz; first | decide | omega)]
    exact h1
  · rw [w]
    exact ⟨sd_se_cg h2 (fun b j q => e b j (by unfold pz_lb at q; unfold sd_rz; omega)) (by first | decide | omega), fun k hk => (e 45 k (by unfold sd_rz; first | decide | omega)).trans (h3 k hk), h4⟩
theorem pq_pr.gst {M M' : pz_M} (h : pq_pr pq_Pg M M') : pz_st M M' := ⟨⟨h.1, fun b j q => h.2 b j (by unfold pz_md pz_kx pz_mid at q; unfold pq_Pg pq_Pk pq_Pw; omega)⟩, h.2 4 1 (by unfold pq_Pg pq_Pk pq_Pw; first | decide | omega), h.2 5 9 (by unfold pq_Pg pq_Pk pq_Pw; first | decide | omega)⟩
theorem pz_rl.vsk {M M' : pz_M} (h : pz_rl pz_QV M M') : pz_sk M M' := (pz_rl.sm (by intro b j q; unfold pz_QV at q; unfold pz_mn pz_mid; omega) h).1
theorem pz_rl.xsk {M M' : pz_M} (h : pz_rl pz_QX M M') : pz_sk M M' := (pz_rl.sm (by intro b j q; unfold pz_QX at q; unfold pz_mn pz_mid; omega) h).1
theorem pz_rl.gsk {M M' : pz_M} (h : pz_rl pz_QG M M') : pz_sk M M' := (pz_rl.sm (by intro b j q; unfold pz_QG at q; unfold pz_mn pz_mid; omega) h).1
theorem pz_rl.ksk {M M' : pz_M} (h : pz_rl pz_QK M M') : pz_sk M M' := (pz_rl.sm (by intro b j q; unfold pz_QK at q; unfold pz_mn pz_mid; omega) h).1
theorem pz_RZ_k {M N : pz_M} (hI : pz_ic M) (h : pz_RZ M) (hs : pq_pr pq_Pk M N) : pz_RZ N := ⟨pz_RX_sW hI h.1 hs.kpg.gst.sw, sd_RZ_cg h.2 (fun b j y => hs.2 b j (by unfold sd_rz at y; unfold pq_Pk pq_Pw; omega))⟩
theorem pz_RZ_v {M N : pz_M} (h : pz_RZ M) (hs : pz_rl pz_QV M N) : pz_RZ N := ⟨pz_RX_sk h.1 hs.vsk, sd_RZ_cg h.2 (fun b j y => hs.2 b j (by unfold sd_rz at y; unfold pz_QV; omega))⟩
theorem pz_RZ_feed {M M1 M2 : pz_M} {p q w s u v v' : Int} (hI : pz_ic M) (hR : pz_RZ M) (h : (M 4 1 + 20 ≤ 400 ∧ v = M 4 1 + 20 ∧ M1 4 1 = M 4 1 + 20 ∧ pz_fb M M1 p q w s u) ∨ (¬ M 4 1 + 20 ≤ 400 ∧ v = -1 ∧ M1 = M)) (z : pq_pr pq_Pf M M1)
    (h' : (M1 1 16 + 20 ≤ 400 ∧ v' = M1 1 16 + 20 ∧ M2 1 16 = M1 1 16 + 20 ∧ pz_fm M1 M2 20 p q w s u) ∨ (¬ M1 1 16 + 20 ≤ 400 ∧ v' = -1 ∧ M2 = M1)) (z' : pz_rl pz_QF M1 M2) : v = v' ∧ pz_RZ M2 := by
  obtain ⟨e, r⟩ := pz_RX_feed hI hR.1 h z h' z'
  exact ⟨e, r, sd_RZ_cg hR.2 (fun b j y => (z'.2 b j (by unfold sd_rz at y; unfold pz_QF; omega)).trans (z.2 b j (by unfold sd_rz at y; unfold pq_Pf; omega)))⟩
def pq_Pe (b j : Nat) : Prop := b = 4 ∧ j = 1
def pz_QN (b j : Nat) : Prop := b = 1 ∧ j = 16
theorem pz_RZ_end {M M1 M2 : pz_M} {n v v' : Int} (hI : pz_ic M) (hR : pz_RZ M) (h : if 0 ≤ n ∧ n ≤ M 4 1 then v = 1 ∧ M1 4 1 = n else v = 0 ∧ M1 4 1 = M 4 1) (z : pq_pr pq_Pe M M1) (h' : if 0 ≤ n ∧ n ≤ M1 1 16 then v' = 1 ∧ M2 1 16 = n else v' = 0 ∧ M2 1 16 = M1 1 16) (z' : pz_rl pz_QN M1 M2) : v = v' ∧ pz_RZ M2 := by
  obtain ⟨e, r⟩ := pz_RX_end hI hR.1 h ⟨z.1, fun b j q => z.2 b j (by unfold pz_md pz_kx pz_mid at q; unfold pq_Pe; omega)⟩ h' ⟨z'.1, fun b j q => z'.2 b j (by unfold pz_mn pz_mid at q; unfold pz_QN; omega)⟩
  exact ⟨e, r, sd_RZ_cg hR.2 (fun b j y => (z'.2 b j (by unfold sd_rz at y; unfold pz_QN; omega)).trans (z.2 b j (by unfold sd_rz at y; unfold pq_Pe; omega)))⟩
/-- a deed, on both sides -/
theorem sd_RZ_d {M M1 M2 : pz_M} {G : Nat → Int} {L : List (Nat → Int)} (hR : sd_RZ M) (f1 : pq_pr pq_Pz M M1) (s : sd_se M1 71 G) (p : sd_pg M1 G) (w : sd_wf G) (k : sd_ck M1 L) (f2 : pz_rl pz_QX M1 M2) (e : M2 60 = G) (m : sd_mq M2 L) : sd_RZ M2 := by
  obtain ⟨h1, -, h5, -, h8⟩ := hR
  have c : ∀ b j : Nat, b ≠ 60 → b ≠ 68 → b ≠ 69 → b ≠ 62 → b ≠ 1 → M2 b j = M1 b j := fun b j q1 q2 q3 q4 q5 => f2.2 b j (by unfold pz_QX; first | decide | omega)
  have c1 : ∀ b j : Nat, ¬ pq_Pz b j → ¬ pz_QX b j → M2 b j = M b j := fun b j q1 q2 => (f2.2 b j q2).trans (f1.2 b j q1)
  have n9 := w.1
  refine ⟨?_, ?_, sd_LQ_cg h5 (fun b j y => c1 b j (by unfold pz_xcl at y; unfold pq_Pz pq_Pd pq_Pw pz_lb; omega) (by unfold pz_xcl at y; unfold pz_QX; omega)) (fun j y => c1 60 j (by unfold pq_Pz pq_Pd pq_Pw pz_lb; first | decide | omega) (by unfold pz_xv at y; unfold pz_QX; omega)), ⟨L, sd_ck_cg k (fun b j y => c b j (by first | decide | omega) (by first | decide | omega) (by first | decide | omega) (by first | decide | omega) (by first | decide | omega)), m⟩, sd_im_cg h8 (fun b j y => c1 b j (by unfold pq_Pz pq_Pd pq_Pw pz_lb; first | decide | omega) (by unfold pz_QX; first | decide | omega))⟩
  · rw [c1 71 0 (by unfold pq_Pz pq_Pd pq_Pw pz_lb; first | decide | omega) (by unfold pz_QX; first | decide | omega), c1 72 0 (by unfold pq_Pz pq_Pd pq_Pw pz_lb; first | decide | omega) (by unfold pz_QX; first | decide | omega)]
    exact h1
  · rw [e]
    exact ⟨sd_se_cg s (fun b j q => c b j (by unfold pz_lb at q; first | decide | omega) (by unfold pz_lb at q; first | decide | omega) (by unfold pz_lb at q; first | decide | omega) (by unfold pz_lb at q; first | decide | omega) (by unfold pz_lb at q; first | decide | omega)) (by first | decide | omega), fun k hk => (c 45 k (by first | decide | omega) (by first | decide | omega) (by first | decide | omega) (by first | decide | omega) (by first | decide | omega)).trans (p k hk), w⟩
theorem sd_sW_60 {M M1 : pz_M} (z : pz_sW M M1) {b : Nat} (hb : pz_mid b) : M1 b = M b := funext fun j => z.1.2.1 b j (Or.inl hb)
theorem pz_RZ_deed {M M1 M2 : pz_M} {v v' d : Int} {P : (Nat → Int) → Prop} {A : List pz_lne → (Nat → Int) → Int} {g : List pz_lne → (Nat → Int) → (Nat → Int)} (hI : pz_ic M) (h : pz_RZ M) (q : sd_da M M1 v d P A g) (z : pz_sW M M1) (q' : sd_ma M1 M2 v' d P A g) (z' : pz_rl pz_QX M1 M2) : v = v' ∧ pz_RZ M2 := by
  have r9 : pz_RX M2 := pz_RX_sk (pz_RX_sW hI h.1 z) z'.xsk
  obtain ⟨h1, ⟨h2, h3, h4⟩, h5, ⟨L, h6, h7⟩, h8⟩ := id h.2
  have w60 : M1 60 = M 60 := sd_sW_60 z (by unfold pz_mid; first | decide | omega)
  have w62 : M1 62 = M 62 := sd_sW_60 z (by unfold pz_mid; first | decide | omega)
  have w1 : M1 1 = M 1 := sd_sW_60 z (by unfold pz_mid; first | decide | omega)
  obtain ⟨a1, a2⟩ := q (M 60) h2 h4
  obtain ⟨b1, b2⟩ := q'
  rw [w60] at b1 b2
  by_cases hp : P (M 60)
  · obtain ⟨f, a3⟩ := a2 hp
    obtain ⟨ls, l1, t1, t2⟩ := sd_LQ_x h5
    obtain ⟨c1, c2, c3, c4⟩ := a3 ls l1 t1 h3 h1.1
    obtain ⟨⟨k4, kW⟩, b3⟩ := b2 hp
    obtain ⟨d1, d2⟩ := b3 ls t2.1 t2.2.1 h4
    have f1 : pq_pr pq_Pz M M1 := ⟨z.1.1, fun b j y => (f.2 b j (fun x => y (Or.inl x))).trans (sd_kf_o hI (fun x => y (Or.inr x)))⟩
    have k : sd_ck M1 ((M 60 :: L).take 6) := sd_ck_d (sd_ck_kf hI h6 h2 h4) f
    have m1 : sd_mq M1 L := sd_mq_cg h7 (congrFun w1 4) (congrFun w62) (fun j _ => congrFun w60 j)
    have m : sd_mq M2 ((M1 60 :: L).take 6) := sd_mq_k m1 h6.2.1 k4 kW (fun j j1 => z'.2 60 j (by unfold pz_QX; first | decide | omega))
    rw [w60] at m
    exact ⟨c1.trans d1.symm, r9, sd_RZ_d h.2 f1 c2 c3 c4 k z' d2 m⟩
  · obtain ⟨c1, c2⟩ := a1 hp
    obtain ⟨d1, d2⟩ := b1 hp
    refine ⟨c1.trans d1.symm, ?_⟩
    rw [d2, c2]
    exact h
theorem pz_RZ_days {M M1 M2 : pz_M} {n v v' : Int} (hI : pz_ic M) (h : pz_RZ M) (q : sd_dc M M1 n v) (z : pz_sW M M1) (q' : sd_dm M1 M2 n v') (z' : pz_rl pz_QX M1 M2) : v = v' ∧ pz_RZ M2 := by
  have r9 : pz_RX M2 := pz_RX_sk (pz_RX_sW hI h.1 z) z'.xsk
  obtain ⟨h1, ⟨h2, h3, h4⟩, h5, ⟨L, h6, h7⟩, h8⟩ := id h.2
  have w60 : M1 60 = M 60 := sd_sW_60 z (by unfold pz_mid; first | decide | omega)
  have w62 : M1 62 = M 62 := sd_sW_60 z (by unfold pz_mid; first | decide | omega)
  have w1 : M1 1 = M 1 := sd_sW_60 z (by unfold pz_mid; first | decide | omega)
  obtain ⟨a1, a2⟩ := q (M 60) h2 h4
  obtain ⟨b1, b2⟩ := q'
  rw [w60] at b1 b2
  by_cases hp : sd_dn (M 60) n
  · obtain ⟨f1, a3⟩ := a2 hp
    obtain ⟨ls, l1, t1, t2⟩ := sd_LQ_x h5
    obtain ⟨c1, c2, c3, c4, c5⟩ := a3 ls l1 L t1 h3 h1.1 h6
    have m1 : sd_mq M1 L := sd_mq_cg h7 (congrFun w1 4) (congrFun w62) (fun j _ => congrFun w60 j)
    obtain ⟨d1, d2, d3⟩ := b2 hp ls l1 L t2 h4 m1 h6.2.1
    exact ⟨c1.trans d1.symm, r9, sd_RZ_d h.2 f1 c2 c3 c4 c5 z' d2 d3⟩
  · obtain ⟨c1, c2⟩ := a1 hp
    obtain ⟨d1, d2⟩ := b1 hp
    refine ⟨c1.trans d1.symm, ?_⟩
    rw [d2, c2]
    exact h
theorem pz_RZ_state {M M1 M2 : pz_M} {n v v' : Int} (hI : pz_ic M) (h : pz_RZ M) (q : v = M 71 6 ∧ M1 = pz_u (pz_u M 71 6 n) 3 2 0) (z : pz_sW M M1) (q' : v' = M1 60 2 ∧ M2 = pz_u (pz_u M1 60 2 n) 1 4 0) (z' : pz_rl pz_QX M1 M2) : v = v' ∧ pz_RZ M2 := by
  have r9 : pz_RX M2 := pz_RX_sk (pz_RX_sW hI h.1 z) z'.xsk
  obtain ⟨h1, ⟨h2, h3, h4⟩, h5, -, h8⟩ := id h.2
  have w60 : M1 60 = M 60 := sd_sW_60 z (by unfold pz_mid; first | decide | omega)
  have n9 := h4.1
  have e : M2 60 = sd_u (M 60) 2 n := by
    rw [q'.2, sd_uo (by decide), sd_um, w60]
  refine ⟨?_, r9, sd_RZ_d (G := sd_u (M 60) 2 n) (L := []) h.2 ⟨z.1.1, fun b j y => ?_⟩ ?_ (fun k hk => ?_) (sd_wf_cg h4 (fun k hk => sd_un (by first | decide | omega)) (by rw [sd_un (by decide)]; exact h4.2.1)) (sd_ck_0 (by rw [q.2]; exact pz_uu)) z' e (sd_mq_0 (by rw [q'.2]; exact pz_uu))⟩
  · rw [q.1, q'.1, w60]
    exact h2.2.2.2.1
  · unfold pq_Pz pq_Pd pq_Pw at y
    rw [q.2, pz_una (by first | decide | omega), pz_une (by first | decide | omega)]
  · rw [q.2]
    exact sd_se_cg (sd_se_c (k := 2) (f := 6) (by first | decide | omega) h2 (by first | decide | omega) ⟨by decide, rfl⟩) (fun b j y => pz_una (by unfold pz_lb at y; first | decide | omega)) (by rw [sd_un (by decide)]; omega)
  · rw [q.2, pz_una (by decide), pz_una (by decide), sd_un (by first | decide | omega)]
    exact h3 k hk
theorem pz_RZ_undo {M M1 M2 : pz_M} {v v' : Int} (hI : pz_ic M) (h : pz_RZ M) (q : (M 3 2 = 0 ∧ v = 0 ∧ M1 = M) ∨ (M 3 2 ≠ 0 ∧ v = 1 ∧ M1 = pz_bf M)) (z : pz_sW M M1) (q' : (M1 1 4 = 0 ∧ v' = 0 ∧ M2 = M1) ∨ (M1 1 4 ≠ 0 ∧ v' = 1 ∧ M2 1 4 = M1 1 4 - 1 ∧ M2 60 = sd_kF M1 (M1 1 4 - 1).toNat)) (z' : pz_rl pz_QK M1 M2) : v = v' ∧ pz_RZ M2 := by
  have r9 : pz_RX M2 := pz_RX_sk (pz_RX_sW hI h.1 z) z'.ksk
  obtain ⟨h1, ⟨h2, h3, h4⟩, h5, ⟨L, h6, h7⟩, h8⟩ := id h.2
  have w60 : M1 60 = M 60 := sd_sW_60 z (by unfold pz_mid; first | decide | omega)
  have w62 : M1 62 = M 62 := sd_sW_60 z (by unfold pz_mid; first | decide | omega)
  have w1 : M1 1 4 = M 1 4 := congrFun (sd_sW_60 z (by unfold pz_mid; first | decide | omega)) 4
  have l1 := h6.1
  have l2 := h7.1
  rcases q with ⟨a1, a2, a3⟩ | ⟨a1, a2, a3⟩
  · rcases q' with ⟨b1, b2, b3⟩ | ⟨b1, b2, b3, b4⟩
    · refine ⟨by omega, ?_⟩
      rw [b3, a3]
      exact h
    · omega
  · rcases q' with ⟨b1, b2, b3⟩ | ⟨b1, b2, b3, b4⟩
    · omega
    · rcases L with _ | ⟨F, L⟩
      · have : (([] : List (Nat → Int)).length : Int) = 0 := rfl
        omega
      · obtain ⟨k1, k2, k3⟩ := sd_ck_bf hI h6
        rw [← a3] at k1 k2
        have m1 : sd_mq M1 (F :: L) := sd_mq_cg h7 w1 (congrFun w62) (fun j _ => congrFun w60 j)
        obtain ⟨m2, m3⟩ := sd_mq_u m1 b3 b4 (fun j => z'.2 62 j (by unfold pz_QK; first | decide | omega))
        have bo : ∀ b j : Nat, b ≠ 3 → ¬ (b = 71 ∧ 3 ≤ j ∧ j < 8) → b < 89 ∨ 101 ≤ b → M1 b j = M b j := fun b j y1 y2 y3 => by
          rw [a3]
          by_cases x : b = 71
          · rw [x]
            unfold pz_bf pz_tf pz_tn
            rw [if_neg (by unfold pz_lb; first | decide | omega), if_neg (by first | decide | omega), pz_una (by decide), pz_una (by decide)]
          · exact pz_bf_o (by first | decide | omega) x y3
        have c : ∀ b j : Nat, b ≠ 60 → b ≠ 1 → M2 b j = M1 b j := fun b j y1 y2 => z'.2 b j (by unfold pz_QK; first | decide | omega)
        have hi60 : ∀ j : Nat, 88 ≤ j → M2 60 j = M 60 j := fun j hj => (z'.2 60 j (by unfold pz_QK; first | decide | omega)).trans (congrFun w60 j)
        have n9 := k3.1
        refine ⟨by omega, r9, ?_, ⟨?_, fun k hk => ?_, ?_⟩, sd_LQ_cg h5 (fun b j y => (c b j (by unfold pz_xcl at y; first | decide | omega) (by unfold pz_xcl at y; first | decide | omega)).trans (bo b j (by unfold pz_xcl at y; first | decide | omega) (by unfold pz_xcl at y; first | decide | omega) (by unfold pz_xcl at y; first | decide | omega))) (fun j y => hi60 j (by unfold pz_xv at y; first | decide | omega)), ⟨L, sd_ck_cg k1 (fun b j y => c b j (by first | decide | omega) (by first | decide | omega)), m2⟩, sd_im_cg h8 (fun b j y => (c b j (by first | decide | omega) (by first | decide | omega)).trans (bo b j (by first | decide | omega) (by first | decide | omega) (by first | decide | omega)))⟩
        · rw [c 71 0 (by first | decide | omega) (by first | decide | omega), c 72 0 (by first | decide | omega) (by first | decide | omega), bo 71 0 (by first | decide | omega) (by first | decide | omega) (by first | decide | omega), bo 72 0 (by first | decide | omega) (by first | decide | omega) (by first | decide | omega)]
          exact h1
        · exact sd_se_f (sd_se_cg k2 (fun b j y => c b j (by unfold pz_lb at y; first | decide | omega) (by unfold pz_lb at y; first | decide | omega)) (by first | decide | omega)) (fun k hk => m3 k (by first | decide | omega)) (by first | decide | omega)
        · rw [c 45 k (by first | decide | omega) (by first | decide | omega), bo 45 k (by first | decide | omega) (by first | decide | omega) (by first | decide | omega), hi60 _ (by first | decide | omega)]
          exact h3 k hk
        · exact sd_wf_cg k3 (fun k hk => m3 k (by first | decide | omega)) (by rw [m3 3 (by first | decide | omega)]; exact k3.2.1)
end
