/-! the law's relation: the shape, the TAPE, what was wrong -/
theorem pz_QI_sq {M M' : pz_M} (h : pz_rl pz_QI M M') : pz_sq M M' := ⟨h.1, fun b j q => h.2 b j (by unfold pz_QI; unfold pz_mid at q; omega), h.2 1 16 (by unfold pz_QI; omega)⟩
def pz_tpc (b j : Nat) : Prop := (b = 4 ∧ j = 1) ∨ b = 48 ∨ (b = 5 ∧ (j = 3 ∨ j = 4)) ∨ (b = 1 ∧ (j = 16 ∨ j = 23 ∨ j = 25)) ∨ b = 67
def pz_TP (M : pz_M) : Prop := M 4 1 = M 1 16 ∧ ∀ k : Nat, (k : Int) < M 4 1 → (-128 ≤ M 48 k ∧ M 48 k ≤ 127) ∧ M 67 k = M 48 k % 256
def pz_FT (M : pz_M) : Prop := M 5 3 = M 1 23 ∧ M 5 4 = M 1 25
def pz_RV (M : pz_M) : Prop := pz_RS M ∧ pz_TP M ∧ pz_FT M
theorem pz_RT_of {M M2 : pz_M} (r : pz_RS M2) (h : pz_RV M) (e : ∀ b j, pz_tpc b j → M2 b j = M b j) : pz_RV M2 := by
  obtain ⟨-, ⟨t1, t2⟩, f1, f2⟩ := h
  refine ⟨r, ⟨?_, fun k hk => ?_⟩, ?_, ?_⟩
  · rw [e 4 1 (by unfold pz_tpc; omega), e 1 16 (by unfold pz_tpc; omega)]
    exact t1
  · rw [e 4 1 (by unfold pz_tpc; omega)] at hk
    rw [e 48 k (by unfold pz_tpc; omega), e 67 k (by unfold pz_tpc; omega)]
    exact t2 k hk
  · rw [e 5 3 (by unfold pz_tpc; omega), e 1 23 (by unfold pz_tpc; omega)]
    exact f1
  · rw [e 5 4 (by unfold pz_tpc; omega), e 1 25 (by unfold pz_tpc; omega)]
    exact f2
theorem pz_RT_sW {M M' : pz_M} (hI : pz_ic M) (h : pz_RV M) (hs : pz_sW M M') : pz_RV M' :=
  pz_RT_of (pz_RS_sx hI h.1 hs.1) h (fun b j q => by
    by_cases q4 : b = 4
    · have j1 : j = 1 := by unfold pz_tpc at q; omega
      rw [q4, j1]
      exact hs.2
    · exact hs.1.2.1 b j (by unfold pz_tpc at q; unfold pz_fy pz_mid; omega))
theorem pz_RT_sk {M M' : pz_M} (h : pz_RV M) (hs : pz_sk M M') : pz_RV M' :=
  pz_RT_of (pz_RS_sn h.1 hs.1) h (fun b j q => by
    by_cases q4 : b = 1 ∧ j = 16
    · rw [q4.1, q4.2]
      exact hs.2
    · exact hs.1.2 b j (by unfold pz_tpc at q; unfold pz_mn pz_mid; omega))
theorem pz_RT_link {M M1 M2 : pz_M} {p q w s v v' : Int} {C : Prop} (hI : pz_ic M) (hR : pz_RV M) (h : ((M 71 3 < 12 ∧ C) ∧ v = M 71 3 ∧ M1 = pz_lkf p q w s M) ∨ (¬ (M 71 3 < 12 ∧ C) ∧ v = -1 ∧ M1 = M)) (h' : ((M1 60 88 < 12 ∧ C) ∧ v' = M1 60 88 ∧ M2 = pz_lkm p q w s M1) ∨ (¬ (M1 60 88 < 12 ∧ C) ∧ v' = -1 ∧ M2 = M1)) : v = v' ∧ pz_RV M2 := by
  obtain ⟨e, r⟩ := pz_RS_link hI hR.1 h h'
  refine ⟨e, pz_RT_of r hR (fun b j y => ?_)⟩
  unfold pz_tpc at y
  have e1 : M1 b j = M b j := by
    rcases h with ⟨-, -, h⟩ | ⟨-, -, h⟩
    · rw [h]
      exact pz_lkf_o (by omega)
    · rw [h]
  rcases h' with ⟨-, -, h'⟩ | ⟨-, -, h'⟩
  · rw [h', pz_lkm_o (by omega) (by omega)]
    exact e1
  · rw [h']
    exact e1
theorem pz_RT_set {M M1 M2 : pz_M} {w i n v v' : Int} {C : Prop} (hC : C → 0 ≤ w ∧ w ≤ 4) (hI : pz_ic M) (hR : pz_RV M) (h : (((0 ≤ i ∧ i < M 71 3) ∧ C) ∧ v = 1 ∧ M1 = pz_u (pz_u M (89 + i.toNat) w.toNat n) 3 2 0) ∨ (¬ ((0 ≤ i ∧ i < M 71 3) ∧ C) ∧ v = 0 ∧ M1 = M)) (h' : (((0 ≤ i ∧ i < M1 60 88) ∧ C) ∧ v' = 1 ∧ M2 = pz_u (pz_u M1 60 (pz_bs w + i).toNat n) 1 4 0) ∨ (¬ ((0 ≤ i ∧ i < M1 60 88) ∧ C) ∧ v' = 0 ∧ M2 = M1)) : v = v' ∧ pz_RV M2 := by
  obtain ⟨e, r⟩ := pz_RS_set hC hI hR.1 h h'
  refine ⟨e, pz_RT_of r hR (fun b j y => ?_)⟩
  unfold pz_tpc at y
  have e1 : M1 b j = M b j := by
    rcases h with ⟨-, -, h⟩ | ⟨-, -, h⟩
    · rw [h, pz_una (by omega), pz_una (by omega)]
    · rw [h]
  rcases h' with ⟨-, -, h'⟩ | ⟨-, -, h'⟩
  · rw [h', pz_une (by omega), pz_una (by omega)]
    exact e1
  · rw [h']
    exact e1
theorem pz_xi_tp {c o : Nat} {M M1 : pz_M} {b j : Nat} (hc : c = 71 ∨ c = 73) (h : pz_xi c o M M1) (q : pz_tpc b j) : M1 b j = M b j := by
  by_cases q4 : b = 4
  · have j1 : j = 1 := by unfold pz_tpc at q; omega
    rw [q4, j1]
    exact h.2.2.1
  · unfold pz_tpc at q
    rw [h.2.1 b j (by unfold pz_mq0 pz_ko pz_mid; omega) (by omega) (by omega)]
    exact pz_tf_o (by omega) (by unfold pz_lb; omega)
theorem pz_RT_image {M M1 M2 : pz_M} {t v v' : Int} (hR : pz_RV M) (h : (t = 0 ∧ M 0 13 = 0 ∧ v = 0 ∧ M1 = M) ∨ (t ≠ 0 ∧ v = 1 ∧ M1 0 13 = 1 ∧ pz_xi 73 71 M M1) ∨ (t = 0 ∧ M 0 13 ≠ 0 ∧ v = 1 ∧ M1 0 13 = M 0 13 ∧ M1 3 2 = 0 ∧ pz_xi 71 73 M M1))
    (h' : (t = 0 ∧ M1 1 5 = 0 ∧ v' = 0 ∧ M2 = M1) ∨ ((t ≠ 0 ∨ M1 1 5 ≠ 0) ∧ v' = 1 ∧ M2 1 5 = 1 ∧ ((t = 0 → ∀ k : Nat, (k : Int) < 1725 → M2 60 k = M1 61 k) ∧ (t = 0 → ∀ k, M2 61 k = M1 61 k) ∧ (t ≠ 0 → ∀ k : Nat, (k : Int) < 1725 → M2 61 k = M1 60 k) ∧ (t ≠ 0 → ∀ k, M2 60 k = M1 60 k)))) (hq : pz_rl pz_QI M1 M2) : v = v' ∧ pz_RV M2 := by
  obtain ⟨e, r⟩ := pz_RS_image hR.1 h h' (pz_QI_sq hq)
  refine ⟨e, pz_RT_of r hR (fun b j y => ?_)⟩
  rw [hq.2 b j (by unfold pz_tpc at y; unfold pz_QI; omega)]
  rcases h with ⟨-, -, -, h⟩ | ⟨-, -, -, h⟩ | ⟨-, -, -, -, -, h⟩
  · rw [h]
  · exact pz_xi_tp (Or.inr rfl) h y
  · exact pz_xi_tp (Or.inl rfl) h y
theorem pz_RT_end {M M1 M2 : pz_M} {n v v' : Int} (hI : pz_ic M) (hR : pz_RV M) (h : if 0 ≤ n ∧ n ≤ M 4 1 then v = 1 ∧ M1 4 1 = n else v = 0 ∧ M1 4 1 = M 4 1) (z : pz_sy M M1) (h' : if 0 ≤ n ∧ n ≤ M1 1 16 then v' = 1 ∧ M2 1 16 = n else v' = 0 ∧ M2 1 16 = M1 1 16) (z' : pz_sn M1 M2) : v = v' ∧ pz_RV M2 := by
  obtain ⟨r, ⟨t1, t2⟩, f1, f2⟩ := hR
  have e : ∀ b j, pz_tpc b j → ¬ (b = 4 ∧ j = 1) → ¬ (b = 1 ∧ j = 16) → M2 b j = M b j := fun b j q q1 q2 => (z'.2 b j (by unfold pz_tpc at q; unfold pz_mn pz_mid; omega)).trans (z.2 b j (by unfold pz_tpc at q; unfold pz_md pz_kx pz_mid; omega))
  have r2 : pz_RS M2 := pz_RS_sn (pz_RS_sx hI r z.sx) z'
  have a : M2 4 1 = M1 4 1 := z'.2 4 1 (by unfold pz_mn pz_mid; omega)
  have a2 : M1 1 16 = M 1 16 := z.2 1 16 (by unfold pz_md pz_kx pz_mid; omega)
  have len : M2 4 1 = M2 1 16 ∧ M2 4 1 ≤ M 4 1 ∧ v = v' := by
    clear e r r2 t2 z z' f1 f2 hI
    (split at h <;> split at h') <;> omega
  refine ⟨len.2.2, r2, ⟨len.1, fun k hk => ?_⟩, ?_, ?_⟩
  · rw [e 48 k (by unfold pz_tpc; omega) (by omega) (by omega), e 67 k (by unfold pz_tpc; omega) (by omega) (by omega)]
    exact t2 k (by omega)
  · rw [e 5 3 (by unfold pz_tpc; omega) (by omega) (by omega), e 1 23 (by unfold pz_tpc; omega) (by omega) (by omega)]
    exact f1
  · rw [e 5 4 (by unfold pz_tpc; omega) (by omega) (by omega), e 1 25 (by unfold pz_tpc; omega) (by omega) (by omega)]
    exact f2
def pz_rsc (b j : Nat) : Prop := (j = 3 ∧ (b = 71 ∨ (73 ≤ b ∧ b < 80) ∨ (89 ≤ b ∧ b < 101) ∨ (115 ≤ b ∧ b < 127) ∨ (128 ≤ b ∧ b < 206))) ∨ ((b = 60 ∨ b = 61) ∧ (j = 88 ∨ (93 ≤ j ∧ j < 105))) ∨ (b = 0 ∧ j = 13) ∨ (b = 1 ∧ j = 5) ∨ b = 3
theorem pz_RS_cg {M M' : pz_M} (h : pz_RS M) (e : ∀ b j, pz_rsc b j → ¬ (b = 3 ∧ j = 2) → M' b j = M b j) (e2 : M' 3 2 = M 3 2 ∨ M' 3 2 = 0) : pz_RS M' := by
  obtain ⟨h1, h2, h3, h4, h5, h6⟩ := h
  refine ⟨?_, fun i hi => ?_, ?_, fun i hi => ?_, ?_, ?_⟩
  · rw [e 71 3 (by unfold pz_rsc; omega) (by omega), e 60 88 (by unfold pz_rsc; omega) (by omega)]; exact h1
  · rw [e (89 + i) 3 (by unfold pz_rsc; omega) (by omega), e 60 (93 + i) (by unfold pz_rsc; omega) (by omega)]; exact h2 i hi
  · rw [e 73 3 (by unfold pz_rsc; omega) (by omega), e 61 88 (by unfold pz_rsc; omega) (by omega)]; exact h3
  · rw [e (115 + i) 3 (by unfold pz_rsc; omega) (by omega), e 61 (93 + i) (by unfold pz_rsc; omega) (by omega)]; exact h4 i hi
  · rw [e 0 13 (by unfold pz_rsc; omega) (by omega), e 1 5 (by unfold pz_rsc; omega) (by omega)]; exact h5
  · rcases e2 with e2 | e2
    · refine pz_kep_cg (fun b j q => ?_) h6
      by_cases y : b = 3 ∧ j = 2
      · rw [y.1, y.2]
        exact e2
      · exact e b j (by unfold pz_rsc; omega) y
    · exact ⟨by omega, fun t ht => absurd ht (by omega)⟩
theorem pz_RT_feed {M M1 M2 : pz_M} {p q w s u v v' : Int} (hI : pz_ic M) (hR : pz_RV M) (h : (M 4 1 + 20 ≤ 400 ∧ v = M 4 1 + 20 ∧ M1 4 1 = M 4 1 + 20 ∧ pz_fb M M1 p q w s u) ∨ (¬ M 4 1 + 20 ≤ 400 ∧ v = -1 ∧ M1 = M)) (z : pq_pr pq_Pf M M1)
    (h' : (M1 1 16 + 20 ≤ 400 ∧ v' = M1 1 16 + 20 ∧ M2 1 16 = M1 1 16 + 20 ∧ pz_fm M1 M2 20 p q w s u) ∨ (¬ M1 1 16 + 20 ≤ 400 ∧ v' = -1 ∧ M2 = M1)) (z' : pz_rl pz_QF M1 M2) : v = v' ∧ pz_RV M2 := by
  have i4 := hI.2.2.2.2.1
  have a1 : M1 1 16 = M 1 16 := z.2 1 16 (by unfold pq_Pf; omega)
  have a4 : M2 4 1 = M1 4 1 := z'.2 4 1 (by unfold pz_QF; omega)
  have e : ∀ b j, ¬ pq_Pf b j → ¬ pz_QF b j → M2 b j = M b j := fun b j y y2 => (z'.2 b j y2).trans (z.2 b j y)
  have r2 : pz_RS M2 := pz_RS_cg hR.1 (fun b j y _ => e b j (by unfold pz_rsc at y; unfold pq_Pf; omega) (by unfold pz_rsc at y; unfold pz_QF; omega)) (Or.inl (e 3 2 (by unfold pq_Pf; omega) (by unfold pz_QF; omega)))
  obtain ⟨-, ⟨t1, t2⟩, f1, f2⟩ := id hR
  rcases h with ⟨b1, b2, b3, b4, b5⟩ | ⟨b1, b2, b3⟩
  · rcases h' with ⟨c1, c2, c3, c4, c5⟩ | ⟨c1, c2, c3⟩
    · refine ⟨by omega, r2, ⟨by omega, fun k hk => ?_⟩, ?_, ?_⟩
      · rw [z'.2 48 k (by unfold pz_QF; omega)]
        rcases Int.lt_or_le (k : Int) (M 4 1) with y | y
        · rw [b4 k y, c4 k (by omega), z.2 67 k (by unfold pq_Pf; omega)]
          exact t2 k y
        · have w1 := b5 (k - (M 4 1).toNat) (by omega)
          have w2 := c5 (k - (M 4 1).toNat) (by omega)
          rw [show (M 4 1).toNat + (k - (M 4 1).toNat) = k by omega] at w1
          rw [show (M1 1 16).toNat + (k - (M 4 1).toNat) = k by omega] at w2
          have w3 := pz_by8 (pz_sr (pz_sel (k - (M 4 1).toNat) p q w s u) (24 - 8 * (((k - (M 4 1).toNat) % 4 : Nat) : Int)))
          rw [w1, w2]
          exact ⟨⟨w3.1, w3.2.1⟩, w3.2.2⟩
      · rw [e 5 3 (by unfold pq_Pf; omega) (by unfold pz_QF; omega), e 1 23 (by unfold pq_Pf; omega) (by unfold pz_QF; omega)]
        exact f1
      · rw [e 5 4 (by unfold pq_Pf; omega) (by unfold pz_QF; omega), e 1 25 (by unfold pq_Pf; omega) (by unfold pz_QF; omega)]
        exact f2
    · omega
  · rcases h' with ⟨c1, c2, c3, c4, c5⟩ | ⟨c1, c2, c3⟩
    · omega
    · rw [c3, b3]
      exact ⟨by omega, hR⟩
theorem pz_agr_c {c : Nat} {T X T1 X1 T2 X2 : Nat → Int} (h : pz_agr c T X T1 X1) (h' : pz_agr c T X T2 X2) : pz_agr c T1 X1 T2 X2 :=
  ⟨((h.2 c (Nat.le_refl _)).1).trans h.1, fun k hk => ⟨((h'.2 k hk).1).trans ((h.2 k hk).1).symm, fun t => by
    have t1 : T k = 100 := ((h.2 k hk).1).symm.trans t
    rw [(h'.2 k hk).2 t1, (h.2 k hk).2 t1]⟩⟩
theorem pz_TP_byt {M : pz_M} (hI : pz_ic M) (h : pz_TP M) : pz_byt (M 48) (M 67) (M 4 1).toNat := by
  have i4 := hI.2.2.2.2.1
  exact fun k hk => ⟨(h.2 k (by omega)).1.1, (h.2 k (by omega)).1.2, (h.2 k (by omega)).2⟩
/-- what both have told -/
def pz_cmr (k : Int) (M M1 M2 : pz_M) : Prop := (∃ ls : List pz_lne, k = 0 ∧ (∃ T X : Nat → Int, pz_gl T X 0 0 (.ok ls)) ∧ pq_lt ls M1 ∧ (∀ b j : Nat, (13 ≤ b ∧ b ≤ 15) ∨ (20 ≤ b ∧ b ≤ 22) → M1 b j = M b j) ∧ pq_wlw ls (M2 60) ∧ ∀ j : Nat, ¬ pq_wf 0 j → M2 60 j = M1 60 j) ∨
  (∃ ls : List (List Int), (1 ≤ k ∧ k ≤ 3) ∧ pq_ok (M 71 3) k ls ∧ pq_rt k.toNat ls M1 ∧ (∀ b j : Nat, pq_xc b → b ≠ 12 + k.toNat → b ≠ 19 + k.toNat → M1 b j = M b j) ∧ pq_w3 k ls (M2 60) ∧ ∀ j : Nat, ¬ pq_wf k j → M2 60 j = M1 60 j) ∨ ((∀ b j : Nat, pq_xc b → M1 b j = M b j) ∧ ∀ j : Nat, M2 60 j = M1 60 j)
theorem pz_RT_cmp {M M1 M2 : pz_M} {k v v' : Int} (hI : pz_ic M) (hR : pz_RV M) (h : pq_te k (M 71 3) M M1 v) (z : pq_pr pq_Pt M M1) (h' : pq_tx k M1 M2 v') : v = v' ∧ M1 5 3 = M2 1 23 ∧ M1 5 4 = M2 1 25 ∧ pz_cmr k M M1 M2 := by
  have i4 := hI.2.2.2.2.1
  have by9 := pz_TP_byt hI hR.2.1
  have e67 : M1 67 = M 67 := funext fun j => z.2 67 j (by unfold pq_Pt; omega)
  have e16 : M1 1 16 = M 4 1 := (z.2 1 16 (by unfold pq_Pt; omega)).trans hR.2.1.1.symm
  have e88 : M1 60 88 = M 71 3 := (z.2 60 88 (by unfold pq_Pt; omega)).trans hR.1.1.symm
  have tT : pq_TM M1 = pz_T (M 67) (M 4 1).toNat := by
    unfold pq_TM
    rw [e67, e16]
  have tX : pq_XM M1 = pz_XV (M 67) (M 4 1).toNat := by
    unfold pq_XM
    rw [e67, e16]
  have tP : ∀ j, pq_PM M1 j = (pz_tp (M 48) (M 4 1).toNat j : Int) := fun j => by
    unfold pq_PM
    rw [e67, e16, pz_tp_cg by9 j]
  have tb : pz_tb M1 := fun i hi => by
    rw [e67, (hR.2.1.2 i (by rw [← e16]; exact hi)).2]
    exact Int.emod_nonneg _ (by decide)
  have ag : ∀ c, pz_T (M 48) (M 4 1).toNat c = 101 → pz_agr c (pz_T (M 48) (M 4 1).toNat) (pz_XV (M 48) (M 4 1).toNat) (pq_TM M1) (pq_XM M1) := fun c hc => ⟨hc, fun i _ => by
    rw [tT, tX]
    exact ⟨(pz_T_cg by9 i).symm, fun y => (pz_X_cg by9 y).symm⟩⟩
  obtain ⟨x1, x2, x3⟩ := h' tb
  obtain ⟨h1, h2, h3⟩ := h
  by_cases k0 : k = 0
  · obtain ⟨c, T, X, a, b⟩ := h1 k0
    have A := pz_agr_c a (ag c a.1)
    rcases b with ⟨ls, b1, b2, b3, b4, b5, b6⟩ | ⟨f, j, b1, b2, b3, b4, b5⟩
    · have D := pz_gl_det A b1 (Nat.zero_le _)
      rcases x1 k0 with ⟨ls', y1, y2, y3, y4, y5, y6⟩ | ⟨f', j', y1, y2, y3, y4, -⟩
      · have d := Sum.inl.inj (D _ y1)
        subst d
        subst k0
        exact ⟨by omega, by omega, by omega, Or.inl ⟨_, rfl, ⟨_, _, b1⟩, b5, b6, y5, y6⟩⟩
      · have d := D _ y1
        cases d
    · have D := pz_gl_det A b1 (Nat.zero_le _)
      rcases x1 k0 with ⟨ls', y1, y2, y3, y4, -⟩ | ⟨f', j', y1, y2, y3, y4, y5⟩
      · have d := D _ y1
        cases d
      · obtain ⟨d, d2⟩ := Prod.mk.inj (Sum.inr.inj (D _ y1))
        subst d
        subst d2
        rw [tP] at y4
        exact ⟨by omega, by omega, by omega, Or.inr (Or.inr ⟨b5, y5⟩)⟩
  · by_cases k3 : 1 ≤ k ∧ k ≤ 3
    · obtain ⟨c, T, X, a, b⟩ := h2 k3
      have A := pz_agr_c a (ag c a.1)
      have D := pz_gw_det (k := k) (n := M 71 3) A 16 0 (Nat.zero_le _)
      rw [← e88] at D
      rcases b with ⟨ls, b1, b2, b0, b3, b4, b5, b6⟩ | ⟨f, j, b1, b2, b3, b4, b5⟩
      · have ok := pq_ok_of k3 b1
        rw [← e88] at b1
        rw [b1] at D
        rcases x2 k3 with ⟨ls', y1, y2, y3, y4, y5, y6⟩ | ⟨f', j', y1, y2, y3, y4, -⟩
        · rw [y1] at D
          have d := Sum.inl.inj D
          subst d
          exact ⟨by omega, by omega, by omega, Or.inr (Or.inl ⟨_, k3, ok, b5, b6, y5, y6⟩)⟩
        · rw [y1] at D
          cases D
      · rw [← e88] at b1
        rw [b1] at D
        rcases x2 k3 with ⟨ls', y1, y2, y3, y4, -⟩ | ⟨f', j', y1, y2, y3, y4, y5⟩
        · rw [y1] at D
          cases D
        · rw [y1] at D
          obtain ⟨d, d2⟩ := Prod.mk.inj (Sum.inr.inj D)
          subst d
          subst d2
          rw [tP] at y4
          exact ⟨by omega, by omega, by omega, Or.inr (Or.inr ⟨b5, y5⟩)⟩
    · have b := h3 (by omega)
      have y := x3 (by omega)
      exact ⟨b.1.trans y.1.symm, b.2.1.trans y.2.1.symm, b.2.2.1.trans y.2.2.1.symm, Or.inr (Or.inr ⟨b.2.2.2, y.2.2.2⟩)⟩
theorem pz_RT_text {M M1 M2 : pz_M} {k v v' : Int} (hI : pz_ic M) (hR : pz_RV M) (h : pq_te k (M 71 3) M M1 v ∧ M1 4 1 = 0 ∧ (∀ j : Nat, j ≠ 2 → M1 3 j = M 3 j) ∧ (M1 3 2 = M 3 2 ∨ M1 3 2 = 0)) (z : pq_pr pq_Pt M M1) (h' : pq_tx k M1 M2 v' ∧ M2 1 16 = 0) (z' : pz_rl pz_QT M1 M2) : v = v' ∧ pz_RV M2 := by
  obtain ⟨a1, a2, a3, -⟩ := pz_RT_cmp hI hR h.1 z h'.1
  have k2 : M2 3 2 = M1 3 2 := z'.2 3 2 (by unfold pz_QT; omega)
  have r2 : pz_RS M2 := pz_RS_cg hR.1 (fun b j y y2 => (z'.2 b j (by unfold pz_rsc at y; unfold pz_QT; omega)).trans (z.2 b j (by unfold pz_rsc at y; unfold pq_Pt; omega))) (by rw [k2]; exact h.2.2.2)
  have f4 : M2 4 1 = M1 4 1 := z'.2 4 1 (by unfold pz_QT; omega)
  have f53 : M2 5 3 = M1 5 3 := z'.2 5 3 (by unfold pz_QT; omega)
  have f54 : M2 5 4 = M1 5 4 := z'.2 5 4 (by unfold pz_QT; omega)
  have h41 := h.2.1
  have h16 := h'.2
  exact ⟨a1, r2, ⟨by omega, fun i hi => absurd hi (by omega)⟩, by omega, by omega⟩
theorem pz_RT_fault {M : pz_M} {i v v' : Int} (hR : pz_RV M) (h : (i = 0 → v = M 5 3) ∧ (i = 1 → v = M 5 4) ∧ (¬ (i = 0 ∨ i = 1) → v = -1)) (h' : (i = 0 → v' = M 1 23) ∧ (i = 1 → v' = M 1 25) ∧ (¬ (i = 0 ∨ i = 1) → v' = -1)) : v = v' := by
  obtain ⟨f1, f2⟩ := hR.2.2
  omega
