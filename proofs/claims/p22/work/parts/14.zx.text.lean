section
/-! the TEXTS in the class and in w, the IMAGE's, too -/
/-- what THE LAW is -/
def pz_lok (ls : List pz_lne) : Prop := ls.length ≤ 16 ∧ (pz_fl (pz_catl ls)).length ≤ 400 ∧ ∃ T X : Nat → Int, pz_gl T X 0 0 (.ok ls)
def pq_ltx (t : Nat) (ls : List pz_lne) (N : pz_M) : Prop := N (10 + t) 0 = (ls.length : Int) ∧ N (10 + t) 1 = ((pz_fl (pz_catl ls)).length : Int) ∧ (∀ k : Nat, k < (pz_fl (pz_catl ls)).length → N (31 + 6 * t) k = (pz_fl (pz_catl ls)).getD k 0) ∧ ∀ k : Nat, k < ls.length → pq_l1 ls k (N (27 + 6 * t) k) (N (28 + 6 * t) k) (N (29 + 6 * t) k) (N (30 + 6 * t) k)
def pq_rtx (t k : Nat) (ls : List (List Int)) (N : pz_M) : Prop := N (12 + 3 * t + k) 0 = (ls.length : Int) ∧ ∀ r c : Nat, r < ls.length → c < 5 → N (19 + 3 * t + k) (5 * r + c) = pq_gl ls r c
def pz_XT (t a cc : Nat) (M : pz_M) : Prop := ∃ (ls : List pz_lne) (l1 l2 l3 : List (List Int)), (pq_ltx t ls M ∧ pq_wlw ls (M a) ∧ pz_lok ls) ∧ (pq_rtx t 1 l1 M ∧ pq_wp l1 (M a) ∧ pq_ok (M cc 3) 1 l1) ∧ (pq_rtx t 2 l2 M ∧ pq_wh l2 (M cc 3) (M a) ∧ pq_ok (M cc 3) 2 l2) ∧ (pq_rtx t 3 l3 M ∧ pq_wd l3 (M a) ∧ pq_ok (M cc 3) 3 l3)
def pz_xw (j : Nat) : Prop := (89 ≤ j ∧ j ≤ 92) ∨ (105 ≤ j ∧ j ≤ 240) ∨ 841 ≤ j
theorem pq_ltx_mv {t t' : Nat} {ls : List pz_lne} {M M' : pz_M} (k9 : pz_lok ls) (h : pq_ltx t ls M) (e10 : ∀ j : Nat, j < 2 → M' (10 + t') j = M (10 + t) j) (e27 : ∀ k j : Nat, k < 4 → j < 16 → M' (27 + 6 * t' + k) j = M (27 + 6 * t + k) j) (e31 : ∀ j : Nat, j < 400 → M' (31 + 6 * t') j = M (31 + 6 * t) j) : pq_ltx t' ls M' := by
  obtain ⟨h1, h2, h3, h4⟩ := h
  obtain ⟨k1, k2, -⟩ := k9
  refine ⟨by rw [e10 0 (by first | decide | omega)]; exact h1, by rw [e10 1 (by first | decide | omega)]; exact h2, fun k hk => by rw [e31 k (by first | decide | omega)]; exact h3 k hk, fun k hk => ?_⟩
  have a0 := e27 0 k (by first | decide | omega) (by first | decide | omega)
  have a1 := e27 1 k (by first | decide | omega) (by first | decide | omega)
  have a2 := e27 2 k (by first | decide | omega) (by first | decide | omega)
  have a3 := e27 3 k (by first | decide | omega) (by first | decide | omega)
  rw [show 27 + 6 * t' + 0 = 27 + 6 * t' by omega, show 27 + 6 * t + 0 = 27 + 6 * t by omega] at a0
  rw [show 27 + 6 * t' + 1 = 28 + 6 * t' by omega, show 27 + 6 * t + 1 = 28 + 6 * t by omega] at a1
  rw [show 27 + 6 * t' + 2 = 29 + 6 * t' by omega, show 27 + 6 * t + 2 = 29 + 6 * t by omega] at a2
  rw [show 27 + 6 * t' + 3 = 30 + 6 * t' by omega, show 27 + 6 * t + 3 = 30 + 6 * t by omega] at a3
  rw [a0, a1, a2, a3]
  exact h4 k hk
theorem pq_rtx_mv {t t' k : Nat} {ls : List (List Int)} {M M' : pz_M} (h16 : ls.length ≤ 16) (h : pq_rtx t k ls M) (e13 : M' (12 + 3 * t' + k) 0 = M (12 + 3 * t + k) 0) (e20 : ∀ j : Nat, j < 80 → M' (19 + 3 * t' + k) j = M (19 + 3 * t + k) j) : pq_rtx t' k ls M' :=
  ⟨e13.trans h.1, fun r c hr hc => (e20 _ (by first | decide | omega)).trans (h.2 r c hr hc)⟩
theorem pq_wl_mv {ls : List pz_lne} {f g : Nat → Int} (k9 : pz_lok ls) (h : pq_wlw ls f) (e : ∀ j : Nat, pq_wf 0 j → j < 1725 → g j = f j) : pq_wlw ls g := by
  obtain ⟨h1, h2, h3⟩ := h
  obtain ⟨k1, k2, -⟩ := k9
  have k3 := Nat.le_trans (pz_fl_le (o := pz_catl ls)) k2
  refine ⟨(e 89 (by unfold pq_wf; first | decide | omega) (by first | decide | omega)).trans h1, fun k hk => ?_, fun k hk => ?_⟩
  · rw [e _ (by unfold pq_wf; first | decide | omega) (by first | decide | omega), e _ (by unfold pq_wf; first | decide | omega) (by first | decide | omega), e _ (by unfold pq_wf; first | decide | omega) (by first | decide | omega), e _ (by unfold pq_wf; first | decide | omega) (by first | decide | omega)]
    exact h2 k hk
  · show g (905 + 2 * k) = _ ∧ (_ → g (905 + (2 * k + 1)) = _)
    rw [e _ (by unfold pq_wf; first | decide | omega) (by first | decide | omega), e _ (by unfold pq_wf; first | decide | omega) (by first | decide | omega)]
    exact h3 k hk
theorem pq_wp_mv {ls : List (List Int)} {f g : Nat → Int} (h16 : ls.length ≤ 16) (h : pq_wp ls f) (e : ∀ j : Nat, pq_wf 1 j → j < 1725 → g j = f j) : pq_wp ls g :=
  ⟨(e 90 (by unfold pq_wf; first | decide | omega) (by first | decide | omega)).trans h.1, fun r c hr hc => (e _ (by unfold pq_wf; first | decide | omega) (by first | decide | omega)).trans (h.2 r c hr hc)⟩
theorem pq_wd_mv {ls : List (List Int)} {f g : Nat → Int} (h16 : ls.length ≤ 16) (h : pq_wd ls f) (e : ∀ j : Nat, pq_wf 3 j → j < 1725 → g j = f j) : pq_wd ls g :=
  ⟨(e 92 (by unfold pq_wf; first | decide | omega) (by first | decide | omega)).trans h.1, fun r c hr hc => (e _ (by unfold pq_wf; first | decide | omega) (by first | decide | omega)).trans (h.2 r c hr hc)⟩
theorem pq_wh_mv {ls : List (List Int)} {n n' : Int} {f g : Nat → Int} (hn : n' = n) (h : pq_wh ls n f) (e : ∀ j : Nat, pq_wf 2 j → j < 1725 → g j = f j) : pq_wh ls n' g :=
  ⟨(e 91 (by unfold pq_wf; first | decide | omega) (by first | decide | omega)).trans h.1, fun i hi q => ⟨(e _ (by unfold pq_wf; first | decide | omega) (by first | decide | omega)).trans (h.2 i hi (by first | decide | omega)).1, (e _ (by unfold pq_wf; first | decide | omega) (by first | decide | omega)).trans (h.2 i hi (by first | decide | omega)).2⟩⟩
theorem pz_XT_mv {t a cc t' a' cc' : Nat} {M M' : pz_M} (h : pz_XT t a cc M) (e10 : ∀ j : Nat, j < 2 → M' (10 + t') j = M (10 + t) j) (e27 : ∀ k j : Nat, k < 4 → j < 16 → M' (27 + 6 * t' + k) j = M (27 + 6 * t + k) j) (e31 : ∀ j : Nat, j < 400 → M' (31 + 6 * t') j = M (31 + 6 * t) j) (e13 : ∀ k : Nat, 1 ≤ k → k < 4 → M' (12 + 3 * t' + k) 0 = M (12 + 3 * t + k) 0) (e20 : ∀ k j : Nat, 1 ≤ k → k < 4 → j < 80 → M' (19 + 3 * t' + k) j = M (19 + 3 * t + k) j) (e2 : ∀ j : Nat, pz_xw j → j < 1725 → M' a' j = M a j) (e3 : M' cc' 3 = M cc 3) : pz_XT t' a' cc' M' := by
  obtain ⟨ls, l1, l2, l3, ⟨x1, x2, x3⟩, ⟨p1, p2, p3⟩, ⟨h1, h2, h3⟩, ⟨d1, d2, d3⟩⟩ := h
  exact ⟨ls, l1, l2, l3, ⟨pq_ltx_mv x3 x1 e10 e27 e31, pq_wl_mv x3 x2 (fun j y => e2 j (by unfold pq_wf at y; unfold pz_xw; omega)), x3⟩, ⟨pq_rtx_mv p3.1 p1 (e13 1 (by first | decide | omega) (by first | decide | omega)) (fun j hj => e20 1 j (by first | decide | omega) (by first | decide | omega) hj), pq_wp_mv p3.1 p2 (fun j y => e2 j (by unfold pq_wf at y; unfold pz_xw; omega)), pq_ok_le p3 (by first | decide | omega)⟩, ⟨pq_rtx_mv h3.1 h1 (e13 2 (by first | decide | omega) (by first | decide | omega)) (fun j hj => e20 2 j (by first | decide | omega) (by first | decide | omega) hj), pq_wh_mv e3 h2 (fun j y => e2 j (by unfold pq_wf at y; unfold pz_xw; omega)), pq_ok_le h3 (by first | decide | omega)⟩, ⟨pq_rtx_mv d3.1 d1 (e13 3 (by first | decide | omega) (by first | decide | omega)) (fun j hj => e20 3 j (by first | decide | omega) (by first | decide | omega) hj), pq_wd_mv d3.1 d2 (fun j y => e2 j (by unfold pq_wf at y; unfold pz_xw; omega)), pq_ok_le d3 (by first | decide | omega)⟩⟩
/-- the cells of the TEXTS -/
def pz_xcl (t b : Nat) : Prop := b = 10 + t ∨ (27 + 6 * t ≤ b ∧ b ≤ 31 + 6 * t) ∨ (13 + 3 * t ≤ b ∧ b ≤ 15 + 3 * t) ∨ (20 + 3 * t ≤ b ∧ b ≤ 22 + 3 * t)
theorem pz_XT_cg {t a cc : Nat} {M M' : pz_M} (h : pz_XT t a cc M) (e : ∀ b j : Nat, pz_xcl t b → M' b j = M b j) (e2 : ∀ j : Nat, pz_xw j → M' a j = M a j) (e3 : M' cc 3 = M cc 3) : pz_XT t a cc M' :=
  pz_XT_mv h (fun j _ => e _ j (by unfold pz_xcl; first | decide | omega)) (fun k j hk _ => e _ j (by unfold pz_xcl; first | decide | omega)) (fun j _ => e _ j (by unfold pz_xcl; first | decide | omega)) (fun k hk hk2 => e _ _ (by unfold pz_xcl; first | decide | omega)) (fun k j hk hk2 _ => e _ j (by unfold pz_xcl; first | decide | omega)) (fun j y _ => e2 j y) e3
def pz_RX (M : pz_M) : Prop := pz_RV M ∧ pz_XT 0 60 71 M ∧ pz_XT 1 61 73 M
def pz_xtp (b j : Nat) : Prop := pz_xcl 0 b ∨ pz_xcl 1 b ∨ (b = 60 ∧ pz_xw j) ∨ b = 61 ∨ (b = 73 ∧ j = 3)
theorem pz_RX_of {M M2 : pz_M} (r : pz_RV M2) (h : pz_RX M) (e : ∀ b j, pz_xtp b j → M2 b j = M b j) (e3 : M2 71 3 = M 71 3) : pz_RX M2 :=
  ⟨r, pz_XT_cg h.2.1 (fun b j y => e b j (Or.inl y)) (fun j y => e 60 j (Or.inr (Or.inr (Or.inl ⟨rfl, y⟩)))) e3, pz_XT_cg h.2.2 (fun b j y => e b j (Or.inr (Or.inl y))) (fun j y => e 61 j (Or.inr (Or.inr (Or.inr (Or.inl rfl))))) (e 73 3 (Or.inr (Or.inr (Or.inr (Or.inr ⟨rfl, rfl⟩)))))⟩
theorem pz_RX_sW {M M' : pz_M} (hI : pz_ic M) (h : pz_RX M) (hs : pz_sW M M') : pz_RX M' := by
  have f := (hs.1.2.2 hI h.1.1.2.2.2.2.2).2 71 3 (by unfold pz_fz; first | decide | omega)
  exact pz_RX_of (pz_RT_sW hI h.1 hs) h (fun b j q => hs.1.2.1 b j (by unfold pz_xtp pz_xcl pz_xw at q; unfold pz_fy pz_mid; omega)) f
theorem pz_RX_sk {M M' : pz_M} (h : pz_RX M) (hs : pz_sk M M') : pz_RX M' :=
  pz_RX_of (pz_RT_sk h.1 hs) h (fun b j q => hs.1.2 b j (by unfold pz_xtp pz_xcl pz_xw at q; unfold pz_mn pz_mid; omega)) (hs.1.2 71 3 (by unfold pz_mn pz_mid; first | decide | omega))
theorem pz_RX_feed {M M1 M2 : pz_M} {p q w s u v v' : Int} (hI : pz_ic M) (hR : pz_RX M) (h : (M 4 1 + 20 ≤ 400 ∧ v = M 4 1 + 20 ∧ M1 4 1 = M 4 1 + 20 ∧ pz_fb M M1 p q w s u) ∨ (¬ M 4 1 + 20 ≤ 400 ∧ v = -1 ∧ M1 = M)) (z : pq_pr pq_Pf M M1)
    (h' : (M1 1 16 + 20 ≤ 400 ∧ v' = M1 1 16 + 20 ∧ M2 1 16 = M1 1 16 + 20 ∧ pz_fm M1 M2 20 p q w s u) ∨ (¬ M1 1 16 + 20 ≤ 400 ∧ v' = -1 ∧ M2 = M1)) (z' : pz_rl pz_QF M1 M2) : v = v' ∧ pz_RX M2 := by
  obtain ⟨e, r⟩ := pz_RT_feed hI hR.1 h z h' z'
  exact ⟨e, pz_RX_of r hR (fun b j q => (z'.2 b j (by unfold pz_xtp pz_xcl pz_xw at q; unfold pz_QF; omega)).trans (z.2 b j (by unfold pz_xtp pz_xcl pz_xw at q; unfold pq_Pf; omega))) (by rw [z'.2 71 3 (by unfold pz_QF; first | decide | omega), z.2 71 3 (by unfold pq_Pf; first | decide | omega)])⟩
theorem pz_RX_end {M M1 M2 : pz_M} {n v v' : Int} (hI : pz_ic M) (hR : pz_RX M) (h : if 0 ≤ n ∧ n ≤ M 4 1 then v = 1 ∧ M1 4 1 = n else v = 0 ∧ M1 4 1 = M 4 1) (z : pz_sy M M1) (h' : if 0 ≤ n ∧ n ≤ M1 1 16 then v' = 1 ∧ M2 1 16 = n else v' = 0 ∧ M2 1 16 = M1 1 16) (z' : pz_sn M1 M2) : v = v' ∧ pz_RX M2 := by
  obtain ⟨e, r⟩ := pz_RT_end hI hR.1 h z h' z'
  exact ⟨e, pz_RX_of r hR (fun b j q => (z'.2 b j (by unfold pz_xtp pz_xcl pz_xw at q; unfold pz_mn pz_mid; omega)).trans (z.2 b j (by unfold pz_xtp pz_xcl pz_xw at q; unfold pz_md pz_kx pz_mid; omega))) (by rw [z'.2 71 3 (by unfold pz_mn pz_mid; first | decide | omega), z.2 71 3 (by unfold pz_md pz_kx pz_mid; first | decide | omega)])⟩
theorem pz_RX_set {M M1 M2 : pz_M} {w i n v v' : Int} {C : Prop} (hC : C → 0 ≤ w ∧ w ≤ 4) (hI : pz_ic M) (hR : pz_RX M) (h : (((0 ≤ i ∧ i < M 71 3) ∧ C) ∧ v = 1 ∧ M1 = pz_u (pz_u M (89 + i.toNat) w.toNat n) 3 2 0) ∨ (¬ ((0 ≤ i ∧ i < M 71 3) ∧ C) ∧ v = 0 ∧ M1 = M)) (h' : (((0 ≤ i ∧ i < M1 60 88) ∧ C) ∧ v' = 1 ∧ M2 = pz_u (pz_u M1 60 (pz_bs w + i).toNat n) 1 4 0) ∨ (¬ ((0 ≤ i ∧ i < M1 60 88) ∧ C) ∧ v' = 0 ∧ M2 = M1)) : v = v' ∧ pz_RX M2 := by
  obtain ⟨e, r⟩ := pz_RT_set hC hI hR.1 h h'
  have i1 := hI.1 71 (by first | decide | omega) (by first | decide | omega)
  have e1 : ∀ b j, pz_xtp b j ∨ (b = 60 ∧ j = 88) ∨ (b = 71 ∧ j = 3) → M1 b j = M b j := fun b j y => by
    unfold pz_xtp pz_xcl pz_xw at y
    rcases h with ⟨⟨a, -⟩, -, h⟩ | ⟨-, -, h⟩
    · rw [h, pz_una (by first | decide | omega), pz_una (by first | decide | omega)]
    · rw [h]
  have e2 : ∀ b j, pz_xtp b j ∨ (b = 71 ∧ j = 3) → M2 b j = M1 b j := fun b j y => by
    have k := e1 60 88 (Or.inr (Or.inl ⟨rfl, rfl⟩))
    have k2 := hR.1.1.1
    rcases h' with ⟨⟨a, hc⟩, -, h'⟩ | ⟨-, -, h'⟩
    · have hb : (w = 3 ∧ pz_bs w = 93) ∨ (w ≠ 3 ∧ 4 ≤ pz_bs w ∧ pz_bs w ≤ 40) := by
        have := hC hc
        unfold pz_bs
        repeat' split
        all_goals omega
      unfold pz_xtp pz_xcl pz_xw at y
      rw [h', pz_une (by first | decide | omega), pz_une (by first | decide | omega)]
    · rw [h']
  exact ⟨e, pz_RX_of r hR (fun b j y => (e2 b j (Or.inl y)).trans (e1 b j (Or.inl y))) (by rw [e2 71 3 (Or.inr ⟨rfl, rfl⟩), e1 71 3 (Or.inr (Or.inr ⟨rfl, rfl⟩))])⟩
theorem pz_XT_lk {M M2 : pz_M} {N : Nat} (h : pz_XT 0 60 71 M) (hn : (N : Int) = M 71 3) (e : ∀ b j : Nat, pz_xcl 0 b → M2 b j = M b j) (e2 : ∀ j : Nat, pz_xw j → j ≠ 105 + 2 * N → j ≠ 106 + 2 * N → M2 60 j = M 60 j) (a : M2 60 (105 + 2 * N) = 0) (b : M2 60 (106 + 2 * N) = 240) (hN : N < 12) (e3 : M2 71 3 = M 71 3 + 1) : pz_XT 0 60 71 M2 := by
  obtain ⟨ls, l1, l2, l3, ⟨x1, x2, x3⟩, ⟨p1, p2, p3⟩, ⟨h1, h2, h3⟩, ⟨d1, d2, d3⟩⟩ := h
  refine ⟨ls, l1, l2, l3, ⟨pq_ltx_mv x3 x1 (fun j _ => e _ j (by unfold pz_xcl; first | decide | omega)) (fun k j hk _ => e _ j (by unfold pz_xcl; first | decide | omega)) (fun j _ => e _ j (by unfold pz_xcl; first | decide | omega)), pq_wl_mv x3 x2 (fun j y _ => e2 j (by unfold pq_wf at y; unfold pz_xw; omega) (by unfold pq_wf at y; first | decide | omega) (by unfold pq_wf at y; first | decide | omega)), x3⟩,
    ⟨pq_rtx_mv p3.1 p1 (e _ _ (by unfold pz_xcl; first | decide | omega)) (fun j _ => e _ j (by unfold pz_xcl; first | decide | omega)), pq_wp_mv p3.1 p2 (fun j y _ => e2 j (by unfold pq_wf at y; unfold pz_xw; omega) (by unfold pq_wf at y; first | decide | omega) (by unfold pq_wf at y; first | decide | omega)), pq_ok_le p3 (by first | decide | omega)⟩,
    ⟨pq_rtx_mv h3.1 h1 (e _ _ (by unfold pz_xcl; first | decide | omega)) (fun j _ => e _ j (by unfold pz_xcl; first | decide | omega)), ⟨(e2 91 (by unfold pz_xw; first | decide | omega) (by first | decide | omega) (by first | decide | omega)).trans h2.1, fun i hi q9 => ?_⟩, pq_ok_le h3 (by first | decide | omega)⟩,
    ⟨pq_rtx_mv d3.1 d1 (e _ _ (by unfold pz_xcl; first | decide | omega)) (fun j _ => e _ j (by unfold pz_xcl; first | decide | omega)), pq_wd_mv d3.1 d2 (fun j y _ => e2 j (by unfold pq_wf at y; unfold pz_xw; omega) (by unfold pq_wf at y; first | decide | omega) (by unfold pq_wf at y; first | decide | omega)), pq_ok_le d3 (by first | decide | omega)⟩⟩
  by_cases c : i = N
  · subst c
    have no : ∀ r, r < l2.length → pq_gl l2 r 0 ≠ (i : Int) := fun r hr => by
      have q := (h3.2 r hr).2.1 rfl
      show (l2.getD r []).getD 0 0 ≠ (i : Int)
      omega
    rw [a, b, pz_ph_n no, pz_ph_n no]
    exact ⟨rfl, rfl⟩
  · rw [e2 _ (by unfold pz_xw; first | decide | omega) (by first | decide | omega) (by first | decide | omega), e2 _ (by unfold pz_xw; first | decide | omega) (by first | decide | omega) (by first | decide | omega)]
    exact h2.2 i hi (by first | decide | omega)
theorem pz_RX_link {M M1 M2 : pz_M} {p q w s v v' : Int} {C : Prop} (hI : pz_ic M) (hR : pz_RX M) (h : ((M 71 3 < 12 ∧ C) ∧ v = M 71 3 ∧ M1 = pz_lkf p q w s M) ∨ (¬ (M 71 3 < 12 ∧ C) ∧ v = -1 ∧ M1 = M)) (h' : ((M1 60 88 < 12 ∧ C) ∧ v' = M1 60 88 ∧ M2 = pz_lkm p q w s M1) ∨ (¬ (M1 60 88 < 12 ∧ C) ∧ v' = -1 ∧ M2 = M1)) : v = v' ∧ pz_RX M2 := by
  obtain ⟨e, r⟩ := pz_RT_link hI hR.1 h h'
  refine ⟨e, ?_⟩
  have i1 := hI.1 71 (by first | decide | omega) (by first | decide | omega)
  have k2 := hR.1.1.1
  have e1 : ∀ b j, pz_xtp b j ∨ (b = 60 ∧ j = 88) → M1 b j = M b j := fun b j y => by
    unfold pz_xtp pz_xcl pz_xw at y
    rcases h with ⟨⟨a, -⟩, -, h⟩ | ⟨-, -, h⟩
    · rw [h]
      by_cases c : b = 73
      · rw [c]
        exact pz_lkf_o (by first | decide | omega)
      · exact pz_lkf_o (by first | decide | omega)
    · rw [h]
  have k := e1 60 88 (Or.inr ⟨rfl, rfl⟩)
  rcases h' with ⟨⟨a, c⟩, b, h'⟩ | ⟨a, b, h'⟩
  · rcases h with ⟨⟨a', -⟩, -, h⟩ | ⟨a', -, h⟩
    · have o : ∀ b j, b ≠ 60 → ¬ (b = 1 ∧ j = 4) → M2 b j = M1 b j := fun b j q q2 => by rw [h']; exact pz_lkm_o q q2
      have c3 : M2 71 3 = M 71 3 + 1 := by
        rw [o 71 3 (by first | decide | omega) (by first | decide | omega), h, pz_lkf_3 (by first | decide | omega) (by first | decide | omega) (by first | decide | omega), if_pos rfl]
      have f : ∀ j, pz_xw j → j ≠ 105 + 2 * (M 60 88).toNat → j ≠ 106 + 2 * (M 60 88).toNat → M2 60 j = M 60 j := fun j y y1 y2 => by
        rw [h']
        unfold pz_xw at y
        unfold pz_lkm
        rw [k, pz_una (by decide), pz_unk (by first | decide | omega), pz_unk (by first | decide | omega), pz_unk (by first | decide | omega), pz_unk (by first | decide | omega), pz_unk (by first | decide | omega), pz_unk (by first | decide | omega), pz_unk (by first | decide | omega), pz_unk (by first | decide | omega), pz_unk (by first | decide | omega), pz_unk (by first | decide | omega), pz_unk (by first | decide | omega)]
        exact e1 60 j (Or.inl (by unfold pz_xtp pz_xw; first | decide | omega))
      have g1 : M2 60 (105 + 2 * (M 60 88).toNat) = 0 := by
        rw [h']
        unfold pz_lkm
        rw [k, pz_una (by decide), pz_unk (by first | decide | omega), pz_unk (by first | decide | omega)]
        exact pz_uu
      have g2 : M2 60 (106 + 2 * (M 60 88).toNat) = 240 := by
        rw [h']
        unfold pz_lkm
        rw [k, pz_una (by decide), pz_unk (by first | decide | omega)]
        exact pz_uu
      refine ⟨r, pz_XT_lk (N := (M 60 88).toNat) hR.2.1 (by first | decide | omega) (fun b j y => ?_) f g1 g2 (by first | decide | omega) (by first | decide | omega), pz_XT_cg hR.2.2 (fun b j y => ?_) (fun j y => ?_) ?_⟩
      · have y9 := y
        unfold pz_xcl at y
        exact (o b j (by first | decide | omega) (by first | decide | omega)).trans (e1 b j (Or.inl (Or.inl y9)))
      · have y9 := y
        unfold pz_xcl at y
        exact (o b j (by first | decide | omega) (by first | decide | omega)).trans (e1 b j (Or.inl (Or.inr (Or.inl y9))))
      · exact (o 61 j (by first | decide | omega) (by first | decide | omega)).trans (e1 61 j (Or.inl (by unfold pz_xtp; first | decide | omega)))
      · rw [o 73 3 (by first | decide | omega) (by first | decide | omega), e1 73 3 (Or.inl (by unfold pz_xtp; first | decide | omega))]
    · exact absurd ⟨by omega, c⟩ a'
  · rcases h with ⟨⟨a', c⟩, -, h⟩ | ⟨a', -, h⟩
    · exact absurd ⟨by omega, c⟩ a
    · rw [h', h]
      exact hR
theorem pz_XT_img {d s t t' a a' cc cc' : Nat} {M M' : pz_M} (hd : d = 8 + t') (hs : s = 8 + t) (ht : t < 2) (ht' : t' < 2) (h : pz_XT t a cc M) (q : pz_Ti d s M M') (e2 : ∀ j : Nat, j < 1725 → M' a' j = M a j) (e3 : M' cc' 3 = M cc 3) : pz_XT t' a' cc' M' := by
  obtain ⟨q1, q2, q3, q4, q5, -⟩ := q
  subst hd
  subst hs
  refine pz_XT_mv h (fun j hj => ?_) (fun k j hk hj => ?_) (fun j hj => ?_) (fun k hk hk2 => ?_) (fun k j hk hk2 hj => ?_) (fun j _ hj => e2 j hj) e3
  · have x := q1 j hj
    rw [show 8 + t' + 2 = 10 + t' by omega, show 8 + t + 2 = 10 + t by omega] at x
    exact x
  · have x := q2 k j hk hj
    rw [show 27 + 6 * (8 + t' - 8) + k = 27 + 6 * t' + k by omega, show 27 + 6 * (8 + t - 8) + k = 27 + 6 * t + k by omega] at x
    exact x
  · have x := q3 j hj
    rw [show 31 + 6 * (8 + t' - 8) = 31 + 6 * t' by omega, show 31 + 6 * (8 + t - 8) = 31 + 6 * t by omega] at x
    exact x
  · have x := q4 (k - 1) (by first | decide | omega)
    rw [show 13 + 3 * (8 + t' - 8) + (k - 1) = 12 + 3 * t' + k by omega, show 13 + 3 * (8 + t - 8) + (k - 1) = 12 + 3 * t + k by omega] at x
    exact x
  · have x := q5 (k - 1) j (by first | decide | omega) hj
    rw [show 20 + 3 * (8 + t' - 8) + (k - 1) = 19 + 3 * t' + k by omega, show 20 + 3 * (8 + t - 8) + (k - 1) = 19 + 3 * t + k by omega] at x
    exact x
theorem pz_xi_md {c o : Nat} {M M1 : pz_M} {b j : Nat} (hc : c = 71 ∨ c = 73) (h : pz_xi c o M M1) (q : pz_mid b) : M1 b j = M b j := h.mid (by first | decide | omega) b j q
theorem pz_xi_n3 {c o : Nat} {M M1 : pz_M} (hc : c = 71 ∨ c = 73) (ho : 71 ≤ o ∧ o < 80) (h : pz_xi c o M M1) : M1 c 3 = M o 3 := by
  rw [h.2.1 c 3 (by unfold pz_mq0 pz_ko pz_mid; first | decide | omega) (by first | decide | omega) (by first | decide | omega)]
  exact pz_tf_k (by first | decide | omega) (by first | decide | omega)
theorem pz_RX_image {M M1 M2 : pz_M} {t v v' : Int} (hR : pz_RX M) (h : (t = 0 ∧ M 0 13 = 0 ∧ v = 0 ∧ M1 = M) ∨ ((t ≠ 0 ∧ v = 1 ∧ M1 0 13 = 1 ∧ pz_xi 73 71 M M1) ∧ pz_Ti 9 8 M M1) ∨ ((t = 0 ∧ M 0 13 ≠ 0 ∧ v = 1 ∧ M1 0 13 = M 0 13 ∧ M1 3 2 = 0 ∧ pz_xi 71 73 M M1) ∧ pz_Ti 8 9 M M1))
    (h' : (t = 0 ∧ M1 1 5 = 0 ∧ v' = 0 ∧ M2 = M1) ∨ ((t ≠ 0 ∨ M1 1 5 ≠ 0) ∧ v' = 1 ∧ M2 1 5 = 1 ∧ ((t = 0 → ∀ k : Nat, (k : Int) < 1725 → M2 60 k = M1 61 k) ∧ (t = 0 → ∀ k, M2 61 k = M1 61 k) ∧ (t ≠ 0 → ∀ k : Nat, (k : Int) < 1725 → M2 61 k = M1 60 k) ∧ (t ≠ 0 → ∀ k, M2 60 k = M1 60 k)))) (hq : pz_rl pz_QI M1 M2) : v = v' ∧ pz_RX M2 := by
  obtain ⟨e, r⟩ := pz_RT_image hR.1 (pz_img_x h) h' hq
  refine ⟨e, ?_⟩
  have m2 : ∀ b j, b ≠ 60 → b ≠ 61 → b ≠ 1 → M2 b j = M1 b j := fun b j y1 y2 y3 => hq.2 b j (by unfold pz_QI; first | decide | omega)
  rcases h with ⟨a1, a2, -, a3⟩ | ⟨⟨a1, -, -, a3⟩, a4⟩ | ⟨⟨a1, a2, -, -, -, a3⟩, a4⟩
  · rcases h' with ⟨-, -, -, b⟩ | ⟨b, -, -, -⟩
    · rw [b, a3]
      exact hR
    · rw [a3] at b
      have := hR.1.1.2.2.2.2.1
      omega
  · rcases h' with ⟨b, -, -, -⟩ | ⟨-, -, -, -, -, b3, b4⟩
    · exact absurd b a1
    · have n73 : M2 73 3 = M 71 3 := (m2 73 3 (by first | decide | omega) (by first | decide | omega) (by first | decide | omega)).trans (pz_xi_n3 (Or.inr rfl) (by first | decide | omega) a3)
      have n71 : M2 71 3 = M 71 3 := by
        rw [m2 71 3 (by first | decide | omega) (by first | decide | omega) (by first | decide | omega), a3.2.1 71 3 (by unfold pz_mq0 pz_ko pz_mid; first | decide | omega) (by first | decide | omega) (by first | decide | omega)]
        exact pz_tf_o (by first | decide | omega) (by unfold pz_lb; first | decide | omega)
      have w60 : ∀ j, M1 60 j = M 60 j := fun j => pz_xi_md (Or.inr rfl) a3 (by unfold pz_mid; first | decide | omega)
      have t2 : pz_Ti 9 8 M M2 := by
        obtain ⟨q1, q2, q3, q4, q5, q6⟩ := a4
        exact ⟨fun j hj => (m2 _ _ (by first | decide | omega) (by first | decide | omega) (by first | decide | omega)).trans (q1 j hj), fun k j hk hj => (m2 _ _ (by first | decide | omega) (by first | decide | omega) (by first | decide | omega)).trans (q2 k j hk hj), fun j hj => (m2 _ _ (by first | decide | omega) (by first | decide | omega) (by first | decide | omega)).trans (q3 j hj), fun k hk => (m2 _ _ (by first | decide | omega) (by first | decide | omega) (by first | decide | omega)).trans (q4 k hk), fun k j hk hj => (m2 _ _ (by first | decide | omega) (by first | decide | omega) (by first | decide | omega)).trans (q5 k j hk hj), fun b j y1 y2 y3 => (m2 _ _ (by first | decide | omega) (by first | decide | omega) (by first | decide | omega)).trans (q6 b j y1 y2 y3)⟩
      refine ⟨r, pz_XT_cg hR.2.1 (fun b j y => ?_) (fun j _ => ?_) n71, pz_XT_img (d := 9) (s := 8) (t := 0) (t' := 1) rfl rfl (by first | decide | omega) (by first | decide | omega) hR.2.1 t2 (fun j hj => ?_) n73⟩
      · unfold pz_xcl at y
        exact t2.2.2.2.2.2 b j (by first | decide | omega) (by first | decide | omega) (by unfold pz_td; first | decide | omega)
      · rw [b4 a1]
        exact w60 j
      · rw [b3 a1 j (by first | decide | omega)]
        exact w60 j
  · rcases h' with ⟨-, b, -, -⟩ | ⟨-, -, -, b3, b4, -, -⟩
    · have := hR.1.1.2.2.2.2.1
      have := pz_xi_md (j := 5) (Or.inl rfl) a3 (b := 1) (Or.inl rfl)
      omega
    · have n71 : M2 71 3 = M 73 3 := (m2 71 3 (by first | decide | omega) (by first | decide | omega) (by first | decide | omega)).trans (pz_xi_n3 (Or.inl rfl) (by first | decide | omega) a3)
      have n73 : M2 73 3 = M 73 3 := by
        rw [m2 73 3 (by first | decide | omega) (by first | decide | omega) (by first | decide | omega), a3.2.1 73 3 (by unfold pz_mq0 pz_ko pz_mid; first | decide | omega) (by first | decide | omega) (by first | decide | omega)]
        exact pz_tf_o (by first | decide | omega) (by unfold pz_lb; first | decide | omega)
      have w61 : ∀ j, M1 61 j = M 61 j := fun j => pz_xi_md (Or.inl rfl) a3 (by unfold pz_mid; first | decide | omega)
      have t2 : pz_Ti 8 9 M M2 := by
        obtain ⟨q1, q2, q3, q4, q5, q6⟩ := a4
        exact ⟨fun j hj => (m2 _ _ (by first | decide | omega) (by first | decide | omega) (by first | decide | omega)).trans (q1 j hj), fun k j hk hj => (m2 _ _ (by first | decide | omega) (by first | decide | omega) (by first | decide | omega)).trans (q2 k j hk hj), fun j hj => (m2 _ _ (by first | decide | omega) (by first | decide | omega) (by first | decide | omega)).trans (q3 j hj), fun k hk => (m2 _ _ (by first | decide | omega) (by first | decide | omega) (by first | decide | omega)).trans (q4 k hk), fun k j hk hj => (m2 _ _ (by first | decide | omega) (by first | decide | omega) (by first | decide | omega)).trans (q5 k j hk hj), fun b j y1 y2 y3 => (m2 _ _ (by first | decide | omega) (by first | decide | omega) (by first | decide | omega)).trans (q6 b j y1 y2 y3)⟩
      refine ⟨r, pz_XT_img (d := 8) (s := 9) (t := 1) (t' := 0) rfl rfl (by first | decide | omega) (by first | decide | omega) hR.2.2 t2 (fun j hj => ?_) n71, pz_XT_cg hR.2.2 (fun b j y => ?_) (fun j _ => ?_) n73⟩
      · rw [b3 a1 j (by first | decide | omega)]
        exact w61 j
      · unfold pz_xcl at y
        exact t2.2.2.2.2.2 b j (by first | decide | omega) (by first | decide | omega) (by unfold pz_td; first | decide | omega)
      · rw [b4 a1]
        exact w61 j
theorem pz_RX_text {M M1 M2 : pz_M} {k v v' : Int} (hI : pz_ic M) (hI1 : pz_ic M1) (hR : pz_RX M) (h : pq_te k (M 71 3) M M1 v ∧ M1 4 1 = 0 ∧ (∀ j : Nat, j ≠ 2 → M1 3 j = M 3 j) ∧ (M1 3 2 = M 3 2 ∨ M1 3 2 = 0)) (z : pq_pr pq_Pt M M1) (h' : pq_tx k M1 M2 v' ∧ M2 1 16 = 0) (z' : pz_rl pz_QT M1 M2) : v = v' ∧ pz_RX M2 := by
  obtain ⟨e, r⟩ := pz_RT_text hI hR.1 h z h' z'
  refine ⟨e, r, ?_, ?_⟩
  · have m2 : ∀ b j, pz_xcl 0 b → M2 b j = M1 b j := fun b j y => z'.2 b j (by unfold pz_xcl at y; unfold pz_QT; omega)
    have e60 : ∀ j, M1 60 j = M 60 j := fun j => z.2 60 j (by unfold pq_Pt; first | decide | omega)
    have n71 : M2 71 3 = M 71 3 := (z'.2 71 3 (by unfold pz_QT; first | decide | omega)).trans (z.2 71 3 (by unfold pq_Pt; first | decide | omega))
    obtain ⟨ls, l1, l2, l3, ⟨x1, x2, x3⟩, ⟨p1, p2, p3⟩, ⟨h1, h2, h3⟩, ⟨d1, d2, d3⟩⟩ := hR.2.1
    obtain ⟨-, -, -, c⟩ := pz_RT_cmp hI hR.1 h.1 z h'.1
    rcases c with ⟨ls', k0, g, ⟨c1, c2, c3, c4⟩, c5, c6, c7⟩ | ⟨lr, k3, c1, ⟨c2, c3⟩, c5, c6, c7⟩ | ⟨c1, c2⟩
    · have i1 := hI1.2.2.2.1 10 (by first | decide | omega) (by first | decide | omega)
      have fr : ∀ k : Int, k = 1 ∨ k = 2 ∨ k = 3 → ∀ j : Nat, pq_wf k j → j < 1725 → M2 60 j = M 60 j := fun k hk j y _ => (c7 j (by unfold pq_wf at y ⊢; omega)).trans (e60 j)
      have fc : ∀ b j, (13 ≤ b ∧ b ≤ 15) ∨ (20 ≤ b ∧ b ≤ 22) → M2 b j = M b j := fun b j y => (m2 b j (by unfold pz_xcl; first | decide | omega)).trans (c5 b j y)
      rw [← n71] at p3 h3 d3
      have x0 : pz_lok ls' := ⟨by omega, by omega, g⟩
      refine ⟨ls', l1, l2, l3, ⟨⟨?_, ?_, fun i hi => ?_, fun i hi => ?_⟩, c6, x0⟩, ⟨pq_rtx_mv p3.1 p1 (fc _ _ (by first | decide | omega)) (fun j _ => fc _ j (by first | decide | omega)), pq_wp_mv p3.1 p2 (fr 1 (by first | decide | omega)), p3⟩, ⟨pq_rtx_mv h3.1 h1 (fc _ _ (by first | decide | omega)) (fun j _ => fc _ j (by first | decide | omega)), pq_wh_mv n71 h2 (fr 2 (by first | decide | omega)), h3⟩, ⟨pq_rtx_mv d3.1 d1 (fc _ _ (by first | decide | omega)) (fun j _ => fc _ j (by first | decide | omega)), pq_wd_mv d3.1 d2 (fr 3 (by first | decide | omega)), d3⟩⟩
      · exact (m2 10 0 (by unfold pz_xcl; first | decide | omega)).trans c1
      · exact (m2 10 1 (by unfold pz_xcl; first | decide | omega)).trans c2
      · exact (m2 31 i (by unfold pz_xcl; first | decide | omega)).trans (c3 i hi)
      · show pq_l1 ls' i (M2 27 i) (M2 28 i) (M2 29 i) (M2 30 i)
        rw [m2 27 i (by unfold pz_xcl; first | decide | omega), m2 28 i (by unfold pz_xcl; first | decide | omega), m2 29 i (by unfold pz_xcl; first | decide | omega), m2 30 i (by unfold pz_xcl; first | decide | omega)]
        exact c4 i hi
    · have fr : ∀ k' : Int, k' ≠ k → 0 ≤ k' → ∀ j : Nat, pq_wf k' j → j < 1725 → M2 60 j = M 60 j := fun k' hk h0 j y _ => (c7 j (by unfold pq_wf at y ⊢; omega)).trans (e60 j)
      have fc : ∀ b j, pz_xcl 0 b → b ≠ 12 + k.toNat → b ≠ 19 + k.toNat → M2 b j = M b j := fun b j y y1 y2 => (m2 b j y).trans (c5 b j (by unfold pz_xcl at y; unfold pq_xc; omega) y1 y2)
      have new : pq_rtx 0 k.toNat lr M2 := by
        refine ⟨?_, fun a b ha hb => ?_⟩
        · rw [m2 _ _ (by unfold pz_xcl; first | decide | omega)]
          exact c2
        · rw [m2 _ _ (by unfold pz_xcl; first | decide | omega)]
          exact c3 a b ha hb
      rw [← n71] at p3 h3 d3 c1
      have X : pq_ltx 0 ls M2 ∧ pq_wlw ls (M2 60) ∧ pz_lok ls := ⟨pq_ltx_mv x3 x1 (fun j _ => fc _ j (by unfold pz_xcl; first | decide | omega) (by first | decide | omega) (by first | decide | omega)) (fun k j hk _ => fc _ j (by unfold pz_xcl; first | decide | omega) (by first | decide | omega) (by first | decide | omega)) (fun j _ => fc _ j (by unfold pz_xcl; first | decide | omega) (by first | decide | omega) (by first | decide | omega)), pq_wl_mv x3 x2 (fr 0 (by first | decide | omega) (by first | decide | omega)), x3⟩
      have P : k ≠ 1 → pq_rtx 0 1 l1 M2 ∧ pq_wp l1 (M2 60) ∧ pq_ok (M2 71 3) 1 l1 := fun y => ⟨pq_rtx_mv p3.1 p1 (fc _ _ (by unfold pz_xcl; first | decide | omega) (by first | decide | omega) (by first | decide | omega)) (fun j _ => fc _ j (by unfold pz_xcl; first | decide | omega) (by first | decide | omega) (by first | decide | omega)), pq_wp_mv p3.1 p2 (fr 1 (by first | decide | omega) (by first | decide | omega)), p3⟩
      have H : k ≠ 2 → pq_rtx 0 2 l2 M2 ∧ pq_wh l2 (M2 71 3) (M2 60) ∧ pq_ok (M2 71 3) 2 l2 := fun y => ⟨pq_rtx_mv h3.1 h1 (fc _ _ (by unfold pz_xcl; first | decide | omega) (by first | decide | omega) (by first | decide | omega)) (fun j _ => fc _ j (by unfold pz_xcl; first | decide | omega) (by first | decide | omega) (by first | decide | omega)), pq_wh_mv n71 h2 (fr 2 (by first | decide | omega) (by first | decide | omega)), h3⟩
      have D : k ≠ 3 → pq_rtx 0 3 l3 M2 ∧ pq_wd l3 (M2 60) ∧ pq_ok (M2 71 3) 3 l3 := fun y => ⟨pq_rtx_mv d3.1 d1 (fc _ _ (by unfold pz_xcl; first | decide | omega) (by first | decide | omega) (by first | decide | omega)) (fun j _ => fc _ j (by unfold pz_xcl; first | decide | omega) (by first | decide | omega) (by first | decide | omega)), pq_wd_mv d3.1 d2 (fr 3 (by first | decide | omega) (by first | decide | omega)), d3⟩
      have hk : k = 1 ∨ k = 2 ∨ k = 3 := by omega
      rcases hk with q | q | q
      · subst q
        exact ⟨ls, lr, l2, l3, X, ⟨new, c6.1 rfl, c1⟩, H (by decide), D (by decide)⟩
      · subst q
        exact ⟨ls, l1, lr, l3, X, P (by decide), ⟨new, c6.2.1 rfl _, c1⟩, D (by decide)⟩
      · subst q
        exact ⟨ls, l1, l2, lr, X, P (by decide), H (by decide), ⟨new, c6.2.2 rfl, c1⟩⟩
    · exact pz_XT_cg hR.2.1 (fun b j y => (m2 b j y).trans (c1 b j (by unfold pz_xcl at y; unfold pq_xc; omega))) (fun j _ => (c2 j).trans (e60 j)) n71
  · exact pz_XT_cg hR.2.2 (fun b j y => (z'.2 b j (by unfold pz_xcl at y; unfold pz_QT; omega)).trans (z.2 b j (by unfold pz_xcl at y; unfold pq_Pt; omega))) (fun j _ => (z'.2 61 j (by unfold pz_QT; first | decide | omega)).trans (z.2 61 j (by unfold pq_Pt; first | decide | omega))) (by rw [z'.2 73 3 (by unfold pz_QT; first | decide | omega), z.2 73 3 (by unfold pq_Pt; first | decide | omega)])
theorem pz_XT_rd {M : pz_M} (h : pz_XT 0 60 71 M) : pz_nrd M 8 = (M 60 92).toNat ∧ ∀ r, r < pz_nrd M 8 → (0 ≤ pz_grd M 8 r 0 ∧ pz_grd M 8 r 0 ≤ 999) ∧ (0 ≤ pz_grd M 8 r 1 ∧ pz_grd M 8 r 1 < M 71 3) ∧ pz_grd M 8 r 0 = pz_gmr M r 0 ∧ pz_grd M 8 r 1 = pz_gmr M r 1 := by
  obtain ⟨ls, l1, l2, l3, -, -, -, ⟨d1, d2, d3⟩⟩ := h
  have n1 : M 15 0 = (l3.length : Int) := d1.1
  have n : pz_nrd M 8 = l3.length := by
    show (M 15 0).toNat = l3.length
    omega
  have n2 := d2.1
  refine ⟨by omega, fun r hr => ?_⟩
  have g : ∀ c, c < 5 → pz_grd M 8 r c = pq_gl l3 r c := fun c hc => d1.2 r c (by first | decide | omega) hc
  have g' : ∀ c, c < 2 → pz_gmr M r c = pq_gl l3 r c := fun c hc => d2.2 r c (by first | decide | omega) hc
  have ok := (d3.2 r (by first | decide | omega)).2.2 rfl
  rw [g 0 (by first | decide | omega), g 1 (by first | decide | omega), g' 0 (by first | decide | omega), g' 1 (by first | decide | omega)]
  exact ⟨ok.1, ok.2, rfl, rfl⟩
theorem pz_RX_phone {M : pz_M} {i w v v' : Int} (hI : pz_ic M) (hR : pz_RX M) (h : pz_pn1 M i w v) (h' : pz_pn2 M i w v') : v = v' := by
  have i1 := hI.1 71 (by first | decide | omega) (by first | decide | omega)
  have k2 := hR.1.1.1
  obtain ⟨e, f⟩ := pz_XT_rd hR.2.1
  by_cases c : 0 ≤ i ∧ i < M 71 3
  · obtain ⟨a0, a1, a2, a3⟩ := h.2 c
    obtain ⟨b0, b1, b2, b3⟩ := h'.2 (by first | decide | omega)
    obtain ⟨ls, l1, l2, l3, -, -, ⟨h1, h2, h3⟩, -⟩ := hR.2.1
    have n1 : M 14 0 = (l2.length : Int) := h1.1
    have n : pz_nph M 8 = l2.length := by
      show (M 14 0).toNat = l2.length
      omega
    have g : ∀ r c, r < l2.length → c < 5 → pz_gph M 8 r c = pq_gl l2 r c := fun r c hr hc => h1.2 r c hr hc
    have w9 := h2.2 i.toNat (by first | decide | omega) (by first | decide | omega)
    rw [show ((i.toNat : Nat) : Int) = i by omega] at w9
    by_cases c0 : w = 0
    · rw [a0 c0, b0 c0, w9.1, n]
      exact pz_ph_cg (fun r hr => ⟨g r 0 hr (by first | decide | omega), g r 1 hr (by first | decide | omega)⟩)
    · by_cases c1 : w = 1
      · rw [a1 c1, b1 c1, w9.2, n]
        exact pz_ph_cg (fun r hr => ⟨g r 0 hr (by first | decide | omega), g r 2 hr (by first | decide | omega)⟩)
      · by_cases c2 : w = 2
        · rw [a2 c2, b2 c2, ← e, pz_rc0_d (lo := 0) (hi := 1000) _ (fun r hr => by have := f r hr; omega)]
          exact pz_rcd_cg _ (fun r hr => (f r hr).2.2)
        · exact (a3 (by first | decide | omega)).trans (b3 (by first | decide | omega)).symm
  · exact (h.1 c).trans (h'.1 (by first | decide | omega)).symm
theorem pz_RX_ill {M : pz_M} {a k v v' : Int} (hI : pz_ic M) (hR : pz_RX M) (h : pz_il1 M a k v) (h' : pz_il2 M a k v') : v = v' := by
  have i1 := hI.1 71 (by first | decide | omega) (by first | decide | omega)
  have k2 := hR.1.1.1
  obtain ⟨e, f⟩ := pz_XT_rd hR.2.1
  by_cases c : (0 ≤ a ∧ a ≤ 999) ∧ 1 ≤ k ∧ k ≤ 30
  · refine pz_sb_ext (h.2 c (fun r hr => by have := f r hr; omega)) (h'.2 c) (fun j => ?_)
    show (decide (j < (M 71 3).toNat) && !pz_wrt (pz_grd M 8) a (a + k - 1) j (pz_nrd M 8)) = (decide (j < (M 60 88).toNat) && pz_ilf M a (a + k - 1) j)
    have i := pz_wrt_d (g := pz_grd M 8) (lo := a) (hi := a + k - 1) (k := j) (pz_nrd M 8) (fun r hr => (f r hr).2.1.1)
    have z : pz_rcd (pz_grd M 8) j a (a + k - 1) (pz_nrd M 8) = pz_rcd (pz_gmr M) j a (a + k - 1) (M 60 92).toNat := by
      rw [← e]
      exact pz_rcd_cg _ (fun r hr => (f r hr).2.2)
    rw [z] at i
    rw [k2]
    congr 1
    unfold pz_ilf
    by_cases q : pz_rcd (pz_gmr M) j a (a + k - 1) (M 60 92).toNat = 0
    · rw [decide_eq_true q, Bool.eq_false_iff.mpr (fun y => (i.mp y) q)]
      rfl
    · rw [decide_eq_false q, i.mpr q]
      rfl
  · exact (h.1 c).trans (h'.1 c).symm
theorem pz_RX_wrote {M : pz_M} {v v' : Int} (hI : pz_ic M) (hR : pz_RX M) (h : pz_wr1 M v) (h' : pz_wr2 M v') : v = v' := by
  have i1 := hI.1 71 (by first | decide | omega) (by first | decide | omega)
  have k2 := hR.1.1.1
  obtain ⟨e, f⟩ := pz_XT_rd hR.2.1
  by_cases c : M 71 3 < 2
  · exact (h.1 c).trans (h'.1 (by first | decide | omega)).symm
  · rw [h.2 (by first | decide | omega) (fun r hr => by have := f r hr; omega), h'.2 (by first | decide | omega)]
    congr 1
    refine (pz_am_cg 99 (fun d _ => ?_)).1
    show pz_ev (pz_grd M 8) (pz_nrd M 8) (M 71 3).toNat (d : Int) = pz_ev (pz_gmr M) (M 60 92).toNat (M 60 88).toNat (d : Int)
    unfold pz_ev
    rw [k2]
    have q : pz_cnt (fun k => decide (pz_rcd (pz_grd M 8) k 0 d (pz_nrd M 8) ≠ 0)) (M 60 88).toNat = pz_cnt (fun k => decide (pz_rcd (pz_gmr M) k 0 d (M 60 92).toNat ≠ 0)) (M 60 88).toNat := pz_cnt_cg _ (fun k _ => by
      show decide (pz_rcd (pz_grd M 8) k 0 d (pz_nrd M 8) ≠ 0) = decide (pz_rcd (pz_gmr M) k 0 d (M 60 92).toNat ≠ 0)
      rw [← e, pz_rcd_cg (g := pz_grd M 8) (g' := pz_gmr M) _ (fun r hr => (f r hr).2.2)])
    rw [q]
end
section
/-! what a law's steps come to -/
def pv_un (o x t : Int) : Int := if o = 26 then pz_w (t.tdiv x) else pz_w (1 - t)
def pv_bi (o a b : Int) : Int := if o = 23 then pz_w (a + b) else if o = 24 then pz_w (a - b) else if o = 25 then pz_w (a * b) else if o = 27 then (if a < b then 1 else 0) else if o = 28 then (if a = b then 1 else 0) else if o = 29 then (if b < a then 1 else 0) else if o = 31 then (Int32.ofInt a &&& Int32.ofInt b).toInt else (Int32.ofInt a ||| Int32.ofInt b).toInt
def pv_s (F : Int → Int) (q : Int × Int) (st : List Int) : List Int := if q.1 = 0 then q.2 :: st else if q.1 < 10 then F q.1 :: st else if q.1 = 26 ∨ q.1 = 30 then pv_un q.1 q.2 (st.headD 0) :: st.tail else pv_bi q.1 (st.tail.headD 0) (st.headD 0) :: st.tail.tail
def pv_e (F : Int → Int) : List (Int × Int) → List Int → List Int
  | [], st => st
  | q :: o, st => pv_e F o (pv_s F q st)
def pv (F : Int → Int) (o : List (Int × Int)) : Int := (pv_e F o []).headD 0
theorem pv_e_app {F : Int → Int} {o p : List (Int × Int)} : ∀ st, pv_e F (o ++ p) st = pv_e F p (pv_e F o st) := by
  induction o with
  | nil => intro st; rfl
  | cons q o ih => intro st; exact ih _
/-- the steps from a depth on: operands enough, never too deep -/
def pv_2 (o : Int) : Prop := o = 23 ∨ o = 24 ∨ o = 25 ∨ o = 27 ∨ o = 28 ∨ o = 29 ∨ o = 31 ∨ o = 32
def pv_ok : List (Int × Int) → Nat → Prop
  | [], _ => True
  | q :: o, h => (q.1 = 0 ∧ 0 ≤ q.2 ∧ h < 60 ∧ pv_ok o (h + 1)) ∨ (1 ≤ q.1 ∧ q.1 < 10 ∧ h < 60 ∧ pv_ok o (h + 1)) ∨ (q.1 = 26 ∧ 0 < q.2 ∧ 1 ≤ h ∧ h < 60 ∧ pv_ok o h) ∨ (q.1 = 30 ∧ 1 ≤ h ∧ pv_ok o h) ∨ (pv_2 q.1 ∧ 2 ≤ h ∧ pv_ok o (h - 1))
def pv_gv (b : Nat) (o : List (Int × Int)) : Prop := ∀ rest h, h + b ≤ 60 → pv_ok rest (h + 1) → pv_ok (o ++ rest) h
def pv_gb (b : Nat) (o : List (Int × Int)) : Prop := ∀ rest h, h + b ≤ 60 → pv_ok rest (h + 1) → pv_ok (o ++ rest) (h + 1)
theorem pv_gv_le {a c : Nat} {o : List (Int × Int)} (x : pv_gv a o) (h : a ≤ c) : pv_gv c o := fun rest h' hb hr => x rest h' (by first | decide | omega) hr
theorem pv_gb_0 {c : Nat} : pv_gb c [] := fun _ _ _ hr => hr
theorem pv_gv_b {a b c : Nat} {o p : List (Int × Int)} (x : pv_gv a o) (y : pv_gb b p) (h1 : a ≤ c) (h2 : b ≤ c) : pv_gv c (o ++ p) := fun rest h hb hr => by
  rw [List.append_assoc]
  exact x _ h (by first | decide | omega) (y rest h (by first | decide | omega) hr)
theorem pv_gb_v {a b c : Nat} {o p : List (Int × Int)} {t : Int} (x : pv_gv a o) (ht : pv_2 t) (y : pv_gb b p) (h1 : a + 1 ≤ c) (h2 : b ≤ c) : pv_gb c ((o ++ [(t, 0)]) ++ p) := fun rest h hb hr => by
  rw [List.append_assoc, List.append_assoc]
  exact x _ (h + 1) (by first | decide | omega) (Or.inr (Or.inr (Or.inr (Or.inr ⟨ht, by omega, y rest h (by first | decide | omega) hr⟩))))
theorem pv_gv_2 {a b c : Nat} {o p : List (Int × Int)} {t : Int} (x : pv_gv a o) (y : pv_gv b p) (ht : pv_2 t) (h1 : a ≤ c) (h2 : b + 1 ≤ c) : pv_gv c (o ++ p ++ [(t, 0)]) := fun rest h hb hr => by
  rw [List.append_assoc, List.append_assoc]
  exact x _ h (by first | decide | omega) (y _ (h + 1) (by first | decide | omega) (Or.inr (Or.inr (Or.inr (Or.inr ⟨ht, by omega, hr⟩)))))
theorem pv_gv_n {a c : Nat} {o : List (Int × Int)} (x : pv_gv a o) (h1 : a ≤ c) : pv_gv c (o ++ [(30, 0)]) := fun rest h hb hr => by
  rw [List.append_assoc]
  exact x _ h (by first | decide | omega) (Or.inr (Or.inr (Or.inr (Or.inl ⟨rfl, by omega, hr⟩))))
theorem pv_gb_d {b c : Nat} {p : List (Int × Int)} {x : Int} (hx : 0 < x) (y : pv_gb b p) (h1 : 2 ≤ c) (h2 : b ≤ c) : pv_gb c ([(26, x)] ++ p) := fun rest h hb hr => Or.inr (Or.inr (Or.inl ⟨rfl, hx, by omega, by omega, y rest h (by first | decide | omega) hr⟩))
theorem pv_gv_u {T X : Nat → Int} {i j : Nat} {o : List (Int × Int)} (hX : ∀ i, T i = 100 → 0 ≤ X i) (h : pz_uf T X i = .ok j o) : pv_gv 1 o := by
  unfold pz_uf at h
  split at h
  · cases h
    exact fun rest h hb hr => Or.inl ⟨rfl, hX i (by assumption), by omega, hr⟩
  · split at h
    · cases h
      exact fun rest h hb hr => Or.inr (Or.inl ⟨by show 1 ≤ T i - 7; omega, by show T i - 7 < 10; omega, by omega, hr⟩)
    · cases h
/-- one number comes of it; of a test 0 or 1 -/
def pv_vv (t : Prop) (o : List (Int × Int)) : Prop := ∀ F : Int → Int, ∃ z : Int, (t → z = 0 ∨ z = 1) ∧ ∀ st, pv_e F o st = z :: st
def pv_vb (t : Prop) (o : List (Int × Int)) : Prop := ∀ (F : Int → Int) (x : Int), ∃ z : Int, (t → x = 0 ∨ x = 1 → z = 0 ∨ z = 1) ∧ ∀ st, pv_e F o (x :: st) = z :: st
theorem pv_vb_0 {t : Prop} : pv_vb t [] := fun _ x => ⟨x, fun _ h => h, fun _ => rfl⟩
theorem pv_vv_b {t : Prop} {o p : List (Int × Int)} (x : pv_vv t o) (y : pv_vb t p) : pv_vv t (o ++ p) := fun F => by
  obtain ⟨a, a1, a2⟩ := x F
  obtain ⟨b, b1, b2⟩ := y F a
  exact ⟨b, fun q => b1 q (a1 q), fun st => by rw [pv_e_app, a2, b2]⟩
theorem pv_s2 {F : Int → Int} {t a b : Int} {st : List Int} (ht : pv_2 t) : pv_s F (t, 0) (b :: a :: st) = pv_bi t a b :: st := by
  unfold pv_s
  unfold pv_2 at ht
  have e : (t, (0 : Int)).1 = t := rfl
  rw [e, if_neg (by first | decide | omega), if_neg (by first | decide | omega), if_neg (by first | decide | omega)]
  rfl
theorem pv_vb_v {t : Prop} {o p : List (Int × Int)} {u : Int} (hu : pv_2 u) (hb : t → ∀ a b : Int, (a = 0 ∨ a = 1) → (b = 0 ∨ b = 1) → pv_bi u a b = 0 ∨ pv_bi u a b = 1) (x : pv_vv t o) (y : pv_vb t p) : pv_vb t ((o ++ [(u, 0)]) ++ p) := fun F x0 => by
  obtain ⟨a, a1, a2⟩ := x F
  obtain ⟨b, b1, b2⟩ := y F (pv_bi u x0 a)
  refine ⟨b, fun q h => b1 q (hb q x0 a h (a1 q)), fun st => ?_⟩
  rw [pv_e_app, pv_e_app, a2]
  show pv_e F p (pv_s F (u, 0) (a :: x0 :: st)) = _
  rw [pv_s2 hu, b2]
theorem pv_vv_2 {t t' : Prop} {o p : List (Int × Int)} {u : Int} (hu : pv_2 u) (hb : ∀ a b : Int, pv_bi u a b = 0 ∨ pv_bi u a b = 1) (x : pv_vv t o) (y : pv_vv t p) : pv_vv t' (o ++ p ++ [(u, 0)]) := fun F => by
  obtain ⟨a, a1, a2⟩ := x F
  obtain ⟨b, b1, b2⟩ := y F
  refine ⟨pv_bi u a b, fun _ => hb a b, fun st => ?_⟩
  rw [pv_e_app, pv_e_app, a2, b2]
  show pv_s F (u, 0) (b :: a :: st) = _
  rw [pv_s2 hu]
theorem pv_vv_n {t : Prop} {o : List (Int × Int)} (x : pv_vv t o) : pv_vv t (o ++ [(30, 0)]) := fun F => by
  obtain ⟨a, a1, a2⟩ := x F
  refine ⟨pz_w (1 - a), fun q => ?_, fun st => ?_⟩
  · rcases a1 q with h | h <;> rw [h] <;> first | exact Or.inl rfl | exact Or.inr rfl
  · rw [pv_e_app, a2]
    rfl
theorem pv_vb_d {t : Prop} {p : List (Int × Int)} {x : Int} (ht : ¬ t) (y : pv_vb t p) : pv_vb t ([(26, x)] ++ p) := fun F x0 => by
  obtain ⟨b, b1, b2⟩ := y F (pv_un 26 x x0)
  exact ⟨b, fun q => absurd q ht, fun st => b2 st⟩
theorem pv_vv_u {T X : Nat → Int} {i j : Nat} {t : Prop} {o : List (Int × Int)} (ht : ¬ t) (h : pz_uf T X i = .ok j o) : pv_vv t o := by
  unfold pz_uf at h
  split at h
  · cases h
    exact fun F => ⟨X i, fun q => absurd q ht, fun st => rfl⟩
  · split at h
    · cases h
      refine fun F => ⟨F (T i - 7), fun q => absurd q ht, fun st => ?_⟩
      show pv_s F (T i - 7, 0) st = _
      unfold pv_s
      have e : (T i - 7, (0 : Int)).1 = T i - 7 := rfl
      rw [e, if_neg (by first | decide | omega), if_pos (by first | decide | omega)]
    · cases h
theorem pv_an {a b : Int} (ha : a = 0 ∨ a = 1) (hb : b = 0 ∨ b = 1) : (pv_bi 31 a b = 0 ∨ pv_bi 31 a b = 1) ∧ (pv_bi 32 a b = 0 ∨ pv_bi 32 a b = 1) := by
  rcases ha with rfl | rfl <;> rcases hb with rfl | rfl <;> decide +kernel
theorem pv_cm3 {u a b : Int} (h : u = 27 ∨ u = 28 ∨ u = 29) : pv_bi u a b = 0 ∨ pv_bi u a b = 1 := by
  unfold pv_bi
  rcases h with rfl | rfl | rfl
  · rw [if_neg (by decide), if_neg (by decide), if_neg (by decide), if_pos rfl]
    split
    · exact Or.inr rfl
    · exact Or.inl rfl
  · rw [if_neg (by decide), if_neg (by decide), if_neg (by decide), if_neg (by decide), if_pos rfl]
    split
    · exact Or.inr rfl
    · exact Or.inl rfl
  · rw [if_neg (by decide), if_neg (by decide), if_neg (by decide), if_neg (by decide), if_neg (by decide), if_pos rfl]
    split
    · exact Or.inr rfl
    · exact Or.inl rfl
theorem pv_op43 {t : Int} (h : t = 43 ∨ t = 45) : pv_2 (pz_op t) := by
  rcases h with rfl | rfl
  · exact Or.inl rfl
  · exact Or.inr (Or.inl rfl)
theorem pv_op60 {t : Int} (h : 60 ≤ t ∧ t ≤ 62) : pz_op t = 27 ∨ pz_op t = 28 ∨ pz_op t = 29 := by
  have h : t = 60 ∨ t = 61 ∨ t = 62 := by omega
  rcases h with rfl | rfl | rfl
  · exact Or.inl rfl
  · exact Or.inr (Or.inl rfl)
  · exact Or.inr (Or.inr rfl)
theorem pv_2c {u : Int} (h : u = 27 ∨ u = 28 ∨ u = 29) : pv_2 u := by unfold pv_2; omega
def pv_q (K d : Nat) (o : List (Int × Int)) : Prop := match K with
  | 0 => pv_gb 2 o ∧ pv_vb False o
  | 1 => pv_gv 2 o ∧ pv_vv False o
  | 2 => pv_gb 3 o ∧ pv_vb False o
  | 3 => pv_gv 3 o ∧ pv_vv False o
  | 4 => pv_gv (4 + 2 * (8 - d)) o ∧ pv_vv True o
  | 5 => pv_gb (5 + 2 * (8 - d)) o ∧ pv_vb True o
  | 6 => pv_gv (5 + 2 * (8 - d)) o ∧ pv_vv True o
  | 7 => pv_gb (6 + 2 * (8 - d)) o ∧ pv_vb True o
  | _ => pv_gv (6 + 2 * (8 - d)) o ∧ pv_vv True o
theorem pv_gr_q {T X : Nat → Int} (hX : ∀ i, T i = 100 → 0 ≤ X i) {K d i : Nat} {r : pz_res} (h : pz_gr T X K d i r) : ∀ j o, r = .ok j o → d ≤ 8 → pv_q K d o := by
  refine h (fun K d i r => ∀ j o, r = .ok j o → d ≤ 8 → pv_q K d o) (fun K d i r hF => ?_)
  intro j9 o9 h9 hd
  unfold pz_grF at hF
  rcases hF with ⟨rfl, q⟩ | ⟨rfl, q⟩ | ⟨rfl, q⟩ | ⟨rfl, q⟩ | ⟨rfl, q⟩ | ⟨rfl, q⟩ | ⟨rfl, q⟩ | ⟨rfl, q⟩ | ⟨rfl, q⟩
  · unfold pz_g0 at q
    rcases q with ⟨p0, p1, pe⟩ | ⟨j, o, r, p0, p1, p2, pe⟩ | ⟨j, k, p0, p1, pe⟩ | ⟨p0, p1, pe⟩ | ⟨p0, p1, p2, pe⟩ | ⟨r, p0, p1, p2, p3, pe⟩
    · rw [pe] at h9
      obtain ⟨x1, x2⟩ := Prod.mk.inj (Sum.inl.inj h9)
      rw [← x2]
      exact ⟨pv_gb_0, pv_vb_0⟩
    · rw [pe] at h9
      obtain ⟨p9, e1, e2⟩ := pz_app_ok h9
      rw [e2]
      have b := p2 _ _ e1 hd
      exact ⟨pv_gb_v (pv_gv_u hX p1) (Or.inr (Or.inr (Or.inl rfl))) b.1 (by first | decide | omega) (by first | decide | omega), pv_vb_v (Or.inr (Or.inr (Or.inl rfl))) (fun q => absurd q id) (pv_vv_u id p1) b.2⟩
    · rw [pe] at h9
      cases h9
    · rw [pe] at h9
      cases h9
    · rw [pe] at h9
      cases h9
    · rw [pe] at h9
      obtain ⟨p9, e1, e2⟩ := pz_app_ok h9
      rw [e2]
      have b := p3 _ _ e1 hd
      exact ⟨pv_gb_d (by have := hX _ p1; omega) b.1 (by first | decide | omega) (by first | decide | omega), pv_vb_d id b.2⟩
  · unfold pz_g1 at q
    rcases q with ⟨j, k, p0, pe⟩ | ⟨j, o, r, p0, p1, pe⟩
    · rw [pe] at h9
      cases h9
    · rw [pe] at h9
      obtain ⟨p9, e1, e2⟩ := pz_app_ok h9
      rw [e2]
      have b := p1 _ _ e1 hd
      exact ⟨pv_gv_b (pv_gv_u hX p0) b.1 (by first | decide | omega) (by first | decide | omega), pv_vv_b (pv_vv_u id p0) b.2⟩
  · unfold pz_g2 at q
    rcases q with ⟨p0, p1, pe⟩ | ⟨j, k, p0, p1, pe⟩ | ⟨j, o, r, p0, p1, p2, pe⟩
    · rw [pe] at h9
      obtain ⟨x1, x2⟩ := Prod.mk.inj (Sum.inl.inj h9)
      rw [← x2]
      exact ⟨pv_gb_0, pv_vb_0⟩
    · rw [pe] at h9
      cases h9
    · rw [pe] at h9
      obtain ⟨p9, e1, e2⟩ := pz_app_ok h9
      rw [e2]
      have a := p1 _ _ rfl hd
      have b := p2 _ _ e1 hd
      exact ⟨pv_gb_v a.1 (pv_op43 p0) b.1 (by first | decide | omega) (by first | decide | omega), pv_vb_v (pv_op43 p0) (fun q => absurd q id) a.2 b.2⟩
  · unfold pz_g3 at q
    rcases q with ⟨j, k, p0, pe⟩ | ⟨j, o, r, p0, p1, pe⟩
    · rw [pe] at h9
      cases h9
    · rw [pe] at h9
      obtain ⟨p9, e1, e2⟩ := pz_app_ok h9
      rw [e2]
      have a := p0 _ _ rfl hd
      have b := p1 _ _ e1 hd
      exact ⟨pv_gv_b a.1 b.1 (by first | decide | omega) (by first | decide | omega), pv_vv_b a.2 b.2⟩
  · unfold pz_g4 at q
    rcases q with ⟨p0, p1, pe⟩ | ⟨j, k, p0, p1, p2, pe⟩ | ⟨j, o, p0, p1, p2, pe⟩ | ⟨j, k, p0, p1, p2, pe⟩ | ⟨j, o, p0, p1, p2, p3, pe⟩ | ⟨j, o, p0, p1, p2, p3, pe⟩ | ⟨j, k, p0, p1, p2, pe⟩ | ⟨j, o, p0, p1, p2, p3, pe⟩ | ⟨j, l, o, k, p0, p1, p2, p3, p4, pe⟩ | ⟨j, l, o, o', p0, p1, p2, p3, p4, pe⟩
    · rw [pe] at h9
      cases h9
    · rw [pe] at h9
      cases h9
    · rw [pe] at h9
      obtain ⟨x1, x2⟩ := Prod.mk.inj (Sum.inl.inj h9)
      rw [← x2]
      have a := p2 _ _ rfl (by first | decide | omega)
      exact ⟨pv_gv_n a.1 (by first | decide | omega), pv_vv_n a.2⟩
    · rw [pe] at h9
      cases h9
    · rw [pe] at h9
      cases h9
    · rw [pe] at h9
      obtain ⟨x1, x2⟩ := Prod.mk.inj (Sum.inl.inj h9)
      rw [← x2]
      have a := p2 _ _ rfl (by first | decide | omega)
      exact ⟨pv_gv_le a.1 (by first | decide | omega), a.2⟩
    · rw [pe] at h9
      cases h9
    · rw [pe] at h9
      cases h9
    · rw [pe] at h9
      cases h9
    · rw [pe] at h9
      obtain ⟨x1, x2⟩ := Prod.mk.inj (Sum.inl.inj h9)
      rw [← x2]
      have a := p2 _ _ rfl (by first | decide | omega)
      have b := p4 _ _ rfl (by first | decide | omega)
      exact ⟨pv_gv_2 a.1 b.1 (pv_2c (pv_op60 p3)) (by first | decide | omega) (by first | decide | omega), pv_vv_2 (pv_2c (pv_op60 p3)) (fun _ _ => pv_cm3 (pv_op60 p3)) a.2 b.2⟩
  · unfold pz_g5 at q
    rcases q with ⟨p0, pe⟩ | ⟨j, k, p0, p1, pe⟩ | ⟨j, o, r, p0, p1, p2, pe⟩
    · rw [pe] at h9
      obtain ⟨x1, x2⟩ := Prod.mk.inj (Sum.inl.inj h9)
      rw [← x2]
      exact ⟨pv_gb_0, pv_vb_0⟩
    · rw [pe] at h9
      cases h9
    · rw [pe] at h9
      obtain ⟨p9, e1, e2⟩ := pz_app_ok h9
      rw [e2]
      have a := p1 _ _ rfl hd
      have b := p2 _ _ e1 hd
      exact ⟨pv_gb_v a.1 (by unfold pv_2; first | decide | omega) b.1 (by first | decide | omega) (by first | decide | omega), pv_vb_v (by unfold pv_2; first | decide | omega) (fun _ x y h1 h2 => (pv_an h1 h2).1) a.2 b.2⟩
  · unfold pz_g6 at q
    rcases q with ⟨j, k, p0, pe⟩ | ⟨j, o, r, p0, p1, pe⟩
    · rw [pe] at h9
      cases h9
    · rw [pe] at h9
      obtain ⟨p9, e1, e2⟩ := pz_app_ok h9
      rw [e2]
      have a := p0 _ _ rfl hd
      have b := p1 _ _ e1 hd
      exact ⟨pv_gv_b a.1 b.1 (by first | decide | omega) (by first | decide | omega), pv_vv_b a.2 b.2⟩
  · unfold pz_g7 at q
    rcases q with ⟨p0, pe⟩ | ⟨j, k, p0, p1, pe⟩ | ⟨j, o, r, p0, p1, p2, pe⟩
    · rw [pe] at h9
      obtain ⟨x1, x2⟩ := Prod.mk.inj (Sum.inl.inj h9)
      rw [← x2]
      exact ⟨pv_gb_0, pv_vb_0⟩
    · rw [pe] at h9
      cases h9
    · rw [pe] at h9
      obtain ⟨p9, e1, e2⟩ := pz_app_ok h9
      rw [e2]
      have a := p1 _ _ rfl hd
      have b := p2 _ _ e1 hd
      exact ⟨pv_gb_v a.1 (by unfold pv_2; first | decide | omega) b.1 (by first | decide | omega) (by first | decide | omega), pv_vb_v (by unfold pv_2; first | decide | omega) (fun _ x y h1 h2 => (pv_an h1 h2).2) a.2 b.2⟩
  · unfold pz_g8 at q
    rcases q with ⟨j, k, p0, pe⟩ | ⟨j, o, r, p0, p1, pe⟩
    · rw [pe] at h9
      cases h9
    · rw [pe] at h9
      obtain ⟨p9, e1, e2⟩ := pz_app_ok h9
      rw [e2]
      have a := p0 _ _ rfl hd
      have b := p1 _ _ e1 hd
      exact ⟨pv_gv_b a.1 b.1 (by first | decide | omega) (by first | decide | omega), pv_vv_b a.2 b.2⟩
/-- a line of THE LAW -/
def pv_ln (q : pz_lne) : Prop := (0 ≤ q.1 ∧ q.1 ≤ 3) ∧ (pv_gv 3 q.2.1 ∧ pv_vv False q.2.1) ∧ (q.2.2 = [] ∨ (pv_gv 22 q.2.2 ∧ pv_vv True q.2.2))
theorem pz_lpre_ok {r : pz_lres} {ls l : List pz_lne} (h : r.pre ls = .ok l) : ∃ l', r = .ok l' ∧ l = ls ++ l' := by
  rcases r with a | ⟨k2, j2⟩
  · exact ⟨a, rfl, (Sum.inl.inj h).symm⟩
  · cases h
theorem pv_gl_q {T X : Nat → Int} (hX : ∀ i, T i = 100 → 0 ≤ X i) {n i : Nat} {r : pz_lres} (h : pz_gl T X n i r) : ∀ ls, r = .ok ls → ∀ q ∈ ls, pv_ln q := by
  refine h (fun n i r => ∀ ls, r = .ok ls → ∀ q ∈ ls, pv_ln q) (fun n i r hF => ?_)
  intro l9 h9
  unfold pz_glF at hF
  rcases hF with ⟨p0, pe⟩ | ⟨p0, p1, pe⟩ | ⟨p0, p1, pe⟩ | ⟨j, k, p0, p1, p2, pe⟩ | ⟨j, o, p0, p1, p2, p3, p4, pe⟩ | ⟨j, o, r, p0, p1, p2, p3, p4, pe⟩ | ⟨j, l, o, k, p0, p1, p2, p3, p4, pe⟩ | ⟨j, l, o, p, p0, p1, p2, p3, p4, p5, pe⟩ | ⟨j, l, o, p, r, p0, p1, p2, p3, p4, p5, p6, pe⟩
  · rw [pe] at h9
    have x := Sum.inl.inj h9
    rw [← x]
    exact fun q hq => absurd hq List.not_mem_nil
  · rw [pe] at h9
    cases h9
  · rw [pe] at h9
    cases h9
  · rw [pe] at h9
    cases h9
  · rw [pe] at h9
    cases h9
  · rw [pe] at h9
    obtain ⟨l, e1, e2⟩ := pz_lpre_ok h9
    rw [e2]
    intro q hq
    rcases List.mem_cons.mp hq with hq | hq
    · rw [hq]
      have a := pv_gr_q hX p2 _ _ rfl (by first | decide | omega)
      exact ⟨p0, ⟨a.1, a.2⟩, Or.inl rfl⟩
    · exact p4 l e1 q hq
  · rw [pe] at h9
    cases h9
  · rw [pe] at h9
    cases h9
  · rw [pe] at h9
    obtain ⟨l2, e1, e2⟩ := pz_lpre_ok h9
    rw [e2]
    intro q hq
    rcases List.mem_cons.mp hq with hq | hq
    · rw [hq]
      have a := pv_gr_q hX p2 _ _ rfl (by first | decide | omega)
      have b := pv_gr_q hX p4 _ _ rfl (by first | decide | omega)
      exact ⟨p0, ⟨a.1, a.2⟩, Or.inr ⟨b.1, b.2⟩⟩
    · exact p6 l2 e1 q hq
/-! the model's pile -/
def pv_at (f : Nat → Int) (s : Nat) (o : List (Int × Int)) : Prop := ∀ k : Nat, k < o.length → f (905 + 2 * (s + k)) = (o.getD k (0, 0)).1 ∧ ((o.getD k (0, 0)).1 = 0 ∨ (o.getD k (0, 0)).1 = 26 → f (905 + (2 * (s + k) + 1)) = (o.getD k (0, 0)).2)
def pv_pl (N : pz_M) (st : List Int) : Prop := ∀ j : Nat, j < st.length → N 68 j = st.getD (st.length - 1 - j) 0
def pv_fm (M : pz_M) (q : Int) : Int := M 69 q.toNat
def pv_in (M : pz_M) (aa bb i t : Int) (N : pz_M) : Prop := ∀ o : List (Int × Int), pv_at (M 60) aa.toNat o → aa + (o.length : Int) = bb → ∃ st : List Int, (st.length : Int) = t ∧ pv_pl N st ∧ pv_e (pv_fm M) (o.drop (i - aa).toNat) st = pv_e (pv_fm M) o []
theorem pv_in_0 {M : pz_M} {aa bb : Int} : pv_in M aa bb aa 0 M := fun o _ _ => ⟨[], rfl, fun j hj => absurd hj (Nat.not_lt_zero _), by rw [show (aa - aa).toNat = 0 by omega]; rfl⟩
theorem pv_dr {o : List (Int × Int)} {k : Nat} (h : k < o.length) : o.drop k = o.getD k (0, 0) :: o.drop (k + 1) := by
  rw [pz_gdE h]
  exact List.drop_eq_getElem_cons h
theorem pv_pl_p {N N' : pz_M} {st : List Int} {t x : Int} (h : pv_pl N st) (ht : (st.length : Int) = t) (e : N' = pz_u N 68 t.toNat x) : pv_pl N' (x :: st) := by
  intro j hj
  have hj : j < st.length + 1 := hj
  show N' 68 j = (x :: st).getD (st.length + 1 - 1 - j) 0
  by_cases c : j = st.length
  · rw [e, pz_ue (by first | decide | omega), show st.length + 1 - 1 - j = 0 by omega]
    rfl
  · rw [e, pz_une (by first | decide | omega), h j (by first | decide | omega), show st.length + 1 - 1 - j = (st.length - 1 - j) + 1 by omega]
    rfl
theorem pv_pl_h {N : pz_M} {a : Int} {st : List Int} (h : pv_pl N (a :: st)) : N 68 st.length = a ∧ pv_pl N st := by
  refine ⟨?_, fun j hj => ?_⟩
  · have x := h st.length (Nat.lt_succ_self _)
    rw [show (a :: st).length - 1 - st.length = 0 by show st.length + 1 - 1 - st.length = 0; omega] at x
    exact x
  · have x := h j (by show j < st.length + 1; omega)
    rw [show (a :: st).length - 1 - j = (st.length - 1 - j) + 1 by show st.length + 1 - 1 - j = _; omega] at x
    exact x
theorem pv_in_p {M N N' : pz_M} {aa bb i i' t t' s v x : Int} (h : pv_in M aa bb i t N) (ha : 0 ≤ aa ∧ aa ≤ i ∧ i < bb) (hs : s = M 60 (905 + (2 * i).toNat)) (hv : v = M 60 (905 + (2 * i + 1).toNat)) (r : 0 ≤ s ∧ s < 10) (hx : x = if s = 0 then v else M 69 s.toNat) (e : N' = pz_u N 68 t.toNat x) (hi : i' = i + 1) (ht : t' = t + 1) : pv_in M aa bb i' t' N' := by
  intro o oa ol
  obtain ⟨st, l, p, q⟩ := h o oa ol
  have k : (i - aa).toNat < o.length := by omega
  have a := oa _ k
  rw [show 905 + 2 * (aa.toNat + (i - aa).toNat) = 905 + (2 * i).toNat by omega, show 905 + (2 * (aa.toNat + (i - aa).toNat) + 1) = 905 + (2 * i + 1).toNat by omega, ← hs, ← hv] at a
  rw [pv_dr k] at q
  refine ⟨x :: st, by rw [ht, ← l]; rfl, pv_pl_p p l e, ?_⟩
  rw [show (i' - aa).toNat = (i - aa).toNat + 1 by omega, ← q]
  show _ = pv_e (pv_fm M) (o.drop ((i - aa).toNat + 1)) (pv_s (pv_fm M) (o.getD (i - aa).toNat (0, 0)) st)
  congr 1
  unfold pv_s
  rw [← a.1]
  by_cases c : s = 0
  · rw [if_pos c, hx, if_pos c, a.2 (Or.inl (a.1.symm.trans c))]
  · rw [if_neg c, if_pos r.2, hx, if_neg c]
    rfl
theorem pv_in_u {M N N' : pz_M} {aa bb i i' t s v x y : Int} (h : pv_in M aa bb i t N) (ha : 0 ≤ aa ∧ aa ≤ i ∧ i < bb) (h1 : 1 ≤ t) (hs : s = M 60 (905 + (2 * i).toNat)) (hv : v = M 60 (905 + (2 * i + 1).toNat)) (r : s = 26 ∨ s = 30) (hx : x = N 68 (t - 1).toNat) (hy : y = pv_un s v x) (e : N' = pz_u N 68 (t - 1).toNat y) (hi : i' = i + 1) : pv_in M aa bb i' t N' := by
  intro o oa ol
  obtain ⟨st, l, p, q⟩ := h o oa ol
  have k : (i - aa).toNat < o.length := by omega
  have a := oa _ k
  rw [show 905 + 2 * (aa.toNat + (i - aa).toNat) = 905 + (2 * i).toNat by omega, show 905 + (2 * (aa.toNat + (i - aa).toNat) + 1) = 905 + (2 * i + 1).toNat by omega, ← hs, ← hv] at a
  rw [pv_dr k] at q
  rcases st with _ | ⟨c, st⟩
  · have l : (0 : Int) = t := l
    omega
  · have l : ((st.length + 1 : Nat) : Int) = t := l
    obtain ⟨p1, p2⟩ := pv_pl_h p
    have ex : x = c := by rw [hx, show (t - 1).toNat = st.length by omega, p1]
    refine ⟨y :: st, l, pv_pl_p p2 (t := t - 1) (by first | decide | omega) e, ?_⟩
    rw [show (i' - aa).toNat = (i - aa).toNat + 1 by omega, ← q]
    show _ = pv_e (pv_fm M) (o.drop ((i - aa).toNat + 1)) (pv_s (pv_fm M) (o.getD (i - aa).toNat (0, 0)) (c :: st))
    congr 1
    unfold pv_s
    rw [← a.1, if_neg (by first | decide | omega), if_neg (by first | decide | omega), if_pos r, hy, ex]
    show pv_un s v c :: st = pv_un s (o.getD (i - aa).toNat (0, 0)).2 c :: st
    rcases r with r | r
    · rw [a.2 (Or.inr (a.1.symm.trans r))]
    · unfold pv_un
      rw [if_neg (by first | decide | omega), if_neg (by first | decide | omega)]
theorem pv_in_b {M N N' : pz_M} {aa bb i i' t t' s x y z : Int} (h : pv_in M aa bb i t N) (ha : 0 ≤ aa ∧ aa ≤ i ∧ i < bb) (h1 : 2 ≤ t) (hs : s = M 60 (905 + (2 * i).toNat)) (r : 23 ≤ s ∧ s ≠ 26 ∧ s ≠ 30) (hx : x = N 68 (t' - 1).toNat) (hy : y = N 68 t'.toNat) (hz : z = pv_bi s x y) (e : N' = pz_u N 68 (t' - 1).toNat z) (hi : i' = i + 1) (ht : t' = t - 1) : pv_in M aa bb i' t' N' := by
  intro o oa ol
  obtain ⟨st, l, p, q⟩ := h o oa ol
  have k : (i - aa).toNat < o.length := by omega
  have a := oa _ k
  rw [show 905 + 2 * (aa.toNat + (i - aa).toNat) = 905 + (2 * i).toNat by omega, ← hs] at a
  rw [pv_dr k] at q
  rcases st with _ | ⟨c, _ | ⟨d, st⟩⟩
  · have l : (0 : Int) = t := l
    omega
  · have l : (1 : Int) = t := l
    omega
  · have l : ((st.length + 1 + 1 : Nat) : Int) = t := l
    obtain ⟨p1, p2⟩ := pv_pl_h p
    obtain ⟨p3, p4⟩ := pv_pl_h p2
    have p1 : N 68 (st.length + 1) = c := p1
    have ey : y = c := by rw [hy, show t'.toNat = st.length + 1 by omega, p1]
    have ex : x = d := by rw [hx, show (t' - 1).toNat = st.length by omega, p3]
    refine ⟨z :: st, by show ((st.length + 1 : Nat) : Int) = t'; omega, pv_pl_p p4 (t := t' - 1) (by first | decide | omega) e, ?_⟩
    rw [show (i' - aa).toNat = (i - aa).toNat + 1 by omega, ← q]
    show _ = pv_e (pv_fm M) (o.drop ((i - aa).toNat + 1)) (pv_s (pv_fm M) (o.getD (i - aa).toNat (0, 0)) (c :: d :: st))
    congr 1
    unfold pv_s
    rw [← a.1, if_neg (by first | decide | omega), if_neg (by first | decide | omega), if_neg (by first | decide | omega), hz, ex, ey]
    rfl
/-- what comesTo answers -/
def pv_cm (M : pz_M) (aa bb v : Int) : Prop := ∀ o : List (Int × Int), pv_at (M 60) aa.toNat o → aa + (o.length : Int) = bb → v = pv (pv_fm M) o
theorem pv_in_z {M N : pz_M} {aa bb v : Int} (h : pv_in M aa bb bb 1 N) (hv : v = N 68 0) : pv_cm M aa bb v := by
  intro o oa ol
  obtain ⟨st, l, p, q⟩ := h o oa ol
  rw [show (bb - aa).toNat = o.length by omega, List.drop_length] at q
  have q : st = pv_e (pv_fm M) o [] := q
  rcases st with _ | ⟨c, _ | ⟨d, st⟩⟩
  · have l : (0 : Int) = 1 := l
    omega
  · have p1 := (pv_pl_h p).1
    have p1 : N 68 0 = c := p1
    unfold pv
    rw [← q, hv, p1]
    rfl
  · have l : ((st.length + 1 + 1 : Nat) : Int) = 1 := l
    omega
/-! the class' codes and its stack -/
def pc_j (t a b : Int) : Int := if t = 43 then pz_w (a + b) else if t = 45 then pz_w (a - b) else if t = 42 then pz_w (a * b) else if t = 47 then (if b = 0 then 0 else pz_w (a.tdiv b)) else if t = 60 then (if a < b then 1 else 0) else if t = 61 then (if a = b then 1 else 0) else if t = 62 then (if b < a then 1 else 0) else if t = 6 then (Int32.ofInt a &&& Int32.ofInt b).toInt else if t = 5 then (Int32.ofInt a ||| Int32.ofInt b).toInt else 0
def pc_s (F : Int → Int) (c : Int) (st : List Int) : List Int := if 0 ≤ c then c :: st else if -17 ≤ c ∧ c ≤ -9 then F (-c - 8) :: st else if c = -8 then pz_w (1 - st.headD 0) :: st.tail else pc_j (-c - 1) (st.tail.headD 0) (st.headD 0) :: st.tail.tail
def pc_e (F : Int → Int) : List Int → List Int → List Int
  | [], st => st
  | c :: cs, st => pc_e F cs (pc_s F c st)
def pc_ok : List Int → Nat → Prop
  | [], _ => True
  | c :: cs, h => (0 ≤ c ∧ h < 62 ∧ pc_ok cs (h + 1)) ∨ (-17 ≤ c ∧ c ≤ -9 ∧ h < 62 ∧ pc_ok cs (h + 1)) ∨ (c = -8 ∧ 1 ≤ h ∧ pc_ok cs h) ∨ ((c < -17 ∨ c = -7 ∨ c = -6) ∧ 2 ≤ h ∧ pc_ok cs (h - 1))
theorem pc_e_app {F : Int → Int} {o p : List Int} : ∀ st, pc_e F (o ++ p) st = pc_e F p (pc_e F o st) := by
  induction o with
  | nil => intro st; rfl
  | cons q o ih => intro st; exact ih _
/-- the code of a sign -/
def pc_o (o : Int) : Int := if o = 23 then -44 else if o = 24 then -46 else if o = 25 then -43 else if o = 27 then -61 else if o = 28 then -62 else if o = 29 then -63 else if o = 30 then -8 else if o = 31 then -7 else -6
theorem pc_fl2 {o x : Int} (h : pv_2 o) : pz_fl1 (o, x) = [pc_o o] := by
  unfold pv_2 at h
  unfold pz_fl1 pc_o
  have e : (o, x).1 = o := rfl
  rw [e, if_neg (by first | decide | omega), if_neg (by first | decide | omega), if_neg (by first | decide | omega)]
theorem pc_o2 {o : Int} (h : pv_2 o) : (pc_o o < -17 ∨ pc_o o = -7 ∨ pc_o o = -6) ∧ ∀ a b, pc_j (-(pc_o o) - 1) a b = pv_bi o a b := by
  unfold pv_2 at h
  rcases h with rfl | rfl | rfl | rfl | rfl | rfl | rfl | rfl
  · exact ⟨by decide, fun _ _ => rfl⟩
  · exact ⟨by decide, fun _ _ => rfl⟩
  · exact ⟨by decide, fun _ _ => rfl⟩
  · exact ⟨by decide, fun _ _ => rfl⟩
  · exact ⟨by decide, fun _ _ => rfl⟩
  · exact ⟨by decide, fun _ _ => rfl⟩
  · exact ⟨by decide, fun _ _ => rfl⟩
  · exact ⟨by decide, fun _ _ => rfl⟩
theorem pc_of {o : List (Int × Int)} : ∀ h, pv_ok o h → pc_ok (pz_fl o) h := by
  induction o with
  | nil => intro h _; trivial
  | cons q o ih =>
    intro h w
    obtain ⟨q1, q2⟩ := q
    show pc_ok (pz_fl1 (q1, q2) ++ pz_fl o) h
    rcases w with ⟨a, b, c, d⟩ | ⟨a, b, c, d⟩ | ⟨a, b, c, c2, d⟩ | ⟨a, b, d⟩ | ⟨a, b, d⟩
    · have a : q1 = 0 := a
      subst a
      exact Or.inl ⟨b, by omega, ih _ d⟩
    · have a : 1 ≤ q1 := a
      have b : q1 < 10 := b
      have e : pz_fl1 (q1, q2) = [-(q1 + 8)] := by
        unfold pz_fl1
        have e : (q1, q2).1 = q1 := rfl
        rw [e, if_neg (by first | decide | omega), if_pos b]
      rw [e]
      exact Or.inr (Or.inl ⟨by omega, by omega, by omega, ih _ d⟩)
    · have a : q1 = 26 := a
      subst a
      have b : 0 < q2 := b
      exact Or.inl ⟨by omega, by omega, Or.inr (Or.inr (Or.inr ⟨Or.inl (by decide), by omega, ih _ d⟩))⟩
    · have a : q1 = 30 := a
      subst a
      exact Or.inr (Or.inr (Or.inl ⟨rfl, b, ih _ d⟩))
    · have a : pv_2 q1 := a
      rw [pc_fl2 a]
      exact Or.inr (Or.inr (Or.inr ⟨(pc_o2 a).1, b, ih _ d⟩))
theorem pc_ev {F : Int → Int} {o : List (Int × Int)} : ∀ h (st : List Int), pv_ok o h → st.length = h → pc_e F (pz_fl o) st = pv_e F o st := by
  induction o with
  | nil => intro h st _ _; rfl
  | cons q o ih =>
    intro h st w l
    obtain ⟨q1, q2⟩ := q
    show pc_e F (pz_fl1 (q1, q2) ++ pz_fl o) st = pv_e F o (pv_s F (q1, q2) st)
    rw [pc_e_app]
    rcases w with ⟨a, b, c, d⟩ | ⟨a, b, c, d⟩ | ⟨a, b, c, c2, d⟩ | ⟨a, b, d⟩ | ⟨a, b, d⟩
    · have a : q1 = 0 := a
      subst a
      have b : 0 ≤ q2 := b
      have e : pc_e F (pz_fl1 (0, q2)) st = q2 :: st := if_pos b
      rw [e]
      exact ih _ _ d (by show st.length + 1 = h + 1; omega)
    · have a : 1 ≤ q1 := a
      have b : q1 < 10 := b
      have e : pz_fl1 (q1, q2) = [-(q1 + 8)] := by
        unfold pz_fl1
        have e : (q1, q2).1 = q1 := rfl
        rw [e, if_neg (by first | decide | omega), if_pos b]
      have e2 : pc_e F [-(q1 + 8)] st = F q1 :: st := by
        show pc_s F (-(q1 + 8)) st = _
        unfold pc_s
        rw [if_neg (by first | decide | omega), if_pos (by first | decide | omega), show -(-(q1 + 8)) - 8 = q1 by omega]
      have e3 : pv_s F (q1, q2) st = F q1 :: st := by
        unfold pv_s
        have e : (q1, q2).1 = q1 := rfl
        rw [e, if_neg (by first | decide | omega), if_pos b]
      rw [e, e2, e3]
      exact ih _ _ d (by show st.length + 1 = h + 1; omega)
    · have a : q1 = 26 := a
      subst a
      have b : 0 < q2 := b
      rcases st with _ | ⟨x, st⟩
      · have l : 0 = h := l
        omega
      · have e : pc_e F (pz_fl1 (26, q2)) (x :: st) = pv_s F (26, q2) (x :: st) := by
          show pc_s F (-48) (pc_s F q2 (x :: st)) = _
          have e1 : pc_s F q2 (x :: st) = q2 :: x :: st := if_pos (by first | decide | omega)
          rw [e1]
          show (if q2 = 0 then 0 else pz_w (x.tdiv q2)) :: st = pz_w (x.tdiv q2) :: st
          rw [if_neg (by first | decide | omega)]
        rw [e]
        exact ih _ _ d l
    · have a : q1 = 30 := a
      subst a
      rcases st with _ | ⟨x, st⟩
      · have l : 0 = h := l
        omega
      · exact ih _ _ d l
    · have a : pv_2 q1 := a
      rcases st with _ | ⟨x, _ | ⟨y, st⟩⟩
      · have l : 0 = h := l
        omega
      · have l : 1 = h := l
        omega
      · have l : st.length + 1 + 1 = h := l
        have e : pc_e F (pz_fl1 (q1, q2)) (x :: y :: st) = pv_bi q1 y x :: st := by
          rw [pc_fl2 a]
          obtain ⟨c1, c2⟩ := pc_o2 a
          show pc_s F (pc_o q1) (x :: y :: st) = _
          unfold pc_s
          rw [if_neg (by first | decide | omega), if_neg (by first | decide | omega), if_neg (by first | decide | omega)]
          show pc_j (-(pc_o q1) - 1) y x :: st = _
          rw [c2]
        have e2 : pv_s F (q1, q2) (x :: y :: st) = pv_bi q1 y x :: st := by
          unfold pv_2 at a
          unfold pv_s
          have e : (q1, q2).1 = q1 := rfl
          rw [e, if_neg (by first | decide | omega), if_neg (by first | decide | omega), if_neg (by first | decide | omega)]
          rfl
        rw [e, e2]
        exact ih _ _ d (by show st.length + 1 = h - 1; omega)
theorem pc_val {F : Int → Int} {o : List (Int × Int)} (h : pv_ok o 0) : (pc_e F (pz_fl o) []).headD 0 = pv F o := by
  rw [pc_ev 0 [] h rfl]
  rfl
def pc_pl (k : Nat) (N : pz_M) (st : List Int) : Prop := ∀ j : Nat, j < st.length → N k j = st.getD (st.length - 1 - j) 0
def pc_at (f : Nat → Int) (s : Nat) (cs : List Int) : Prop := ∀ k : Nat, k < cs.length → f (s + k) = cs.getD k 0
/-- the state of the class' loop: code array a, stack k, from p to q, at i with t on the stack -/
def pc_in (F : Int → Int) (M : pz_M) (a k : Nat) (p q i t : Int) (N : pz_M) : Prop := ∀ cs : List Int, pc_at (M a) p.toNat cs → p + (cs.length : Int) = q → pc_ok cs 0 → ∃ st : List Int, (st.length : Int) = t ∧ pc_pl k N st ∧ pc_e F (cs.drop (i - p).toNat) st = pc_e F cs [] ∧ pc_ok (cs.drop (i - p).toNat) st.length
theorem pc_in_0 {F : Int → Int} {M : pz_M} {a k : Nat} {p q : Int} : pc_in F M a k p q p 0 M := fun o _ _ w => ⟨[], rfl, fun j hj => absurd hj (Nat.not_lt_zero _), by rw [show (p - p).toNat = 0 by omega]; rfl, by rw [show (p - p).toNat = 0 by omega]; exact w⟩
theorem pc_dr {o : List Int} {k : Nat} (h : k < o.length) : o.drop k = o.getD k 0 :: o.drop (k + 1) := by
  rw [pz_gdE h]
  exact List.drop_eq_getElem_cons h
theorem pc_pl_p {k : Nat} {N N' : pz_M} {st : List Int} {t x : Int} (h : pc_pl k N st) (ht : (st.length : Int) = t) (e : N' = pz_u N k t.toNat x) : pc_pl k N' (x :: st) := by
  intro j hj
  have hj : j < st.length + 1 := hj
  show N' k j = (x :: st).getD (st.length + 1 - 1 - j) 0
  by_cases c : j = st.length
  · rw [e, pz_ue (by first | decide | omega), show st.length + 1 - 1 - j = 0 by omega]
    rfl
  · rw [e, pz_une (by first | decide | omega), h j (by first | decide | omega), show st.length + 1 - 1 - j = (st.length - 1 - j) + 1 by omega]
    rfl
theorem pc_pl_h {k : Nat} {N : pz_M} {a : Int} {st : List Int} (h : pc_pl k N (a :: st)) : N k st.length = a ∧ pc_pl k N st := by
  refine ⟨?_, fun j hj => ?_⟩
  · have x := h st.length (Nat.lt_succ_self _)
    rw [show (a :: st).length - 1 - st.length = 0 by show st.length + 1 - 1 - st.length = 0; omega] at x
    exact x
  · have x := h j (by show j < st.length + 1; omega)
    rw [show (a :: st).length - 1 - j = (st.length - 1 - j) + 1 by show st.length + 1 - 1 - j = _; omega] at x
    exact x
/-- one code more: what the class does with it -/
theorem pc_in_s {F : Int → Int} {M N N' : pz_M} {a k : Nat} {p q i i' t t' c : Int} (h : pc_in F M a k p q i t N) (hp : 0 ≤ p ∧ p ≤ i ∧ i < q) (hc : c = M a i.toNat) (hi : i' = i + 1)
    (d : (0 ≤ c ∧ t < 62 → t' = t + 1 ∧ N' = pz_u N k t.toNat c) ∧ (-17 ≤ c ∧ c ≤ -9 ∧ t < 62 → t' = t + 1 ∧ N' = pz_u N k t.toNat (F (-c - 8))) ∧ (c = -8 ∧ 1 ≤ t → t' = t ∧ N' = pz_u N k (t - 1).toNat (pz_w (1 - N k (t - 1).toNat))) ∧ ((c < -17 ∨ c = -7 ∨ c = -6) ∧ 2 ≤ t → t' = t - 1 ∧ N' = pz_u N k (t - 2).toNat (pc_j (-c - 1) (N k (t - 2).toNat) (N k (t - 1).toNat)))) : pc_in F M a k p q i' t' N' := by
  intro cs ca cl w
  obtain ⟨st, l, pl, e, ok⟩ := h cs ca cl w
  have kk : (i - p).toNat < cs.length := by omega
  have x := ca _ kk
  rw [show p.toNat + (i - p).toNat = i.toNat by omega, ← hc] at x
  rw [pc_dr kk, ← x] at e ok
  rw [show (i' - p).toNat = (i - p).toNat + 1 by omega, ← e]
  obtain ⟨d1, d2, d3, d4⟩ := d
  rcases ok with ⟨o1, o2, o3⟩ | ⟨o1, o2, o3, o4⟩ | ⟨o1, o2, o3⟩ | ⟨o1, o2, o3⟩
  · obtain ⟨t1, t2⟩ := d1 ⟨o1, by omega⟩
    have s : pc_s F c st = c :: st := if_pos o1
    exact ⟨c :: st, by rw [t1, ← l]; rfl, pc_pl_p pl l t2, by show pc_e F _ _ = pc_e F _ (pc_s F c st); rw [s], o3⟩
  · obtain ⟨t1, t2⟩ := d2 ⟨o1, o2, by omega⟩
    have s : pc_s F c st = F (-c - 8) :: st := by
      unfold pc_s
      rw [if_neg (by first | decide | omega), if_pos ⟨o1, o2⟩]
    exact ⟨F (-c - 8) :: st, by rw [t1, ← l]; rfl, pc_pl_p pl l t2, by show pc_e F _ _ = pc_e F _ (pc_s F c st); rw [s], o4⟩
  · obtain ⟨t1, t2⟩ := d3 ⟨o1, by omega⟩
    rcases st with _ | ⟨u, st⟩
    · have o2 : 1 ≤ 0 := o2
      omega
    · have l : ((st.length + 1 : Nat) : Int) = t := l
      obtain ⟨p1, p2⟩ := pc_pl_h pl
      rw [show (t - 1).toNat = st.length by omega, p1] at t2
      have s : pc_s F c (u :: st) = pz_w (1 - u) :: st := by
        unfold pc_s
        rw [if_neg (by first | decide | omega), if_neg (by first | decide | omega), if_pos o1]
        rfl
      exact ⟨pz_w (1 - u) :: st, by rw [t1, ← l]; rfl, pc_pl_p p2 (t := (st.length : Int)) rfl (by rw [t2]; rfl), by show pc_e F _ _ = pc_e F _ (pc_s F c (u :: st)); rw [s], o3⟩
  · obtain ⟨t1, t2⟩ := d4 ⟨o1, by omega⟩
    rcases st with _ | ⟨u, _ | ⟨y, st⟩⟩
    · have o2 : 2 ≤ 0 := o2
      omega
    · have o2 : 2 ≤ 1 := o2
      omega
    · have l : ((st.length + 1 + 1 : Nat) : Int) = t := l
      obtain ⟨p1, p2⟩ := pc_pl_h pl
      obtain ⟨p3, p4⟩ := pc_pl_h p2
      have p1 : N k (st.length + 1) = u := p1
      rw [show (t - 2).toNat = st.length by omega, show (t - 1).toNat = st.length + 1 by omega, p1, p3] at t2
      have s : pc_s F c (u :: y :: st) = pc_j (-c - 1) y u :: st := by
        unfold pc_s
        rw [if_neg (by first | decide | omega), if_neg (by first | decide | omega), if_neg (by first | decide | omega)]
        rfl
      have o3 : pc_ok (cs.drop ((i - p).toNat + 1)) (st.length + 1 + 1 - 1) := o3
      exact ⟨pc_j (-c - 1) y u :: st, by show ((st.length + 1 : Nat) : Int) = t'; omega, pc_pl_p p4 (t := (st.length : Int)) rfl (by rw [t2]; rfl), by show pc_e F _ _ = pc_e F _ (pc_s F c (u :: y :: st)); rw [s], o3⟩
/-- what worked answers -/
def pc_wk (F : Int → Int) (M : pz_M) (g : Nat) (p q v : Int) : Prop := ∀ cs : List Int, pc_at (M (pz_lb3 g + 4)) p.toNat cs → p + (cs.length : Int) = q → 0 ≤ p → q ≤ M g 1 → pc_ok cs 0 → v = (pc_e F cs []).headD 0
theorem pc_in_z {F : Int → Int} {M N : pz_M} {g k : Nat} {p q t v : Int} (h : pc_in F M (pz_lb3 g + 4) k p q q t N) (hv : (0 < t → v = N k (t - 1).toNat) ∧ (t ≤ 0 → v = 0)) : pc_wk F M g p q v := by
  intro cs ca cl p0 q1 w
  obtain ⟨st, l, pl, e, ok⟩ := h cs ca cl w
  rw [show (q - p).toNat = cs.length by omega, List.drop_length] at e
  have e : st = pc_e F cs [] := e
  rw [← e]
  rcases st with _ | ⟨u, st⟩
  · have l : (0 : Int) = t := l
    exact hv.2 (by first | decide | omega)
  · have l : ((st.length + 1 : Nat) : Int) = t := l
    rw [hv.1 (by first | decide | omega), show (t - 1).toNat = st.length by omega, (pc_pl_h pl).1]
    rfl
end
section
/-! what THE LAW tells -/
def pv_hold (most x : Int) : Int := max 0 (min most x)
def pv_tell (F : Int → Int) (w without most : Int) : List pz_lne → Int
  | [] => pv_hold most without
  | q :: r => if q.1 = w ∧ (q.2.2 = [] ∨ pv F q.2.2 = 1) then pv_hold most (pv F q.2.1) else pv_tell F w without most r
theorem pv_s_cg {F G : Int → Int} {q : Int × Int} {st : List Int} (h : ∀ k, 1 ≤ k → k < 10 → F k = G k) (h0 : 0 ≤ q.1) : pv_s F q st = pv_s G q st := by
  unfold pv_s
  by_cases a : q.1 = 0
  · rw [if_pos a, if_pos a]
  · rw [if_neg a, if_neg a]
    by_cases b : q.1 < 10
    · rw [if_pos b, if_pos b, h q.1 (by first | decide | omega) b]
    · rw [if_neg b, if_neg b]
theorem pv_ok_0 {o : List (Int × Int)} : ∀ h, pv_ok o h → ∀ q ∈ o, 0 ≤ q.1 := by
  induction o with
  | nil => intro h _ q hq; exact absurd hq List.not_mem_nil
  | cons a o ih =>
    intro h w q hq
    rcases w with ⟨x, -, -, y⟩ | ⟨x, -, -, y⟩ | ⟨x, -, -, -, y⟩ | ⟨x, -, y⟩ | ⟨x, -, y⟩ <;> rcases List.mem_cons.mp hq with e | e
    · rw [e]; omega
    · exact ih _ y q e
    · rw [e]; omega
    · exact ih _ y q e
    · rw [e]; omega
    · exact ih _ y q e
    · rw [e]; omega
    · exact ih _ y q e
    · rw [e]; unfold pv_2 at x; omega
    · exact ih _ y q e
theorem pv_e_cg {F G : Int → Int} {o : List (Int × Int)} (h : ∀ k, 1 ≤ k → k < 10 → F k = G k) (h0 : ∀ q ∈ o, 0 ≤ q.1) : ∀ st, pv_e F o st = pv_e G o st := by
  induction o with
  | nil => intro st; rfl
  | cons q o ih =>
    intro st
    show pv_e F o (pv_s F q st) = pv_e G o (pv_s G q st)
    rw [pv_s_cg h (h0 q List.mem_cons_self), ih (fun q hq => h0 q (List.mem_cons_of_mem _ hq))]
theorem pv_cg {F G : Int → Int} {o : List (Int × Int)} (h : ∀ k, 1 ≤ k → k < 10 → F k = G k) (h0 : pv_ok o 0) : pv F o = pv G o := by
  unfold pv
  rw [pv_e_cg h (pv_ok_0 0 h0)]
theorem pv_ok_e {b : Nat} {o : List (Int × Int)} (h : pv_gv b o) (hb : b ≤ 60) : pv_ok o 0 := by
  have := h [] 0 (by first | decide | omega) trivial
  rw [List.append_nil] at this
  exact this
theorem pv_ln_e {q : pz_lne} (h : pv_ln q) : pv_ok q.2.1 0 := pv_ok_e h.2.1.1 (by first | decide | omega)
theorem pv_ln_b {q : pz_lne} (h : pv_ln q) : pv_ok q.2.2 0 := by
  rcases h.2.2 with e | e
  · rw [e]; trivial
  · exact pv_ok_e e.1 (by first | decide | omega)
theorem pv_ln_01 {q : pz_lne} {F : Int → Int} (h : pv_ln q) (hb : q.2.2 ≠ []) : pv F q.2.2 = 0 ∨ pv F q.2.2 = 1 := by
  rcases h.2.2 with e | e
  · exact absurd e hb
  · obtain ⟨z, z1, z2⟩ := e.2 F
    unfold pv
    rw [z2]
    exact z1 trivial
theorem pv_tell_cg {F G : Int → Int} {w x m : Int} {ls : List pz_lne} (h : ∀ k, 1 ≤ k → k < 10 → F k = G k) (hl : ∀ q ∈ ls, pv_ln q) : pv_tell F w x m ls = pv_tell G w x m ls := by
  induction ls with
  | nil => rfl
  | cons q r ih =>
    have l := hl q List.mem_cons_self
    show (if q.1 = w ∧ (q.2.2 = [] ∨ pv F q.2.2 = 1) then pv_hold m (pv F q.2.1) else pv_tell F w x m r) = (if q.1 = w ∧ (q.2.2 = [] ∨ pv G q.2.2 = 1) then pv_hold m (pv G q.2.1) else pv_tell G w x m r)
    rw [pv_cg h (pv_ln_e l), pv_cg h (pv_ln_b l), ih (fun q hq => hl q (List.mem_cons_of_mem _ hq))]
theorem pv_hold_b {m x : Int} (h : 0 ≤ m) : 0 ≤ pv_hold m x ∧ pv_hold m x ≤ m := by
  unfold pv_hold
  omega
theorem pv_tell_b {F : Int → Int} {w x m : Int} {ls : List pz_lne} (h : 0 ≤ m) : 0 ≤ pv_tell F w x m ls ∧ pv_tell F w x m ls ≤ m := by
  induction ls with
  | nil => exact pv_hold_b h
  | cons q r ih =>
    have e : pv_tell F w x m (q :: r) = if q.1 = w ∧ (q.2.2 = [] ∨ pv F q.2.2 = 1) then pv_hold m (pv F q.2.1) else pv_tell F w x m r := rfl
    rw [e]
    split
    · exact pv_hold_b h
    · exact ih
theorem pv_tell_n {F : Int → Int} {w x m v : Int} {ls : List pz_lne} {k : Nat} (hk : k < ls.length) (hn : ¬ ((ls.getD k (0, [], [])).1 = w ∧ ((ls.getD k (0, [], [])).2.2 = [] ∨ pv F (ls.getD k (0, [], [])).2.2 = 1))) (h : pv_tell F w x m (ls.drop k) = v) : pv_tell F w x m (ls.drop (k + 1)) = v := by
  rw [← h, List.drop_eq_getElem_cons hk, ← pz_gdE hk]
  exact (if_neg hn).symm
theorem pv_tell_y {F : Int → Int} {w x m v : Int} {ls : List pz_lne} {k : Nat} (hk : k < ls.length) (hn : (ls.getD k (0, [], [])).1 = w ∧ ((ls.getD k (0, [], [])).2.2 = [] ∨ pv F (ls.getD k (0, [], [])).2.2 = 1)) (h : pv_tell F w x m (ls.drop k) = v) : v = pv_hold m (pv F (ls.getD k (0, [], [])).2.1) := by
  rw [← h, List.drop_eq_getElem_cons hk, ← pz_gdE hk]
  exact if_pos hn
theorem pv_mem {ls : List pz_lne} {k : Nat} (hk : k < ls.length) (hl : ∀ q ∈ ls, pv_ln q) : pv_ln (ls.getD k (0, [], [])) := by
  rw [pz_gdE hk]
  exact hl _ (List.getElem_mem hk)
/-! where a line lies among all steps -/
theorem pz_catl_cut {ls : List pz_lne} {k : Nat} (hk : k < ls.length) : pz_catl ls = pz_catl (ls.take k) ++ ((ls.getD k (0, [], [])).2.1 ++ (ls.getD k (0, [], [])).2.2) ++ pz_catl (ls.drop (k + 1)) := by
  have e : ls = ls.take k ++ (ls.getD k (0, [], []) :: ls.drop (k + 1)) := by
    rw [pz_gdE hk, ← List.drop_eq_getElem_cons hk, List.take_append_drop]
  have e2 : pz_catl ls = pz_catl (ls.take k ++ ([ls.getD k (0, [], [])] ++ ls.drop (k + 1))) := congrArg pz_catl e
  rw [e2, pz_catl_app, pz_catl_app, pz_catl_one]
  exact (List.append_assoc _ _ _).symm
theorem pz_take_s {ls : List pz_lne} : ∀ k, k < ls.length → ls.take (k + 1) = ls.take k ++ [ls.getD k (0, [], [])] := by
  induction ls with
  | nil => intro k hk; exact absurd hk (Nat.not_lt_zero _)
  | cons a l ih =>
    intro k hk
    rcases k with _ | k
    · rfl
    · have e := ih k (Nat.lt_of_succ_lt_succ hk)
      show a :: l.take (k + 1) = a :: (l.take k ++ [l.getD k (0, [], [])])
      rw [e]
theorem pc_at_of {f : Nat → Int} {a b c : List Int} {n : Nat} (h : ∀ k : Nat, k < n → f k = (a ++ (b ++ c)).getD k 0) (hn : n = (a ++ (b ++ c)).length) : pc_at f a.length b := by
  intro k hk
  rw [List.length_append, List.length_append] at hn
  rw [h _ (by first | decide | omega), List.getD_eq_getElem?_getD, List.getElem?_append_right (by first | decide | omega), Nat.add_sub_cancel_left, List.getElem?_append_left hk, ← List.getD_eq_getElem?_getD]
/-- the class: from where to where a line's E and B lie -/
theorem pq_l1_cut {ls : List pz_lne} {k t : Nat} {M : pz_M} (h : pq_ltx t ls M) (hk : k < ls.length) : M (27 + 6 * t) k = (ls.getD k (0, [], [])).1 ∧ 0 ≤ M (28 + 6 * t) k ∧ pc_at (M (31 + 6 * t)) (M (28 + 6 * t) k).toNat (pz_fl (ls.getD k (0, [], [])).2.1) ∧ M (28 + 6 * t) k + ((pz_fl (ls.getD k (0, [], [])).2.1).length : Int) = M (29 + 6 * t) k ∧
    pc_at (M (31 + 6 * t)) (M (29 + 6 * t) k).toNat (pz_fl (ls.getD k (0, [], [])).2.2) ∧ M (29 + 6 * t) k + ((pz_fl (ls.getD k (0, [], [])).2.2).length : Int) = M (30 + 6 * t) k ∧ M (30 + 6 * t) k ≤ M (10 + t) 1 := by
  obtain ⟨h1, h2, h3, h4⟩ := h
  obtain ⟨a, b, c, d⟩ := h4 k hk
  have cut := pz_catl_cut hk
  rw [pz_take_s k hk, pz_catl_app, pz_catl_one] at d
  generalize ls.getD k (0, [], []) = q at *
  generalize pz_catl (ls.take k) = x at *
  generalize pz_catl (ls.drop (k + 1)) = y at *
  have e1 : pz_fl (pz_catl ls) = pz_fl x ++ (pz_fl q.2.1 ++ (pz_fl q.2.2 ++ pz_fl y)) := by
    rw [cut, pz_fl_app, pz_fl_app, pz_fl_app, List.append_assoc, List.append_assoc]
  have e2 : pz_fl (pz_catl ls) = (pz_fl x ++ pz_fl q.2.1) ++ (pz_fl q.2.2 ++ pz_fl y) := by
    rw [e1, List.append_assoc]
  rw [pz_fl_app, List.length_append] at c
  rw [pz_fl_app, pz_fl_app, List.length_append, List.length_append] at d
  have n : M (10 + t) 1 = ((pz_fl x).length + ((pz_fl q.2.1).length + ((pz_fl q.2.2).length + (pz_fl y).length)) : Nat) := by
    rw [h2, e1, List.length_append, List.length_append, List.length_append]
  refine ⟨a, by omega, ?_, by omega, ?_, by omega, by omega⟩
  · rw [b, Int.toNat_natCast]
    exact pc_at_of (n := (pz_fl (pz_catl ls)).length) (fun k hk => by rw [h3 k hk, e1]) (by rw [e1])
  · rw [c, Int.toNat_natCast, ← List.length_append]
    exact pc_at_of (n := (pz_fl (pz_catl ls)).length) (fun k hk => by rw [h3 k hk, e2]) (by rw [e2])
theorem pz_fl_nil {o : List (Int × Int)} : (pz_fl o).length = 0 ↔ o = [] := by
  constructor
  · intro h
    have := pz_fl_le (o := o)
    exact List.eq_nil_of_length_eq_zero (by first | decide | omega)
  · intro h
    rw [h]
    rfl
theorem pv_at_of {f : Nat → Int} {a b c : List (Int × Int)} (h : pq_st (a ++ (b ++ c)) (fun j => f (905 + j))) : pv_at f a.length b := by
  intro k hk
  have x := h (a.length + k) (by rw [List.length_append, List.length_append]; omega)
  have e : (a ++ (b ++ c)).getD (a.length + k) (0, 0) = b.getD k (0, 0) := by
    rw [List.getD_eq_getElem?_getD, List.getElem?_append_right (by first | decide | omega), Nat.add_sub_cancel_left, List.getElem?_append_left hk, ← List.getD_eq_getElem?_getD]
  rw [e] at x
  exact x
/-- the model: the same -/
theorem pq_l2_cut {ls : List pz_lne} {k : Nat} {f : Nat → Int} (h : pq_wlw ls f) (hk : k < ls.length) : f (889 + k) = (ls.getD k (0, [], [])).1 + 20 ∧ 0 ≤ f (841 + k) ∧ pv_at f (f (841 + k)).toNat (ls.getD k (0, [], [])).2.1 ∧ f (841 + k) + ((ls.getD k (0, [], [])).2.1.length : Int) = f (857 + k) ∧ pv_at f (f (857 + k)).toNat (ls.getD k (0, [], [])).2.2 ∧ f (857 + k) + ((ls.getD k (0, [], [])).2.2.length : Int) = f (873 + k) := by
  obtain ⟨h1, h2, h3⟩ := h
  obtain ⟨b, c, d, a⟩ := h2 k hk
  have cut := pz_catl_cut hk
  rw [pz_take_s k hk, pz_catl_app, pz_catl_one] at d
  generalize ls.getD k (0, [], []) = q at *
  generalize pz_catl (ls.take k) = x at *
  generalize pz_catl (ls.drop (k + 1)) = y at *
  rw [List.length_append] at c
  rw [List.length_append, List.length_append] at d
  have e1 : pz_catl ls = x ++ (q.2.1 ++ (q.2.2 ++ y)) := by rw [cut, List.append_assoc, List.append_assoc]
  have e2 : pz_catl ls = (x ++ q.2.1) ++ (q.2.2 ++ y) := by rw [e1, List.append_assoc]
  refine ⟨a, by omega, ?_, by omega, ?_, by omega⟩
  · rw [b, Int.toNat_natCast]
    exact pv_at_of (by rw [← e1]; exact h3)
  · rw [c, show ((x.length + q.2.1.length : Nat) : Int).toNat = (x ++ q.2.1).length by rw [List.length_append]; exact Int.toNat_natCast _]
    exact pv_at_of (by rw [← e2]; exact h3)
end
section
/-! the class' names of THE LAW -/
def pz_lnk (c : Nat) (i : Int) : Nat := if 0 ≤ i ∧ i < 12 then pz_lb c + i.toNat else pz_lb c + 12
theorem pz_at_lk {c v : Nat} {i : Int} (hc : 71 ≤ c ∧ c < 80) (h : v = (if 0 ≤ i ∧ i < 12 then pz_rf (pz_rf c 1) i.toNat else pz_rf c 2)) : v = pz_lnk c i := by
  rw [h]
  unfold pz_lnk
  by_cases q : 0 ≤ i ∧ i < 12
  · rw [if_pos q, if_pos q, pz_rf_l hc.1 hc.2]
  · rw [if_neg q, if_neg q, pz_rf_n hc.1 hc.2]
theorem pz_lk_i {c : Nat} {i : Int} (h : 0 ≤ i ∧ i < 12) : pz_lnk c i = pz_lb c + i.toNat := if_pos h
def pv_ldn (rd br : Nat → Int) : Nat → Int → Int
  | 0, a => a
  | k + 1, a => if br k ≠ 0 then pz_w (a + pz_w (1 - rd k)) else pv_ldn rd br k (pz_w (a + pz_w (1 - rd k)))
def pv_lup (rd br : Nat → Int) (n : Int) : Nat → Nat → Int → Int
  | 0, _, a => a
  | f + 1, k, a => if (k : Int) < n then (if br k ≠ 0 then pz_w (a + pz_w (1 - rd k)) else pv_lup rd br n f (k + 1) (pz_w (a + pz_w (1 - rd k)))) else a
def pv_rd (M : pz_M) (c k : Nat) : Int := M (pz_lb c + k) 4
def pv_br (M : pz_M) (c k : Nat) : Int := M (pz_lb c + k) 6
def pv_lc (M : pz_M) (c : Nat) (i : Int) : Int := if 0 ≤ i ∧ i < M c 3 ∧ i < 12 then pv_lup (pv_rd M c) (pv_br M c) (M c 3) (11 - i).toNat (i.toNat + 1) (pv_ldn (pv_rd M c) (pv_br M c) i.toNat (pz_w (1 - pv_rd M c i.toNat))) else 0
def pv_fn (M : pz_M) (c : Nat) (w i : Int) : Int := if w = 8 then i else if w = 9 then M (pz_lnk c i) 0 else if w = 10 then M (pz_lnk c i) 1 else if w = 11 then M (pz_lnk c i) 2 else if w = 12 then M (pz_lnk c i) 3 else if w = 13 then M c 4 else if w = 14 then M c 3 else if w = 15 then M (pz_lnk c i) 6 else if w = 16 then pv_lc M c i else 0
theorem pv_fn_cg {M N : pz_M} {c : Nat} {w i : Int} (h : ∀ b j : Nat, b = c ∨ (pz_lb c ≤ b ∧ b ≤ pz_lb c + 12) → N b j = M b j) : pv_fn N c w i = pv_fn M c w i := by
  have k : pz_lb c ≤ pz_lnk c i ∧ pz_lnk c i ≤ pz_lb c + 12 := by
    unfold pz_lnk
    split <;> omega
  have e : ∀ j, N (pz_lnk c i) j = M (pz_lnk c i) j := fun j => h _ _ (Or.inr k)
  have e2 : ∀ j, N c j = M c j := fun j => h _ _ (Or.inl rfl)
  have l : pv_lc N c i = pv_lc M c i := by
    unfold pv_lc
    rw [e2]
    by_cases q : 0 ≤ i ∧ i < M c 3 ∧ i < 12
    · rw [if_pos q, if_pos q]
      have up : ∀ (f k : Nat) (a : Int), k + f ≤ 12 → pv_lup (pv_rd N c) (pv_br N c) (M c 3) f k a = pv_lup (pv_rd M c) (pv_br M c) (M c 3) f k a := by
        intro f
        induction f with
        | zero => intro k a _; rfl
        | succ f ih =>
          intro k a hk
          have r : pv_rd N c k = pv_rd M c k := h _ _ (Or.inr ⟨by omega, by omega⟩)
          have b : pv_br N c k = pv_br M c k := h _ _ (Or.inr ⟨by omega, by omega⟩)
          show (if (k : Int) < M c 3 then (if pv_br N c k ≠ 0 then pz_w (a + pz_w (1 - pv_rd N c k)) else pv_lup (pv_rd N c) (pv_br N c) (M c 3) f (k + 1) (pz_w (a + pz_w (1 - pv_rd N c k)))) else a) = _
          rw [r, b, ih (k + 1) _ (by first | decide | omega)]
          rfl
      have dn : ∀ (k : Nat) (a : Int), k ≤ 12 → pv_ldn (pv_rd N c) (pv_br N c) k a = pv_ldn (pv_rd M c) (pv_br M c) k a := by
        intro k
        induction k with
        | zero => intro a _; rfl
        | succ k ih =>
          intro a hk
          have r : pv_rd N c k = pv_rd M c k := h _ _ (Or.inr ⟨by omega, by omega⟩)
          have b : pv_br N c k = pv_br M c k := h _ _ (Or.inr ⟨by omega, by omega⟩)
          show (if pv_br N c k ≠ 0 then pz_w (a + pz_w (1 - pv_rd N c k)) else pv_ldn (pv_rd N c) (pv_br N c) k (pz_w (a + pz_w (1 - pv_rd N c k)))) = _
          rw [r, b, ih _ (by first | decide | omega)]
          rfl
      have r : pv_rd N c i.toNat = pv_rd M c i.toNat := h _ _ (Or.inr ⟨by omega, by omega⟩)
      rw [up _ _ _ (by first | decide | omega), dn _ _ (by first | decide | omega), r]
    · rw [if_neg q, if_neg q]
  unfold pv_fn
  rw [e, e, e, e, e2, e2, e, l]
/-- ~ -/
theorem pz_cpl {x v : Int} (h0 : -2147483648 ≤ x) (h1 : x ≤ 2147483647) (h : v = (Int32.ofInt x ^^^ Int32.ofInt (-1)).toInt) : v = -x - 1 := h.trans (pz_not h0 h1)
/-- the class' loop through a line's codes -/
def pc_iv (F : Int → Int) (M : pz_M) (g k : Nat) (p q i t : Int) (N : pz_M) : Prop := p ≤ i ∧ (p ≤ q → i ≤ q) ∧ (0 ≤ p → p ≤ q → q ≤ M g 1 → pc_in F M (pz_lb3 g + 4) k p q i t N)
theorem pc_iv_0 {F : Int → Int} {M : pz_M} {g k : Nat} {p q : Int} : pc_iv F M g k p q p 0 M := ⟨Int.le_refl _, id, fun _ _ _ => pc_in_0⟩
theorem pc_iv_s {F : Int → Int} {M N N' : pz_M} {g k : Nat} {p q i i' t t' c : Int} (h : pc_iv F M g k p q i t N) (hq : i < q) (hc : c = M (pz_lb3 g + 4) i.toNat) (hi : i' = i + 1)
    (d : (0 ≤ c ∧ t < 62 → t' = t + 1 ∧ N' = pz_u N k t.toNat c) ∧ (-17 ≤ c ∧ c ≤ -9 ∧ t < 62 → t' = t + 1 ∧ N' = pz_u N k t.toNat (F (-c - 8))) ∧ (c = -8 ∧ 1 ≤ t → t' = t ∧ N' = pz_u N k (t - 1).toNat (pz_w (1 - N k (t - 1).toNat))) ∧ ((c < -17 ∨ c = -7 ∨ c = -6) ∧ 2 ≤ t → t' = t - 1 ∧ N' = pz_u N k (t - 2).toNat (pc_j (-c - 1) (N k (t - 2).toNat) (N k (t - 1).toNat)))) : pc_iv F M g k p q i' t' N' :=
  ⟨by have := h.1; omega, fun _ => by omega, fun a b e => pc_in_s (h.2.2 a b e) ⟨a, h.1, hq⟩ hc hi d⟩
theorem pc_iv_z {F : Int → Int} {M N : pz_M} {g k : Nat} {p q i t v : Int} (h : pc_iv F M g k p q i t N) (he : q ≤ i ∨ i < 0 ∨ M g 1 ≤ i) (hv : (0 < t → v = N k (t - 1).toNat) ∧ (t ≤ 0 → v = 0)) : pc_wk F M g p q v := by
  intro cs ca cl p0 q1 w
  have b : p ≤ q := by omega
  have x := h.2.2 p0 b q1
  have h1 := h.1
  have h2 := h.2.1 b
  have e : i = q := by omega
  rw [e] at x
  exact pc_in_z x hv cs ca cl p0 q1 w
end
section
/-! steps of the class' loops over a LAW's line, over what a LINK lacks -/
def pq_Pw (b _j : Nat) : Prop := b = 32 ∨ b = 38 ∨ b = 44
theorem pq_pr.wst {M M' : pz_M} (h : pq_pr pq_Pw M M') (h4 : M' 4 1 = M 4 1) (h5 : M' 5 9 = M 5 9) : pz_st M M' := ⟨⟨h.1, fun b j q => h.2 b j (by unfold pz_md pz_kx pz_mid at q; unfold pq_Pw; omega)⟩, h4, h5⟩
theorem pv_ldn_s {rd br : Nat → Int} {m k : Nat} {a b D : Int} (h : pv_ldn rd br k a = D) (hk : k = m + 1) (hb : b = pz_w (a + pz_w (1 - rd m))) : (br m ≠ 0 → b = D) ∧ (br m = 0 → pv_ldn rd br m b = D) := by
  subst hk
  subst hb
  have h : (if br m ≠ 0 then pz_w (a + pz_w (1 - rd m)) else pv_ldn rd br m (pz_w (a + pz_w (1 - rd m)))) = D := h
  exact ⟨fun q => by rw [if_pos q] at h; exact h, fun q => by rw [if_neg (fun z => z q)] at h; exact h⟩
theorem pv_lup_s {rd br : Nat → Int} {n : Int} {f g k : Nat} {a b D : Int} (h : pv_lup rd br n f k a = D) (hf : f = g + 1) (hk : (k : Int) < n) (hb : b = pz_w (a + pz_w (1 - rd k))) : (br k ≠ 0 → b = D) ∧ (br k = 0 → pv_lup rd br n g (k + 1) b = D) := by
  subst hf
  subst hb
  have h : (if (k : Int) < n then (if br k ≠ 0 then pz_w (a + pz_w (1 - rd k)) else pv_lup rd br n g (k + 1) (pz_w (a + pz_w (1 - rd k)))) else a) = D := h
  rw [if_pos hk] at h
  exact ⟨fun q => by rw [if_pos q] at h; exact h, fun q => by rw [if_neg (fun z => z q)] at h; exact h⟩
theorem pv_lup_z {rd br : Nat → Int} {n : Int} {f k : Nat} {a : Int} (h : ¬ (k : Int) < n ∨ f = 0) : pv_lup rd br n f k a = a := by
  rcases f with _ | f
  · rfl
  · exact if_neg (h.resolve_right (Nat.succ_ne_zero f))
/-- the most that a word may tell -/
def pc_mo (w : Int) : Int := if w = 2 then 999 else if w = 3 then 99 else 1000
/-- what is told without a line -/
def pz_utd (w sl wo : Int) : Int := if w = 0 then pz_w (300 - pz_w (30 * sl)) else if w = 2 then wo / 4 else if w = 3 then 3 else 0
/-- what a line's E and B come to, out of what worked answers -/
theorem pz_wkE {M N : pz_M} {t k : Nat} {ls : List pz_lne} {p q v : Int} {F : Int → Int} (hl : pq_ltx t ls M) (hk : k < ls.length) (hq : pv_ln (ls.getD k (0, [], []))) (hN : ∀ b j : Nat, ¬ pq_Pw b j → N b j = M b j) (ht : t < 3) (hp : p = M (28 + 6 * t) k) (hq2 : q = M (29 + 6 * t) k) (h : pc_wk F N (10 + t) p q v) : v = pv F (ls.getD k (0, [], [])).2.1 := by
  obtain ⟨-, c1, c2, c3, -, c4, c5⟩ := pq_l1_cut hl hk
  have a : pz_lb3 (10 + t) + 4 = 31 + 6 * t := by unfold pz_lb3; omega
  have b : N (pz_lb3 (10 + t) + 4) = M (31 + 6 * t) := by
    rw [a]
    exact funext fun j => hN _ j (by unfold pq_Pw; first | decide | omega)
  have n1 : N (10 + t) 1 = M (10 + t) 1 := hN _ _ (by unfold pq_Pw; first | decide | omega)
  have g := h (pz_fl (ls.getD k (0, [], [])).2.1) (by rw [b, hp]; exact c2) (by rw [hp, hq2]; exact c3) (by rw [hp]; exact c1) (by rw [hq2, n1]; omega) (pc_of 0 (pv_ln_e hq))
  rw [g]
  exact pc_val (pv_ln_e hq)
theorem pz_wkB {M N : pz_M} {t k : Nat} {ls : List pz_lne} {p q v : Int} {F : Int → Int} (hl : pq_ltx t ls M) (hk : k < ls.length) (hq : pv_ln (ls.getD k (0, [], []))) (hN : ∀ b j : Nat, ¬ pq_Pw b j → N b j = M b j) (ht : t < 3) (hp : p = M (29 + 6 * t) k) (hq2 : q = M (30 + 6 * t) k) (h : pc_wk F N (10 + t) p q v) : v = pv F (ls.getD k (0, [], [])).2.2 := by
  obtain ⟨-, c0, -, c1, c2, c3, c5⟩ := pq_l1_cut hl hk
  have a : pz_lb3 (10 + t) + 4 = 31 + 6 * t := by unfold pz_lb3; omega
  have b : N (pz_lb3 (10 + t) + 4) = M (31 + 6 * t) := by
    rw [a]
    exact funext fun j => hN _ j (by unfold pq_Pw; first | decide | omega)
  have n1 : N (10 + t) 1 = M (10 + t) 1 := hN _ _ (by unfold pq_Pw; first | decide | omega)
  have g := h (pz_fl (ls.getD k (0, [], [])).2.2) (by rw [b, hp]; exact c2) (by rw [hp, hq2]; exact c3) (by rw [hp]; omega) (by rw [hq2, n1]; omega) (pc_of 0 (pv_ln_b hq))
  rw [g]
  exact pc_val (pv_ln_b hq)
/-- the class tells -/
def pz_tel (M : pz_M) (g : Nat) (w : Int) (c : Nat) (i v : Int) : Prop := ∀ (t : Nat) (ls : List pz_lne), t < 3 → g = 10 + t → pq_ltx t ls M → (∀ q ∈ ls, pv_ln q) → v = pv_tell (fun q => pv_fn M c (q + 7) i) w (pz_utd w (M (pz_lnk c i) 3) (M (pz_lnk c i) 2)) (pc_mo w) ls
/-- from line x on -/
def pz_tlv (M : pz_M) (g : Nat) (w : Int) (c : Nat) (i x : Int) : Prop := ∀ (t : Nat) (ls : List pz_lne), t < 3 → g = 10 + t → pq_ltx t ls M → (∀ q ∈ ls, pv_ln q) → pv_tell (fun q => pv_fn M c (q + 7) i) w (pz_utd w (M (pz_lnk c i) 3) (M (pz_lnk c i) 2)) (pc_mo w) (ls.drop x.toNat) = pv_tell (fun q => pv_fn M c (q + 7) i) w (pz_utd w (M (pz_lnk c i) 3) (M (pz_lnk c i) 2)) (pc_mo w) ls
theorem pz_tlv_0 {M : pz_M} {g c : Nat} {w i : Int} : pz_tlv M g w c i 0 := fun t ls _ _ _ _ => rfl
theorem pz_tlv_e {M : pz_M} {g c : Nat} {w i x v : Int} (h : pz_tlv M g w c i x) (h0 : 0 ≤ x) (hx : ¬ x < M g 0) (hv : v = pv_hold (pc_mo w) (pz_utd w (M (pz_lnk c i) 3) (M (pz_lnk c i) 2))) : pz_tel M g w c i v := fun t ls ht hg hl hq => by
  subst hg
  rw [← h t ls ht rfl hl hq, List.drop_eq_nil_of_le (by have := hl.1; omega), hv]
  rfl
/-- the facts of a line; a: whether it has no B -/
def pz_lnf (M : pz_M) (g : Nat) (x : Int) (m e wd : Int) : Prop := ∀ t : Nat, t < 3 → g = 10 + t → m = M (29 + 6 * t) x.toNat ∧ e = M (30 + 6 * t) x.toNat ∧ wd = M (27 + 6 * t) x.toNat
theorem pz_tlv_w {M : pz_M} {g c : Nat} {w i x y m e wd : Int} (h : pz_tlv M g w c i x) (h0 : 0 ≤ x) (hx : x < M g 0) (hy : y = x + 1) (f : pz_lnf M g x m e wd) (hw : ¬ wd = w) : pz_tlv M g w c i y := fun t ls ht hg hl hq => by
  subst hg
  have k : x.toNat < ls.length := by have := hl.1; omega
  obtain ⟨-, -, f3⟩ := f t ht rfl
  obtain ⟨c1, -⟩ := pq_l1_cut hl k
  rw [show y.toNat = x.toNat + 1 by omega]
  refine (pv_tell_n k (fun z => hw ?_) (h t ls ht rfl hl hq)) 
  rw [f3, c1]
  exact z.1
theorem pz_tlv_b {M N : pz_M} {g c : Nat} {w i x y m e wd v : Int} (h : pz_tlv M g w c i x) (h0 : 0 ≤ x) (hx : x < M g 0) (hy : y = x + 1) (f : pz_lnf M g x m e wd) (hm : ¬ m = e) (hN : ∀ b j : Nat, ¬ pq_Pw b j → N b j = M b j) (hv : pc_wk (fun q => pv_fn N c (q + 7) i) N g m e v) (hc : 71 ≤ c ∧ c < 80) (h9 : v = 0) : pz_tlv M g w c i y := fun t ls ht hg hl hq => by
  subst hg
  have k : x.toNat < ls.length := by have := hl.1; omega
  obtain ⟨f1, f2, f3⟩ := f t ht rfl
  obtain ⟨c1, -, -, -, -, c6, -⟩ := pq_l1_cut hl k
  have q1 := pv_mem k hq
  have x1 := pz_wkB hl k q1 hN ht f1 f2 hv
  have fn : (fun q => pv_fn N c (q + 7) i) = (fun q => pv_fn M c (q + 7) i) := funext fun q => pv_fn_cg (fun b j z => hN b j (by unfold pz_lb at z; unfold pq_Pw; omega))
  rw [fn] at x1
  rw [show y.toNat = x.toNat + 1 by omega]
  refine (pv_tell_n k (fun z => ?_) (h t ls ht rfl hl hq))
  rcases z.2 with z | z
  · have l := pz_fl_nil.mpr z
    rw [l] at c6
    omega
  · rw [z] at x1
    omega
theorem pz_tlv_y {M N : pz_M} {g c : Nat} {w i x s m e wd u v : Int} (h : pz_tlv M g w c i x) (h0 : 0 ≤ x) (hx : x < M g 0) (f : pz_lnf M g x m e wd) (fs : ∀ t : Nat, t < 3 → g = 10 + t → s = M (28 + 6 * t) x.toNat) (hw : wd = w) (hB : m = e ∨ ∃ (N2 : pz_M) (z : Int), (∀ b j : Nat, ¬ pq_Pw b j → N2 b j = M b j) ∧ pc_wk (fun q => pv_fn N2 c (q + 7) i) N2 g m e z ∧ ¬ z = 0) (hN : ∀ b j : Nat, ¬ pq_Pw b j → N b j = M b j) (hv : pc_wk (fun q => pv_fn N c (q + 7) i) N g s m u) (hc : 71 ≤ c ∧ c < 80) (h9 : v = pv_hold (pc_mo w) u) : pz_tel M g w c i v := fun t ls ht hg hl hq => by
  subst hg
  have k : x.toNat < ls.length := by have := hl.1; omega
  obtain ⟨f1, f2, f3⟩ := f t ht rfl
  obtain ⟨c1, -, -, -, -, c6, -⟩ := pq_l1_cut hl k
  have q1 := pv_mem k hq
  have fn : ∀ N : pz_M, (∀ b j : Nat, ¬ pq_Pw b j → N b j = M b j) → (fun q => pv_fn N c (q + 7) i) = (fun q => pv_fn M c (q + 7) i) := fun N hN => funext fun q => pv_fn_cg (fun b j z => hN b j (by unfold pz_lb at z; unfold pq_Pw; omega))
  have x1 := pz_wkE hl k q1 hN ht (fs t ht rfl) f1 hv
  rw [fn N hN] at x1
  have y2 : (ls.getD x.toNat (0, [], [])).2.2 = [] ∨ pv (fun q => pv_fn M c (q + 7) i) (ls.getD x.toNat (0, [], [])).2.2 = 1 := by
    rcases hB with z | ⟨N2, z, a, b, d⟩
    · exact Or.inl (pz_fl_nil.mp (by first | decide | omega))
    · have x2 := pz_wkB hl k q1 a ht f1 f2 b
      rw [fn N2 a] at x2
      by_cases y : (ls.getD x.toNat (0, [], [])).2.2 = []
      · exact Or.inl y
      · rcases pv_ln_01 (F := fun q => pv_fn M c (q + 7) i) q1 y with r | r
        · omega
        · exact Or.inr r
  rw [pv_tell_y k ⟨by rw [← hw, f3, c1], y2⟩ (h t ls ht rfl hl hq), h9, x1]
theorem pq_pr.ws {M M' : pz_M} (h : pq_pr pq_Pw M M') : pz_st M M' := h.wst (h.2 4 1 (by unfold pq_Pw; first | decide | omega)) (h.2 5 9 (by unfold pq_Pw; first | decide | omega))
theorem pz_lnk_b {c : Nat} {i : Int} (hc : 71 ≤ c) : 89 ≤ pz_lnk c i := by
  unfold pz_lnk pz_lb
  split <;> omega
/-- Math.floorDiv by what is more than nought -/
theorem pz_xs {x y : Int} (hx : -2147483648 ≤ x ∧ x ≤ 2147483647) (hy : 0 < y ∧ y ≤ 2147483647) : 0 ≤ (Int32.ofInt x ^^^ Int32.ofInt y).toInt ↔ 0 ≤ x := by
  have m : ∀ z : Int, -2147483648 ≤ z → z ≤ 2147483647 → (Int32.ofInt z).toBitVec.msb = decide (z < 0) := fun z a b => by
    rw [BitVec.msb_eq_toInt]
    show decide ((Int32.ofInt z).toInt < 0) = _
    rw [Int32.toInt_ofInt_of_le (by first | decide | omega) (by first | decide | omega)]
  have e : ((Int32.ofInt x ^^^ Int32.ofInt y).toInt < 0) ↔ x < 0 := by
    have h : (Int32.ofInt x ^^^ Int32.ofInt y).toBitVec.msb = decide ((Int32.ofInt x ^^^ Int32.ofInt y).toInt < 0) := BitVec.msb_eq_toInt
    have h2 : (Int32.ofInt x ^^^ Int32.ofInt y).toBitVec.msb = decide (x < 0) := by
      show ((Int32.ofInt x).toBitVec ^^^ (Int32.ofInt y).toBitVec).msb = _
      rw [BitVec.msb_xor, m x hx.1 hx.2, m y (by first | decide | omega) hy.2, decide_eq_false (show ¬ y < 0 by omega), Bool.xor_false]
    exact decide_eq_decide.mp (h.symm.trans h2)
  omega
theorem pz_fdv {x y q v : Int} (hy : y = 4 ∨ y = 1000) (hx : -2147483648 ≤ x ∧ x ≤ 2147483647) (hq : q = pz_w (x.tdiv y)) (h : (0 ≤ x ∧ v = q) ∨ (x < 0 ∧ pz_w (q * y) = x ∧ v = q) ∨ (x < 0 ∧ pz_w (q * y) ≠ x ∧ v = pz_w (q - 1))) : v = x / y := by
  have t := @Int.tdiv_eq_ediv x y
  have b : -536870912 ≤ x / y ∧ x / y ≤ 536870911 := by
    rcases hy with rfl | rfl <;> omega
  have r : x % y = x - y * (x / y) := by
    have := Int.emod_add_mul_ediv x y
    omega
  by_cases d : 0 ≤ x ∨ y ∣ x
  · rw [if_pos d] at t
    rw [t, pz_wi (by first | decide | omega) (by first | decide | omega)] at hq
    rcases h with ⟨-, h⟩ | ⟨-, -, h⟩ | ⟨h1, h2, -⟩
    · omega
    · omega
    · exfalso
      apply h2
      have z : y ∣ x := d.resolve_left (by first | decide | omega)
      have z : x % y = 0 := Int.emod_eq_zero_of_dvd z
      have e : q * y = x := by
        rw [hq, Int.add_zero, Int.mul_comm]
        omega
      rw [e, pz_wi (by first | decide | omega) (by first | decide | omega)]
  · rw [if_neg d] at t
    have s : y.sign = 1 := by rcases hy with rfl | rfl <;> rfl
    rw [t, s, pz_wi (by first | decide | omega) (by first | decide | omega)] at hq
    rcases h with ⟨h1, -⟩ | ⟨h1, h2, -⟩ | ⟨-, -, h⟩
    · exact absurd (Or.inl h1) d
    · exfalso
      apply d
      right
      have l : -2147483648 ≤ q * y ∧ q * y ≤ 2147483647 := by
        rcases hy with rfl | rfl <;> omega
      rw [pz_wi l.1 l.2] at h2
      exact ⟨q, by rw [Int.mul_comm]; exact h2.symm⟩
    · rw [pz_wi (by first | decide | omega) (by first | decide | omega)] at h
      omega
end
section
/-! a day, told once: F is a state as w lays it -/
def sd_u (F : Nat → Int) (k : Nat) (v : Int) : Nat → Int := fun j => if j = k then v else F j
theorem sd_uu {F : Nat → Int} {k : Nat} {v : Int} : sd_u F k v k = v := if_pos rfl
theorem sd_ue {F : Nat → Int} {k j : Nat} {v : Int} (h : j = k) : sd_u F k v j = v := if_pos h
theorem sd_un {F : Nat → Int} {k j : Nat} {v : Int} (h : j ≠ k) : sd_u F k v j = F j := if_neg h
theorem sd_um {M : pz_M} {k : Nat} {v : Int} : (pz_u M 60 k v) 60 = sd_u (M 60) k v := by
  funext j
  show (if 60 = 60 ∧ j = k then v else M 60 j) = if j = k then v else M 60 j
  by_cases h : j = k
  · rw [if_pos ⟨rfl, h⟩, if_pos h]
  · rw [if_neg (fun z => h z.2), if_neg h]
theorem sd_uo {M : pz_M} {a k : Nat} {v : Int} (h : (60 : Nat) ≠ a) : (pz_u M a k v) 60 = M 60 := funext fun _ => pz_una h
/-- what a state is -/
def sd_lw (F : Nat → Int) (i : Nat) : Prop := (1 ≤ F (4 + i) ∧ F (4 + i) ≤ 999) ∧ (-9999 ≤ F (16 + i) ∧ F (16 + i) ≤ 9999) ∧ (-999 ≤ F (28 + i) ∧ F (28 + i) ≤ 999) ∧ (0 ≤ F (93 + i) ∧ F (93 + i) ≤ 9) ∧ (F (40 + i) = 0 ∨ F (40 + i) = 1) ∧ (F (52 + i) = 0 ∨ F (52 + i) = 1) ∧ (F (64 + i) = 0 ∨ (F (64 + i) = 1 ∧ 1 ≤ i ∧ (i : Int) + 1 < F 88))
def sd_wf (F : Nat → Int) : Prop := (0 ≤ F 88 ∧ F 88 ≤ 12) ∧ (0 ≤ F 3 ∧ F 3 ≤ 150) ∧ ∀ i : Nat, (i : Int) < F 88 → sd_lw F i
/-- where w has a field of the class' LINKS -/
def sd_fo (f : Nat) : Nat := [4, 16, 28, 93, 40, 52, 64, 76].getD f 0
/-- the class' chain c is F -/
def sd_se (M : pz_M) (c : Nat) (F : Nat → Int) : Prop := M c 3 = F 88 ∧ M c 4 = F 0 ∧ M c 5 = F 1 ∧ M c 6 = F 2 ∧ M c 7 = F 3 ∧ ∀ i f : Nat, (i : Int) < F 88 → f < 8 → M (pz_lb c + i) f = F (sd_fo f + i)
/-- THE BOOK -/
def sd_pg (M : pz_M) (F : Nat → Int) : Prop := ∀ k : Nat, k < 600 → M 45 k = F (241 + k)
theorem sd_se_l {M : pz_M} {c : Nat} {F : Nat → Int} (h : sd_se M c F) {i : Nat} (hi : (i : Int) < F 88) : M (pz_lb c + i) 0 = F (4 + i) ∧ M (pz_lb c + i) 1 = F (16 + i) ∧ M (pz_lb c + i) 2 = F (28 + i) ∧ M (pz_lb c + i) 3 = F (93 + i) ∧ M (pz_lb c + i) 4 = F (40 + i) ∧ M (pz_lb c + i) 5 = F (52 + i) ∧ M (pz_lb c + i) 6 = F (64 + i) ∧ M (pz_lb c + i) 7 = F (76 + i) :=
  ⟨h.2.2.2.2.2 i 0 hi (by decide), h.2.2.2.2.2 i 1 hi (by decide), h.2.2.2.2.2 i 2 hi (by decide), h.2.2.2.2.2 i 3 hi (by decide), h.2.2.2.2.2 i 4 hi (by decide), h.2.2.2.2.2 i 5 hi (by decide), h.2.2.2.2.2 i 6 hi (by decide), h.2.2.2.2.2 i 7 hi (by decide)⟩
theorem sd_se_cg {M N : pz_M} {c : Nat} {F : Nat → Int} (h : sd_se M c F) (e : ∀ b j : Nat, b = c ∨ (pz_lb c ≤ b ∧ b < pz_lb c + 12) → N b j = M b j) (h12 : F 88 ≤ 12) : sd_se N c F := by
  obtain ⟨h1, h2, h3, h4, h5, h6⟩ := h
  refine ⟨(e c 3 (Or.inl rfl)).trans h1, (e c 4 (Or.inl rfl)).trans h2, (e c 5 (Or.inl rfl)).trans h3, (e c 6 (Or.inl rfl)).trans h4, (e c 7 (Or.inl rfl)).trans h5, fun i f hi hf => ?_⟩
  rw [e _ f (Or.inr ⟨by omega, by omega⟩)]
  exact h6 i f hi hf
/-- the same state, another one to look at -/
theorem sd_se_f {M : pz_M} {c : Nat} {F G : Nat → Int} (h : sd_se M c F) (e : ∀ k : Nat, k ≤ 88 ∨ (93 ≤ k ∧ k < 105) → G k = F k) (h12 : F 88 ≤ 12) : sd_se M c G := by
  obtain ⟨h1, h2, h3, h4, h5, h6⟩ := h
  have e88 := e 88 (by first | decide | omega)
  refine ⟨h1.trans e88.symm, h2.trans (e 0 (by first | decide | omega)).symm, h3.trans (e 1 (by first | decide | omega)).symm, h4.trans (e 2 (by first | decide | omega)).symm, h5.trans (e 3 (by first | decide | omega)).symm, fun i f hi hf => ?_⟩
  rw [e88] at hi
  rw [h6 i f hi hf]
  refine (e _ ?_).symm
  have hf : f = 0 ∨ f = 1 ∨ f = 2 ∨ f = 3 ∨ f = 4 ∨ f = 5 ∨ f = 6 ∨ f = 7 := by omega
  rcases hf with rfl | rfl | rfl | rfl | rfl | rfl | rfl | rfl
  · show 4 + i ≤ 88 ∨ (93 ≤ 4 + i ∧ 4 + i < 105); omega
  · show 16 + i ≤ 88 ∨ (93 ≤ 16 + i ∧ 16 + i < 105); omega
  · show 28 + i ≤ 88 ∨ (93 ≤ 28 + i ∧ 28 + i < 105); omega
  · show 93 + i ≤ 88 ∨ (93 ≤ 93 + i ∧ 93 + i < 105); omega
  · show 40 + i ≤ 88 ∨ (93 ≤ 40 + i ∧ 40 + i < 105); omega
  · show 52 + i ≤ 88 ∨ (93 ≤ 52 + i ∧ 52 + i < 105); omega
  · show 64 + i ≤ 88 ∨ (93 ≤ 64 + i ∧ 64 + i < 105); omega
  · show 76 + i ≤ 88 ∨ (93 ≤ 76 + i ∧ 76 + i < 105); omega
/-- a field of a LINK is written -/
theorem sd_fo_ne {f g i j : Nat} (hf : f < 8) (hg : g < 8) (hi : i < 12) (hj : j < 12) (h : f ≠ g ∨ i ≠ j) : sd_fo f + i ≠ sd_fo g + j := by
  have key : ∀ f, f < 8 → ∀ g, g < 8 → f ≠ g → sd_fo f + 12 ≤ sd_fo g ∨ sd_fo g + 12 ≤ sd_fo f := by decide
  by_cases q : f = g
  · subst q; omega
  · have := key f hf g hg q
    omega
theorem sd_fo_b {f i : Nat} (hf : f < 8) (hi : i < 12) : 4 ≤ sd_fo f + i ∧ sd_fo f + i < 105 ∧ sd_fo f + i ≠ 88 := by
  have key : ∀ f, f < 8 → 4 ≤ sd_fo f ∧ (sd_fo f + 12 ≤ 88 ∨ 89 ≤ sd_fo f) ∧ sd_fo f + 12 ≤ 105 := by decide
  have := key f hf
  omega
theorem sd_se_w {M : pz_M} {c i f : Nat} {F : Nat → Int} {v : Int} (hc : 71 ≤ c ∧ c < 80) (h : sd_se M c F) (h12 : F 88 ≤ 12) (hi : (i : Int) < F 88) (hf : f < 8) : sd_se (pz_u M (pz_lb c + i) f v) c (sd_u F (sd_fo f + i) v) := by
  obtain ⟨h1, h2, h3, h4, h5, h6⟩ := h
  have lb : pz_lb c ≠ c ∧ 89 ≤ pz_lb c := by unfold pz_lb; omega
  have b := sd_fo_b hf (show i < 12 by omega)
  have n : ∀ k : Nat, k < 4 ∨ k = 88 → sd_u F (sd_fo f + i) v k = F k := fun k hk => sd_un (by first | decide | omega)
  have m : ∀ j : Nat, pz_u M (pz_lb c + i) f v c j = M c j := fun j => pz_una (by unfold pz_lb; first | decide | omega)
  refine ⟨by rw [m, n 88 (by first | decide | omega)]; exact h1, by rw [m, n 0 (by first | decide | omega)]; exact h2, by rw [m, n 1 (by first | decide | omega)]; exact h3, by rw [m, n 2 (by first | decide | omega)]; exact h4, by rw [m, n 3 (by first | decide | omega)]; exact h5, fun j g hj hg => ?_⟩
  rw [n 88 (by first | decide | omega)] at hj
  by_cases q : f = g ∧ i = j
  · obtain ⟨rfl, rfl⟩ := q
    rw [pz_uu, sd_uu]
  · rw [sd_un (Ne.symm (sd_fo_ne hf hg (by first | decide | omega) (by first | decide | omega) (by first | decide | omega))), ← h6 j g hj hg]
    exact if_neg (by first | decide | omega)
/-- a field of the chain itself -/
theorem sd_se_c {M : pz_M} {c k f : Nat} {F : Nat → Int} {v : Int} (hc : 71 ≤ c ∧ c < 80) (h : sd_se M c F) (h12 : F 88 ≤ 12) (hk : k < 4 ∧ f = k + 4) : sd_se (pz_u M c f v) c (sd_u F k v) := by
  obtain ⟨h1, h2, h3, h4, h5, h6⟩ := h
  obtain ⟨hk, rfl⟩ := hk
  have a : ∀ j : Nat, j < 8 → 3 ≤ j → M c j = F (if j = 3 then 88 else j - 4) → pz_u M c (k + 4) v c j = sd_u F k v (if j = 3 then 88 else j - 4) := fun j j1 j2 hj => by
    by_cases q : j = k + 4
    · rw [q, pz_uu, if_neg (by first | decide | omega), sd_ue (by first | decide | omega)]
    · rw [pz_unk q, hj, sd_un (by split <;> omega)]
  refine ⟨a 3 (by first | decide | omega) (by first | decide | omega) h1, a 4 (by first | decide | omega) (by first | decide | omega) h2, a 5 (by first | decide | omega) (by first | decide | omega) h3, a 6 (by first | decide | omega) (by first | decide | omega) h4, a 7 (by first | decide | omega) (by first | decide | omega) h5, fun i g hi hg => ?_⟩
  rw [sd_un (show (88 : Nat) ≠ k by omega)] at hi
  have b := sd_fo_b hg (show i < 12 by omega)
  rw [pz_una (by unfold pz_lb; first | decide | omega), sd_un (by first | decide | omega)]
  exact h6 i g hi hg
/-! how many a LINK lacks -/
/-- from k downwards the first BRIDGED one, or 0 -/
def sd_lo (F : Nat → Int) : Nat → Nat
  | 0 => 0
  | k + 1 => if F (64 + (k + 1)) = 1 then k + 1 else sd_lo F k
theorem sd_lo_le {F : Nat → Int} : ∀ k, sd_lo F k ≤ k := by
  intro k
  induction k with
  | zero => exact Nat.le_refl _
  | succ k ih =>
    show (if F (64 + (k + 1)) = 1 then k + 1 else sd_lo F k) ≤ k + 1
    split <;> omega
/-- from t upwards the first one in b, n - 1 if there is none below it -/
def sd_hi (b : Nat → Bool) (n : Nat) : Nat → Nat → Nat
  | 0, t => t
  | f + 1, t => if t + 1 < n ∧ b t = false then sd_hi b n f (t + 1) else t
def sd_end (b : Nat → Bool) (n i : Nat) : Nat := min (sd_hi b n (n - (i + 1)) (i + 1)) (n - 1)
def sd_bb (F : Nat → Int) : Nat → Bool := fun k => decide (F (64 + k) = 1)
theorem sd_hi_u {b : Nat → Bool} {n : Nat} : ∀ f t, n ≤ t + f → t ≤ sd_hi b n f t ∧ (sd_hi b n f t = t ∨ sd_hi b n f t < n) ∧ (∀ k, t ≤ k → k < sd_hi b n f t → b k = false) ∧ (sd_hi b n f t + 1 < n → b (sd_hi b n f t) = true) := by
  intro f
  induction f with
  | zero => intro t h; exact ⟨Nat.le_refl _, Or.inl rfl, fun k a c => absurd c (by show ¬ k < t; omega), fun z => absurd z (by show ¬ t + 1 < n; omega)⟩
  | succ f ih =>
    intro t h
    have e : sd_hi b n (f + 1) t = if t + 1 < n ∧ b t = false then sd_hi b n f (t + 1) else t := rfl
    rw [e]
    by_cases q : t + 1 < n ∧ b t = false
    · rw [if_pos q]
      obtain ⟨a, c, d, g⟩ := ih (t + 1) (by first | decide | omega)
      refine ⟨by omega, by omega, fun k k1 k2 => ?_, g⟩
      by_cases z : k = t
      · rw [z]; exact q.2
      · exact d k (by first | decide | omega) k2
    · rw [if_neg q]
      refine ⟨Nat.le_refl _, Or.inl rfl, fun k a c => absurd c (by first | decide | omega), fun z => ?_⟩
      cases y : b t with
      | false => exact absurd ⟨z, y⟩ q
      | true => rfl
theorem sd_end_s {b : Nat → Bool} {n i : Nat} (hi : i < n) : i ≤ sd_end b n i ∧ sd_end b n i < n ∧ (i + 1 < n → i < sd_end b n i) ∧ (∀ k, i < k → k < sd_end b n i → b k = false) ∧ (sd_end b n i + 1 < n → b (sd_end b n i) = true) := by
  obtain ⟨a, c, d, e⟩ := sd_hi_u (b := b) (n := n) (n - (i + 1)) (i + 1) (by first | decide | omega)
  unfold sd_end
  refine ⟨by omega, by omega, by omega, fun k k1 k2 => d k (by first | decide | omega) (by first | decide | omega), fun z => ?_⟩
  have m : min (sd_hi b n (n - (i + 1)) (i + 1)) (n - 1) = sd_hi b n (n - (i + 1)) (i + 1) := by omega
  rw [m] at z ⊢
  exact e z
/-- it is the only one such -/
theorem sd_end_u {b : Nat → Bool} {n i e : Nat} (hi : i < n) (h1 : i ≤ e) (h2 : e < n) (h3 : i + 1 < n → i < e) (h4 : ∀ k, i < k → k < e → b k = false) (h5 : e + 1 < n → b e = true) : e = sd_end b n i := by
  obtain ⟨a1, a2, a3, a4, a5⟩ := sd_end_s (b := b) hi
  rcases Nat.lt_trichotomy e (sd_end b n i) with q | q | q
  · have x := h5 (by first | decide | omega)
    rw [a4 e (by first | decide | omega) q] at x
    cases x
  · exact q
  · have x := a5 (by first | decide | omega)
    rw [h4 _ (by first | decide | omega) q] at x
    cases x
/-- how many are not READY, m of them from k on -/
def sd_nr (F : Nat → Int) : Nat → Nat → Int
  | _, 0 => 0
  | k, m + 1 => (if F (40 + k) = 1 then 0 else 1) + sd_nr F (k + 1) m
theorem sd_nr_b {F : Nat → Int} : ∀ m k, 0 ≤ sd_nr F k m ∧ sd_nr F k m ≤ (m : Int) := by
  intro m
  induction m with
  | zero => intro k; exact ⟨Int.le_refl _, Int.le_refl _⟩
  | succ m ih =>
    intro k
    have := ih (k + 1)
    show 0 ≤ (if F (40 + k) = 1 then 0 else 1) + sd_nr F (k + 1) m ∧ (if F (40 + k) = 1 then 0 else 1) + sd_nr F (k + 1) m ≤ _
    split <;> omega
theorem sd_nr_app {F : Nat → Int} : ∀ a k b, sd_nr F k (a + b) = sd_nr F k a + sd_nr F (k + a) b := by
  intro a
  induction a with
  | zero =>
    intro k b
    rw [Nat.zero_add, Nat.add_zero]
    show _ = 0 + _
    omega
  | succ a ih =>
    intro k b
    rw [show a + 1 + b = (a + b) + 1 by omega]
    show (if F (40 + k) = 1 then 0 else 1) + sd_nr F (k + 1) (a + b) = ((if F (40 + k) = 1 then 0 else 1) + sd_nr F (k + 1) a) + _
    rw [ih (k + 1) b, show k + 1 + a = k + (a + 1) by omega]
    omega
def sd_from (F : Nat → Int) (i : Nat) : Nat := sd_lo F (i - 1)
def sd_to (F : Nat → Int) (i : Nat) : Nat := sd_end (sd_bb F) (F 88).toNat (if F (64 + i) = 1 ∨ i = 0 then i else sd_from F i)
def sd_lk (F : Nat → Int) (i : Nat) : Int := sd_nr F (sd_from F i) (sd_to F i + 1 - sd_from F i)
end
section
/-! what the class lacks is what w lacks -/
theorem sd_lo_n {F : Nat → Int} : ∀ k j, sd_lo F k < j → j ≤ k → F (64 + j) ≠ 1 := by
  intro k
  induction k with
  | zero => intro j h1 h2; have : sd_lo F 0 = 0 := rfl; omega
  | succ k ih =>
    intro j h1 h2
    have e : sd_lo F (k + 1) = if F (64 + (k + 1)) = 1 then k + 1 else sd_lo F k := rfl
    rw [e] at h1
    by_cases q : F (64 + (k + 1)) = 1
    · rw [if_pos q] at h1
      omega
    · rw [if_neg q] at h1
      by_cases z : j = k + 1
      · rw [z]; exact q
      · exact ih j h1 (by first | decide | omega)
theorem sd_w1 {a x : Int} (ha : 0 ≤ a ∧ a ≤ 100) (hx : x = 0 ∨ x = 1) : pz_w (a + pz_w (1 - x)) = a + (if x = 1 then 0 else 1) := by
  rw [pz_wi (z := 1 - x) (by first | decide | omega) (by first | decide | omega), pz_wi (by first | decide | omega) (by first | decide | omega)]
  rcases hx with rfl | rfl
  · rw [if_neg (by decide)]; omega
  · rw [if_pos rfl]; omega
theorem sd_ldn {F rd br : Nat → Int} : ∀ (k : Nat) (a : Int), (∀ j, j < k → rd j = F (40 + j) ∧ br j = F (64 + j) ∧ (F (40 + j) = 0 ∨ F (40 + j) = 1) ∧ (F (64 + j) = 0 ∨ F (64 + j) = 1)) → 0 ≤ a → a + (k : Int) ≤ 50 → pv_ldn rd br k a = a + sd_nr F (sd_lo F (k - 1)) (k - sd_lo F (k - 1)) := by
  intro k
  induction k with
  | zero =>
    intro a _ _ _
    show a = a + sd_nr F (sd_lo F (0 - 1)) (0 - sd_lo F (0 - 1))
    rw [Nat.zero_sub, Nat.zero_sub]
    show a = a + 0
    omega
  | succ k ih =>
    intro a h h0 h1
    obtain ⟨r1, r2, r3, r4⟩ := h k (Nat.lt_succ_self _)
    have w := sd_w1 (a := a) (x := rd k) (by first | decide | omega) (by rw [r1]; exact r3)
    show (if br k ≠ 0 then pz_w (a + pz_w (1 - rd k)) else pv_ldn rd br k (pz_w (a + pz_w (1 - rd k)))) = _
    rw [w, r1, r2, Nat.add_sub_cancel]
    have one : sd_nr F k 1 = (if F (40 + k) = 1 then 0 else 1) := Int.add_zero _
    by_cases q : F (64 + k) = 1
    · rw [if_pos (by first | decide | omega)]
      have e : sd_lo F k = k := by
        rcases k with _ | k
        · rfl
        · exact if_pos q
      rw [e, show k + 1 - k = 1 by omega, one]
    · rw [if_neg (by first | decide | omega), ih _ (fun j hj => h j (by first | decide | omega)) (by split <;> omega) (by split <;> omega)]
      have e : sd_lo F k = sd_lo F (k - 1) := by
        rcases k with _ | k
        · rfl
        · exact if_neg q
      have l := sd_lo_le (F := F) (k - 1)
      rw [e, show k + 1 - sd_lo F (k - 1) = (k - sd_lo F (k - 1)) + 1 by omega, sd_nr_app, show sd_lo F (k - 1) + (k - sd_lo F (k - 1)) = k by omega, one]
      omega
theorem sd_lup {F rd br : Nat → Int} {n : Nat} (hn : n ≤ 12) (h : ∀ j, j < n → rd j = F (40 + j) ∧ br j = F (64 + j) ∧ (F (40 + j) = 0 ∨ F (40 + j) = 1) ∧ (F (64 + j) = 0 ∨ F (64 + j) = 1)) : ∀ (f k : Nat) (a : Int), k < n → n ≤ k + f → 0 ≤ a → a + ((n - k : Nat) : Int) ≤ 50 →
    ∃ e, k ≤ e ∧ e < n ∧ (∀ j, k ≤ j → j < e → sd_bb F j = false) ∧ (e + 1 < n → sd_bb F e = true) ∧ pv_lup rd br (n : Int) f k a = a + sd_nr F k (e + 1 - k) := by
  intro f
  induction f with
  | zero => intro k a h1 h2; omega
  | succ f ih =>
    intro k a h1 h2 h3 h4
    obtain ⟨r1, r2, r3, r4⟩ := h k h1
    have w := sd_w1 (a := a) (x := rd k) (by first | decide | omega) (by rw [r1]; exact r3)
    have one : sd_nr F k 1 = (if F (40 + k) = 1 then 0 else 1) := Int.add_zero _
    have e : pv_lup rd br (n : Int) (f + 1) k a = if (k : Int) < (n : Int) then (if br k ≠ 0 then pz_w (a + pz_w (1 - rd k)) else pv_lup rd br (n : Int) f (k + 1) (pz_w (a + pz_w (1 - rd k)))) else a := rfl
    rw [e, if_pos (by first | decide | omega), w, r1, r2]
    by_cases q : F (64 + k) = 1
    · refine ⟨k, Nat.le_refl _, h1, fun j a b => absurd b (by first | decide | omega), fun _ => decide_eq_true q, ?_⟩
      rw [if_pos (by first | decide | omega), show k + 1 - k = 1 by omega, one]
    · rw [if_neg (by first | decide | omega)]
      by_cases z : k + 1 < n
      · obtain ⟨e, e1, e2, e3, e4, e5⟩ := ih (k + 1) (a + (if F (40 + k) = 1 then 0 else 1)) z (by first | decide | omega) (by split <;> omega) (by split <;> omega)
        refine ⟨e, by omega, e2, fun j j1 j2 => ?_, e4, ?_⟩
        · by_cases y : j = k
          · rw [y]; exact decide_eq_false q
          · exact e3 j (by first | decide | omega) j2
        · rw [e5, show e + 1 - k = 1 + (e + 1 - (k + 1)) by omega, sd_nr_app, one]
          omega
      · refine ⟨k, Nat.le_refl _, h1, fun j a b => absurd b (by first | decide | omega), fun y => absurd y z, ?_⟩
        rw [show k + 1 - k = 1 by omega, one]
        rcases f with _ | f
        · rfl
        · exact if_neg (by first | decide | omega)
theorem sd_lc {M : pz_M} {c : Nat} {F : Nat → Int} {i : Int} (h : sd_se M c F) (hw : sd_wf F) (h0 : 0 ≤ i) (h1 : i < F 88) : pv_lc M c i = sd_lk F i.toNat := by
  obtain ⟨w1, w2, w3⟩ := hw
  have hn : M c 3 = ((F 88).toNat : Int) := by rw [h.1]; omega
  have key : ∀ j, j < (F 88).toNat → pv_rd M c j = F (40 + j) ∧ pv_br M c j = F (64 + j) ∧ (F (40 + j) = 0 ∨ F (40 + j) = 1) ∧ (F (64 + j) = 0 ∨ F (64 + j) = 1) := fun j hj => by
    obtain ⟨-, -, -, -, a, -, b, -⟩ := sd_se_l h (show (j : Int) < F 88 by omega)
    obtain ⟨-, -, -, -, x, -, y⟩ := w3 j (by first | decide | omega)
    exact ⟨a, b, x, y.imp id (fun z => z.1)⟩
  have one : ∀ k, sd_nr F k 1 = (if F (40 + k) = 1 then 0 else 1) := fun k => Int.add_zero _
  obtain ⟨r1, -, r3, r4⟩ := key i.toNat (by first | decide | omega)
  have s1 : pz_w (1 - pv_rd M c i.toNat) = sd_nr F i.toNat 1 := by
    rw [one, r1, pz_wi (by first | decide | omega) (by first | decide | omega)]
    rcases r3 with z | z
    · rw [if_neg (by first | decide | omega)]; omega
    · rw [if_pos z]; omega
  have b1 := sd_nr_b (F := F) 1 i.toNat
  have dn := sd_ldn (F := F) (rd := pv_rd M c) (br := pv_br M c) i.toNat (sd_nr F i.toNat 1) (fun j hj => key j (by first | decide | omega)) b1.1 (by first | decide | omega)
  have l := sd_lo_le (F := F) (i.toNat - 1)
  have ln := sd_lo_n (F := F) (i.toNat - 1)
  have e0 : pv_lc M c i = pv_lup (pv_rd M c) (pv_br M c) (M c 3) (11 - i).toNat (i.toNat + 1) (pv_ldn (pv_rd M c) (pv_br M c) i.toNat (pz_w (1 - pv_rd M c i.toNat))) := if_pos ⟨h0, by rw [h.1]; exact h1, by omega⟩
  have j1 : sd_nr F (sd_lo F (i.toNat - 1)) (i.toNat - sd_lo F (i.toNat - 1)) + sd_nr F i.toNat 1 = sd_nr F (sd_lo F (i.toNat - 1)) (i.toNat + 1 - sd_lo F (i.toNat - 1)) := by
    rw [show i.toNat + 1 - sd_lo F (i.toNat - 1) = (i.toNat - sd_lo F (i.toNat - 1)) + 1 by omega, sd_nr_app, show sd_lo F (i.toNat - 1) + (i.toNat - sd_lo F (i.toNat - 1)) = i.toNat by omega]
  have b2 := sd_nr_b (F := F) (i.toNat - sd_lo F (i.toNat - 1)) (sd_lo F (i.toNat - 1))
  -- where it ends
  have fin : ∀ e, i.toNat ≤ e → e < (F 88).toNat → (i.toNat + 1 < (F 88).toNat → i.toNat < e) → (∀ j, i.toNat < j → j < e → sd_bb F j = false) → (e + 1 < (F 88).toNat → sd_bb F e = true) → e = sd_to F i.toNat := fun e e1 e2 e3 e4 e5 => by
    unfold sd_to sd_from
    by_cases q : F (64 + i.toNat) = 1 ∨ i.toNat = 0
    · rw [if_pos q]
      exact sd_end_u (by first | decide | omega) e1 e2 e3 e4 e5
    · rw [if_neg q]
      refine sd_end_u (by first | decide | omega) (by first | decide | omega) e2 (fun _ => by omega) (fun k k1 k2 => ?_) e5
      by_cases z : i.toNat < k
      · exact e4 k z k2
      · by_cases y : k = i.toNat
        · rw [y]
          exact decide_eq_false (fun x => q (Or.inl x))
        · exact decide_eq_false (ln k k1 (by first | decide | omega))
  rw [e0, s1, dn, hn]
  unfold sd_lk sd_from
  by_cases z : i.toNat + 1 < (F 88).toNat
  · obtain ⟨e, e1, e2, e3, e4, e5⟩ := sd_lup (F := F) (rd := pv_rd M c) (br := pv_br M c) (n := (F 88).toNat) (by first | decide | omega) key (11 - i).toNat (i.toNat + 1) (sd_nr F i.toNat 1 + sd_nr F (sd_lo F (i.toNat - 1)) (i.toNat - sd_lo F (i.toNat - 1))) z (by first | decide | omega) (by first | decide | omega) (by first | decide | omega)
    rw [e5, ← fin e (by first | decide | omega) e2 (fun _ => by omega) (fun j a b => e3 j (by first | decide | omega) b) e4, show e + 1 - sd_lo F (i.toNat - 1) = (i.toNat + 1 - sd_lo F (i.toNat - 1)) + (e + 1 - (i.toNat + 1)) by omega, sd_nr_app, show sd_lo F (i.toNat - 1) + (i.toNat + 1 - sd_lo F (i.toNat - 1)) = i.toNat + 1 by omega, ← j1]
    omega
  · rw [← fin i.toNat (Nat.le_refl _) (by first | decide | omega) (fun y => absurd y z) (fun j a b => absurd b (by first | decide | omega)) (fun y => absurd y z), ← j1]
    have x : ∀ f a, pv_lup (pv_rd M c) (pv_br M c) (((F 88).toNat : Nat) : Int) f (i.toNat + 1) a = a := fun f a => by
      rcases f with _ | f
      · rfl
      · exact if_neg (by first | decide | omega)
    rw [x]
    omega
/-! the names of THE LAW -/
def sd_fn (F : Nat → Int) (i : Nat) (q : Int) : Int := if q = 1 then (i : Int) else if q = 2 then F (4 + i) else if q = 3 then F (16 + i) else if q = 4 then F (28 + i) else if q = 5 then F (93 + i) else if q = 6 then F 0 else if q = 7 then F 88 else if q = 8 then F (64 + i) else sd_lk F i
def sd_rd (ls : List pz_lne) (F : Nat → Int) (i : Nat) : Int := pv_tell (sd_fn F i) 0 (pz_w (300 - pz_w (30 * F (93 + i)))) 1000 ls
def sd_le (ls : List pz_lne) (F : Nat → Int) (i : Nat) : Int := pv_tell (sd_fn F i) 1 0 1000 ls
def sd_gv (ls : List pz_lne) (F : Nat → Int) (i : Nat) : Int := pv_tell (sd_fn F i) 2 (if F (28 + i) < 0 then 0 else F (28 + i) / 4) 999 ls
def sd_co (ls : List pz_lne) (F : Nat → Int) (i : Nat) : Int := pv_tell (sd_fn F i) 3 3 99 ls
theorem sd_fn_e {M : pz_M} {c : Nat} {F : Nat → Int} {i : Int} (h : sd_se M c F) (hw : sd_wf F) (h0 : 0 ≤ i) (h1 : i < F 88) : ∀ q : Int, 1 ≤ q → q < 10 → pv_fn M c (q + 7) i = sd_fn F i.toNat q := by
  intro q q1 q2
  have hn := hw.1
  have lk : pz_lnk c i = pz_lb c + i.toNat := pz_lk_i ⟨h0, by omega⟩
  obtain ⟨a0, a1, a2, a3, -, -, a6, -⟩ := sd_se_l h (show (i.toNat : Int) < F 88 by omega)
  have lc := sd_lc h hw h0 h1
  unfold pv_fn sd_fn
  have q : q = 1 ∨ q = 2 ∨ q = 3 ∨ q = 4 ∨ q = 5 ∨ q = 6 ∨ q = 7 ∨ q = 8 ∨ q = 9 := by omega
  rcases q with rfl | rfl | rfl | rfl | rfl | rfl | rfl | rfl | rfl
  · rw [if_pos (by decide), if_pos rfl]; omega
  · rw [if_neg (by decide), if_pos (by decide), if_neg (by decide), if_pos rfl, lk]; exact a0
  · rw [if_neg (by decide), if_neg (by decide), if_pos (by decide), if_neg (by decide), if_neg (by decide), if_pos rfl, lk]; exact a1
  · rw [if_neg (by decide), if_neg (by decide), if_neg (by decide), if_pos (by decide), if_neg (by decide), if_neg (by decide), if_neg (by decide), if_pos rfl, lk]; exact a2
  · rw [if_neg (by decide), if_neg (by decide), if_neg (by decide), if_neg (by decide), if_pos (by decide), if_neg (by decide), if_neg (by decide), if_neg (by decide), if_neg (by decide), if_pos rfl, lk]; exact a3
  · rw [if_neg (by decide), if_neg (by decide), if_neg (by decide), if_neg (by decide), if_neg (by decide), if_pos (by decide), if_neg (by decide), if_neg (by decide), if_neg (by decide), if_neg (by decide), if_neg (by decide), if_pos rfl]; exact h.2.1
  · rw [if_neg (by decide), if_neg (by decide), if_neg (by decide), if_neg (by decide), if_neg (by decide), if_neg (by decide), if_pos (by decide), if_neg (by decide), if_neg (by decide), if_neg (by decide), if_neg (by decide), if_neg (by decide), if_neg (by decide), if_pos rfl]; exact h.1
  · rw [if_neg (by decide), if_neg (by decide), if_neg (by decide), if_neg (by decide), if_neg (by decide), if_neg (by decide), if_neg (by decide), if_pos (by decide), if_neg (by decide), if_neg (by decide), if_neg (by decide), if_neg (by decide), if_neg (by decide), if_neg (by decide), if_neg (by decide), if_pos rfl, lk]; exact a6
  · rw [if_neg (by decide), if_neg (by decide), if_neg (by decide), if_neg (by decide), if_neg (by decide), if_neg (by decide), if_neg (by decide), if_neg (by decide), if_pos (by decide), if_neg (by decide), if_neg (by decide), if_neg (by decide), if_neg (by decide), if_neg (by decide), if_neg (by decide), if_neg (by decide), if_neg (by decide)]; exact lc
end
section
/-! the model's LAW: what its lines tell -/
def pz_QS (b _j : Nat) : Prop := b = 68 ∨ b = 69
def pz_iso (M : pz_M) (i v : Int) : Prop := (M 60 (873 + i.toNat) = M 60 (857 + i.toNat) ∧ v = 1) ∨ (M 60 (873 + i.toNat) ≠ M 60 (857 + i.toNat) ∧ ∃ z : Int, pv_cm M (M 60 (857 + i.toNat)) (M 60 (873 + i.toNat)) z ∧ ((v = 1 ∧ z = 1) ∨ (v = 0 ∧ z ≠ 1)))
def pz_say (M : pz_M) (w i x y v : Int) : Prop := i < M 60 88 → ∀ ls : List pz_lne, pq_wlw ls (M 60) → (∀ q ∈ ls, pv_ln q) → v = pv_tell (sd_fn (M 60) i.toNat) (w - 20) x y ls
def pz_syl (M : pz_M) (w i x y k : Int) : Prop := ∀ ls : List pz_lne, pq_wlw ls (M 60) → (∀ q ∈ ls, pv_ln q) → pv_tell (sd_fn (M 60) i.toNat) (w - 20) x y (ls.drop k.toNat) = pv_tell (sd_fn (M 60) i.toNat) (w - 20) x y ls
theorem pz_syl_0 {M : pz_M} {w i x y : Int} : pz_syl M w i x y 0 := fun _ _ _ => rfl
/-- the facts of a LINK lie in N -/
def pz_fct (M N : pz_M) (i : Int) : Prop := i < M 60 88 → ∀ q : Int, 1 ≤ q → q < 10 → N 69 q.toNat = sd_fn (M 60) i.toNat q
def pz_sld (M N : pz_M) (w i x y k : Int) : Prop := i < M 60 88 → pz_syl M w i x y k ∧ (∀ q : Int, 1 ≤ q → q < 10 → N 69 q.toNat = sd_fn (M 60) i.toNat q) ∧ N 60 = M 60
theorem pz_fct_pv {M N : pz_M} {i : Int} {o : List (Int × Int)} (h : ∀ q : Int, 1 ≤ q → q < 10 → N 69 q.toNat = sd_fn (M 60) i.toNat q) (ho : pv_ok o 0) : pv (pv_fm N) o = pv (sd_fn (M 60) i.toNat) o := pv_cg h ho
theorem pz_sld_w {M N N2 : pz_M} {w i x y k k2 wd : Int} (h : pz_sld M N w i x y k) (h0 : 0 ≤ k) (hk : k < M 60 89) (hk2 : k2 = k + 1) (hw : wd = M 60 (889 + k.toNat)) (hn : ¬ wd = w) (e9 : N2 69 = N 69) (e0 : N2 60 = N 60) : pz_sld M N2 w i x y k2 := fun hi => by
  obtain ⟨s, f, g⟩ := h hi
  refine ⟨fun ls hl hq => ?_, fun q a b => by rw [e9]; exact f q a b, e0.trans g⟩
  have kk : k.toNat < ls.length := by have := hl.1; omega
  obtain ⟨c1, -⟩ := pq_l2_cut hl kk
  rw [show k2.toNat = k.toNat + 1 by omega]
  refine pv_tell_n kk (fun z => hn ?_) (s ls hl hq)
  have z1 := z.1
  rw [hw, c1]
  omega
theorem pz_sld_b {M N N2 : pz_M} {w i x y k k2 v : Int} (h : pz_sld M N w i x y k) (h0 : 0 ≤ k) (hk : k < M 60 89) (hk2 : k2 = k + 1) (hs : pz_iso N k v) (hv : v = 0) (e9 : N2 69 = N 69) (e0 : N2 60 = N 60) : pz_sld M N2 w i x y k2 := fun hi => by
  obtain ⟨s, f, g⟩ := h hi
  refine ⟨fun ls hl hq => ?_, fun q a b => by rw [e9]; exact f q a b, e0.trans g⟩
  have kk : k.toNat < ls.length := by have := hl.1; omega
  obtain ⟨-, -, -, c4, c5, c6⟩ := pq_l2_cut hl kk
  have q1 := pv_mem kk hq
  rw [show k2.toNat = k.toNat + 1 by omega]
  unfold pz_iso at hs
  rw [g] at hs
  refine pv_tell_n kk (fun z => ?_) (s ls hl hq)
  rcases hs with ⟨-, b⟩ | ⟨a, u, b, d⟩
  · omega
  · have b9 := b (ls.getD k.toNat (0, [], [])).2.2 (by rw [g]; exact c5) c6
    rw [pz_fct_pv f (pv_ln_b q1)] at b9
    rcases z.2 with z | z
    · rw [z] at c6
      have c6 : M 60 (857 + k.toNat) + 0 = M 60 (873 + k.toNat) := c6
      omega
    · omega
theorem pz_sld_y {M N N2 : pz_M} {w i x y k wd so a b u v : Int} (h : pz_sld M N w i x y k) (h0 : 0 ≤ k) (hk : k < M 60 89) (hw : wd = M 60 (889 + k.toNat)) (hn : wd = w) (hs : pz_iso N k so) (hv : ¬ so = 0) (e9 : N2 69 = N 69) (e0 : N2 60 = N 60) (ha : a = M 60 (841 + k.toNat)) (hb : b = M 60 (857 + k.toNat)) (hu : pv_cm N2 a b u) (hv2 : v = max 0 (min y u)) : pz_say M w i x y v := fun hi ls hl hq => by
  obtain ⟨s, f, g⟩ := h hi
  have kk : k.toNat < ls.length := by have := hl.1; omega
  obtain ⟨c1, c2, c3, c4, c5, c6⟩ := pq_l2_cut hl kk
  have q1 := pv_mem kk hq
  have f2 : ∀ q : Int, 1 ≤ q → q < 10 → N2 69 q.toNat = sd_fn (M 60) i.toNat q := fun q a b => by rw [e9]; exact f q a b
  have u1 := hu (ls.getD k.toNat (0, [], [])).2.1 (by rw [e0, g, ha]; exact c3) (by rw [ha, hb]; exact c4)
  rw [pz_fct_pv f2 (pv_ln_e q1)] at u1
  unfold pz_iso at hs
  rw [g] at hs
  have B : (ls.getD k.toNat (0, [], [])).2.2 = [] ∨ pv (sd_fn (M 60) i.toNat) (ls.getD k.toNat (0, [], [])).2.2 = 1 := by
    rcases hs with ⟨p, -⟩ | ⟨p, t, r, d⟩
    · refine Or.inl (List.eq_nil_of_length_eq_zero ?_)
      omega
    · have r9 := r (ls.getD k.toNat (0, [], [])).2.2 (by rw [g]; exact c5) c6
      rw [pz_fct_pv f (pv_ln_b q1)] at r9
      exact Or.inr (by first | decide | omega)
  rw [pv_tell_y kk ⟨by rw [hw, c1] at hn; omega, B⟩ (s ls hl hq), hv2, u1]
  rfl
theorem pz_sld_e {M N : pz_M} {w i x y k v : Int} (h : pz_sld M N w i x y k) (h0 : 0 ≤ k) (hk : ¬ k < M 60 89) (hv : v = max 0 (min y x)) : pz_say M w i x y v := fun hi ls hl hq => by
  obtain ⟨s, -, -⟩ := h hi
  rw [← s ls hl hq, List.drop_eq_nil_of_le (by have := hl.1; omega), hv]
  rfl
/-- the bits of BRIDGED LINKS -/
def sd_bn (F : Nat → Int) : Nat → Bool := fun k => decide ((k : Int) < F 88 ∧ F (64 + k) = 1)
theorem sd_hi_cg {b c : Nat → Bool} {n : Nat} (h : ∀ k, k < n → b k = c k) : ∀ f t, sd_hi b n f t = sd_hi c n f t := by
  intro f
  induction f with
  | zero => intro t; rfl
  | succ f ih =>
    intro t
    show (if t + 1 < n ∧ b t = false then sd_hi b n f (t + 1) else t) = (if t + 1 < n ∧ c t = false then sd_hi c n f (t + 1) else t)
    by_cases q : t + 1 < n
    · rw [h t (by first | decide | omega), ih]
    · rw [if_neg (fun z => q z.1), if_neg (fun z => q z.1)]
theorem sd_end_cg {b c : Nat → Bool} {n i : Nat} (h : ∀ k, k < n → b k = c k) : sd_end b n i = sd_end c n i := by
  unfold sd_end
  rw [sd_hi_cg h]
theorem sd_end_bn {F : Nat → Int} {i : Nat} : sd_end (sd_bn F) (F 88).toNat i = sd_end (sd_bb F) (F 88).toNat i := sd_end_cg (fun k hk => by
  unfold sd_bn sd_bb
  by_cases q : F (64 + k) = 1
  · rw [decide_eq_true q, decide_eq_true ⟨by omega, q⟩]
  · rw [decide_eq_false q, decide_eq_false (fun z => q z.2)])
/-! sets that a loop lays -/
def pz_bt (x : Int) (p : Nat → Bool) (s : Int) : Prop := pz_zs s (fun j => decide (j < x.toNat) && p j)
def pz_bO (x : Int) (p : Nat → Bool) (t : Int) : Prop := pz_zs t (fun j => decide (x.toNat = j) && p j)
theorem pz_bt_0 {p : Nat → Bool} : pz_bt 0 p 0 := pz_sb_cg pz_sb_0 (fun k => by rw [decide_eq_false (show ¬ k < (0 : Int).toNat from Nat.not_lt_zero _)]; rfl)
theorem pz_bt_s {p : Nat → Bool} {x y s t z : Int} (hx : 0 ≤ x ∧ x ≤ 11) (hy : y = x + 1) (hs : pz_bt x p s) (ht : pz_bO x p t) (hz : z = (Int32.ofInt s ||| Int32.ofInt t).toInt) : pz_bt y p z := by
  rw [hz]
  refine pz_sb_cg (pz_sb_or hs ht) (fun k => ?_)
  show ((decide (k < x.toNat) && p k) || (decide (x.toNat = k) && p k)) = _
  have e : decide (k < y.toNat) = (decide (k < x.toNat) || decide (x.toNat = k)) := by
    rw [← Bool.decide_or]
    exact decide_eq_decide.mpr (by first | decide | omega)
  rw [e]
  cases decide (k < x.toNat) <;> cases decide (x.toNat = k) <;> cases p k <;> rfl
theorem pz_bO_y {p : Nat → Bool} {x t : Int} (hx : 0 ≤ x ∧ x ≤ 11) (h : p x.toNat = true) (ht : t = (Int32.ofInt 1 <<< (Int32.ofInt x &&& 31)).toInt) : pz_bO x p t := by
  rw [ht]
  refine pz_sb_cg (pz_sb_1 hx.1 hx.2) (fun k => ?_)
  by_cases e : x.toNat = k
  · rw [← e, h]
    exact (Bool.and_true _).symm
  · rw [decide_eq_false e]
    rfl
theorem pz_bO_n {p : Nat → Bool} {x : Int} (h : p x.toNat = false) : pz_bO x p 0 := by
  refine pz_sb_cg pz_sb_0 (fun k => ?_)
  by_cases e : x.toNat = k
  · rw [← e, h]
    exact (Bool.and_false _).symm
  · rw [decide_eq_false e]
    rfl
/-- all of them -/
theorem pz_bt_e {p q : Nat → Bool} {x s : Int} (h : pz_bt x p s) (e : ∀ k, (decide (k < x.toNat) && p k) = q k) : pz_zs s q := pz_sb_cg h e
theorem sd_bn_e {F : Nat → Int} {x : Int} (h0 : 0 ≤ x) (hx : x = F 88) : ∀ k, (decide (k < x.toNat) && sd_bn F k) = sd_bn F k := fun k => by
  unfold sd_bn
  by_cases q : (k : Int) < F 88 ∧ F (64 + k) = 1
  · rw [decide_eq_true q, decide_eq_true (show k < x.toNat by omega)]
    rfl
  · rw [decide_eq_false q]
    exact Bool.and_false _
/-- the model's loop to the end of a PART -/
def pz_eD (M : pz_M) (b : Nat → Bool) (i x : Int) : Prop := 0 ≤ i → i < M 60 88 → sd_hi b (M 60 88).toNat ((M 60 88).toNat - x.toNat) x.toNat = sd_hi b (M 60 88).toNat ((M 60 88).toNat - (i.toNat + 1)) (i.toNat + 1)
theorem pz_eD_s {M : pz_M} {b : Nat → Bool} {i x y : Int} (h : pz_eD M b i x) (h0 : 0 ≤ x) (hx : x < M 60 88 - 1) (hb : b x.toNat = false) (hy : y = x + 1) : pz_eD M b i y := fun a c => by
  rw [← h a c, show (M 60 88).toNat - x.toNat = ((M 60 88).toNat - y.toNat) + 1 by omega, show y.toNat = x.toNat + 1 by omega]
  exact (if_pos ⟨by omega, hb⟩).symm
theorem pz_eD_e {M : pz_M} {b : Nat → Bool} {i x : Int} (h : pz_eD M b i x) (h0 : 0 ≤ x) (hx : ¬ x < M 60 88 - 1 ∨ b x.toNat = true) : 0 ≤ i → i < M 60 88 → min x (M 60 88 - 1) = (sd_end b (M 60 88).toNat i.toNat : Int) := fun a c => by
  have g := h a c
  have e : sd_hi b (M 60 88).toNat ((M 60 88).toNat - x.toNat) x.toNat = x.toNat := by
    rcases Nat.eq_zero_or_pos ((M 60 88).toNat - x.toNat) with q | q
    · rw [q]
      rfl
    · rw [show (M 60 88).toNat - x.toNat = ((M 60 88).toNat - x.toNat - 1) + 1 by omega]
      refine if_neg (fun z => ?_)
      rcases hx with y | y
      · omega
      · rw [y] at z
        exact absurd z.2 (by decide)
  rw [e] at g
  unfold sd_end
  rw [← g]
  omega
def pz_lko (F : Nat → Int) (i v : Int) : Prop := i < F 88 → v = sd_lk F i.toNat
theorem sd_lo_y {F : Nat → Int} {k : Nat} (h : F (64 + k) = 1) : sd_lo F k = k := by
  rcases k with _ | k
  · rfl
  · exact if_pos h
theorem sd_lo_s {F : Nat → Int} {k : Nat} (h0 : 0 < k) (h : ¬ F (64 + k) = 1) : sd_lo F k = sd_lo F (k - 1) := by
  rcases k with _ | k
  · exact absurd h0 (Nat.lt_irrefl _)
  · exact if_neg h
theorem sd_nr_s {F : Nat → Int} {k m : Nat} {a b s T : Int} (h : a + sd_nr F k m = T) (hm : 0 < m) (hs : s = if F (40 + k) = 1 then 0 else 1) (hb : b = a + s) : b + sd_nr F (k + 1) (m - 1) = T := by
  rcases m with _ | m
  · exact absurd hm (Nat.lt_irrefl _)
  · have h : a + ((if F (40 + k) = 1 then 0 else 1) + sd_nr F (k + 1) m) = T := h
    rw [← hs] at h
    rw [Nat.add_sub_cancel]
    omega
theorem pz_a1 {x v : Int} (h : v = (Int32.ofInt x &&& Int32.ofInt 1).toInt) : 0 ≤ v ∧ v ≤ 1 := by
  have e : (Int32.ofInt x &&& Int32.ofInt 1).toBitVec.toNat = (Int32.ofInt x).toBitVec.toNat % 2 := by
    rw [Int32.toBitVec_and, BitVec.toNat_and]
    show _ &&& 1 = _
    exact Nat.and_one_is_mod _
  have b := Nat.mod_lt (Int32.ofInt x).toBitVec.toNat (show 2 > 0 by decide)
  rw [h, pz_ni e (by first | decide | omega)]
  omega
theorem pz_lk0 {F : Nat → Int} {i x s : Int} (h0 : 0 ≤ x) (h4 : x.toNat = sd_from F i.toNat) (h5 : i < F 88 → s = (sd_to F i.toNat : Int)) : i < F 88 → 0 + sd_nr F x.toNat (s + 1 - x).toNat = sd_lk F i.toNat := fun hi => by
  rw [h5 hi, Int.zero_add, show ((sd_to F i.toNat : Int) + 1 - x).toNat = sd_to F i.toNat + 1 - sd_from F i.toNat by omega, h4]
  rfl
end
section
/-! deeds -/
def sd_st (x : Int) : Int := pz_w (pz_w (1664525 * x) + 1013904223)
def sd_ch (s : Int) : Int := pz_w ((pz_shu s 8).tmod 1000)
def sd_note (tr : Bool) (F : Nat → Int) (w i m : Int) : Nat → Int := if tr = true ∧ F 3 ≠ 150 then sd_u (sd_u (sd_u (sd_u (sd_u F (241 + 4 * (F 3).toNat) (F 0)) (242 + 4 * (F 3).toNat) w) (243 + 4 * (F 3).toNat) i) (244 + 4 * (F 3).toNat) m) 3 (F 3 + 1) else F
def sd_fb (tr : Bool) (F : Nat → Int) (ch : Int) : Bool := if tr = true then decide (sd_ch (sd_st (F 2)) < ch) else decide (500 ≤ ch)
def sd_fF (tr : Bool) (F : Nat → Int) : Nat → Int := if tr = true then sd_u F 2 (sd_st (F 2)) else F
abbrev sd_in (F : Nat → Int) (i : Nat) : Prop := F (52 + i) ≠ 1 ∧ F (76 + i) = -1
abbrev sd_cp (F : Nat → Int) (i : Nat) : Prop := (i : Int) < F 88 ∧ sd_in F i ∧ F (40 + i) ≠ 1
abbrev sd_py (F : Nat → Int) (i : Nat) : Prop := (i : Int) = F 88 - 1 ∨ F (5 + i) ≤ pz_w (F (16 + i) + (if i = 0 then 0 else F (4 + i)))
abbrev sd_ca (F : Nat → Int) (i : Nat) : Prop := (i : Int) + 1 < F 88 ∧ sd_in F (i + 1)
abbrev sd_cb (F : Nat → Int) (i : Nat) : Prop := (i : Int) + 1 < F 88 ∧ sd_in F i ∧ 1 ≤ i ∧ F (64 + i) ≠ 1
abbrev sd_c0 (F : Nat → Int) (a b : Nat) (n : Int) : Prop := (a : Int) < F 88 ∧ (b : Int) < F 88 ∧ a ≠ b ∧ -9999 ≤ pz_w (F (16 + a) - n) ∧ pz_w (F (16 + b) + n) ≤ 9999
def sd_get (tr : Bool) (F : Nat → Int) (i : Nat) : Nat → Int := sd_note tr (sd_u F (40 + i) 1) 3 i 0
def sd_gi (ls : List pz_lne) (F : Nat → Int) (o : Nat) (n : Int) : Int := min (min (sd_gv ls F o) n) (F (4 + o) - 1)
def sd_ask (tr : Bool) (ls : List pz_lne) (F : Nat → Int) (i : Nat) (n : Int) : Nat → Int := sd_note tr (sd_u (sd_u F (5 + i) (F (5 + i) - sd_gi ls F (i + 1) n)) (29 + i) (max (-999) (F (29 + i) - sd_gi ls F (i + 1) n))) 0 (i + 1) (sd_gi ls F (i + 1) n)
def sd_bri (tr : Bool) (F : Nat → Int) (i : Nat) : Nat → Int := sd_note tr (sd_u F (64 + i) 1) 1 i 0
def sd_pys (tr : Bool) (F : Nat → Int) (a b : Nat) (n : Int) : Nat → Int := sd_note tr (sd_u (sd_u F (16 + a) (F (16 + a) - n)) (16 + b) (F (16 + b) + n)) 2 a n
def sd_joi (tr : Bool) (F : Nat → Int) (i : Nat) : Nat → Int := sd_note tr (sd_u (sd_u F (52 + i) 0) (40 + i) 0) 6 i 0
def sd_unr (F : Nat → Int) (k : Nat) : Nat → Int := if (k : Int) < F 88 ∧ F (76 + k) = -1 then sd_u F (40 + k) 0 else F
def sd_lv1 (F : Nat → Int) (i : Nat) : Nat → Int := sd_u (sd_u (sd_u F (52 + i) 1) 1 (pz_w (F 1 + 1))) (40 + i) 0
def sd_lev (tr : Bool) (F : Nat → Int) (i : Nat) : Nat → Int := sd_note tr (sd_unr (if i = 0 then sd_lv1 F i else sd_unr (sd_lv1 F i) (i - 1)) (i + 1)) 4 i 0
/-- a planned deed: DAY, the deed's word, LINK, the other LINK, N -/
def sd_doe (tr : Bool) (ls : List pz_lne) (F : Nat → Int) (r : List Int) : Nat → Int :=
  if r.getD 1 0 = 18 then (if sd_ca F (r.getD 2 0).toNat then sd_ask tr ls F (r.getD 2 0).toNat (r.getD 4 0) else F)
  else if r.getD 1 0 = 19 then (if sd_cb F (r.getD 2 0).toNat then sd_bri tr F (r.getD 2 0).toNat else F)
  else if r.getD 1 0 = 20 then (if sd_c0 F (r.getD 2 0).toNat (r.getD 3 0).toNat (r.getD 4 0) then sd_pys tr F (r.getD 2 0).toNat (r.getD 3 0).toNat (r.getD 4 0) else F)
  else (if sd_cp F (r.getD 2 0).toNat then sd_get tr F (r.getD 2 0).toNat else F)
def sd_p1 (tr : Bool) (ls : List pz_lne) : List (List Int) → (Nat → Int) → (Nat → Int)
  | [], F => F
  | r :: l, F => sd_p1 tr ls l (if r.getD 0 0 = F 0 then sd_doe tr ls F r else F)
def sd_s2 (tr : Bool) (ls : List pz_lne) (i : Nat) (F : Nat → Int) : Nat → Int := if sd_cp F i then (if sd_fb tr F (sd_rd ls F i) = true then sd_get tr (sd_fF tr F) i else sd_fF tr F) else F
def sd_p2 (tr : Bool) (ls : List pz_lne) : Nat → Nat → (Nat → Int) → (Nat → Int)
  | 0, _, F => F
  | m + 1, i, F => sd_p2 tr ls m (i + 1) (sd_s2 tr ls i F)
def sd_s3 (tr : Bool) (ls : List pz_lne) (i : Nat) (F : Nat → Int) : Nat → Int := if sd_in F i ∧ 0 < sd_le ls F i then (if sd_fb tr F (sd_le ls F i) = true then sd_lev tr (sd_fF tr F) i else sd_fF tr F) else F
def sd_p3 (tr : Bool) (ls : List pz_lne) : Nat → Nat → (Nat → Int) → (Nat → Int)
  | 0, _, F => F
  | m + 1, i, F => sd_p3 tr ls m (i + 1) (sd_s3 tr ls i F)
def sd_cm (F : Nat → Int) (to : Nat) : Nat → Nat → Bool
  | 0, _ => true
  | m + 1, i => decide (F (40 + i) = 1 ∧ F (52 + i) ≠ 1 ∧ (i < to → sd_py F i)) && sd_cm F to m (i + 1)
abbrev sd_mk (F : Nat → Int) (to : Nat) (e : Bool) (i : Nat) : Prop := F (76 + i) = -1 ∧ (i = to → e = true)
def sd_mi (tr : Bool) (to : Nat) (e : Bool) : Nat → Nat → (Nat → Int) → Int → (Nat → Int) × Int
  | 0, _, F, c => (F, c)
  | m + 1, i, F, c => if sd_mk F to e i then sd_mi tr to e m (i + 1) (sd_note tr (sd_u F (76 + i) (F 0)) 5 i 0) (pz_w (c + 1)) else sd_mi tr to e m (i + 1) F c
/-- the PARTS from `from` on -/
def sd_mv (tr : Bool) (b : Nat → Bool) (n : Nat) : Nat → Nat → (Nat → Int) → Int → (Nat → Int) × Int
  | 0, _, F, c => (F, c)
  | f + 1, a, F, c => if a < n then
      (let to := sd_end b n a
       let r := if sd_cm F to (to + 1 - a) a = true then sd_mi tr to (decide (to = n - 1)) (to + 1 - a) a F c else (F, c)
       sd_mv tr b n f (if to = n - 1 then n else to) r.1 r.2) else (F, c)
def sd_s5 (ls : List pz_lne) (i : Nat) (F : Nat → Int) : Nat → Int := if F (64 + i) = 1 ∧ sd_in F i then sd_u F (16 + i) (max (-9999) (F (16 + i) - sd_co ls F i)) else F
def sd_p5 (ls : List pz_lne) : Nat → Nat → (Nat → Int) → (Nat → Int)
  | 0, _, F => F
  | m + 1, i, F => sd_p5 ls m (i + 1) (sd_s5 ls i F)
def sd_n (F : Nat → Int) : Nat := (F 88).toNat
def sd_d3 (tr : Bool) (ls : List pz_lne) (l1 : List (List Int)) (F : Nat → Int) : Nat → Int := sd_p3 tr ls (sd_n F) 0 (sd_p2 tr ls (sd_n F) 0 (sd_p1 tr ls l1 F))
def sd_d4 (tr : Bool) (ls : List pz_lne) (l1 : List (List Int)) (F : Nat → Int) : (Nat → Int) × Int := sd_mv tr (sd_bb (sd_d3 tr ls l1 F)) (sd_n F) 12 0 (sd_d3 tr ls l1 F) 0
def sd_d5 (tr : Bool) (ls : List pz_lne) (l1 : List (List Int)) (F : Nat → Int) : Nat → Int := sd_p5 ls (sd_n F) 0 (sd_d4 tr ls l1 F).1
def sd_day (tr : Bool) (ls : List pz_lne) (l1 : List (List Int)) (F : Nat → Int) : Nat → Int := sd_u (sd_d5 tr ls l1 F) 0 (pz_w (sd_d5 tr ls l1 F 0 + 1))
end
section
/-! what the deeds keep -/
def sd_okv (F : Nat → Int) (f i : Nat) (v : Int) : Prop := (f = 0 → 1 ≤ v ∧ v ≤ 999) ∧ (f = 1 → -9999 ≤ v ∧ v ≤ 9999) ∧ (f = 2 → -999 ≤ v ∧ v ≤ 999) ∧ (f = 3 → 0 ≤ v ∧ v ≤ 9) ∧ (f = 4 → v = 0 ∨ v = 1) ∧ (f = 5 → v = 0 ∨ v = 1) ∧ (f = 6 → v = 0 ∨ (v = 1 ∧ 1 ≤ i ∧ (i : Int) + 1 < F 88))
theorem sd_key {F : Nat → Int} {f i g j : Nat} {v : Int} (hf : f < 8) (hg : g < 8) (hi : i < 12) (hj : j < 12) : sd_u F (sd_fo f + i) v (sd_fo g + j) = if f = g ∧ i = j then v else F (sd_fo g + j) := by
  by_cases q : f = g ∧ i = j
  · rw [if_pos q]
    obtain ⟨rfl, rfl⟩ := q
    exact sd_uu
  · rw [if_neg q]
    exact sd_un (Ne.symm (sd_fo_ne hf hg hi hj (by first | decide | omega)))
theorem sd_wf_1 {F : Nat → Int} {f i : Nat} {v : Int} (h : sd_wf F) (hf : f < 8) (hi : (i : Int) < F 88) (hv : sd_okv F f i v) : sd_wf (sd_u F (sd_fo f + i) v) := by
  obtain ⟨w1, w2, w3⟩ := h
  have b := sd_fo_b hf (show i < 12 by omega)
  have e88 : sd_u F (sd_fo f + i) v 88 = F 88 := sd_un (by first | decide | omega)
  have e3 : sd_u F (sd_fo f + i) v 3 = F 3 := sd_un (by first | decide | omega)
  refine ⟨by rw [e88]; exact w1, by rw [e3]; exact w2, fun j hj => ?_⟩
  rw [e88] at hj
  obtain ⟨a0, a1, a2, a3, a4, a5, a6⟩ := w3 j hj
  obtain ⟨v0, v1, v2, v3, v4, v5, v6⟩ := hv
  have k0 : sd_u F (sd_fo f + i) v (4 + j) = _ := sd_key (g := 0) hf (by decide) (by first | decide | omega) (by first | decide | omega)
  have k1 : sd_u F (sd_fo f + i) v (16 + j) = _ := sd_key (g := 1) hf (by decide) (by first | decide | omega) (by first | decide | omega)
  have k2 : sd_u F (sd_fo f + i) v (28 + j) = _ := sd_key (g := 2) hf (by decide) (by first | decide | omega) (by first | decide | omega)
  have k3 : sd_u F (sd_fo f + i) v (93 + j) = _ := sd_key (g := 3) hf (by decide) (by first | decide | omega) (by first | decide | omega)
  have k4 : sd_u F (sd_fo f + i) v (40 + j) = _ := sd_key (g := 4) hf (by decide) (by first | decide | omega) (by first | decide | omega)
  have k5 : sd_u F (sd_fo f + i) v (52 + j) = _ := sd_key (g := 5) hf (by decide) (by first | decide | omega) (by first | decide | omega)
  have k6 : sd_u F (sd_fo f + i) v (64 + j) = _ := sd_key (g := 6) hf (by decide) (by first | decide | omega) (by first | decide | omega)
  unfold sd_lw
  rw [k0, k1, k2, k3, k4, k5, k6, e88]
  refine ⟨?_, ?_, ?_, ?_, ?_, ?_, ?_⟩
  · by_cases q : f = 0 ∧ i = j
    · rw [if_pos q]; exact v0 q.1
    · rw [if_neg q]; exact a0
  · by_cases q : f = 1 ∧ i = j
    · rw [if_pos q]; exact v1 q.1
    · rw [if_neg q]; exact a1
  · by_cases q : f = 2 ∧ i = j
    · rw [if_pos q]; exact v2 q.1
    · rw [if_neg q]; exact a2
  · by_cases q : f = 3 ∧ i = j
    · rw [if_pos q]; exact v3 q.1
    · rw [if_neg q]; exact a3
  · by_cases q : f = 4 ∧ i = j
    · rw [if_pos q]; exact v4 q.1
    · rw [if_neg q]; exact a4
  · by_cases q : f = 5 ∧ i = j
    · rw [if_pos q]; exact v5 q.1
    · rw [if_neg q]; exact a5
  · by_cases q : f = 6 ∧ i = j
    · rw [if_pos q, ← q.2]; exact v6 q.1
    · rw [if_neg q]; exact a6
/-- only cells that the shape doesn't ask for -/
theorem sd_wf_cg {F G : Nat → Int} (h : sd_wf F) (e : ∀ k : Nat, (4 ≤ k ∧ k < 76) ∨ k = 88 ∨ (93 ≤ k ∧ k < 105) → G k = F k) (h3 : 0 ≤ G 3 ∧ G 3 ≤ 150) : sd_wf G := by
  obtain ⟨w1, w2, w3⟩ := h
  have e88 := e 88 (by first | decide | omega)
  refine ⟨by rw [e88]; exact w1, h3, fun j hj => ?_⟩
  rw [e88] at hj
  have a := w3 j hj
  unfold sd_lw at a ⊢
  rw [e88, e (4 + j) (by first | decide | omega), e (16 + j) (by first | decide | omega), e (28 + j) (by first | decide | omega), e (93 + j) (by first | decide | omega), e (40 + j) (by first | decide | omega), e (52 + j) (by first | decide | omega), e (64 + j) (by first | decide | omega)]
  exact a
theorem sd_note_o {tr : Bool} {F : Nat → Int} {w i m : Int} {k : Nat} (hk : k < 241) (h3 : k ≠ 3) : sd_note tr F w i m k = F k := by
  unfold sd_note
  split
  · rw [sd_un h3, sd_un (by first | decide | omega), sd_un (by first | decide | omega), sd_un (by first | decide | omega), sd_un (by first | decide | omega)]
  · rfl
theorem sd_note_3 {tr : Bool} {F : Nat → Int} {w i m : Int} (h : 0 ≤ F 3 ∧ F 3 ≤ 150) : 0 ≤ sd_note tr F w i m 3 ∧ sd_note tr F w i m 3 ≤ 150 := by
  unfold sd_note
  split
  · rename_i q
    rw [sd_uu]
    omega
  · exact h
theorem sd_note_wf {tr : Bool} {F : Nat → Int} {w i m : Int} (h : sd_wf F) : sd_wf (sd_note tr F w i m) := sd_wf_cg h (fun k hk => sd_note_o (by first | decide | omega) (by first | decide | omega)) (sd_note_3 h.2.1)
theorem sd_fF_o {tr : Bool} {F : Nat → Int} {k : Nat} (hk : k ≠ 2) : sd_fF tr F k = F k := by
  unfold sd_fF
  split
  · exact sd_un hk
  · rfl
theorem sd_fF_wf {tr : Bool} {F : Nat → Int} (h : sd_wf F) : sd_wf (sd_fF tr F) := sd_wf_cg h (fun k hk => sd_fF_o (by first | decide | omega)) (by rw [sd_fF_o (by decide)]; exact h.2.1)
theorem sd_get_wf {tr : Bool} {F : Nat → Int} {i : Nat} (h : sd_wf F) (hi : (i : Int) < F 88) : sd_wf (sd_get tr F i) := sd_note_wf (sd_wf_1 (f := 4) h (by decide) hi ⟨fun q => absurd q (by decide), fun q => absurd q (by decide), fun q => absurd q (by decide), fun q => absurd q (by decide), fun _ => Or.inr rfl, fun q => absurd q (by decide), fun q => absurd q (by decide)⟩)
theorem sd_bri_wf {tr : Bool} {F : Nat → Int} {i : Nat} (h : sd_wf F) (hc : sd_cb F i) : sd_wf (sd_bri tr F i) := sd_note_wf (sd_wf_1 (f := 6) h (by decide) (by have := hc.1; omega) ⟨fun q => absurd q (by decide), fun q => absurd q (by decide), fun q => absurd q (by decide), fun q => absurd q (by decide), fun q => absurd q (by decide), fun q => absurd q (by decide), fun _ => Or.inr ⟨rfl, hc.2.2.1, hc.1⟩⟩)
theorem sd_joi_wf {tr : Bool} {F : Nat → Int} {i : Nat} (h : sd_wf F) (hi : (i : Int) < F 88) : sd_wf (sd_joi tr F i) := by
  have a := sd_wf_1 (f := 5) (v := 0) h (by decide) hi ⟨fun q => absurd q (by decide), fun q => absurd q (by decide), fun q => absurd q (by decide), fun q => absurd q (by decide), fun q => absurd q (by decide), fun _ => Or.inl rfl, fun q => absurd q (by decide)⟩
  exact sd_note_wf (sd_wf_1 (f := 4) (v := 0) a (by decide) (by rw [sd_un (by have := h.1; show (88 : Nat) ≠ 52 + i; omega)]; exact hi) ⟨fun q => absurd q (by decide), fun q => absurd q (by decide), fun q => absurd q (by decide), fun q => absurd q (by decide), fun _ => Or.inl rfl, fun q => absurd q (by decide), fun q => absurd q (by decide)⟩)
end
section
/-! the class' picture of a state -/
def sd_q (M : pz_M) (c : Nat) (P : (Nat → Int) → Prop) : Prop := ∀ F : Nat → Int, sd_se M c F → sd_wf F → P F
theorem sd_at {M : pz_M} {c r : Nat} {F : Nat → Int} {i : Int} (_hc : 71 ≤ c ∧ c < 80) (h : sd_se M c F) (hw : sd_wf F) (h0 : 0 ≤ i) (h1 : i < F 88) (hr : r = pz_lnk c i) : M r 0 = F (4 + i.toNat) ∧ M r 1 = F (16 + i.toNat) ∧ M r 2 = F (28 + i.toNat) ∧ M r 3 = F (93 + i.toNat) ∧ M r 4 = F (40 + i.toNat) ∧ M r 5 = F (52 + i.toNat) ∧ M r 6 = F (64 + i.toNat) ∧ M r 7 = F (76 + i.toNat) := by
  have hn := hw.1
  rw [hr, pz_lk_i ⟨h0, by omega⟩]
  exact sd_se_l h (by first | decide | omega)
theorem pz_lnk_c {c : Nat} {i : Int} : 89 + 13 * (c - 71) ≤ pz_lnk c i ∧ pz_lnk c i ≤ 89 + 13 * (c - 71) + 12 := by
  unfold pz_lnk pz_lb
  split <;> omega
def sd_lm (F : Nat → Int) (i : Nat) : Int := if (i : Int) = F 88 - 1 then 0 else max 0 (F (5 + i) - (F (16 + i) + if i = 0 then 0 else F (4 + i)))
theorem sd_lm_py {F : Nat → Int} {i : Nat} (hw : sd_wf F) (h1 : (i : Int) < F 88) : sd_lm F i = 0 ↔ sd_py F i := by
  obtain ⟨p0, p1, -⟩ := hw.2.2 i h1
  unfold sd_lm
  by_cases q : (i : Int) = F 88 - 1
  · rw [if_pos q]
    exact ⟨fun _ => Or.inl q, fun _ => rfl⟩
  · rw [if_neg q]
    by_cases z : i = 0
    · rw [if_pos z]
      refine ⟨fun y => Or.inr ?_, fun y => ?_⟩
      · rw [if_pos z, pz_wi (by first | decide | omega) (by first | decide | omega)]
        omega
      · have y := y.resolve_left q
        rw [if_pos z, pz_wi (by first | decide | omega) (by first | decide | omega)] at y
        omega
    · rw [if_neg z]
      refine ⟨fun y => Or.inr ?_, fun y => ?_⟩
      · rw [if_neg z, pz_wi (by first | decide | omega) (by first | decide | omega)]
        omega
      · have y := y.resolve_left q
        rw [if_neg z, pz_wi (by first | decide | omega) (by first | decide | omega)] at y
        omega
end
