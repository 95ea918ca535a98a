/-! the TEXTS in the class and in w, the IMAGE's, too -/
/-- what THE LAW is -/
def pz_lok (ls : List pz_lne) : Prop := ls.length ≤ 16 ∧ (pz_fl (pz_catl ls)).length ≤ 400 ∧ ∃ T X : Nat → Int, pz_gl T X 0 0 (.ok ls)
def pq_ltx (t : Nat) (ls : List pz_lne) (N : pz_M) : Prop := N (10 + t) 0 = (ls.length : Int) ∧ N (10 + t) 1 = ((pz_fl (pz_catl ls)).length : Int) ∧ (∀ k : Nat, k < (pz_fl (pz_catl ls)).length → N (31 + 6 * t) k = (pz_fl (pz_catl ls)).getD k 0) ∧ ∀ k : Nat, k < ls.length → pq_l1 ls k (N (27 + 6 * t) k) (N (28 + 6 * t) k) (N (29 + 6 * t) k) (N (30 + 6 * t) k)
def pq_rtx (t k : Nat) (ls : List (List Int)) (N : pz_M) : Prop := N (12 + 3 * t + k) 0 = (ls.length : Int) ∧ ∀ r c : Nat, r < ls.length → c < 5 → N (19 + 3 * t + k) (5 * r + c) = pq_gl ls r c
def pz_XT (t a cc : Nat) (M : pz_M) : Prop := ∃ (ls : List pz_lne) (l1 l2 l3 : List (List Int)), (pq_ltx t ls M ∧ pq_wlw ls (M a) ∧ pz_lok ls) ∧ (pq_rtx t 1 l1 M ∧ pq_wp l1 (M a) ∧ pq_ok (M cc 3) 1 l1) ∧ (pq_rtx t 2 l2 M ∧ pq_wh l2 (M cc 3) (M a) ∧ pq_ok (M cc 3) 2 l2) ∧ (pq_rtx t 3 l3 M ∧ pq_wd l3 (M a) ∧ pq_ok (M cc 3) 3 l3)
def pz_xw (j : Nat) : Prop := (89 ≤ j ∧ j ≤ 92) ∨ (105 ≤ j ∧ j ≤ 240) ∨ 841 ≤ j
theorem pq_ltx_mv {t t' : Nat} {ls : List pz_lne} {M M' : pz_M} (k9 : pz_lok ls) (h : pq_ltx t ls M) (e10 : ∀ j : Nat, j < 2 → M' (10 + t') j = M (10 + t) j) (e27 : ∀ k j : Nat, k < 4 → j < 16 → M' (27 + 6 * t' + k) j = M (27 + 6 * t + k) j) (e31 : ∀ j : Nat, j < 400 → M' (31 + 6 * t') j = M (31 + 6 * t) j) : pq_ltx t' ls M' := by
  obtain ⟨h1, h2, h3, h4⟩ := h
  obtain ⟨k1, k2, -⟩ := k9
  refine ⟨by rw [e10 0 (by omega)]; exact h1, by rw [e10 1 (by omega)]; exact h2, fun k hk => by rw [e31 k (by omega)]; exact h3 k hk, fun k hk => ?_⟩
  have a0 := e27 0 k (by omega) (by omega)
  have a1 := e27 1 k (by omega) (by omega)
  have a2 := e27 2 k (by omega) (by omega)
  have a3 := e27 3 k (by omega) (by omega)
  rw [show 27 + 6 * t' + 0 = 27 + 6 * t' by omega, show 27 + 6 * t + 0 = 27 + 6 * t by omega] at a0
  rw [show 27 + 6 * t' + 1 = 28 + 6 * t' by omega, show 27 + 6 * t + 1 = 28 + 6 * t by omega] at a1
  rw [show 27 + 6 * t' + 2 = 29 + 6 * t' by omega, show 27 + 6 * t + 2 = 29 + 6 * t by omega] at a2
  rw [show 27 + 6 * t' + 3 = 30 + 6 * t' by omega, show 27 + 6 * t + 3 = 30 + 6 * t by omega] at a3
  rw [a0, a1, a2, a3]
  exact h4 k hk
theorem pq_rtx_mv {t t' k : Nat} {ls : List (List Int)} {M M' : pz_M} (h16 : ls.length ≤ 16) (h : pq_rtx t k ls M) (e13 : M' (12 + 3 * t' + k) 0 = M (12 + 3 * t + k) 0) (e20 : ∀ j : Nat, j < 80 → M' (19 + 3 * t' + k) j = M (19 + 3 * t + k) j) : pq_rtx t' k ls M' :=
  ⟨e13.trans h.1, fun r c hr hc => (e20 _ (by omega)).trans (h.2 r c hr hc)⟩
theorem pq_wl_mv {ls : List pz_lne} {f g : Nat → Int} (k9 : pz_lok ls) (h : pq_wlw ls f) (e : ∀ j : Nat, pq_wf 0 j → j < 1725 → g j = f j) : pq_wlw ls g := by
  obtain ⟨h1, h2, h3⟩ := h
  obtain ⟨k1, k2, -⟩ := k9
  have k3 := Nat.le_trans (pz_fl_le (o := pz_catl ls)) k2
  refine ⟨(e 89 (by unfold pq_wf; omega) (by omega)).trans h1, fun k hk => ?_, fun k hk => ?_⟩
  · rw [e _ (by unfold pq_wf; omega) (by omega), e _ (by unfold pq_wf; omega) (by omega), e _ (by unfold pq_wf; omega) (by omega), e _ (by unfold pq_wf; omega) (by omega)]
    exact h2 k hk
  · show g (905 + 2 * k) = _ ∧ (_ → g (905 + (2 * k + 1)) = _)
    rw [e _ (by unfold pq_wf; omega) (by omega), e _ (by unfold pq_wf; omega) (by omega)]
    exact h3 k hk
theorem pq_wp_mv {ls : List (List Int)} {f g : Nat → Int} (h16 : ls.length ≤ 16) (h : pq_wp ls f) (e : ∀ j : Nat, pq_wf 1 j → j < 1725 → g j = f j) : pq_wp ls g :=
  ⟨(e 90 (by unfold pq_wf; omega) (by omega)).trans h.1, fun r c hr hc => (e _ (by unfold pq_wf; omega) (by omega)).trans (h.2 r c hr hc)⟩
theorem pq_wd_mv {ls : List (List Int)} {f g : Nat → Int} (h16 : ls.length ≤ 16) (h : pq_wd ls f) (e : ∀ j : Nat, pq_wf 3 j → j < 1725 → g j = f j) : pq_wd ls g :=
  ⟨(e 92 (by unfold pq_wf; omega) (by omega)).trans h.1, fun r c hr hc => (e _ (by unfold pq_wf; omega) (by omega)).trans (h.2 r c hr hc)⟩
theorem pq_wh_mv {ls : List (List Int)} {n n' : Int} {f g : Nat → Int} (hn : n' = n) (h : pq_wh ls n f) (e : ∀ j : Nat, pq_wf 2 j → j < 1725 → g j = f j) : pq_wh ls n' g :=
  ⟨(e 91 (by unfold pq_wf; omega) (by omega)).trans h.1, fun i hi q => ⟨(e _ (by unfold pq_wf; omega) (by omega)).trans (h.2 i hi (by omega)).1, (e _ (by unfold pq_wf; omega) (by omega)).trans (h.2 i hi (by omega)).2⟩⟩
theorem pz_XT_mv {t a cc t' a' cc' : Nat} {M M' : pz_M} (h : pz_XT t a cc M) (e10 : ∀ j : Nat, j < 2 → M' (10 + t') j = M (10 + t) j) (e27 : ∀ k j : Nat, k < 4 → j < 16 → M' (27 + 6 * t' + k) j = M (27 + 6 * t + k) j) (e31 : ∀ j : Nat, j < 400 → M' (31 + 6 * t') j = M (31 + 6 * t) j) (e13 : ∀ k : Nat, 1 ≤ k → k < 4 → M' (12 + 3 * t' + k) 0 = M (12 + 3 * t + k) 0) (e20 : ∀ k j : Nat, 1 ≤ k → k < 4 → j < 80 → M' (19 + 3 * t' + k) j = M (19 + 3 * t + k) j) (e2 : ∀ j : Nat, pz_xw j → j < 1725 → M' a' j = M a j) (e3 : M' cc' 3 = M cc 3) : pz_XT t' a' cc' M' := by
  obtain ⟨ls, l1, l2, l3, ⟨x1, x2, x3⟩, ⟨p1, p2, p3⟩, ⟨h1, h2, h3⟩, ⟨d1, d2, d3⟩⟩ := h
  exact ⟨ls, l1, l2, l3, ⟨pq_ltx_mv x3 x1 e10 e27 e31, pq_wl_mv x3 x2 (fun j y => e2 j (by unfold pq_wf at y; unfold pz_xw; omega)), x3⟩, ⟨pq_rtx_mv p3.1 p1 (e13 1 (by omega) (by omega)) (fun j hj => e20 1 j (by omega) (by omega) hj), pq_wp_mv p3.1 p2 (fun j y => e2 j (by unfold pq_wf at y; unfold pz_xw; omega)), pq_ok_le p3 (by omega)⟩, ⟨pq_rtx_mv h3.1 h1 (e13 2 (by omega) (by omega)) (fun j hj => e20 2 j (by omega) (by omega) hj), pq_wh_mv e3 h2 (fun j y => e2 j (by unfold pq_wf at y; unfold pz_xw; omega)), pq_ok_le h3 (by omega)⟩, ⟨pq_rtx_mv d3.1 d1 (e13 3 (by omega) (by omega)) (fun j hj => e20 3 j (by omega) (by omega) hj), pq_wd_mv d3.1 d2 (fun j y => e2 j (by unfold pq_wf at y; unfold pz_xw; omega)), pq_ok_le d3 (by omega)⟩⟩
/-- the cells of the TEXTS -/
def pz_xcl (t b : Nat) : Prop := b = 10 + t ∨ (27 + 6 * t ≤ b ∧ b ≤ 31 + 6 * t) ∨ (13 + 3 * t ≤ b ∧ b ≤ 15 + 3 * t) ∨ (20 + 3 * t ≤ b ∧ b ≤ 22 + 3 * t)
theorem pz_XT_cg {t a cc : Nat} {M M' : pz_M} (h : pz_XT t a cc M) (e : ∀ b j : Nat, pz_xcl t b → M' b j = M b j) (e2 : ∀ j : Nat, pz_xw j → M' a j = M a j) (e3 : M' cc 3 = M cc 3) : pz_XT t a cc M' :=
  pz_XT_mv h (fun j _ => e _ j (by unfold pz_xcl; omega)) (fun k j hk _ => e _ j (by unfold pz_xcl; omega)) (fun j _ => e _ j (by unfold pz_xcl; omega)) (fun k hk hk2 => e _ _ (by unfold pz_xcl; omega)) (fun k j hk hk2 _ => e _ j (by unfold pz_xcl; omega)) (fun j y _ => e2 j y) e3
def pz_RX (M : pz_M) : Prop := pz_RV M ∧ pz_XT 0 60 71 M ∧ pz_XT 1 61 73 M
def pz_xtp (b j : Nat) : Prop := pz_xcl 0 b ∨ pz_xcl 1 b ∨ (b = 60 ∧ pz_xw j) ∨ b = 61 ∨ (b = 73 ∧ j = 3)
theorem pz_RX_of {M M2 : pz_M} (r : pz_RV M2) (h : pz_RX M) (e : ∀ b j, pz_xtp b j → M2 b j = M b j) (e3 : M2 71 3 = M 71 3) : pz_RX M2 :=
  ⟨r, pz_XT_cg h.2.1 (fun b j y => e b j (Or.inl y)) (fun j y => e 60 j (Or.inr (Or.inr (Or.inl ⟨rfl, y⟩)))) e3, pz_XT_cg h.2.2 (fun b j y => e b j (Or.inr (Or.inl y))) (fun j y => e 61 j (Or.inr (Or.inr (Or.inr (Or.inl rfl))))) (e 73 3 (Or.inr (Or.inr (Or.inr (Or.inr ⟨rfl, rfl⟩)))))⟩
theorem pz_RX_sW {M M' : pz_M} (hI : pz_ic M) (h : pz_RX M) (hs : pz_sW M M') : pz_RX M' := by
  have f := (hs.1.2.2 hI h.1.1.2.2.2.2.2).2 71 3 (by unfold pz_fz; omega)
  exact pz_RX_of (pz_RT_sW hI h.1 hs) h (fun b j q => hs.1.2.1 b j (by unfold pz_xtp pz_xcl pz_xw at q; unfold pz_fy pz_mid; omega)) f
theorem pz_RX_sk {M M' : pz_M} (h : pz_RX M) (hs : pz_sk M M') : pz_RX M' :=
  pz_RX_of (pz_RT_sk h.1 hs) h (fun b j q => hs.1.2 b j (by unfold pz_xtp pz_xcl pz_xw at q; unfold pz_mn pz_mid; omega)) (hs.1.2 71 3 (by unfold pz_mn pz_mid; omega))
theorem pz_RX_feed {M M1 M2 : pz_M} {p q w s u v v' : Int} (hI : pz_ic M) (hR : pz_RX M) (h : (M 4 1 + 20 ≤ 400 ∧ v = M 4 1 + 20 ∧ M1 4 1 = M 4 1 + 20 ∧ pz_fb M M1 p q w s u) ∨ (¬ M 4 1 + 20 ≤ 400 ∧ v = -1 ∧ M1 = M)) (z : pq_pr pq_Pf M M1)
    (h' : (M1 1 16 + 20 ≤ 400 ∧ v' = M1 1 16 + 20 ∧ M2 1 16 = M1 1 16 + 20 ∧ pz_fm M1 M2 20 p q w s u) ∨ (¬ M1 1 16 + 20 ≤ 400 ∧ v' = -1 ∧ M2 = M1)) (z' : pz_rl pz_QF M1 M2) : v = v' ∧ pz_RX M2 := by
  obtain ⟨e, r⟩ := pz_RT_feed hI hR.1 h z h' z'
  exact ⟨e, pz_RX_of r hR (fun b j q => (z'.2 b j (by unfold pz_xtp pz_xcl pz_xw at q; unfold pz_QF; omega)).trans (z.2 b j (by unfold pz_xtp pz_xcl pz_xw at q; unfold pq_Pf; omega))) (by rw [z'.2 71 3 (by unfold pz_QF; omega), z.2 71 3 (by unfold pq_Pf; omega)])⟩
theorem pz_RX_end {M M1 M2 : pz_M} {n v v' : Int} (hI : pz_ic M) (hR : pz_RX M) (h : if 0 ≤ n ∧ n ≤ M 4 1 then v = 1 ∧ M1 4 1 = n else v = 0 ∧ M1 4 1 = M 4 1) (z : pz_sy M M1) (h' : if 0 ≤ n ∧ n ≤ M1 1 16 then v' = 1 ∧ M2 1 16 = n else v' = 0 ∧ M2 1 16 = M1 1 16) (z' : pz_sn M1 M2) : v = v' ∧ pz_RX M2 := by
  obtain ⟨e, r⟩ := pz_RT_end hI hR.1 h z h' z'
  exact ⟨e, pz_RX_of r hR (fun b j q => (z'.2 b j (by unfold pz_xtp pz_xcl pz_xw at q; unfold pz_mn pz_mid; omega)).trans (z.2 b j (by unfold pz_xtp pz_xcl pz_xw at q; unfold pz_md pz_kx pz_mid; omega))) (by rw [z'.2 71 3 (by unfold pz_mn pz_mid; omega), z.2 71 3 (by unfold pz_md pz_kx pz_mid; omega)])⟩
theorem pz_RX_set {M M1 M2 : pz_M} {w i n v v' : Int} {C : Prop} (hC : C → 0 ≤ w ∧ w ≤ 4) (hI : pz_ic M) (hR : pz_RX M) (h : (((0 ≤ i ∧ i < M 71 3) ∧ C) ∧ v = 1 ∧ M1 = pz_u (pz_u M (89 + i.toNat) w.toNat n) 3 2 0) ∨ (¬ ((0 ≤ i ∧ i < M 71 3) ∧ C) ∧ v = 0 ∧ M1 = M)) (h' : (((0 ≤ i ∧ i < M1 60 88) ∧ C) ∧ v' = 1 ∧ M2 = pz_u (pz_u M1 60 (pz_bs w + i).toNat n) 1 4 0) ∨ (¬ ((0 ≤ i ∧ i < M1 60 88) ∧ C) ∧ v' = 0 ∧ M2 = M1)) : v = v' ∧ pz_RX M2 := by
  obtain ⟨e, r⟩ := pz_RT_set hC hI hR.1 h h'
  have i1 := hI.1 71 (by omega) (by omega)
  have e1 : ∀ b j, pz_xtp b j ∨ (b = 60 ∧ j = 88) ∨ (b = 71 ∧ j = 3) → M1 b j = M b j := fun b j y => by
    unfold pz_xtp pz_xcl pz_xw at y
    rcases h with ⟨⟨a, -⟩, -, h⟩ | ⟨-, -, h⟩
    · rw [h, pz_una (by omega), pz_una (by omega)]
    · rw [h]
  have e2 : ∀ b j, pz_xtp b j ∨ (b = 71 ∧ j = 3) → M2 b j = M1 b j := fun b j y => by
    have k := e1 60 88 (Or.inr (Or.inl ⟨rfl, rfl⟩))
    have k2 := hR.1.1.1
    rcases h' with ⟨⟨a, hc⟩, -, h'⟩ | ⟨-, -, h'⟩
    · have hb : (w = 3 ∧ pz_bs w = 93) ∨ (w ≠ 3 ∧ 4 ≤ pz_bs w ∧ pz_bs w ≤ 40) := by
        have := hC hc
        unfold pz_bs
        repeat' split
        all_goals omega
      unfold pz_xtp pz_xcl pz_xw at y
      rw [h', pz_une (by omega), pz_une (by omega)]
    · rw [h']
  exact ⟨e, pz_RX_of r hR (fun b j y => (e2 b j (Or.inl y)).trans (e1 b j (Or.inl y))) (by rw [e2 71 3 (Or.inr ⟨rfl, rfl⟩), e1 71 3 (Or.inr (Or.inr ⟨rfl, rfl⟩))])⟩
theorem pz_XT_lk {M M2 : pz_M} {N : Nat} (h : pz_XT 0 60 71 M) (hn : (N : Int) = M 71 3) (e : ∀ b j : Nat, pz_xcl 0 b → M2 b j = M b j) (e2 : ∀ j : Nat, pz_xw j → j ≠ 105 + 2 * N → j ≠ 106 + 2 * N → M2 60 j = M 60 j) (a : M2 60 (105 + 2 * N) = 0) (b : M2 60 (106 + 2 * N) = 240) (hN : N < 12) (e3 : M2 71 3 = M 71 3 + 1) : pz_XT 0 60 71 M2 := by
  obtain ⟨ls, l1, l2, l3, ⟨x1, x2, x3⟩, ⟨p1, p2, p3⟩, ⟨h1, h2, h3⟩, ⟨d1, d2, d3⟩⟩ := h
  refine ⟨ls, l1, l2, l3, ⟨pq_ltx_mv x3 x1 (fun j _ => e _ j (by unfold pz_xcl; omega)) (fun k j hk _ => e _ j (by unfold pz_xcl; omega)) (fun j _ => e _ j (by unfold pz_xcl; omega)), pq_wl_mv x3 x2 (fun j y _ => e2 j (by unfold pq_wf at y; unfold pz_xw; omega) (by unfold pq_wf at y; omega) (by unfold pq_wf at y; omega)), x3⟩,
    ⟨pq_rtx_mv p3.1 p1 (e _ _ (by unfold pz_xcl; omega)) (fun j _ => e _ j (by unfold pz_xcl; omega)), pq_wp_mv p3.1 p2 (fun j y _ => e2 j (by unfold pq_wf at y; unfold pz_xw; omega) (by unfold pq_wf at y; omega) (by unfold pq_wf at y; omega)), pq_ok_le p3 (by omega)⟩,
    ⟨pq_rtx_mv h3.1 h1 (e _ _ (by unfold pz_xcl; omega)) (fun j _ => e _ j (by unfold pz_xcl; omega)), ⟨(e2 91 (by unfold pz_xw; omega) (by omega) (by omega)).trans h2.1, fun i hi q9 => ?_⟩, pq_ok_le h3 (by omega)⟩,
    ⟨pq_rtx_mv d3.1 d1 (e _ _ (by unfold pz_xcl; omega)) (fun j _ => e _ j (by unfold pz_xcl; omega)), pq_wd_mv d3.1 d2 (fun j y _ => e2 j (by unfold pq_wf at y; unfold pz_xw; omega) (by unfold pq_wf at y; omega) (by unfold pq_wf at y; omega)), pq_ok_le d3 (by omega)⟩⟩
  by_cases c : i = N
  · subst c
    have no : ∀ r, r < l2.length → pq_gl l2 r 0 ≠ (i : Int) := fun r hr => by
      have q := (h3.2 r hr).2.1 rfl
      show (l2.getD r []).getD 0 0 ≠ (i : Int)
      omega
    rw [a, b, pz_ph_n no, pz_ph_n no]
    exact ⟨rfl, rfl⟩
  · rw [e2 _ (by unfold pz_xw; omega) (by omega) (by omega), e2 _ (by unfold pz_xw; omega) (by omega) (by omega)]
    exact h2.2 i hi (by omega)
theorem pz_RX_link {M M1 M2 : pz_M} {p q w s v v' : Int} {C : Prop} (hI : pz_ic M) (hR : pz_RX M) (h : ((M 71 3 < 12 ∧ C) ∧ v = M 71 3 ∧ M1 = pz_lkf p q w s M) ∨ (¬ (M 71 3 < 12 ∧ C) ∧ v = -1 ∧ M1 = M)) (h' : ((M1 60 88 < 12 ∧ C) ∧ v' = M1 60 88 ∧ M2 = pz_lkm p q w s M1) ∨ (¬ (M1 60 88 < 12 ∧ C) ∧ v' = -1 ∧ M2 = M1)) : v = v' ∧ pz_RX M2 := by
  obtain ⟨e, r⟩ := pz_RT_link hI hR.1 h h'
  refine ⟨e, ?_⟩
  have i1 := hI.1 71 (by omega) (by omega)
  have k2 := hR.1.1.1
  have e1 : ∀ b j, pz_xtp b j ∨ (b = 60 ∧ j = 88) → M1 b j = M b j := fun b j y => by
    unfold pz_xtp pz_xcl pz_xw at y
    rcases h with ⟨⟨a, -⟩, -, h⟩ | ⟨-, -, h⟩
    · rw [h]
      by_cases c : b = 73
      · rw [c]
        exact pz_lkf_o (by omega)
      · exact pz_lkf_o (by omega)
    · rw [h]
  have k := e1 60 88 (Or.inr ⟨rfl, rfl⟩)
  rcases h' with ⟨⟨a, c⟩, b, h'⟩ | ⟨a, b, h'⟩
  · rcases h with ⟨⟨a', -⟩, -, h⟩ | ⟨a', -, h⟩
    · have o : ∀ b j, b ≠ 60 → ¬ (b = 1 ∧ j = 4) → M2 b j = M1 b j := fun b j q q2 => by rw [h']; exact pz_lkm_o q q2
      have c3 : M2 71 3 = M 71 3 + 1 := by
        rw [o 71 3 (by omega) (by omega), h, pz_lkf_3 (by omega) (by omega) (by omega), if_pos rfl]
      have f : ∀ j, pz_xw j → j ≠ 105 + 2 * (M 60 88).toNat → j ≠ 106 + 2 * (M 60 88).toNat → M2 60 j = M 60 j := fun j y y1 y2 => by
        rw [h']
        unfold pz_xw at y
        unfold pz_lkm
        rw [k, pz_una (by decide), pz_unk (by omega), pz_unk (by omega), pz_unk (by omega), pz_unk (by omega), pz_unk (by omega), pz_unk (by omega), pz_unk (by omega), pz_unk (by omega), pz_unk (by omega), pz_unk (by omega), pz_unk (by omega)]
        exact e1 60 j (Or.inl (by unfold pz_xtp pz_xw; omega))
      have g1 : M2 60 (105 + 2 * (M 60 88).toNat) = 0 := by
        rw [h']
        unfold pz_lkm
        rw [k, pz_una (by decide), pz_unk (by omega), pz_unk (by omega)]
        exact pz_uu
      have g2 : M2 60 (106 + 2 * (M 60 88).toNat) = 240 := by
        rw [h']
        unfold pz_lkm
        rw [k, pz_una (by decide), pz_unk (by omega)]
        exact pz_uu
      refine ⟨r, pz_XT_lk (N := (M 60 88).toNat) hR.2.1 (by omega) (fun b j y => ?_) f g1 g2 (by omega) (by omega), pz_XT_cg hR.2.2 (fun b j y => ?_) (fun j y => ?_) ?_⟩
      · have y9 := y
        unfold pz_xcl at y
        exact (o b j (by omega) (by omega)).trans (e1 b j (Or.inl (Or.inl y9)))
      · have y9 := y
        unfold pz_xcl at y
        exact (o b j (by omega) (by omega)).trans (e1 b j (Or.inl (Or.inr (Or.inl y9))))
      · exact (o 61 j (by omega) (by omega)).trans (e1 61 j (Or.inl (by unfold pz_xtp; omega)))
      · rw [o 73 3 (by omega) (by omega), e1 73 3 (Or.inl (by unfold pz_xtp; omega))]
    · exact absurd ⟨by omega, c⟩ a'
  · rcases h with ⟨⟨a', c⟩, -, h⟩ | ⟨a', -, h⟩
    · exact absurd ⟨by omega, c⟩ a
    · rw [h', h]
      exact hR
theorem pz_XT_img {d s t t' a a' cc cc' : Nat} {M M' : pz_M} (hd : d = 8 + t') (hs : s = 8 + t) (ht : t < 2) (ht' : t' < 2) (h : pz_XT t a cc M) (q : pz_Ti d s M M') (e2 : ∀ j : Nat, j < 1725 → M' a' j = M a j) (e3 : M' cc' 3 = M cc 3) : pz_XT t' a' cc' M' := by
  obtain ⟨q1, q2, q3, q4, q5, -⟩ := q
  subst hd
  subst hs
  refine pz_XT_mv h (fun j hj => ?_) (fun k j hk hj => ?_) (fun j hj => ?_) (fun k hk hk2 => ?_) (fun k j hk hk2 hj => ?_) (fun j _ hj => e2 j hj) e3
  · have x := q1 j hj
    rw [show 8 + t' + 2 = 10 + t' by omega, show 8 + t + 2 = 10 + t by omega] at x
    exact x
  · have x := q2 k j hk hj
    rw [show 27 + 6 * (8 + t' - 8) + k = 27 + 6 * t' + k by omega, show 27 + 6 * (8 + t - 8) + k = 27 + 6 * t + k by omega] at x
    exact x
  · have x := q3 j hj
    rw [show 31 + 6 * (8 + t' - 8) = 31 + 6 * t' by omega, show 31 + 6 * (8 + t - 8) = 31 + 6 * t by omega] at x
    exact x
  · have x := q4 (k - 1) (by omega)
    rw [show 13 + 3 * (8 + t' - 8) + (k - 1) = 12 + 3 * t' + k by omega, show 13 + 3 * (8 + t - 8) + (k - 1) = 12 + 3 * t + k by omega] at x
    exact x
  · have x := q5 (k - 1) j (by omega) hj
    rw [show 20 + 3 * (8 + t' - 8) + (k - 1) = 19 + 3 * t' + k by omega, show 20 + 3 * (8 + t - 8) + (k - 1) = 19 + 3 * t + k by omega] at x
    exact x
theorem pz_xi_md {c o : Nat} {M M1 : pz_M} {b j : Nat} (hc : c = 71 ∨ c = 73) (h : pz_xi c o M M1) (q : pz_mid b) : M1 b j = M b j := h.mid (by omega) b j q
theorem pz_xi_n3 {c o : Nat} {M M1 : pz_M} (hc : c = 71 ∨ c = 73) (ho : 71 ≤ o ∧ o < 80) (h : pz_xi c o M M1) : M1 c 3 = M o 3 := by
  rw [h.2.1 c 3 (by unfold pz_mq0 pz_ko pz_mid; omega) (by omega) (by omega)]
  exact pz_tf_k (by omega) (by omega)
theorem pz_RX_image {M M1 M2 : pz_M} {t v v' : Int} (hR : pz_RX M) (h : (t = 0 ∧ M 0 13 = 0 ∧ v = 0 ∧ M1 = M) ∨ ((t ≠ 0 ∧ v = 1 ∧ M1 0 13 = 1 ∧ pz_xi 73 71 M M1) ∧ pz_Ti 9 8 M M1) ∨ ((t = 0 ∧ M 0 13 ≠ 0 ∧ v = 1 ∧ M1 0 13 = M 0 13 ∧ M1 3 2 = 0 ∧ pz_xi 71 73 M M1) ∧ pz_Ti 8 9 M M1))
    (h' : (t = 0 ∧ M1 1 5 = 0 ∧ v' = 0 ∧ M2 = M1) ∨ ((t ≠ 0 ∨ M1 1 5 ≠ 0) ∧ v' = 1 ∧ M2 1 5 = 1 ∧ ((t = 0 → ∀ k : Nat, (k : Int) < 1725 → M2 60 k = M1 61 k) ∧ (t = 0 → ∀ k, M2 61 k = M1 61 k) ∧ (t ≠ 0 → ∀ k : Nat, (k : Int) < 1725 → M2 61 k = M1 60 k) ∧ (t ≠ 0 → ∀ k, M2 60 k = M1 60 k)))) (hq : pz_rl pz_QI M1 M2) : v = v' ∧ pz_RX M2 := by
  obtain ⟨e, r⟩ := pz_RT_image hR.1 (pz_img_x h) h' hq
  refine ⟨e, ?_⟩
  have m2 : ∀ b j, b ≠ 60 → b ≠ 61 → b ≠ 1 → M2 b j = M1 b j := fun b j y1 y2 y3 => hq.2 b j (by unfold pz_QI; omega)
  rcases h with ⟨a1, a2, -, a3⟩ | ⟨⟨a1, -, -, a3⟩, a4⟩ | ⟨⟨a1, a2, -, -, -, a3⟩, a4⟩
  · rcases h' with ⟨-, -, -, b⟩ | ⟨b, -, -, -⟩
    · rw [b, a3]
      exact hR
    · rw [a3] at b
      have := hR.1.1.2.2.2.2.1
      omega
  · rcases h' with ⟨b, -, -, -⟩ | ⟨-, -, -, -, -, b3, b4⟩
    · exact absurd b a1
    · have n73 : M2 73 3 = M 71 3 := (m2 73 3 (by omega) (by omega) (by omega)).trans (pz_xi_n3 (Or.inr rfl) (by omega) a3)
      have n71 : M2 71 3 = M 71 3 := by
        rw [m2 71 3 (by omega) (by omega) (by omega), a3.2.1 71 3 (by unfold pz_mq0 pz_ko pz_mid; omega) (by omega) (by omega)]
        exact pz_tf_o (by omega) (by unfold pz_lb; omega)
      have w60 : ∀ j, M1 60 j = M 60 j := fun j => pz_xi_md (Or.inr rfl) a3 (by unfold pz_mid; omega)
      have t2 : pz_Ti 9 8 M M2 := by
        obtain ⟨q1, q2, q3, q4, q5, q6⟩ := a4
        exact ⟨fun j hj => (m2 _ _ (by omega) (by omega) (by omega)).trans (q1 j hj), fun k j hk hj => (m2 _ _ (by omega) (by omega) (by omega)).trans (q2 k j hk hj), fun j hj => (m2 _ _ (by omega) (by omega) (by omega)).trans (q3 j hj), fun k hk => (m2 _ _ (by omega) (by omega) (by omega)).trans (q4 k hk), fun k j hk hj => (m2 _ _ (by omega) (by omega) (by omega)).trans (q5 k j hk hj), fun b j y1 y2 y3 => (m2 _ _ (by omega) (by omega) (by omega)).trans (q6 b j y1 y2 y3)⟩
      refine ⟨r, pz_XT_cg hR.2.1 (fun b j y => ?_) (fun j _ => ?_) n71, pz_XT_img (d := 9) (s := 8) (t := 0) (t' := 1) rfl rfl (by omega) (by omega) hR.2.1 t2 (fun j hj => ?_) n73⟩
      · unfold pz_xcl at y
        exact t2.2.2.2.2.2 b j (by omega) (by omega) (by unfold pz_td; omega)
      · rw [b4 a1]
        exact w60 j
      · rw [b3 a1 j (by omega)]
        exact w60 j
  · rcases h' with ⟨-, b, -, -⟩ | ⟨-, -, -, b3, b4, -, -⟩
    · have := hR.1.1.2.2.2.2.1
      have := pz_xi_md (j := 5) (Or.inl rfl) a3 (b := 1) (Or.inl rfl)
      omega
    · have n71 : M2 71 3 = M 73 3 := (m2 71 3 (by omega) (by omega) (by omega)).trans (pz_xi_n3 (Or.inl rfl) (by omega) a3)
      have n73 : M2 73 3 = M 73 3 := by
        rw [m2 73 3 (by omega) (by omega) (by omega), a3.2.1 73 3 (by unfold pz_mq0 pz_ko pz_mid; omega) (by omega) (by omega)]
        exact pz_tf_o (by omega) (by unfold pz_lb; omega)
      have w61 : ∀ j, M1 61 j = M 61 j := fun j => pz_xi_md (Or.inl rfl) a3 (by unfold pz_mid; omega)
      have t2 : pz_Ti 8 9 M M2 := by
        obtain ⟨q1, q2, q3, q4, q5, q6⟩ := a4
        exact ⟨fun j hj => (m2 _ _ (by omega) (by omega) (by omega)).trans (q1 j hj), fun k j hk hj => (m2 _ _ (by omega) (by omega) (by omega)).trans (q2 k j hk hj), fun j hj => (m2 _ _ (by omega) (by omega) (by omega)).trans (q3 j hj), fun k hk => (m2 _ _ (by omega) (by omega) (by omega)).trans (q4 k hk), fun k j hk hj => (m2 _ _ (by omega) (by omega) (by omega)).trans (q5 k j hk hj), fun b j y1 y2 y3 => (m2 _ _ (by omega) (by omega) (by omega)).trans (q6 b j y1 y2 y3)⟩
      refine ⟨r, pz_XT_img (d := 8) (s := 9) (t := 1) (t' := 0) rfl rfl (by omega) (by omega) hR.2.2 t2 (fun j hj => ?_) n71, pz_XT_cg hR.2.2 (fun b j y => ?_) (fun j _ => ?_) n73⟩
      · rw [b3 a1 j (by omega)]
        exact w61 j
      · unfold pz_xcl at y
        exact t2.2.2.2.2.2 b j (by omega) (by omega) (by unfold pz_td; omega)
      · rw [b4 a1]
        exact w61 j
theorem pz_RX_text {M M1 M2 : pz_M} {k v v' : Int} (hI : pz_ic M) (hI1 : pz_ic M1) (hR : pz_RX M) (h : pq_te k (M 71 3) M M1 v ∧ M1 4 1 = 0 ∧ (∀ j : Nat, j ≠ 2 → M1 3 j = M 3 j) ∧ (M1 3 2 = M 3 2 ∨ M1 3 2 = 0)) (z : pq_pr pq_Pt M M1) (h' : pq_tx k M1 M2 v' ∧ M2 1 16 = 0) (z' : pz_rl pz_QT M1 M2) : v = v' ∧ pz_RX M2 := by
  obtain ⟨e, r⟩ := pz_RT_text hI hR.1 h z h' z'
  refine ⟨e, r, ?_, ?_⟩
  · have m2 : ∀ b j, pz_xcl 0 b → M2 b j = M1 b j := fun b j y => z'.2 b j (by unfold pz_xcl at y; unfold pz_QT; omega)
    have e60 : ∀ j, M1 60 j = M 60 j := fun j => z.2 60 j (by unfold pq_Pt; omega)
    have n71 : M2 71 3 = M 71 3 := (z'.2 71 3 (by unfold pz_QT; omega)).trans (z.2 71 3 (by unfold pq_Pt; omega))
    obtain ⟨ls, l1, l2, l3, ⟨x1, x2, x3⟩, ⟨p1, p2, p3⟩, ⟨h1, h2, h3⟩, ⟨d1, d2, d3⟩⟩ := hR.2.1
    obtain ⟨-, -, -, c⟩ := pz_RT_cmp hI hR.1 h.1 z h'.1
    rcases c with ⟨ls', k0, g, ⟨c1, c2, c3, c4⟩, c5, c6, c7⟩ | ⟨lr, k3, c1, ⟨c2, c3⟩, c5, c6, c7⟩ | ⟨c1, c2⟩
    · have i1 := hI1.2.2.2.1 10 (by omega) (by omega)
      have fr : ∀ k : Int, k = 1 ∨ k = 2 ∨ k = 3 → ∀ j : Nat, pq_wf k j → j < 1725 → M2 60 j = M 60 j := fun k hk j y _ => (c7 j (by unfold pq_wf at y ⊢; omega)).trans (e60 j)
      have fc : ∀ b j, (13 ≤ b ∧ b ≤ 15) ∨ (20 ≤ b ∧ b ≤ 22) → M2 b j = M b j := fun b j y => (m2 b j (by unfold pz_xcl; omega)).trans (c5 b j y)
      rw [← n71] at p3 h3 d3
      have x0 : pz_lok ls' := ⟨by omega, by omega, g⟩
      refine ⟨ls', l1, l2, l3, ⟨⟨?_, ?_, fun i hi => ?_, fun i hi => ?_⟩, c6, x0⟩, ⟨pq_rtx_mv p3.1 p1 (fc _ _ (by omega)) (fun j _ => fc _ j (by omega)), pq_wp_mv p3.1 p2 (fr 1 (by omega)), p3⟩, ⟨pq_rtx_mv h3.1 h1 (fc _ _ (by omega)) (fun j _ => fc _ j (by omega)), pq_wh_mv n71 h2 (fr 2 (by omega)), h3⟩, ⟨pq_rtx_mv d3.1 d1 (fc _ _ (by omega)) (fun j _ => fc _ j (by omega)), pq_wd_mv d3.1 d2 (fr 3 (by omega)), d3⟩⟩
      · exact (m2 10 0 (by unfold pz_xcl; omega)).trans c1
      · exact (m2 10 1 (by unfold pz_xcl; omega)).trans c2
      · exact (m2 31 i (by unfold pz_xcl; omega)).trans (c3 i hi)
      · show pq_l1 ls' i (M2 27 i) (M2 28 i) (M2 29 i) (M2 30 i)
        rw [m2 27 i (by unfold pz_xcl; omega), m2 28 i (by unfold pz_xcl; omega), m2 29 i (by unfold pz_xcl; omega), m2 30 i (by unfold pz_xcl; omega)]
        exact c4 i hi
    · have fr : ∀ k' : Int, k' ≠ k → 0 ≤ k' → ∀ j : Nat, pq_wf k' j → j < 1725 → M2 60 j = M 60 j := fun k' hk h0 j y _ => (c7 j (by unfold pq_wf at y ⊢; omega)).trans (e60 j)
      have fc : ∀ b j, pz_xcl 0 b → b ≠ 12 + k.toNat → b ≠ 19 + k.toNat → M2 b j = M b j := fun b j y y1 y2 => (m2 b j y).trans (c5 b j (by unfold pz_xcl at y; unfold pq_xc; omega) y1 y2)
      have new : pq_rtx 0 k.toNat lr M2 := by
        refine ⟨?_, fun a b ha hb => ?_⟩
        · rw [m2 _ _ (by unfold pz_xcl; omega)]
          exact c2
        · rw [m2 _ _ (by unfold pz_xcl; omega)]
          exact c3 a b ha hb
      rw [← n71] at p3 h3 d3 c1
      have X : pq_ltx 0 ls M2 ∧ pq_wlw ls (M2 60) ∧ pz_lok ls := ⟨pq_ltx_mv x3 x1 (fun j _ => fc _ j (by unfold pz_xcl; omega) (by omega) (by omega)) (fun k j hk _ => fc _ j (by unfold pz_xcl; omega) (by omega) (by omega)) (fun j _ => fc _ j (by unfold pz_xcl; omega) (by omega) (by omega)), pq_wl_mv x3 x2 (fr 0 (by omega) (by omega)), x3⟩
      have P : k ≠ 1 → pq_rtx 0 1 l1 M2 ∧ pq_wp l1 (M2 60) ∧ pq_ok (M2 71 3) 1 l1 := fun y => ⟨pq_rtx_mv p3.1 p1 (fc _ _ (by unfold pz_xcl; omega) (by omega) (by omega)) (fun j _ => fc _ j (by unfold pz_xcl; omega) (by omega) (by omega)), pq_wp_mv p3.1 p2 (fr 1 (by omega) (by omega)), p3⟩
      have H : k ≠ 2 → pq_rtx 0 2 l2 M2 ∧ pq_wh l2 (M2 71 3) (M2 60) ∧ pq_ok (M2 71 3) 2 l2 := fun y => ⟨pq_rtx_mv h3.1 h1 (fc _ _ (by unfold pz_xcl; omega) (by omega) (by omega)) (fun j _ => fc _ j (by unfold pz_xcl; omega) (by omega) (by omega)), pq_wh_mv n71 h2 (fr 2 (by omega) (by omega)), h3⟩
      have D : k ≠ 3 → pq_rtx 0 3 l3 M2 ∧ pq_wd l3 (M2 60) ∧ pq_ok (M2 71 3) 3 l3 := fun y => ⟨pq_rtx_mv d3.1 d1 (fc _ _ (by unfold pz_xcl; omega) (by omega) (by omega)) (fun j _ => fc _ j (by unfold pz_xcl; omega) (by omega) (by omega)), pq_wd_mv d3.1 d2 (fr 3 (by omega) (by omega)), d3⟩
      have hk : k = 1 ∨ k = 2 ∨ k = 3 := by omega
      rcases hk with q | q | q
      · subst q
        exact ⟨ls, lr, l2, l3, X, ⟨new, c6.1 rfl, c1⟩, H (by decide), D (by decide)⟩
      · subst q
        exact ⟨ls, l1, lr, l3, X, P (by decide), ⟨new, c6.2.1 rfl _, c1⟩, D (by decide)⟩
      · subst q
        exact ⟨ls, l1, l2, lr, X, P (by decide), H (by decide), ⟨new, c6.2.2 rfl, c1⟩⟩
    · exact pz_XT_cg hR.2.1 (fun b j y => (m2 b j y).trans (c1 b j (by unfold pz_xcl at y; unfold pq_xc; omega))) (fun j _ => (c2 j).trans (e60 j)) n71
  · exact pz_XT_cg hR.2.2 (fun b j y => (z'.2 b j (by unfold pz_xcl at y; unfold pz_QT; omega)).trans (z.2 b j (by unfold pz_xcl at y; unfold pq_Pt; omega))) (fun j _ => (z'.2 61 j (by unfold pz_QT; omega)).trans (z.2 61 j (by unfold pq_Pt; omega))) (by rw [z'.2 73 3 (by unfold pz_QT; omega), z.2 73 3 (by unfold pq_Pt; omega)])
theorem pz_XT_rd {M : pz_M} (h : pz_XT 0 60 71 M) : pz_nrd M 8 = (M 60 92).toNat ∧ ∀ r, r < pz_nrd M 8 → (0 ≤ pz_grd M 8 r 0 ∧ pz_grd M 8 r 0 ≤ 999) ∧ (0 ≤ pz_grd M 8 r 1 ∧ pz_grd M 8 r 1 < M 71 3) ∧ pz_grd M 8 r 0 = pz_gmr M r 0 ∧ pz_grd M 8 r 1 = pz_gmr M r 1 := by
  obtain ⟨ls, l1, l2, l3, -, -, -, ⟨d1, d2, d3⟩⟩ := h
  have n1 : M 15 0 = (l3.length : Int) := d1.1
  have n : pz_nrd M 8 = l3.length := by
    show (M 15 0).toNat = l3.length
    omega
  have n2 := d2.1
  refine ⟨by omega, fun r hr => ?_⟩
  have g : ∀ c, c < 5 → pz_grd M 8 r c = pq_gl l3 r c := fun c hc => d1.2 r c (by omega) hc
  have g' : ∀ c, c < 2 → pz_gmr M r c = pq_gl l3 r c := fun c hc => d2.2 r c (by omega) hc
  have ok := (d3.2 r (by omega)).2.2 rfl
  rw [g 0 (by omega), g 1 (by omega), g' 0 (by omega), g' 1 (by omega)]
  exact ⟨ok.1, ok.2, rfl, rfl⟩
theorem pz_RX_phone {M : pz_M} {i w v v' : Int} (hI : pz_ic M) (hR : pz_RX M) (h : pz_pn1 M i w v) (h' : pz_pn2 M i w v') : v = v' := by
  have i1 := hI.1 71 (by omega) (by omega)
  have k2 := hR.1.1.1
  obtain ⟨e, f⟩ := pz_XT_rd hR.2.1
  by_cases c : 0 ≤ i ∧ i < M 71 3
  · obtain ⟨a0, a1, a2, a3⟩ := h.2 c
    obtain ⟨b0, b1, b2, b3⟩ := h'.2 (by omega)
    obtain ⟨ls, l1, l2, l3, -, -, ⟨h1, h2, h3⟩, -⟩ := hR.2.1
    have n1 : M 14 0 = (l2.length : Int) := h1.1
    have n : pz_nph M 8 = l2.length := by
      show (M 14 0).toNat = l2.length
      omega
    have g : ∀ r c, r < l2.length → c < 5 → pz_gph M 8 r c = pq_gl l2 r c := fun r c hr hc => h1.2 r c hr hc
    have w9 := h2.2 i.toNat (by omega) (by omega)
    rw [show ((i.toNat : Nat) : Int) = i by omega] at w9
    by_cases c0 : w = 0
    · rw [a0 c0, b0 c0, w9.1, n]
      exact pz_ph_cg (fun r hr => ⟨g r 0 hr (by omega), g r 1 hr (by omega)⟩)
    · by_cases c1 : w = 1
      · rw [a1 c1, b1 c1, w9.2, n]
        exact pz_ph_cg (fun r hr => ⟨g r 0 hr (by omega), g r 2 hr (by omega)⟩)
      · by_cases c2 : w = 2
        · rw [a2 c2, b2 c2, ← e, pz_rc0_d (lo := 0) (hi := 1000) _ (fun r hr => by have := f r hr; omega)]
          exact pz_rcd_cg _ (fun r hr => (f r hr).2.2)
        · exact (a3 (by omega)).trans (b3 (by omega)).symm
  · exact (h.1 c).trans (h'.1 (by omega)).symm
theorem pz_RX_ill {M : pz_M} {a k v v' : Int} (hI : pz_ic M) (hR : pz_RX M) (h : pz_il1 M a k v) (h' : pz_il2 M a k v') : v = v' := by
  have i1 := hI.1 71 (by omega) (by omega)
  have k2 := hR.1.1.1
  obtain ⟨e, f⟩ := pz_XT_rd hR.2.1
  by_cases c : (0 ≤ a ∧ a ≤ 999) ∧ 1 ≤ k ∧ k ≤ 30
  · refine pz_sb_ext (h.2 c (fun r hr => by have := f r hr; omega)) (h'.2 c) (fun j => ?_)
    show (decide (j < (M 71 3).toNat) && !pz_wrt (pz_grd M 8) a (a + k - 1) j (pz_nrd M 8)) = (decide (j < (M 60 88).toNat) && pz_ilf M a (a + k - 1) j)
    have i := pz_wrt_d (g := pz_grd M 8) (lo := a) (hi := a + k - 1) (k := j) (pz_nrd M 8) (fun r hr => (f r hr).2.1.1)
    have z : pz_rcd (pz_grd M 8) j a (a + k - 1) (pz_nrd M 8) = pz_rcd (pz_gmr M) j a (a + k - 1) (M 60 92).toNat := by
      rw [← e]
      exact pz_rcd_cg _ (fun r hr => (f r hr).2.2)
    rw [z] at i
    rw [k2]
    congr 1
    unfold pz_ilf
    by_cases q : pz_rcd (pz_gmr M) j a (a + k - 1) (M 60 92).toNat = 0
    · rw [decide_eq_true q, Bool.eq_false_iff.mpr (fun y => (i.mp y) q)]
      rfl
    · rw [decide_eq_false q, i.mpr q]
      rfl
  · exact (h.1 c).trans (h'.1 c).symm
theorem pz_RX_wrote {M : pz_M} {v v' : Int} (hI : pz_ic M) (hR : pz_RX M) (h : pz_wr1 M v) (h' : pz_wr2 M v') : v = v' := by
  have i1 := hI.1 71 (by omega) (by omega)
  have k2 := hR.1.1.1
  obtain ⟨e, f⟩ := pz_XT_rd hR.2.1
  by_cases c : M 71 3 < 2
  · exact (h.1 c).trans (h'.1 (by omega)).symm
  · rw [h.2 (by omega) (fun r hr => by have := f r hr; omega), h'.2 (by omega)]
    congr 1
    refine (pz_am_cg 99 (fun d _ => ?_)).1
    show pz_ev (pz_grd M 8) (pz_nrd M 8) (M 71 3).toNat (d : Int) = pz_ev (pz_gmr M) (M 60 92).toNat (M 60 88).toNat (d : Int)
    unfold pz_ev
    rw [k2]
    have q : pz_cnt (fun k => decide (pz_rcd (pz_grd M 8) k 0 d (pz_nrd M 8) ≠ 0)) (M 60 88).toNat = pz_cnt (fun k => decide (pz_rcd (pz_gmr M) k 0 d (M 60 92).toNat ≠ 0)) (M 60 88).toNat := pz_cnt_cg _ (fun k _ => by
      show decide (pz_rcd (pz_grd M 8) k 0 d (pz_nrd M 8) ≠ 0) = decide (pz_rcd (pz_gmr M) k 0 d (M 60 92).toNat ≠ 0)
      rw [← e, pz_rcd_cg (g := pz_grd M 8) (g' := pz_gmr M) _ (fun r hr => (f r hr).2.2)])
    rw [q]
