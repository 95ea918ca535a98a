section
theorem pz_RZ_goes {M M1 M2 : pz_M} {n w v v' : Int} (hI : pz_ic M) (h : pz_RZ M) (q : sd_gc M M1 n w v) (z : pq_pr pq_Pg M M1) (q' : sd_gm M1 M2 n w v') (z' : pz_rl pz_QG M1 M2) : v = v' ∧ pz_RZ M2 := by
  have r9 : pz_RX M2 := pz_RX_sk (pz_RX_sW hI h.1 z.gst.sw) z'.gsk
  obtain ⟨h1, ⟨h2, h3, h4⟩, h5, ⟨L, h6, h7⟩, h8⟩ := id h.2
  have w60 : M1 60 = M 60 := funext fun j => z.2 60 j (by unfold pq_Pg pq_Pk pq_Pw; omega)
  obtain ⟨ls, l1, t1, t2⟩ := sd_LQ_x h5
  obtain ⟨a1, a2⟩ := q
  obtain ⟨a3, a4⟩ := a2 ls l1 (M 60) t1 h2 h3 h4 h1.2
  have k1 : sd_RZ M1 := sd_RZ_cg h.2 (fun b j y => by
    by_cases x : b = 45
    · rw [x]
      exact a4 j (by unfold sd_rz at y; omega)
    · exact z.2 b j (by unfold sd_rz at y; unfold pq_Pg pq_Pk pq_Pw; omega))
  obtain ⟨b1, b2⟩ := q'
  rw [w60] at b2
  by_cases hq : sd_gq n w
  · obtain ⟨c1, c2⟩ := b2 hq ls l1 t2 h4
    refine ⟨(a3 hq).trans c1.symm, r9, sd_RZ_cg k1 (fun b j y => ?_)⟩
    by_cases x : b = 60
    · rw [x, c2, w60]
    · exact z'.2 b j (by unfold sd_rz at y; unfold pz_QG; omega)
  · obtain ⟨c1, c2⟩ := b1 hq
    rw [c2] at r9 ⊢
    exact ⟨(a1 hq).trans c1.symm, r9, k1⟩
/-! a new LINK -/
theorem sd_uk {M : pz_M} {a k j : Nat} {v : Int} : pz_u M a k v a j = if j = k then v else M a j := by
  by_cases h : j = k
  · rw [if_pos h]
    exact pz_ue ⟨rfl, h⟩
  · rw [if_neg h]
    exact pz_unk h
theorem sd_lkm_at {M : pz_M} {p q w s : Int} {j : Nat} : pz_lkm p q w s M 60 j = if j = 88 then M 60 88 + 1 else if j = 106 + 2 * (M 60 88).toNat then 240 else if j = 105 + 2 * (M 60 88).toNat then 0 else if j = 76 + (M 60 88).toNat then -1 else if j = 64 + (M 60 88).toNat then 0 else if j = 52 + (M 60 88).toNat then 0 else if j = 40 + (M 60 88).toNat then 0 else if j = 93 + (M 60 88).toNat then s else if j = 28 + (M 60 88).toNat then w else if j = 16 + (M 60 88).toNat then q else if j = 4 + (M 60 88).toNat then p else M 60 j := by
  unfold pz_lkm
  rw [pz_una (by decide), sd_uk, sd_uk, sd_uk, sd_uk, sd_uk, sd_uk, sd_uk, sd_uk, sd_uk, sd_uk, sd_uk]
theorem sd_mkl_at {M : pz_M} {c j : Nat} {p q w z : Int} : pz_mkl c p q w z M c j = if j = 7 then -1 else if j = 6 then 0 else if j = 5 then 0 else if j = 4 then 0 else if j = 3 then z else if j = 2 then w else if j = 1 then q else if j = 0 then p else M c j := by
  unfold pz_mkl
  rw [sd_uk, sd_uk, sd_uk, sd_uk, sd_uk, sd_uk, sd_uk, sd_uk]
theorem sd_lkm_n {N : Nat} {M : pz_M} {p q w s : Int} {j : Nat} (hN : (M 60 88).toNat = N) (h : j ≠ 88 ∧ j ≠ 106 + 2 * N ∧ j ≠ 105 + 2 * N ∧ j ≠ 76 + N ∧ j ≠ 64 + N ∧ j ≠ 52 + N ∧ j ≠ 40 + N ∧ j ≠ 93 + N ∧ j ≠ 28 + N ∧ j ≠ 16 + N ∧ j ≠ 4 + N) : pz_lkm p q w s M 60 j = M 60 j := by
  obtain ⟨a1, a2, a3, a4, a5, a6, a7, a8, a9, b1, b2⟩ := h
  rw [sd_lkm_at, hN, if_neg a1, if_neg a2, if_neg a3, if_neg a4, if_neg a5, if_neg a6, if_neg a7, if_neg a8, if_neg a9, if_neg b1, if_neg b2]
theorem sd_link_se {M : pz_M} {p q w s : Int} (hF : sd_se M 71 (M 60)) (hW : sd_wf (M 60)) (h12 : M 60 88 < 12) : sd_se (pz_lkf p q w s M) 71 (pz_lkm p q w s M 60) ∧ (sd_pg M (M 60) → sd_pg (pz_lkf p q w s M) (pz_lkm p q w s M 60)) := by
  obtain ⟨a1, a2, a3, a4, a5, a6⟩ := hF
  have m := hW.1
  obtain ⟨N, hN⟩ : ∃ N : Nat, (M 60 88).toNat = N := ⟨_, rfl⟩
  have hN2 : (M 71 3).toNat = N := by rw [a1]; exact hN
  have N12 : N < 12 := by omega
  have o : ∀ b j : Nat, b ≠ 3 → b ≠ 7 → ¬ (b = 71 ∧ j = 3) → b ≠ 89 + N → pz_lkf p q w s M b j = M b j := fun b j y1 y2 y3 y4 => by
    unfold pz_lkf
    rw [pz_una y2, pz_una y1, pz_une y3]
    exact pz_mkl_o (by omega)
  have z : ∀ k : Nat, k < 4 → pz_lkm p q w s M 60 k = M 60 k := fun k hk => sd_lkm_n hN (by omega)
  refine ⟨⟨?_, ?_, ?_, ?_, ?_, fun i f hi hf => ?_⟩, fun hP k hk => ?_⟩
  · rw [pz_lkm_88]
    unfold pz_lkf
    rw [pz_una (by decide), pz_una (by decide), pz_uu, a1]
  · rw [o 71 4 (by omega) (by omega) (by omega) (by omega), z 0 (by omega)]; exact a2
  · rw [o 71 5 (by omega) (by omega) (by omega) (by omega), z 1 (by omega)]; exact a3
  · rw [o 71 6 (by omega) (by omega) (by omega) (by omega), z 2 (by omega)]; exact a4
  · rw [o 71 7 (by omega) (by omega) (by omega) (by omega), z 3 (by omega)]; exact a5
  · rw [pz_lkm_88] at hi
    have lb : pz_lb 71 = 89 := rfl
    rw [lb] at a6 ⊢
    by_cases c : i = N
    · rw [c]
      unfold pz_lkf
      rw [pz_una (by omega), pz_una (by omega), pz_una (by omega), hN2, sd_mkl_at, sd_lkm_at, hN]
      have hf : f = 0 ∨ f = 1 ∨ f = 2 ∨ f = 3 ∨ f = 4 ∨ f = 5 ∨ f = 6 ∨ f = 7 := by omega
      have key : sd_fo 0 = 4 ∧ sd_fo 1 = 16 ∧ sd_fo 2 = 28 ∧ sd_fo 3 = 93 ∧ sd_fo 4 = 40 ∧ sd_fo 5 = 52 ∧ sd_fo 6 = 64 ∧ sd_fo 7 = 76 := ⟨rfl, rfl, rfl, rfl, rfl, rfl, rfl, rfl⟩
      obtain ⟨k0, k1, k2, k3, k4, k5, k6, k7⟩ := key
      rcases hf with rfl | rfl | rfl | rfl | rfl | rfl | rfl | rfl
      · rw [k0]
        repeat first | rw [if_pos (by omega)] | rw [if_neg (by omega)]
      · rw [k1]
        repeat first | rw [if_pos (by omega)] | rw [if_neg (by omega)]
      · rw [k2]
        repeat first | rw [if_pos (by omega)] | rw [if_neg (by omega)]
      · rw [k3]
        repeat first | rw [if_pos (by omega)] | rw [if_neg (by omega)]
      · rw [k4]
        repeat first | rw [if_pos (by omega)] | rw [if_neg (by omega)]
      · rw [k5]
        repeat first | rw [if_pos (by omega)] | rw [if_neg (by omega)]
      · rw [k6]
        repeat first | rw [if_pos (by omega)] | rw [if_neg (by omega)]
      · rw [k7]
        repeat first | rw [if_pos (by omega)] | rw [if_neg (by omega)]
    · have b := sd_fo_b hf (show i < 12 by omega)
      have d : ∀ g : Nat, g < 8 → sd_fo f + i ≠ sd_fo g + N := fun g hg => sd_fo_ne hf hg (by omega) N12 (Or.inr c)
      have d0 := d 0 (by omega)
      have d1 := d 1 (by omega)
      have d2 := d 2 (by omega)
      have d3 := d 3 (by omega)
      have d4 := d 4 (by omega)
      have d5 := d 5 (by omega)
      have d6 := d 6 (by omega)
      have d7 := d 7 (by omega)
      rw [o (89 + i) f (by omega) (by omega) (by omega) (by omega), a6 i f (by omega) hf]
      exact (sd_lkm_n hN ⟨by omega, by omega, by omega, d7, d6, d5, d4, d3, d2, d1, d0⟩).symm
  · rw [o 45 k (by omega) (by omega) (by omega) (by omega), sd_lkm_n hN (by omega)]
    exact hP k hk
theorem sd_link_wf {M : pz_M} {p q w s : Int} (hW : sd_wf (M 60)) (h12 : M 60 88 < 12) (hc : (1 ≤ p ∧ p ≤ 999) ∧ (-9999 ≤ q ∧ q ≤ 9999) ∧ (-999 ≤ w ∧ w ≤ 999) ∧ 0 ≤ s ∧ s ≤ 9) : sd_wf (pz_lkm p q w s M 60) := by
  obtain ⟨w1, w2, w3⟩ := hW
  obtain ⟨N, hN⟩ : ∃ N : Nat, (M 60 88).toNat = N := ⟨_, rfl⟩
  have N12 : N < 12 := by omega
  refine ⟨by rw [pz_lkm_88]; omega, by rw [sd_lkm_n hN (by omega)]; exact w2, fun i hi => ?_⟩
  rw [pz_lkm_88] at hi
  unfold sd_lw
  rw [pz_lkm_88]
  by_cases c : i = N
  · subst c
    have e0 : pz_lkm p q w s M 60 (4 + i) = p := by
      rw [sd_lkm_at, hN]
      repeat first | rw [if_pos (by omega)] | rw [if_neg (by omega)]
    have e1 : pz_lkm p q w s M 60 (16 + i) = q := by
      rw [sd_lkm_at, hN]
      repeat first | rw [if_pos (by omega)] | rw [if_neg (by omega)]
    have e2 : pz_lkm p q w s M 60 (28 + i) = w := by
      rw [sd_lkm_at, hN]
      repeat first | rw [if_pos (by omega)] | rw [if_neg (by omega)]
    have e3 : pz_lkm p q w s M 60 (93 + i) = s := by
      rw [sd_lkm_at, hN]
      repeat first | rw [if_pos (by omega)] | rw [if_neg (by omega)]
    have e4 : pz_lkm p q w s M 60 (40 + i) = 0 := by
      rw [sd_lkm_at, hN]
      repeat first | rw [if_pos (by omega)] | rw [if_neg (by omega)]
    have e5 : pz_lkm p q w s M 60 (52 + i) = 0 := by
      rw [sd_lkm_at, hN]
      repeat first | rw [if_pos (by omega)] | rw [if_neg (by omega)]
    have e6 : pz_lkm p q w s M 60 (64 + i) = 0 := by
      rw [sd_lkm_at, hN]
      repeat first | rw [if_pos (by omega)] | rw [if_neg (by omega)]
    rw [e0, e1, e2, e3, e4, e5, e6]
    exact ⟨hc.1, hc.2.1, hc.2.2.1, hc.2.2.2, Or.inl rfl, Or.inl rfl, Or.inl rfl⟩
  · have a := w3 i (by omega)
    unfold sd_lw at a
    rw [sd_lkm_n hN (j := 4 + i) (by omega), sd_lkm_n hN (j := 16 + i) (by omega), sd_lkm_n hN (j := 28 + i) (by omega), sd_lkm_n hN (j := 93 + i) (by omega), sd_lkm_n hN (j := 40 + i) (by omega), sd_lkm_n hN (j := 52 + i) (by omega), sd_lkm_n hN (j := 64 + i) (by omega)]
    omega
theorem pz_RZ_link {M M1 M2 : pz_M} {p q w s v v' : Int} (hI : pz_ic M) (h : pz_RZ M) (q1 : ((M 71 3 < 12 ∧ (1 ≤ p ∧ p ≤ 999) ∧ (-9999 ≤ q ∧ q ≤ 9999) ∧ (-999 ≤ w ∧ w ≤ 999) ∧ 0 ≤ s ∧ s ≤ 9) ∧ v = M 71 3 ∧ M1 = pz_lkf p q w s M) ∨ (¬ (M 71 3 < 12 ∧ (1 ≤ p ∧ p ≤ 999) ∧ (-9999 ≤ q ∧ q ≤ 9999) ∧ (-999 ≤ w ∧ w ≤ 999) ∧ 0 ≤ s ∧ s ≤ 9) ∧ v = -1 ∧ M1 = M))
    (q2 : ((M1 60 88 < 12 ∧ (1 ≤ p ∧ p ≤ 999) ∧ (-9999 ≤ q ∧ q ≤ 9999) ∧ (-999 ≤ w ∧ w ≤ 999) ∧ 0 ≤ s ∧ s ≤ 9) ∧ v' = M1 60 88 ∧ M2 = pz_lkm p q w s M1) ∨ (¬ (M1 60 88 < 12 ∧ (1 ≤ p ∧ p ≤ 999) ∧ (-9999 ≤ q ∧ q ≤ 9999) ∧ (-999 ≤ w ∧ w ≤ 999) ∧ 0 ≤ s ∧ s ≤ 9) ∧ v' = -1 ∧ M2 = M1)) : v = v' ∧ pz_RZ M2 := by
  obtain ⟨e, r⟩ := pz_RX_link hI h.1 q1 q2
  refine ⟨e, r, ?_⟩
  obtain ⟨h1, ⟨h2, h3, h4⟩, h5, -, h8⟩ := id h.2
  have i1 := hI.1 71 (by omega) (by omega)
  have n9 := h2.1
  rcases q1 with ⟨⟨a1, a2⟩, -, a3⟩ | ⟨a1, -, a3⟩
  · have w60 : M1 60 = M 60 := funext fun j => by
      rw [a3]
      exact pz_lkf_o (by omega)
    rw [w60] at q2
    rcases q2 with ⟨-, -, b3⟩ | ⟨b1, -, b3⟩
    · have E : M2 60 = pz_lkm p q w s M 60 := by
        funext j
        rw [b3, sd_lkm_at, sd_lkm_at, w60]
      obtain ⟨s1, s2⟩ := sd_link_se (p := p) (q := q) (w := w) (s := s) h2 h4 (by omega)
      have wf := sd_link_wf (p := p) (q := q) (w := w) (s := s) h4 (by omega) a2
      have o : ∀ b j : Nat, b ≠ 60 → ¬ (b = 1 ∧ j = 4) → M2 b j = M1 b j := fun b j y1 y2 => by
        rw [b3]
        exact pz_lkm_o y1 y2
      have o1 : ∀ b j : Nat, b ≠ 3 → b ≠ 7 → ¬ (b = 71 ∧ j = 3) → b < 89 ∨ 101 ≤ b → M1 b j = M b j := fun b j y1 y2 y3 y4 => by
        rw [a3]
        unfold pz_lkf
        rw [pz_una y2, pz_una y1, pz_une y3]
        exact pz_mkl_o (by omega)
      have n12 : M 60 88 < 12 := by omega
      have m9 : (pz_lkm p q w s M 60) 88 ≤ 12 := by
        rw [pz_lkm_88]
        omega
      refine ⟨?_, ⟨?_, ?_, by rw [E]; exact wf⟩, sd_LQ_cg h5 (fun b j y => (o b j (by unfold pz_xcl at y; omega) (by unfold pz_xcl at y; omega)).trans (o1 b j (by unfold pz_xcl at y; omega) (by unfold pz_xcl at y; omega) (by unfold pz_xcl at y; omega) (by unfold pz_xcl at y; omega))) ?_, ⟨[], sd_ck_0 ?_, sd_mq_0 ?_⟩, sd_im_cg h8 (fun b j y => (o b j (by omega) (by omega)).trans (o1 b j (by omega) (by omega) (by omega) (by omega)))⟩
      · rw [o 71 0 (by omega) (by omega), o 72 0 (by omega) (by omega), o1 71 0 (by omega) (by omega) (by omega) (by omega), o1 72 0 (by omega) (by omega) (by omega) (by omega)]
        exact h1
      · rw [E]
        rw [← a3] at s1
        exact sd_se_cg s1 (fun b j y => o b j (by unfold pz_lb at y; omega) (by unfold pz_lb at y; omega)) m9
      · rw [E]
        have s3 := s2 h3
        rw [← a3] at s3
        exact fun k hk => (o 45 k (by omega) (by omega)).trans (s3 k hk)
      · exact fun j y => by
          rw [E]
          exact sd_lkm_n rfl (by unfold pz_xv at y; omega)
      · rw [o 3 2 (by omega) (by omega), a3]
        unfold pz_lkf
        rw [pz_una (by decide)]
        exact pz_uu
      · rw [b3]
        exact pz_uu
    · omega
  · rcases q2 with ⟨⟨b1, b2⟩, -, b3⟩ | ⟨b1, -, b3⟩
    · rw [a3] at b1
      exact absurd ⟨by omega, b2⟩ a1
    · rw [b3, a3]
      exact h.2
theorem pz_RZ_set {M M1 M2 : pz_M} {w i n v v' : Int} {C : Prop} (hC : C → (w = 0 ∧ 1 ≤ n ∧ n ≤ 999) ∨ (w = 1 ∧ -9999 ≤ n ∧ n ≤ 9999) ∨ (w = 2 ∧ -999 ≤ n ∧ n ≤ 999) ∨ (w = 3 ∧ 0 ≤ n ∧ n ≤ 9) ∨ (w = 4 ∧ 0 ≤ n ∧ n ≤ 1)) (hI : pz_ic M) (h : pz_RZ M) (q1 : (((0 ≤ i ∧ i < M 71 3) ∧ C) ∧ v = 1 ∧ M1 = pz_u (pz_u M (89 + i.toNat) w.toNat n) 3 2 0) ∨ (¬ ((0 ≤ i ∧ i < M 71 3) ∧ C) ∧ v = 0 ∧ M1 = M)) (q2 : (((0 ≤ i ∧ i < M1 60 88) ∧ C) ∧ v' = 1 ∧ M2 = pz_u (pz_u M1 60 (pz_bs w + i).toNat n) 1 4 0) ∨ (¬ ((0 ≤ i ∧ i < M1 60 88) ∧ C) ∧ v' = 0 ∧ M2 = M1)) : v = v' ∧ pz_RZ M2 := by
  obtain ⟨e, r⟩ := pz_RX_set (fun h => by have := hC h; omega) hI h.1 q1 q2
  refine ⟨e, r, ?_⟩
  obtain ⟨h1, ⟨h2, h3, h4⟩, h5, -, h8⟩ := id h.2
  have i1 := hI.1 71 (by omega) (by omega)
  have n9 := h2.1
  rcases q1 with ⟨⟨a1, a2⟩, -, a3⟩ | ⟨a1, -, a3⟩
  · have w60 : M1 60 = M 60 := funext fun j => by
      rw [a3, pz_una (by decide), pz_una (by omega)]
    rw [w60] at q2
    rcases q2 with ⟨-, -, b3⟩ | ⟨b1, -, b3⟩
    · have c := hC a2
      obtain ⟨f, hf, hw, hb⟩ : ∃ f : Nat, f < 5 ∧ w.toNat = f ∧ (pz_bs w + i).toNat = sd_fo f + i.toNat := by
        have hw : w = 0 ∨ w = 1 ∨ w = 2 ∨ w = 3 ∨ w = 4 := by omega
        rcases hw with rfl | rfl | rfl | rfl | rfl
        · exact ⟨0, by decide, rfl, by show (4 + i).toNat = 4 + i.toNat; omega⟩
        · exact ⟨1, by decide, rfl, by show (16 + i).toNat = 16 + i.toNat; omega⟩
        · exact ⟨2, by decide, rfl, by show (28 + i).toNat = 28 + i.toNat; omega⟩
        · exact ⟨3, by decide, rfl, by show (93 + i).toNat = 93 + i.toNat; omega⟩
        · exact ⟨4, by decide, rfl, by show (40 + i).toNat = 40 + i.toNat; omega⟩
      have bf := sd_fo_b (f := f) (i := i.toNat) (by omega) (by omega)
      have bk : ∀ f, f < 8 → sd_fo f + 12 ≤ 88 ∨ 93 ≤ sd_fo f := by decide
      have bf2 := bk f (by omega)
      have E : M2 60 = sd_u (M 60) (sd_fo f + i.toNat) n := by
        rw [b3, sd_uo (by decide), sd_um, w60, hb]
      rw [hw] at a3
      have ok : sd_okv (M 60) f i.toNat n := by
        unfold sd_okv
        omega
      have s1 : sd_se (pz_u M (pz_lb 71 + i.toNat) f n) 71 (sd_u (M 60) (sd_fo f + i.toNat) n) := sd_se_w (by omega) h2 (by omega) (by omega) (by omega)
      have wf := sd_wf_1 (f := f) (v := n) h4 (by omega) (show ((i.toNat : Nat) : Int) < M 60 88 by omega) ok
      have o : ∀ b j : Nat, b ≠ 60 → ¬ (b = 1 ∧ j = 4) → M2 b j = M1 b j := fun b j y1 y2 => by
        rw [b3, pz_une y2, pz_una y1]
      have o1 : ∀ b j : Nat, b ≠ 3 → b < 89 ∨ 101 ≤ b → M1 b j = M b j := fun b j y1 y2 => by
        rw [a3, pz_una y1, pz_una (by omega)]
      refine ⟨?_, ⟨?_, ?_, by rw [E]; exact wf⟩, sd_LQ_cg h5 (fun b j y => (o b j (by unfold pz_xcl at y; omega) (by unfold pz_xcl at y; omega)).trans (o1 b j (by unfold pz_xcl at y; omega) (by unfold pz_xcl at y; omega))) (fun j y => ?_), ⟨[], sd_ck_0 ?_, sd_mq_0 ?_⟩, sd_im_cg h8 (fun b j y => (o b j (by omega) (by omega)).trans (o1 b j (by omega) (by omega)))⟩
      · rw [o 71 0 (by omega) (by omega), o 72 0 (by omega) (by omega), o1 71 0 (by omega) (by omega), o1 72 0 (by omega) (by omega)]
        exact h1
      · rw [E]
        refine sd_se_cg s1 (fun b j y => ?_) (by rw [sd_un (by omega)]; omega)
        rw [o b j (by unfold pz_lb at y; omega) (by unfold pz_lb at y; omega), a3, pz_una (by unfold pz_lb at y; omega)]
        rfl
      · intro k hk
        rw [E, o 45 k (by omega) (by omega), o1 45 k (by omega) (by omega), sd_un (by omega)]
        exact h3 k hk
      · rw [E]
        exact sd_un (by unfold pz_xv at y; omega)
      · rw [o 3 2 (by omega) (by omega), a3]
        exact pz_uu
      · rw [b3]
        exact pz_uu
    · exact absurd ⟨by omega, a2⟩ b1
  · rcases q2 with ⟨⟨b1, b2⟩, -, b3⟩ | ⟨b1, -, b3⟩
    · rw [a3] at b1
      exact absurd ⟨by omega, b2⟩ a1
    · rw [b3, a3]
      exact h.2
/-! TEXT, IMAGE -/
theorem pz_RZ_text {M M1 M2 : pz_M} {k v v' : Int} (hI : pz_ic M) (hI1 : pz_ic M1) (h : pz_RZ M) (q : (pq_te k (M 71 3) M M1 v ∧ M1 4 1 = 0 ∧ (∀ j : Nat, j ≠ 2 → M1 3 j = M 3 j) ∧ (M1 3 2 = M 3 2 ∨ M1 3 2 = 0)) ∧ M1 3 2 = if v ≠ -1 ∧ k = 1 then 0 else M 3 2) (z : pq_pr pq_Pt M M1) (q' : (pq_tx k M1 M2 v' ∧ M2 1 16 = 0) ∧ M2 1 4 = if v' ≠ -1 ∧ k = 1 then 0 else M1 1 4) (z' : pz_rl pz_QT M1 M2) : v = v' ∧ pz_RZ M2 := by
  obtain ⟨e, r⟩ := pz_RX_text hI hI1 h.1 q.1 z q'.1 z'
  refine ⟨e, r, ?_⟩
  obtain ⟨h1, ⟨h2, h3, h4⟩, h5, ⟨L, h6, h7⟩, h8⟩ := id h.2
  have lq := sd_LQ_text hI hI1 h.1.1 q.1.1 z q'.1.1 z' h5
  have c : ∀ b j : Nat, b ≠ 60 → b ≠ 1 → (b < 64 ∨ 66 < b) → M2 b j = M1 b j := fun b j y1 y2 y3 => z'.2 b j (by unfold pz_QT; omega)
  have c1 : ∀ b j : Nat, ¬ pq_Pt b j → M1 b j = M b j := fun b j y => z.2 b j y
  have w : ∀ j : Nat, j ≤ 88 ∨ (93 ≤ j ∧ j ≤ 104) ∨ (241 ≤ j ∧ j ≤ 840) → M2 60 j = M 60 j := fun j y => (z'.2 60 j (by unfold pz_QT; omega)).trans (z.2 60 j (by unfold pq_Pt; omega))
  have n9 := h4.1
  have d : ∀ b j : Nat, b = 71 ∨ b = 72 ∨ b = 45 ∨ b = 46 ∨ b = 11 ∨ (16 ≤ b ∧ b ≤ 18) ∨ (23 ≤ b ∧ b ≤ 25) ∨ (33 ≤ b ∧ b ≤ 37) ∨ b = 61 ∨ (73 ≤ b ∧ b < 206) → M2 b j = M b j := fun b j y => (c b j (by omega) (by omega) (by omega)).trans (c1 b j (by unfold pq_Pt; omega))
  refine ⟨?_, ⟨?_, fun k hk => ?_, ?_⟩, lq, ?_, sd_im_cg h8 (fun b j y => d b j (by omega))⟩
  · rw [d 71 0 (by omega), d 72 0 (by omega)]
    exact h1
  · exact sd_se_f (sd_se_cg h2 (fun b j y => d b j (by unfold pz_lb at y; omega)) (by omega)) (fun k hk => w k (by omega)) (by omega)
  · rw [d 45 k (by omega), w _ (by omega)]
    exact h3 k hk
  · exact sd_wf_cg h4 (fun k hk => w k (by omega)) (by rw [w 3 (by omega)]; exact h4.2.1)
  · have x1 := q.2
    have x2 := q'.2
    rw [← e] at x2
    by_cases y : v ≠ -1 ∧ k = 1
    · rw [if_pos y] at x1 x2
      exact ⟨[], sd_ck_0 ((c 3 2 (by omega) (by omega) (by omega)).trans x1), sd_mq_0 x2⟩
    · rw [if_neg y] at x1 x2
      refine ⟨L, sd_ck_cg h6 (fun b j u => ?_), sd_mq_cg h7 (x2.trans (c1 1 4 (by unfold pq_Pt; omega))) (fun j => (c 62 j (by omega) (by omega) (by omega)).trans (c1 62 j (by unfold pq_Pt; omega))) (fun j j1 => w j (by omega))⟩
      · by_cases b3 : b = 3
        · rw [b3, c 3 j (by omega) (by omega) (by omega)]
          by_cases j2 : j = 2
          · rw [j2]
            exact x1
          · exact q.1.2.2.1 j j2
        · exact d b j (by omega)
theorem sd_tf_se {c o : Nat} {M N : pz_M} {F : Nat → Int} (hc : 71 ≤ c ∧ c < 80) (ho : 71 ≤ o ∧ o < 80) (hF : sd_se M o F) (h12 : F 88 ≤ 12) (e : ∀ b j : Nat, (b = c ∧ 3 ≤ j) ∨ (pz_lb c ≤ b ∧ b < pz_lb c + 12) → N b j = pz_tf c o M b j) : sd_se N c F := by
  obtain ⟨a1, a2, a3, a4, a5, a6⟩ := hF
  have k : ∀ j : Nat, 3 ≤ j → j < 8 → N c j = M o j := fun j j1 j2 => (e c j (Or.inl ⟨rfl, j1⟩)).trans (pz_tf_k hc ⟨j1, j2⟩)
  refine ⟨(k 3 (by omega) (by omega)).trans a1, (k 4 (by omega) (by omega)).trans a2, (k 5 (by omega) (by omega)).trans a3, (k 6 (by omega) (by omega)).trans a4, (k 7 (by omega) (by omega)).trans a5, fun i f hi hf => ?_⟩
  rw [e _ f (Or.inr ⟨by omega, by omega⟩), ← a6 i f hi hf]
  exact pz_tf_l (by omega) hf
theorem pz_RZ_image {M M1 M2 : pz_M} {t v v' : Int} (hI : pz_ic M) (h : pz_RZ M) (q : ((t = 0 ∧ M 0 13 = 0 ∧ v = 0 ∧ M1 = M) ∨ ((t ≠ 0 ∧ v = 1 ∧ M1 0 13 = 1 ∧ pz_xi 73 71 M M1) ∧ pz_Ti 9 8 M M1) ∨ ((t = 0 ∧ M 0 13 ≠ 0 ∧ v = 1 ∧ M1 0 13 = M 0 13 ∧ M1 3 2 = 0 ∧ pz_xi 71 73 M M1) ∧ pz_Ti 8 9 M M1)) ∧ (t ≠ 0 → ∀ b j : Nat, ¬ pz_td 9 b → M1 b j = if b = 46 ∧ j < 600 then M 45 j else if b = 0 ∧ j = 13 then 1 else pz_tf 73 71 M b j) ∧ (t = 0 → M 0 13 ≠ 0 → ∀ b j : Nat, ¬ pz_td 8 b → M1 b j = if b = 45 ∧ j < 600 then M 46 j else if b = 3 ∧ j = 2 then 0 else if b = 7 ∧ j = 0 then 0 else pz_tf 71 73 M b j))
    (q' : ((t = 0 ∧ M1 1 5 = 0 ∧ v' = 0 ∧ M2 = M1) ∨ ((t ≠ 0 ∨ M1 1 5 ≠ 0) ∧ v' = 1 ∧ M2 1 5 = 1 ∧ ((t = 0 → ∀ k : Nat, (k : Int) < 1725 → M2 60 k = M1 61 k) ∧ (t = 0 → ∀ k, M2 61 k = M1 61 k) ∧ (t ≠ 0 → ∀ k : Nat, (k : Int) < 1725 → M2 61 k = M1 60 k) ∧ (t ≠ 0 → ∀ k, M2 60 k = M1 60 k)))) ∧ (t = 0 → M1 1 5 ≠ 0 → M2 1 4 = 0) ∧ (t ≠ 0 → M2 1 4 = M1 1 4)) (z' : pz_rl pz_QI M1 M2) : v = v' ∧ pz_RZ M2 := by
  obtain ⟨e, r⟩ := pz_RX_image h.1 q.1 q'.1 z'
  refine ⟨e, r, ?_⟩
  obtain ⟨h1, ⟨h2, h3, h4⟩, h5, ⟨L, h6, h7⟩, h8⟩ := id h.2
  obtain ⟨g1, g2, g3, g4⟩ := id h8
  have n9 := h4.1
  have m9 := g3.1
  have c : ∀ b j : Nat, b ≠ 60 → b ≠ 61 → b ≠ 1 → M2 b j = M1 b j := fun b j y1 y2 y3 => z'.2 b j (by unfold pz_QI; omega)
  have hi := h.1.1.1.2.2.2.2.1
  obtain ⟨q, qa, qb⟩ := q
  obtain ⟨q', qc, qd⟩ := q'
  rcases q with ⟨a1, a2, -, a3⟩ | ⟨⟨a1, -, -, a3⟩, a4⟩ | ⟨⟨a1, a2, -, -, a5, a3⟩, a4⟩
  · rcases q' with ⟨-, -, -, b⟩ | ⟨b, -, -, -⟩
    · rw [b, a3]
      exact h.2
    · rw [a3] at b
      omega
  · have E := qa a1
    have o : ∀ b j : Nat, b ≠ 46 → ¬ (b = 0 ∧ j = 13) → ¬ pz_td 9 b → b ≠ 73 → b < 115 ∨ 127 ≤ b → M1 b j = M b j := fun b j y1 y2 y3 y4 y5 => by
      rw [E b j y3, if_neg (by omega), if_neg y2]
      exact pz_tf_o y4 (by unfold pz_lb; omega)
    rcases q' with ⟨b, -, -, -⟩ | ⟨-, -, -, -, -, b3, b4⟩
    · exact absurd b a1
    · have w : M2 60 = M 60 := funext fun j => (b4 a1 j).trans (o 60 j (by omega) (by omega) (by unfold pz_td; omega) (by omega) (by omega))
      have w61 : ∀ k : Nat, k < 1725 → M2 61 k = M 60 k := fun k hk => (b3 a1 k (by omega)).trans (o 60 k (by omega) (by omega) (by unfold pz_td; omega) (by omega) (by omega))
      have d : ∀ b j : Nat, b = 71 ∨ b = 72 ∨ b = 45 ∨ b = 3 ∨ (74 ≤ b ∧ b < 101) ∨ (127 ≤ b ∧ b < 206) ∨ b = 62 ∨ b = 10 ∨ (13 ≤ b ∧ b ≤ 15) ∨ (20 ≤ b ∧ b ≤ 22) ∨ (27 ≤ b ∧ b ≤ 31) → M2 b j = M b j := fun b j y => (c b j (by omega) (by omega) (by omega)).trans (o b j (by omega) (by omega) (by unfold pz_td; omega) (by omega) (by omega))
      have t2 : pz_Ti 9 8 M M2 := by
        obtain ⟨q1, q2, q3, q4, q5, q6⟩ := a4
        exact ⟨fun j hj => (c _ _ (by omega) (by omega) (by omega)).trans (q1 j hj), fun k j hk hj => (c _ _ (by omega) (by omega) (by omega)).trans (q2 k j hk hj), fun j hj => (c _ _ (by omega) (by omega) (by omega)).trans (q3 j hj), fun k hk => (c _ _ (by omega) (by omega) (by omega)).trans (q4 k hk), fun k j hk hj => (c _ _ (by omega) (by omega) (by omega)).trans (q5 k j hk hj), fun b j y1 y2 y3 => (c _ _ (by omega) (by omega) (by omega)).trans (q6 b j y1 y2 y3)⟩
      refine ⟨?_, ⟨?_, fun k hk => ?_, by rw [w]; exact h4⟩, sd_LQ_cg h5 (fun b j y => d b j (by unfold pz_xcl at y; omega)) (fun j y => congrFun w j), ⟨L, sd_ck_cg h6 (fun b j y => d b j (by omega)), sd_mq_cg h7 ?_ (fun j => d 62 j (by omega)) (fun j _ => congrFun w j)⟩, ?_, fun k hk => ?_, ?_, sd_LQ_img (t := 0) (t' := 1) rfl rfl h5 t2 w61⟩
      · rw [d 71 0 (by omega), d 72 0 (by omega)]
        exact h1
      · rw [w]
        exact sd_se_cg h2 (fun b j y => d b j (by unfold pz_lb at y; omega)) (by omega)
      · rw [w, d 45 k (by omega)]
        exact h3 k hk
      · exact (qd a1).trans (o 1 4 (by omega) (by omega) (by unfold pz_td; omega) (by omega) (by omega))
      · refine sd_se_f (F := M 60) (sd_tf_se (c := 73) (o := 71) (by omega) (by omega) h2 (by omega) (fun b j y => ?_)) (fun k hk => w61 k (by omega)) (by omega)
        rw [c b j (by unfold pz_lb at y; omega) (by unfold pz_lb at y; omega) (by unfold pz_lb at y; omega), E b j (by unfold pz_lb at y; unfold pz_td; omega), if_neg (by unfold pz_lb at y; omega), if_neg (by unfold pz_lb at y; omega)]
      · rw [w61 _ (by omega), c 46 k (by omega) (by omega) (by omega), E 46 k (by unfold pz_td; omega), if_pos ⟨rfl, hk⟩]
        exact h3 k hk
      · exact sd_wf_cg h4 (fun k hk => w61 k (by omega)) (by rw [w61 3 (by omega)]; exact h4.2.1)
  · have E := qb a1 a2
    have o : ∀ b j : Nat, b ≠ 45 → ¬ (b = 3 ∧ j = 2) → b ≠ 7 → ¬ pz_td 8 b → b ≠ 71 → b < 89 ∨ 101 ≤ b → M1 b j = M b j := fun b j y1 y2 y3 y4 y5 y6 => by
      rw [E b j y4, if_neg (by omega), if_neg y2, if_neg (by omega)]
      exact pz_tf_o y5 (by unfold pz_lb; omega)
    have m5 : M1 1 5 = M 1 5 := o 1 5 (by omega) (by omega) (by omega) (by unfold pz_td; omega) (by omega) (by omega)
    rcases q' with ⟨-, b, -, -⟩ | ⟨-, -, -, b3, b4, -, -⟩
    · omega
    · have w61 : M2 61 = M 61 := funext fun j => (b4 a1 j).trans (o 61 j (by omega) (by omega) (by omega) (by unfold pz_td; omega) (by omega) (by omega))
      have w60 : ∀ k : Nat, k < 1725 → M2 60 k = M 61 k := fun k hk => (b3 a1 k (by omega)).trans (o 61 k (by omega) (by omega) (by omega) (by unfold pz_td; omega) (by omega) (by omega))
      have d : ∀ b j : Nat, (b = 71 ∧ j = 0) ∨ b = 72 ∨ b = 73 ∨ b = 46 ∨ b = 11 ∨ (16 ≤ b ∧ b ≤ 18) ∨ (23 ≤ b ∧ b ≤ 25) ∨ (33 ≤ b ∧ b ≤ 37) ∨ (115 ≤ b ∧ b ≤ 126) → M2 b j = M b j := fun b j y => by
        rw [c b j (by omega) (by omega) (by omega)]
        by_cases x : b = 71
        · rw [E b j (by unfold pz_td; omega), if_neg (by omega), if_neg (by omega), if_neg (by omega)]
          unfold pz_tf pz_tn
          rw [if_neg (by unfold pz_lb; omega), if_neg (by omega)]
        · exact o b j (by omega) (by omega) (by omega) (by unfold pz_td; omega) x (by omega)
      have t2 : pz_Ti 8 9 M M2 := by
        obtain ⟨q1, q2, q3, q4, q5, q6⟩ := a4
        exact ⟨fun j hj => (c _ _ (by omega) (by omega) (by omega)).trans (q1 j hj), fun k j hk hj => (c _ _ (by omega) (by omega) (by omega)).trans (q2 k j hk hj), fun j hj => (c _ _ (by omega) (by omega) (by omega)).trans (q3 j hj), fun k hk => (c _ _ (by omega) (by omega) (by omega)).trans (q4 k hk), fun k j hk hj => (c _ _ (by omega) (by omega) (by omega)).trans (q5 k j hk hj), fun b j y1 y2 y3 => (c _ _ (by omega) (by omega) (by omega)).trans (q6 b j y1 y2 y3)⟩
      refine ⟨?_, ⟨?_, fun k hk => ?_, ?_⟩, sd_LQ_img (t := 1) (t' := 0) rfl rfl g4 t2 w60, ⟨[], sd_ck_0 ((c 3 2 (by omega) (by omega) (by omega)).trans a5), sd_mq_0 (qc a1 (by omega))⟩, ?_, fun k hk => ?_, by rw [w61]; exact g3, sd_LQ_cg g4 (fun b j y => d b j (by unfold pz_xcl at y; omega)) (fun j y => congrFun w61 j)⟩
      · rw [d 71 0 (by omega), d 72 0 (by omega)]
        exact h1
      · refine sd_se_f (F := M 61) (sd_tf_se (c := 71) (o := 73) (by omega) (by omega) g1 (by omega) (fun b j y => ?_)) (fun k hk => w60 k (by omega)) (by omega)
        rw [c b j (by unfold pz_lb at y; omega) (by unfold pz_lb at y; omega) (by unfold pz_lb at y; omega), E b j (by unfold pz_lb at y; unfold pz_td; omega), if_neg (by unfold pz_lb at y; omega), if_neg (by unfold pz_lb at y; omega), if_neg (by unfold pz_lb at y; omega)]
      · rw [w60 _ (by omega), c 45 k (by omega) (by omega) (by omega), E 45 k (by unfold pz_td; omega), if_pos ⟨rfl, hk⟩]
        exact g2 k hk
      · exact sd_wf_cg g3 (fun k hk => w60 k (by omega)) (by rw [w60 3 (by omega)]; exact g3.2.1)
      · rw [w61]
        exact sd_se_cg g1 (fun b j y => d b j (by unfold pz_lb at y; omega)) (by omega)
      · rw [w61, d 46 k (by omega)]
        exact g2 k hk
/-! what only looks: BOOK, LOOK -/
theorem pz_RZ_book {M : pz_M} {i w v v' : Int} (hI : pz_ic M) (h : pz_RZ M) (q : v = if (0 ≤ i ∧ i < M 71 7) ∧ 0 ≤ w ∧ w ≤ 3 then M 45 (4 * i.toNat + w.toNat) else -1) (q' : v' = if (0 ≤ i ∧ i < M 60 3) ∧ 0 ≤ w ∧ w ≤ 3 then M 60 (241 + (4 * i.toNat + w.toNat)) else -1) : v = v' := by
  obtain ⟨h1, ⟨h2, h3, h4⟩, -⟩ := h.2
  have e := h2.2.2.2.2.1
  have b := h4.2.1
  by_cases c : (0 ≤ i ∧ i < M 60 3) ∧ 0 ≤ w ∧ w ≤ 3
  · rw [if_pos c] at q'
    rw [if_pos (by omega)] at q
    rw [q, q']
    exact h3 _ (by omega)
  · rw [if_neg c] at q'
    rw [if_neg (by omega)] at q
    exact q.trans q'.symm
end
