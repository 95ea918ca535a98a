section
theorem sd_link_wf {M : pz_M} {p q w s : Int} (hW : sd_wf (M 60)) (h12 : M 60 88 < 12) (hc : (1 ≤ p ∧ p ≤ 999) ∧ (-9999 ≤ q ∧ q ≤ 9999) ∧ (-999 ≤ w ∧ w ≤ 999) ∧ 0 ≤ s ∧ s ≤ 9) : sd_wf (pz_lkm p q w s M 60) := by
  obtain ⟨w1, w2, w3⟩ := hW
  obtain ⟨N, hN⟩ : ∃ N : Nat, (M 60 88).toNat = N := ⟨_, rfl⟩
  have N12 : N < 12 := by omega
  refine ⟨by rw [pz_lkm_88]; omega, by rw [sd_lkm_n hN (by first | decide | omega)]; exact w2, fun i hi => ?_⟩
  rw [pz_lkm_88] at hi
  unfold sd_lw
  rw [pz_lkm_88]
  by_cases c : i = N
  · subst c
    have e0 : pz_lkm p q w s M 60 (4 + i) = p := by
      rw [sd_lkm_at, hN]
      repeat first | rw [if_pos (by first | decide | omega)] | rw [if_neg (by first | decide | omega)]
    have e1 : pz_lkm p q w s M 60 (16 + i) = q := by
      rw [sd_lkm_at, hN]
      repeat first | rw [if_pos (by first | decide | omega)] | rw [if_neg (by first | decide | omega)]
    have e2 : pz_lkm p q w s M 60 (28 + i) = w := by
      rw [sd_lkm_at, hN]
      repeat first | rw [if_pos (by first | decide | omega)] | rw [if_neg (by first | decide | omega)]
    have e3 : pz_lkm p q w s M 60 (93 + i) = s := by
      rw [sd_lkm_at, hN]
      repeat first | rw [if_pos (by first | decide | omega)] | rw [if_neg (by first | decide | omega)]
    have e4 : pz_lkm p q w s M 60 (40 + i) = 0 := by
      rw [sd_lkm_at, hN]
      repeat first | rw [if_pos (by first | decide | omega)] | rw [if_neg (by first | decide | omega)]
    have e5 : pz_lkm p q w s M 60 (52 + i) = 0 := by
      rw [sd_lkm_at, hN]
      repeat first | rw [if_pos (by first | decide | omega)] | rw [if_neg (by first | decide | omega)]
    have e6 : pz_lkm p q w s M 60 (64 + i) = 0 := by
      rw [sd_lkm_at, hN]
      repeat first | rw [if_pos (by first | decide | omega)] | rw [if_neg (by first | decide | omega)]
    rw [e0, e1, e2, e3, e4, e5, e6]
    exact ⟨hc.1, hc.2.1, hc.2.2.1, hc.2.2.2, Or.inl rfl, Or.inl rfl, Or.inl rfl⟩
  · have a := w3 i (by first | decide | omega)
    unfold sd_lw at a
    rw [sd_lkm_n hN (j := 4 + i) (by first | decide | omega), sd_lkm_n hN (j := 16 + i) (by first | decide | omega), sd_lkm_n hN (j := 28 + i) (by first | decide | omega), sd_lkm_n hN (j := 93 + i) (by first | decide | omega), sd_lkm_n hN (j := 40 + i) (by first | decide | omega), sd_lkm_n hN (j := 52 + i) (by first | decide | omega), sd_lkm_n hN (j := 64 + i) (by first | decide | omega)]
    omega
theorem pz_RZ_link {M M1 M2 : pz_M} {p q w s v v' : Int} (hI : pz_ic M) (h : pz_RZ M) (q1 : ((M 71 3 < 12 ∧ (1 ≤ p ∧ p ≤ 999) ∧ (-9999 ≤ q ∧ q ≤ 9999) ∧ (-999 ≤ w ∧ w ≤ 999) ∧ 0 ≤ s ∧ s ≤ 9) ∧ v = M 71 3 ∧ M1 = pz_lkf p q w s M) ∨ (¬ (M 71 3 < 12 ∧ (1 ≤ p ∧ p ≤ 999) ∧ (-9999 ≤ q ∧ q ≤ 9999) ∧ (-999 ≤ w ∧ w ≤ 999) ∧ 0 ≤ s ∧ s ≤ 9) ∧ v = -1 ∧ M1 = M))
    (q2 : ((M1 60 88 < 12 ∧ (1 ≤ p ∧ p ≤ 999) ∧ (-9999 ≤ q ∧ q ≤ 9999) ∧ (-999 ≤ w ∧ w ≤ 999) ∧ 0 ≤ s ∧ s ≤ 9) ∧ v' = M1 60 88 ∧ M2 = pz_lkm p q w s M1) ∨ (¬ (M1 60 88 < 12 ∧ (1 ≤ p ∧ p ≤ 999) ∧ (-9999 ≤ q ∧ q ≤ 9999) ∧ (-999 ≤ w ∧ w ≤ 999) ∧ 0 ≤ s ∧ s ≤ 9) ∧ v' = -1 ∧ M2 = M1)) : v = v' ∧ pz_RZ M2 := by
  obtain ⟨e, r⟩ := pz_RX_link hI h.1 q1 q2
  refine ⟨e, r, ?_⟩
  obtain ⟨h1, ⟨h2, h3, h4⟩, h5, -, h8⟩ := id h.2
  have i1 := hI.1 71 (by first | decide | omega) (by first | decide | omega)
  have n9 := h2.1
  rcases q1 with ⟨⟨a1, a2⟩, -, a3⟩ | ⟨a1, -, a3⟩
  · have w60 : M1 60 = M 60 := funext fun j => by
      rw [a3]
      exact pz_lkf_o (by first | decide | omega)
    rw [w60] at q2
    rcases q2 with ⟨-, -, b3⟩ | ⟨b1, -, b3⟩
    · have E : M2 60 = pz_lkm p q w s M 60 := by
        funext j
        rw [b3, sd_lkm_at, sd_lkm_at, w60]
      obtain ⟨s1, s2⟩ := sd_link_se (p := p) (q := q) (w := w) (s := s) h2 h4 (by first | decide | omega)
      have wf := sd_link_wf (p := p) (q := q) (w := w) (s := s) h4 (by first | decide | omega) a2
      have o : ∀ b j : Nat, b ≠ 60 → ¬ (b = 1 ∧ j = 4) → M2 b j = M1 b j := fun b j y1 y2 => by
        rw [b3]
        exact pz_lkm_o y1 y2
      have o1 : ∀ b j : Nat, b ≠ 3 → b ≠ 7 → ¬ (b = 71 ∧ j = 3) → b < 89 ∨ 101 ≤ b → M1 b j = M b j := fun b j y1 y2 y3 y4 => by
        rw [a3]
        unfold pz_lkf
        rw [pz_una y2, pz_una y1, pz_une y3]
        exact pz_mkl_o (by first | decide | omega)
      have n12 : M 60 88 < 12 := by omega
      have m9 : (pz_lkm p q w s M 60) 88 ≤ 12 := by
        rw [pz_lkm_88]
        omega
      refine ⟨?_, ⟨?_, ?_, by rw [E]; exact wf⟩, sd_LQ_cg h5 (fun b j y => (o b j (by unfold pz_xcl at y; first | decide | omega) (by unfold pz_xcl at y; first | decide | omega)).trans (o1 b j (by unfold pz_xcl at y; first | decide | omega) (by unfold pz_xcl at y; first | decide | omega) (by unfold pz_xcl at y; first | decide | omega) (by unfold pz_xcl at y; first | decide | omega))) ?_, ⟨[], sd_ck_0 ?_, sd_mq_0 ?_⟩, sd_im_cg h8 (fun b j y => (o b j (by first | decide | omega) (by first | decide | omega)).trans (o1 b j (by first | decide | omega) (by first | decide | omega) (by first | decide | omega) (by first | decide | omega)))⟩
      · rw [o 71 0 (by first | decide | omega) (by first | decide | omega), o 72 0 (by first | decide | omega) (by first | decide | omega), o1 71 0 (by first | decide | omega) (by first | decide | omega) (by first | decide | omega) (by first | decide | omega), o1 72 0 (by first | decide | omega) (by first | decide | omega) (by first | decide | omega) (by first | decide | omega)]
        exact h1
      · rw [E]
        rw [← a3] at s1
        exact sd_se_cg s1 (fun b j y => o b j (by unfold pz_lb at y; first | decide | omega) (by unfold pz_lb at y; first | decide | omega)) m9
      · rw [E]
        have s3 := s2 h3
        rw [← a3] at s3
        exact fun k hk => (o 45 k (by first | decide | omega) (by first | decide | omega)).trans (s3 k hk)
      · exact fun j y => by
          rw [E]
          exact sd_lkm_n rfl (by unfold pz_xv at y; first | decide | omega)
      · rw [o 3 2 (by first | decide | omega) (by first | decide | omega), a3]
        unfold pz_lkf
        rw [pz_una (by decide)]
        exact pz_uu
      · rw [b3]
        exact pz_uu
    · omega
  · rcases q2 with ⟨⟨b1, b2⟩, -, b3⟩ | ⟨b1, -, b3⟩
    · rw [a3] at b1
      exact absurd ⟨by omega, b2⟩ a1
    · rw [b3, a3]
      exact h.2
end
