section
theorem pz_RZ_goes {M M1 M2 : pz_M} {n w v v' : Int} (hI : pz_ic M) (h : pz_RZ M) (q : sd_gc M M1 n w v) (z : pq_pr pq_Pg M M1) (q' : sd_gm M1 M2 n w v') (z' : pz_rl pz_QG M1 M2) : v = v' ∧ pz_RZ M2 := by
  have r9 : pz_RX M2 := pz_RX_sk (pz_RX_sW hI h.1 z.gst.sw) z'.gsk
  obtain ⟨h1, ⟨h2, h3, h4⟩, h5, ⟨L, h6, h7⟩, h8⟩ := id h.2
  have w60 : M1 60 = M 60 := funext fun j => z.2 60 j (by unfold pq_Pg pq_Pk pq_Pw; first | decide | omega)
  obtain ⟨ls, l1, t1, t2⟩ := sd_LQ_x h5
  obtain ⟨a1, a2⟩ := q
  obtain ⟨a3, a4⟩ := a2 ls l1 (M 60) t1 h2 h3 h4 h1.2
  have k1 : sd_RZ M1 := sd_RZ_cg h.2 (fun b j y => by
    by_cases x : b = 45
    · rw [x]
      exact a4 j (by unfold sd_rz at y; first | decide | omega)
    · exact z.2 b j (by unfold sd_rz at y; unfold pq_Pg pq_Pk pq_Pw; omega))
  obtain ⟨b1, b2⟩ := q'
  rw [w60] at b2
  by_cases hq : sd_gq n w
  · obtain ⟨c1, c2⟩ := b2 hq ls l1 t2 h4
    refine ⟨(a3 hq).trans c1.symm, r9, sd_RZ_cg k1 (fun b j y => ?_)⟩
    by_cases x : b = 60
    · rw [x, c2, w60]
    · exact z'.2 b j (by unfold sd_rz at y; unfold pz_QG; omega)
  · obtain ⟨c1, c2⟩ := b1 hq
    rw [c2] at r9 ⊢
    exact ⟨(a1 hq).trans c1.symm, r9, k1⟩
/-! a new LINK -/
theorem sd_uk {M : pz_M} {a k j : Nat} {v : Int} : pz_u M a k v a j = if j = k then v else M a j := by
  by_cases h : j = k
  · rw [if_pos h]
    exact pz_ue ⟨rfl, h⟩
  · rw [if_neg h]
    exact pz_unk h
theorem sd_lkm_at {M : pz_M} {p q w s : Int} {j : Nat} : pz_lkm p q w s M 60 j = if j = 88 then M 60 88 + 1 else if j = 106 + 2 * (M 60 88).toNat then 240 else if j = 105 + 2 * (M 60 88).toNat then 0 else if j = 76 + (M 60 88).toNat then -1 else if j = 64 + (M 60 88).toNat then 0 else if j = 52 + (M 60 88).toNat then 0 else if j = 40 + (M 60 88).toNat then 0 else if j = 93 + (M 60 88).toNat then s else if j = 28 + (M 60 88).toNat then w else if j = 16 + (M 60 88).toNat then q else if j = 4 + (M 60 88).toNat then p else M 60 j := by
  unfold pz_lkm
  rw [pz_una (by decide), sd_uk, sd_uk, sd_uk, sd_uk, sd_uk, sd_uk, sd_uk, sd_uk, sd_uk, sd_uk, sd_uk]
theorem sd_mkl_at {M : pz_M} {c j : Nat} {p q w z : Int} : pz_mkl c p q w z M c j = if j = 7 then -1 else if j = 6 then 0 else if j = 5 then 0 else if j = 4 then 0 else if j = 3 then z else if j = 2 then w else if j = 1 then q else if j = 0 then p else M c j := by
  unfold pz_mkl
  rw [sd_uk, sd_uk, sd_uk, sd_uk, sd_uk, sd_uk, sd_uk, sd_uk]
theorem sd_lkm_n {N : Nat} {M : pz_M} {p q w s : Int} {j : Nat} (hN : (M 60 88).toNat = N) (h : j ≠ 88 ∧ j ≠ 106 + 2 * N ∧ j ≠ 105 + 2 * N ∧ j ≠ 76 + N ∧ j ≠ 64 + N ∧ j ≠ 52 + N ∧ j ≠ 40 + N ∧ j ≠ 93 + N ∧ j ≠ 28 + N ∧ j ≠ 16 + N ∧ j ≠ 4 + N) : pz_lkm p q w s M 60 j = M 60 j := by
  obtain ⟨a1, a2, a3, a4, a5, a6, a7, a8, a9, b1, b2⟩ := h
  rw [sd_lkm_at, hN, if_neg a1, if_neg a2, if_neg a3, if_neg a4, if_neg a5, if_neg a6, if_neg a7, if_neg a8, if_neg a9, if_neg b1, if_neg b2]
theorem sd_link_se {M : pz_M} {p q w s : Int} (hF : sd_se M 71 (M 60)) (hW : sd_wf (M 60)) (h12 : M 60 88 < 12) : sd_se (pz_lkf p q w s M) 71 (pz_lkm p q w s M 60) ∧ (sd_pg M (M 60) → sd_pg (pz_lkf p q w s M) (pz_lkm p q w s M 60)) := by
  obtain ⟨a1, a2, a3, a4, a5, a6⟩ := hF
  have m := hW.1
  obtain ⟨N, hN⟩ : ∃ N : Nat, (M 60 88).toNat = N := ⟨_, rfl⟩
  have hN2 : (M 71 3).toNat = N := by rw [a1]; exact hN
  have N12 : N < 12 := by omega
  have o : ∀ b j : Nat, b ≠ 3 → b ≠ 7 → ¬ (b = 71 ∧ j = 3) → b ≠ 89 + N → pz_lkf p q w s M b j = M b j := fun b j y1 y2 y3 y4 => by
    unfold pz_lkf
    rw [pz_una y2, pz_una y1, pz_une y3]
    exact pz_mkl_o (by first | decide | omega)
  have z : ∀ k : Nat, k < 4 → pz_lkm p q w s M 60 k = M 60 k := fun k hk => sd_lkm_n hN (by first | decide | omega)
  refine ⟨⟨?_, ?_, ?_, ?_, ?_, fun i f hi hf => ?_⟩, fun hP k hk => ?_⟩
  · rw [pz_lkm_88]
    unfold pz_lkf
    rw [pz_una (by decide), pz_una (by decide), pz_uu, a1]
  · rw [o 71 4 (by first | decide | omega) (by first | decide | omega) (by first | decide | omega) (by first | decide | omega), z 0 (by first | decide | omega)]; exact a2
  · rw [o 71 5 (by first | decide | omega) (by first | decide | omega) (by first | decide | omega) (by first | decide | omega), z 1 (by first | decide | omega)]; exact a3
  · rw [o 71 6 (by first | decide | omega) (by first | decide | omega) (by first | decide | omega) (by first | decide | omega), z 2 (by first | decide | omega)]; exact a4
  · rw [o 71 7 (by first | decide | omega) (by first | decide | omega) (by first | decide | omega) (by first | decide | omega), z 3 (by first | decide | omega)]; exact a5
  · rw [pz_lkm_88] at hi
    have lb : pz_lb 71 = 89 := rfl
    rw [lb] at a6 ⊢
    by_cases c : i = N
    · rw [c]
      unfold pz_lkf
      rw [pz_una (by first | decide | omega), pz_una (by first | decide | omega), pz_una (by first | decide | omega), hN2, sd_mkl_at, sd_lkm_at, hN]
      have hf : f = 0 ∨ f = 1 ∨ f = 2 ∨ f = 3 ∨ f = 4 ∨ f = 5 ∨ f = 6 ∨ f = 7 := by omega
      have key : sd_fo 0 = 4 ∧ sd_fo 1 = 16 ∧ sd_fo 2 = 28 ∧ sd_fo 3 = 93 ∧ sd_fo 4 = 40 ∧ sd_fo 5 = 52 ∧ sd_fo 6 = 64 ∧ sd_fo 7 = 76 := ⟨rfl, rfl, rfl, rfl, rfl, rfl, rfl, rfl⟩
      obtain ⟨k0, k1, k2, k3, k4, k5, k6, k7⟩ := key
      rcases hf with rfl | rfl | rfl | rfl | rfl | rfl | rfl | rfl
      · rw [k0]
        repeat first | rw [if_pos (by first | decide | omega)] | rw [if_neg (by first | decide | omega)]
      · rw [k1]
        repeat first | rw [if_pos (by first | decide | omega)] | rw [if_neg (by first | decide | omega)]
      · rw [k2]
        repeat first | rw [if_pos (by first | decide | omega)] | rw [if_neg (by first | decide | omega)]
      · rw [k3]
        repeat first | rw [if_pos (by first | decide | omega)] | rw [if_neg (by first | decide | omega)]
      · rw [k4]
        repeat first | rw [if_pos (by first | decide | omega)] | rw [if_neg (by first | decide | omega)]
      · rw [k5]
        repeat first | rw [if_pos (by first | decide | omega)] | rw [if_neg (by first | decide | omega)]
      · rw [k6]
        repeat first | rw [if_pos (by first | decide | omega)] | rw [if_neg (by first | decide | omega)]
      · rw [k7]
        repeat first | rw [if_pos (by first | decide | omega)] | rw [if_neg (by first | decide | omega)]
    · have b := sd_fo_b hf (show i < 12 by omega)
      have d : ∀ g : Nat, g < 8 → sd_fo f + i ≠ sd_fo g + N := fun g hg => sd_fo_ne hf hg (by first | decide | omega) N12 (Or.inr c)
      have d0 := d 0 (by first | decide | omega)
      have d1 := d 1 (by first | decide | omega)
      have d2 := d 2 (by first | decide | omega)
      have d3 := d 3 (by first | decide | omega)
      have d4 := d 4 (by first | decide | omega)
      have d5 := d 5 (by first | decide | omega)
      have d6 := d 6 (by first | decide | omega)
      have d7 := d 7 (by first | decide | omega)
      rw [o (89 + i) f (by first | decide | omega) (by first | decide | omega) (by first | decide | omega) (by first | decide | omega), a6 i f (by first | decide | omega) hf]
      exact (sd_lkm_n hN ⟨by omega, by omega, by omega, d7, d6, d5, d4, d3, d2, d1, d0⟩).symm
  · rw [o 45 k (by first | decide | omega) (by first | decide | omega) (by first | decide | omega) (by first | decide | omega), sd_lkm_n hN (by first | decide | omega)]
    exact hP k hk
end
