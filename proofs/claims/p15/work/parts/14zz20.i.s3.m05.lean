section
theorem pz_RZ_look {M : pz_M} {w v v' : Int} (hI : pz_ic M) (h : pz_RZ M) (q : (w = 0 → v = M 71 3) ∧ (w = 1 → v = M 71 4) ∧ (w = 2 → v = M 71 5) ∧ (w = 3 → sd_q M 71 (fun F => pz_zs v (sd_vn F))) ∧ (w = 4 → sd_q M 71 (fun F => pz_zs v (sd_bn F))) ∧ (w = 5 → sd_q M 71 (fun F => v = if F 88 = 0 then 0 else 1 + pz_cnt (sd_bn F) 12)) ∧ (w = 6 → v = M 71 7) ∧ (w = 7 → v = M 71 6) ∧ (w = 8 → v = M 10 0) ∧ (w = 9 → v = M 13 0) ∧ (w = 10 → v = M 14 0) ∧ (w = 11 → v = M 15 0) ∧ (w = 12 → v = M 3 2) ∧ (¬ (0 ≤ w ∧ w ≤ 12) → v = -1)) (q' : (w = 0 → v' = M 60 88) ∧ (w = 1 → v' = M 60 0) ∧ (w = 2 → v' = M 60 1) ∧ (w = 3 → pz_zs v' (sd_vn (M 60))) ∧ (w = 4 → pz_zs v' (sd_bn (M 60))) ∧ (w = 5 → v' = if M 60 88 = 0 then 0 else 1 + pz_cnt (sd_bn (M 60)) 12) ∧ (w = 6 → v' = M 60 3) ∧ (w = 7 → v' = M 60 2) ∧ (w = 8 → v' = M 60 89) ∧ (w = 9 → v' = M 60 90) ∧ (w = 10 → v' = M 60 91) ∧ (w = 11 → v' = M 60 92) ∧ (w = 12 → v' = M 1 4) ∧ (¬ (0 ≤ w ∧ w ≤ 12) → v' = -1)) : v = v' := by
  obtain ⟨-, ⟨h2, h3, h4⟩, -, ⟨L, h6, h7⟩, -⟩ := h.2
  obtain ⟨ls, l1, l2, l3, ⟨x1, x2, -⟩, ⟨p1, p2, -⟩, ⟨t1, t2, -⟩, ⟨d1, d2, -⟩⟩ := h.1.2.1
  obtain ⟨a0, a1, a2, a3, a4, a5, a6, a7, a8, a9, b0, b1, b2, b3⟩ := q
  obtain ⟨c0, c1, c2, c3, c4, c5, c6, c7, c8, c9, e0, e1, e2, e3⟩ := q'
  have hw : w = 0 ∨ w = 1 ∨ w = 2 ∨ w = 3 ∨ w = 4 ∨ w = 5 ∨ w = 6 ∨ w = 7 ∨ w = 8 ∨ w = 9 ∨ w = 10 ∨ w = 11 ∨ w = 12 ∨ ¬ (0 ≤ w ∧ w ≤ 12) := by omega
  rcases hw with hw | hw | hw | hw | hw | hw | hw | hw | hw | hw | hw | hw | hw | hw
  · exact (a0 hw).trans (h2.1.trans (c0 hw).symm)
  · exact (a1 hw).trans (h2.2.1.trans (c1 hw).symm)
  · exact (a2 hw).trans (h2.2.2.1.trans (c2 hw).symm)
  · exact pz_sb_ext (a3 hw (M 60) h2 h4) (c3 hw) (fun _ => rfl)
  · exact pz_sb_ext (a4 hw (M 60) h2 h4) (c4 hw) (fun _ => rfl)
  · exact (a5 hw (M 60) h2 h4).trans (c5 hw).symm
  · exact (a6 hw).trans (h2.2.2.2.2.1.trans (c6 hw).symm)
  · exact (a7 hw).trans (h2.2.2.2.1.trans (c7 hw).symm)
  · exact (a8 hw).trans ((x1.1.trans x2.1.symm).trans (c8 hw).symm)
  · exact (a9 hw).trans ((p1.1.trans p2.1.symm).trans (c9 hw).symm)
  · exact (b0 hw).trans ((t1.1.trans t2.1.symm).trans (e0 hw).symm)
  · exact (b1 hw).trans ((d1.1.trans d2.1.symm).trans (e1 hw).symm)
  · exact (b2 hw).trans ((h6.1.trans h7.1.symm).trans (e2 hw).symm)
  · exact (b3 hw).trans (e3 hw).symm
end
