def pz_adl (h0 : Nat) (c1 : Nat) (g1 : Nat → Nat) (c2 : Nat) (g2 : Nat → Nat) (tx : Nat) (gtx : (Nat × (Nat → Nat)) × (Nat × (Nat → Nat)) × (Nat × (Nat → Nat)) × Nat × (Nat → Nat)) (pg : Nat) (dd : Nat) (gd : Nat → Nat) (kp : Nat) (gkp : (Nat → Nat) × (Nat → Nat → Nat)) (tp : Nat) (gtp : Nat → Nat) (tl : Nat) (gtl : (Nat × (Nat → Nat)) × Nat × (Nat → Nat)) (lk : Nat) (glk : Nat → Nat) (ph : Nat) (gph : Nat → Nat) (c3 : Nat) (g3 : Nat → Nat) (tx2 : Nat) (gtx2 : (Nat × (Nat → Nat)) × (Nat × (Nat → Nat)) × (Nat × (Nat → Nat)) × Nat × (Nat → Nat)) (pg2 : Nat) (h1 : Nat) (gm : Nat → Nat) : List Nat := [h0, h1, dd, kp, tp, tl, lk, ph, tx, tx2, gtx.1.1, gtx2.1.1, gtl.1.1, gtx.2.1.1, gtx.2.2.1.1, gtx.2.2.2.1, gtx2.2.1.1, gtx2.2.2.1.1, gtx2.2.2.2.1, gtl.2.1, gtx.2.1.2 0, gtx.2.2.1.2 0, gtx.2.2.2.2 0, gtx2.2.1.2 0, gtx2.2.2.1.2 0, gtx2.2.2.2.2 0, gtl.2.2 0, gtx.1.2 0, gtx.1.2 1, gtx.1.2 2, gtx.1.2 3, gtx.1.2 4, gtx.1.2 5, gtx2.1.2 0, gtx2.1.2 1, gtx2.1.2 2, gtx2.1.2 3, gtx2.1.2 4, gtx2.1.2 5, gtl.1.2 0, gtl.1.2 1, gtl.1.2 2, gtl.1.2 3, gtl.1.2 4, gtl.1.2 5, pg, pg2, gkp.1 0, gtp 0, gtp 1, gtp 2, gtp 3, glk 0, glk 1, glk 2, glk 3, gph 0, gph 1, gph 2, gph 3, gm 0, gm 1, gm 2, gm 3, gm 4, gm 5, gm 6, gm 7, gm 8, gm 9, gm 10, c1, c2, c3, gkp.1 1, gkp.1 2, gkp.1 3, gkp.1 4, gkp.1 5, gkp.1 6, g1 0, g2 0, g3 0, gkp.2 0 0, gkp.2 1 0, gkp.2 2 0, gkp.2 3 0, gkp.2 4 0, gkp.2 5 0, g1 2, g1 3, g1 4, g1 5, g1 6, g1 7, g1 8, g1 9, g1 10, g1 11, g1 12, g1 13, g1 1, g2 2, g2 3, g2 4, g2 5, g2 6, g2 7, g2 8, g2 9, g2 10, g2 11, g2 12, g2 13, g2 1, g3 2, g3 3, g3 4, g3 5, g3 6, g3 7, g3 8, g3 9, g3 10, g3 11, g3 12, g3 13, g3 1, gkp.2 0 2, gkp.2 0 3, gkp.2 0 4, gkp.2 0 5, gkp.2 0 6, gkp.2 0 7, gkp.2 0 8, gkp.2 0 9, gkp.2 0 10, gkp.2 0 11, gkp.2 0 12, gkp.2 0 13, gkp.2 0 1, gkp.2 1 2, gkp.2 1 3, gkp.2 1 4, gkp.2 1 5, gkp.2 1 6, gkp.2 1 7, gkp.2 1 8, gkp.2 1 9, gkp.2 1 10, gkp.2 1 11, gkp.2 1 12, gkp.2 1 13, gkp.2 1 1, gkp.2 2 2, gkp.2 2 3, gkp.2 2 4, gkp.2 2 5, gkp.2 2 6, gkp.2 2 7, gkp.2 2 8, gkp.2 2 9, gkp.2 2 10, gkp.2 2 11, gkp.2 2 12, gkp.2 2 13, gkp.2 2 1, gkp.2 3 2, gkp.2 3 3, gkp.2 3 4, gkp.2 3 5, gkp.2 3 6, gkp.2 3 7, gkp.2 3 8, gkp.2 3 9, gkp.2 3 10, gkp.2 3 11, gkp.2 3 12, gkp.2 3 13, gkp.2 3 1, gkp.2 4 2, gkp.2 4 3, gkp.2 4 4, gkp.2 4 5, gkp.2 4 6, gkp.2 4 7, gkp.2 4 8, gkp.2 4 9, gkp.2 4 10, gkp.2 4 11, gkp.2 4 12, gkp.2 4 13, gkp.2 4 1, gkp.2 5 2, gkp.2 5 3, gkp.2 5 4, gkp.2 5 5, gkp.2 5 6, gkp.2 5 7, gkp.2 5 8, gkp.2 5 9, gkp.2 5 10, gkp.2 5 11, gkp.2 5 12, gkp.2 5 13, gkp.2 5 1]
def pz_ad (l : List Nat) (adS : Nat → Nat) : Nat → Nat := fun a => if a < 206 then l.getD a 0 else adS (a - 206)
def pz_pos : List Nat := [0, 194, 46, 47, 139, 144, 154, 159, 31, 179, 32, 180, 145, 39, 41, 43, 187, 189, 191, 152, 40, 42, 44, 188, 190, 192, 153, 33, 34, 35, 36, 37, 38, 181, 182, 183, 184, 185, 186, 146, 147, 148, 149, 150, 151, 45, 193, 48, 140, 141, 142, 143, 155, 156, 157, 158, 160, 161, 162, 163, 195, 196, 197, 198, 199, 200, 201, 202, 203, 204, 205, 1, 16, 164, 49, 64, 79, 94, 109, 124, 2, 17, 165, 50, 65, 80, 95, 110, 125, 4, 5, 6, 7, 8, 9, 10, 11, 12, 13, 14, 15, 3, 19, 20, 21, 22, 23, 24, 25, 26, 27, 28, 29, 30, 18, 167, 168, 169, 170, 171, 172, 173, 174, 175, 176, 177, 178, 166, 52, 53, 54, 55, 56, 57, 58, 59, 60, 61, 62, 63, 51, 67, 68, 69, 70, 71, 72, 73, 74, 75, 76, 77, 78, 66, 82, 83, 84, 85, 86, 87, 88, 89, 90, 91, 92, 93, 81, 97, 98, 99, 100, 101, 102, 103, 104, 105, 106, 107, 108, 96, 112, 113, 114, 115, 116, 117, 118, 119, 120, 121, 122, 123, 111, 127, 128, 129, 130, 131, 132, 133, 134, 135, 136, 137, 138, 126]
def pz_inv : List Nat := [0, 71, 80, 101, 89, 90, 91, 92, 93, 94, 95, 96, 97, 98, 99, 100, 72, 81, 114, 102, 103, 104, 105, 106, 107, 108, 109, 110, 111, 112, 113, 8, 10, 27, 28, 29, 30, 31, 32, 13, 20, 14, 21, 15, 22, 45, 2, 3, 47, 74, 83, 140, 128, 129, 130, 131, 132, 133, 134, 135, 136, 137, 138, 139, 75, 84, 153, 141, 142, 143, 144, 145, 146, 147, 148, 149, 150, 151, 152, 76, 85, 166, 154, 155, 156, 157, 158, 159, 160, 161, 162, 163, 164, 165, 77, 86, 179, 167, 168, 169, 170, 171, 172, 173, 174, 175, 176, 177, 178, 78, 87, 192, 180, 181, 182, 183, 184, 185, 186, 187, 188, 189, 190, 191, 79, 88, 205, 193, 194, 195, 196, 197, 198, 199, 200, 201, 202, 203, 204, 4, 48, 49, 50, 51, 5, 12, 39, 40, 41, 42, 43, 44, 19, 26, 6, 52, 53, 54, 55, 7, 56, 57, 58, 59, 73, 82, 127, 115, 116, 117, 118, 119, 120, 121, 122, 123, 124, 125, 126, 9, 11, 33, 34, 35, 36, 37, 38, 16, 23, 17, 24, 18, 25, 46, 1, 60, 61, 62, 63, 64, 65, 66, 67, 68, 69, 70]
theorem pz_pos_inv : ∀ a, a < 206 → pz_inv.getD (pz_pos.getD a 0) 0 = a := by decide +kernel
/-- the numbers at the start -/
def pz_M0 : pz_M := fun a k => if a = 72 ∧ k = 0 then 1 else if (89 ≤ a ∧ a < 206) ∧ k = 7 then -1 else if a = 5 ∧ k = 4 then -1 else if a = 1 ∧ k = 25 then -1 else 0
theorem pz_M0_z {a k : Nat} (h1 : ¬ (a = 72 ∧ k = 0)) (h2 : ¬ ((89 ≤ a ∧ a < 206) ∧ k = 7)) (h3 : ¬ (a = 5 ∧ k = 4)) (h4 : ¬ (a = 1 ∧ k = 25)) : pz_M0 a k = 0 := by
  unfold pz_M0
  rw [if_neg h1, if_neg h2, if_neg h3, if_neg h4]
theorem pz_M0_c (a k : Nat) : pz_c (pz_M0 a k) := by
  unfold pz_M0 pz_c
  split
  · omega
  · split
    · omega
    · split
      · omega
      · split <;> omega
theorem pz_M0_ic : pz_ic pz_M0 := by
  refine ⟨fun c h1 h2 => ?_, ?_, fun r h1 h2 => ?_, fun L h1 h2 => ?_, ?_, ?_⟩
  · rw [pz_M0_z (a := c) (k := 3) (by omega) (by omega) (by omega) (by omega), pz_M0_z (a := c) (k := 7) (by omega) (by omega) (by omega) (by omega)]; omega
  · rw [pz_M0_z (a := 3) (k := 1) (by omega) (by omega) (by omega) (by omega)]; omega
  · rw [pz_M0_z (a := r) (k := 0) (by omega) (by omega) (by omega) (by omega)]; omega
  · rw [pz_M0_z (a := L) (k := 0) (by omega) (by omega) (by omega) (by omega), pz_M0_z (a := L) (k := 1) (by omega) (by omega) (by omega) (by omega)]; omega
  · rw [pz_M0_z (a := 4) (k := 1) (by omega) (by omega) (by omega) (by omega)]; omega
  · rw [pz_M0_z (a := 7) (k := 3) (by omega) (by omega) (by omega) (by omega)]; omega
theorem pz_M0_im : pz_im pz_M0 := by
  have z : ∀ a k : Nat, (60 ≤ a ∧ a < 71) ∨ (a = 1 ∧ k ≠ 25) → pz_M0 a k = 0 := fun a k h => pz_M0_z (by omega) (by omega) (by omega) (by omega)
  have lw : ∀ a : Nat, 60 ≤ a ∧ a < 71 → pz_lw pz_M0 a := fun a h i q1 q2 => by
    rw [z a 89 (Or.inl h)] at q2
    omega
  have iw : ∀ a : Nat, 60 ≤ a ∧ a < 71 → pz_iw pz_M0 a := fun a h => by
    unfold pz_iw
    rw [z a 88 (Or.inl h), z a 89 (Or.inl h), z a 90 (Or.inl h), z a 92 (Or.inl h), z a 3 (Or.inl h)]
    omega
  refine ⟨iw 60 (by omega), ?_, lw 60 (by omega), iw 61 (by omega), lw 61 (by omega)⟩
  refine ⟨?_, ?_, ?_, ?_, ?_, ?_, ?_, ?_, fun j hj => ?_⟩
  · rw [z 1 4 (by omega)]; omega
  · rw [z 1 16 (by omega)]; omega
  · rw [z 63 3 (by omega)]; omega
  · rw [z 1 17 (by omega)]; omega
  · rw [z 1 19 (by omega)]; omega
  · rw [z 1 13 (by omega)]; omega
  · rw [z 1 14 (by omega)]; omega
  · rw [z 1 15 (by omega)]; omega
  · rw [z 62 (88 * j + 3) (by omega)]; omega
theorem pz_f0 {P : Nat → Prop} : ∀ m, m < 0 → P m := fun m h => absurd h (Nat.not_lt_zero m)
theorem pz_fs {P : Nat → Prop} {n : Nat} (h : ∀ m, m < n → P m) (hn : P n) : ∀ m, m < n + 1 → P m := fun m hm => by
  rcases Nat.lt_or_ge m n with q | q
  · exact h m q
  · rw [show m = n by omega]
    exact hn
section PZ16
variable {D : va_G} {cy : Nat → ClassId} {H : Heap} {adS : Nat → Nat} {h0 : Nat} {c1 : Nat} {g1 : Nat → Nat} {c2 : Nat} {g2 : Nat → Nat} {tx : Nat} {gtx : (Nat × (Nat → Nat)) × (Nat × (Nat → Nat)) × (Nat × (Nat → Nat)) × Nat × (Nat → Nat)} {pg : Nat} {dd : Nat} {gd : Nat → Nat} {kp : Nat} {gkp : (Nat → Nat) × (Nat → Nat → Nat)} {tp : Nat} {gtp : Nat → Nat} {tl : Nat} {gtl : (Nat × (Nat → Nat)) × Nat × (Nat → Nat)} {lk : Nat} {glk : Nat → Nat} {ph : Nat} {gph : Nat → Nat} {c3 : Nat} {g3 : Nat → Nat} {tx2 : Nat} {gtx2 : (Nat × (Nat → Nat)) × (Nat × (Nat → Nat)) × (Nat × (Nat → Nat)) × Nat × (Nat → Nat)} {pg2 : Nat} {h1 : Nat} {gm : Nat → Nat}
def pz_row (D : va_G) (cy : Nat → ClassId) (H : Heap) (W : va_W) (ad : Nat → Nat) (a : Nat) : Prop := ∃ e, W[pz_pos.getD a 0]? = some (ad a, e) ∧ (va_at D vwCl (ad a, e) H → va_at D vwCl (ad a, pz_en ad cy pz_M0 a) H)
theorem pz_r0 : pz_row D cy H (pz_b11 cy h0 c1 g1 c2 g2 tx gtx pg dd gd kp gkp tp gtp tl gtl lk glk ph gph c3 g3 tx2 gtx2 pg2 ++ pz_b12 cy h1 gm) (pz_ad (pz_adl h0 c1 g1 c2 g2 tx gtx pg dd gd kp gkp tp gtp tl gtl lk glk ph gph c3 g3 tx2 gtx2 pg2 h1 gm) adS) 0 := ⟨_, rfl, id⟩
theorem pz_r1 : pz_row D cy H (pz_b11 cy h0 c1 g1 c2 g2 tx gtx pg dd gd kp gkp tp gtp tl gtl lk glk ph gph c3 g3 tx2 gtx2 pg2 ++ pz_b12 cy h1 gm) (pz_ad (pz_adl h0 c1 g1 c2 g2 tx gtx pg dd gd kp gkp tp gtp tl gtl lk glk ph gph c3 g3 tx2 gtx2 pg2 h1 gm) adS) 1 := ⟨_, rfl, id⟩
theorem pz_r2 : pz_row D cy H (pz_b11 cy h0 c1 g1 c2 g2 tx gtx pg dd gd kp gkp tp gtp tl gtl lk glk ph gph c3 g3 tx2 gtx2 pg2 ++ pz_b12 cy h1 gm) (pz_ad (pz_adl h0 c1 g1 c2 g2 tx gtx pg dd gd kp gkp tp gtp tl gtl lk glk ph gph c3 g3 tx2 gtx2 pg2 h1 gm) adS) 2 := ⟨_, rfl, id⟩
theorem pz_r3 : pz_row D cy H (pz_b11 cy h0 c1 g1 c2 g2 tx gtx pg dd gd kp gkp tp gtp tl gtl lk glk ph gph c3 g3 tx2 gtx2 pg2 ++ pz_b12 cy h1 gm) (pz_ad (pz_adl h0 c1 g1 c2 g2 tx gtx pg dd gd kp gkp tp gtp tl gtl lk glk ph gph c3 g3 tx2 gtx2 pg2 h1 gm) adS) 3 := ⟨_, rfl, id⟩
theorem pz_r4 : pz_row D cy H (pz_b11 cy h0 c1 g1 c2 g2 tx gtx pg dd gd kp gkp tp gtp tl gtl lk glk ph gph c3 g3 tx2 gtx2 pg2 ++ pz_b12 cy h1 gm) (pz_ad (pz_adl h0 c1 g1 c2 g2 tx gtx pg dd gd kp gkp tp gtp tl gtl lk glk ph gph c3 g3 tx2 gtx2 pg2 h1 gm) adS) 4 := ⟨_, rfl, id⟩
theorem pz_r5 : pz_row D cy H (pz_b11 cy h0 c1 g1 c2 g2 tx gtx pg dd gd kp gkp tp gtp tl gtl lk glk ph gph c3 g3 tx2 gtx2 pg2 ++ pz_b12 cy h1 gm) (pz_ad (pz_adl h0 c1 g1 c2 g2 tx gtx pg dd gd kp gkp tp gtp tl gtl lk glk ph gph c3 g3 tx2 gtx2 pg2 h1 gm) adS) 5 := ⟨_, rfl, id⟩
theorem pz_r6 : pz_row D cy H (pz_b11 cy h0 c1 g1 c2 g2 tx gtx pg dd gd kp gkp tp gtp tl gtl lk glk ph gph c3 g3 tx2 gtx2 pg2 ++ pz_b12 cy h1 gm) (pz_ad (pz_adl h0 c1 g1 c2 g2 tx gtx pg dd gd kp gkp tp gtp tl gtl lk glk ph gph c3 g3 tx2 gtx2 pg2 h1 gm) adS) 6 := ⟨_, rfl, id⟩
theorem pz_r7 : pz_row D cy H (pz_b11 cy h0 c1 g1 c2 g2 tx gtx pg dd gd kp gkp tp gtp tl gtl lk glk ph gph c3 g3 tx2 gtx2 pg2 ++ pz_b12 cy h1 gm) (pz_ad (pz_adl h0 c1 g1 c2 g2 tx gtx pg dd gd kp gkp tp gtp tl gtl lk glk ph gph c3 g3 tx2 gtx2 pg2 h1 gm) adS) 7 := ⟨_, rfl, id⟩
theorem pz_r8 : pz_row D cy H (pz_b11 cy h0 c1 g1 c2 g2 tx gtx pg dd gd kp gkp tp gtp tl gtl lk glk ph gph c3 g3 tx2 gtx2 pg2 ++ pz_b12 cy h1 gm) (pz_ad (pz_adl h0 c1 g1 c2 g2 tx gtx pg dd gd kp gkp tp gtp tl gtl lk glk ph gph c3 g3 tx2 gtx2 pg2 h1 gm) adS) 8 := ⟨_, rfl, id⟩
theorem pz_r9 : pz_row D cy H (pz_b11 cy h0 c1 g1 c2 g2 tx gtx pg dd gd kp gkp tp gtp tl gtl lk glk ph gph c3 g3 tx2 gtx2 pg2 ++ pz_b12 cy h1 gm) (pz_ad (pz_adl h0 c1 g1 c2 g2 tx gtx pg dd gd kp gkp tp gtp tl gtl lk glk ph gph c3 g3 tx2 gtx2 pg2 h1 gm) adS) 9 := ⟨_, rfl, id⟩
theorem pz_r10 : pz_row D cy H (pz_b11 cy h0 c1 g1 c2 g2 tx gtx pg dd gd kp gkp tp gtp tl gtl lk glk ph gph c3 g3 tx2 gtx2 pg2 ++ pz_b12 cy h1 gm) (pz_ad (pz_adl h0 c1 g1 c2 g2 tx gtx pg dd gd kp gkp tp gtp tl gtl lk glk ph gph c3 g3 tx2 gtx2 pg2 h1 gm) adS) 10 := ⟨_, rfl, id⟩
theorem pz_r11 : pz_row D cy H (pz_b11 cy h0 c1 g1 c2 g2 tx gtx pg dd gd kp gkp tp gtp tl gtl lk glk ph gph c3 g3 tx2 gtx2 pg2 ++ pz_b12 cy h1 gm) (pz_ad (pz_adl h0 c1 g1 c2 g2 tx gtx pg dd gd kp gkp tp gtp tl gtl lk glk ph gph c3 g3 tx2 gtx2 pg2 h1 gm) adS) 11 := ⟨_, rfl, id⟩
theorem pz_r12 : pz_row D cy H (pz_b11 cy h0 c1 g1 c2 g2 tx gtx pg dd gd kp gkp tp gtp tl gtl lk glk ph gph c3 g3 tx2 gtx2 pg2 ++ pz_b12 cy h1 gm) (pz_ad (pz_adl h0 c1 g1 c2 g2 tx gtx pg dd gd kp gkp tp gtp tl gtl lk glk ph gph c3 g3 tx2 gtx2 pg2 h1 gm) adS) 12 := ⟨_, rfl, id⟩
theorem pz_r13 : pz_row D cy H (pz_b11 cy h0 c1 g1 c2 g2 tx gtx pg dd gd kp gkp tp gtp tl gtl lk glk ph gph c3 g3 tx2 gtx2 pg2 ++ pz_b12 cy h1 gm) (pz_ad (pz_adl h0 c1 g1 c2 g2 tx gtx pg dd gd kp gkp tp gtp tl gtl lk glk ph gph c3 g3 tx2 gtx2 pg2 h1 gm) adS) 13 := ⟨_, rfl, id⟩
theorem pz_r14 : pz_row D cy H (pz_b11 cy h0 c1 g1 c2 g2 tx gtx pg dd gd kp gkp tp gtp tl gtl lk glk ph gph c3 g3 tx2 gtx2 pg2 ++ pz_b12 cy h1 gm) (pz_ad (pz_adl h0 c1 g1 c2 g2 tx gtx pg dd gd kp gkp tp gtp tl gtl lk glk ph gph c3 g3 tx2 gtx2 pg2 h1 gm) adS) 14 := ⟨_, rfl, id⟩
theorem pz_r15 : pz_row D cy H (pz_b11 cy h0 c1 g1 c2 g2 tx gtx pg dd gd kp gkp tp gtp tl gtl lk glk ph gph c3 g3 tx2 gtx2 pg2 ++ pz_b12 cy h1 gm) (pz_ad (pz_adl h0 c1 g1 c2 g2 tx gtx pg dd gd kp gkp tp gtp tl gtl lk glk ph gph c3 g3 tx2 gtx2 pg2 h1 gm) adS) 15 := ⟨_, rfl, id⟩
theorem pz_r16 : pz_row D cy H (pz_b11 cy h0 c1 g1 c2 g2 tx gtx pg dd gd kp gkp tp gtp tl gtl lk glk ph gph c3 g3 tx2 gtx2 pg2 ++ pz_b12 cy h1 gm) (pz_ad (pz_adl h0 c1 g1 c2 g2 tx gtx pg dd gd kp gkp tp gtp tl gtl lk glk ph gph c3 g3 tx2 gtx2 pg2 h1 gm) adS) 16 := ⟨_, rfl, id⟩
theorem pz_r17 : pz_row D cy H (pz_b11 cy h0 c1 g1 c2 g2 tx gtx pg dd gd kp gkp tp gtp tl gtl lk glk ph gph c3 g3 tx2 gtx2 pg2 ++ pz_b12 cy h1 gm) (pz_ad (pz_adl h0 c1 g1 c2 g2 tx gtx pg dd gd kp gkp tp gtp tl gtl lk glk ph gph c3 g3 tx2 gtx2 pg2 h1 gm) adS) 17 := ⟨_, rfl, id⟩
theorem pz_r18 : pz_row D cy H (pz_b11 cy h0 c1 g1 c2 g2 tx gtx pg dd gd kp gkp tp gtp tl gtl lk glk ph gph c3 g3 tx2 gtx2 pg2 ++ pz_b12 cy h1 gm) (pz_ad (pz_adl h0 c1 g1 c2 g2 tx gtx pg dd gd kp gkp tp gtp tl gtl lk glk ph gph c3 g3 tx2 gtx2 pg2 h1 gm) adS) 18 := ⟨_, rfl, id⟩
theorem pz_r19 : pz_row D cy H (pz_b11 cy h0 c1 g1 c2 g2 tx gtx pg dd gd kp gkp tp gtp tl gtl lk glk ph gph c3 g3 tx2 gtx2 pg2 ++ pz_b12 cy h1 gm) (pz_ad (pz_adl h0 c1 g1 c2 g2 tx gtx pg dd gd kp gkp tp gtp tl gtl lk glk ph gph c3 g3 tx2 gtx2 pg2 h1 gm) adS) 19 := ⟨_, rfl, id⟩
theorem pz_r20 : pz_row D cy H (pz_b11 cy h0 c1 g1 c2 g2 tx gtx pg dd gd kp gkp tp gtp tl gtl lk glk ph gph c3 g3 tx2 gtx2 pg2 ++ pz_b12 cy h1 gm) (pz_ad (pz_adl h0 c1 g1 c2 g2 tx gtx pg dd gd kp gkp tp gtp tl gtl lk glk ph gph c3 g3 tx2 gtx2 pg2 h1 gm) adS) 20 := ⟨_, rfl, id⟩
theorem pz_r21 : pz_row D cy H (pz_b11 cy h0 c1 g1 c2 g2 tx gtx pg dd gd kp gkp tp gtp tl gtl lk glk ph gph c3 g3 tx2 gtx2 pg2 ++ pz_b12 cy h1 gm) (pz_ad (pz_adl h0 c1 g1 c2 g2 tx gtx pg dd gd kp gkp tp gtp tl gtl lk glk ph gph c3 g3 tx2 gtx2 pg2 h1 gm) adS) 21 := ⟨_, rfl, id⟩
theorem pz_r22 : pz_row D cy H (pz_b11 cy h0 c1 g1 c2 g2 tx gtx pg dd gd kp gkp tp gtp tl gtl lk glk ph gph c3 g3 tx2 gtx2 pg2 ++ pz_b12 cy h1 gm) (pz_ad (pz_adl h0 c1 g1 c2 g2 tx gtx pg dd gd kp gkp tp gtp tl gtl lk glk ph gph c3 g3 tx2 gtx2 pg2 h1 gm) adS) 22 := ⟨_, rfl, id⟩
theorem pz_r23 : pz_row D cy H (pz_b11 cy h0 c1 g1 c2 g2 tx gtx pg dd gd kp gkp tp gtp tl gtl lk glk ph gph c3 g3 tx2 gtx2 pg2 ++ pz_b12 cy h1 gm) (pz_ad (pz_adl h0 c1 g1 c2 g2 tx gtx pg dd gd kp gkp tp gtp tl gtl lk glk ph gph c3 g3 tx2 gtx2 pg2 h1 gm) adS) 23 := ⟨_, rfl, id⟩
theorem pz_r24 : pz_row D cy H (pz_b11 cy h0 c1 g1 c2 g2 tx gtx pg dd gd kp gkp tp gtp tl gtl lk glk ph gph c3 g3 tx2 gtx2 pg2 ++ pz_b12 cy h1 gm) (pz_ad (pz_adl h0 c1 g1 c2 g2 tx gtx pg dd gd kp gkp tp gtp tl gtl lk glk ph gph c3 g3 tx2 gtx2 pg2 h1 gm) adS) 24 := ⟨_, rfl, id⟩
theorem pz_r25 : pz_row D cy H (pz_b11 cy h0 c1 g1 c2 g2 tx gtx pg dd gd kp gkp tp gtp tl gtl lk glk ph gph c3 g3 tx2 gtx2 pg2 ++ pz_b12 cy h1 gm) (pz_ad (pz_adl h0 c1 g1 c2 g2 tx gtx pg dd gd kp gkp tp gtp tl gtl lk glk ph gph c3 g3 tx2 gtx2 pg2 h1 gm) adS) 25 := ⟨_, rfl, id⟩
theorem pz_r26 : pz_row D cy H (pz_b11 cy h0 c1 g1 c2 g2 tx gtx pg dd gd kp gkp tp gtp tl gtl lk glk ph gph c3 g3 tx2 gtx2 pg2 ++ pz_b12 cy h1 gm) (pz_ad (pz_adl h0 c1 g1 c2 g2 tx gtx pg dd gd kp gkp tp gtp tl gtl lk glk ph gph c3 g3 tx2 gtx2 pg2 h1 gm) adS) 26 := ⟨_, rfl, id⟩
theorem pz_r27 : pz_row D cy H (pz_b11 cy h0 c1 g1 c2 g2 tx gtx pg dd gd kp gkp tp gtp tl gtl lk glk ph gph c3 g3 tx2 gtx2 pg2 ++ pz_b12 cy h1 gm) (pz_ad (pz_adl h0 c1 g1 c2 g2 tx gtx pg dd gd kp gkp tp gtp tl gtl lk glk ph gph c3 g3 tx2 gtx2 pg2 h1 gm) adS) 27 := ⟨_, rfl, id⟩
theorem pz_r28 : pz_row D cy H (pz_b11 cy h0 c1 g1 c2 g2 tx gtx pg dd gd kp gkp tp gtp tl gtl lk glk ph gph c3 g3 tx2 gtx2 pg2 ++ pz_b12 cy h1 gm) (pz_ad (pz_adl h0 c1 g1 c2 g2 tx gtx pg dd gd kp gkp tp gtp tl gtl lk glk ph gph c3 g3 tx2 gtx2 pg2 h1 gm) adS) 28 := ⟨_, rfl, id⟩
theorem pz_r29 : pz_row D cy H (pz_b11 cy h0 c1 g1 c2 g2 tx gtx pg dd gd kp gkp tp gtp tl gtl lk glk ph gph c3 g3 tx2 gtx2 pg2 ++ pz_b12 cy h1 gm) (pz_ad (pz_adl h0 c1 g1 c2 g2 tx gtx pg dd gd kp gkp tp gtp tl gtl lk glk ph gph c3 g3 tx2 gtx2 pg2 h1 gm) adS) 29 := ⟨_, rfl, id⟩
theorem pz_r30 : pz_row D cy H (pz_b11 cy h0 c1 g1 c2 g2 tx gtx pg dd gd kp gkp tp gtp tl gtl lk glk ph gph c3 g3 tx2 gtx2 pg2 ++ pz_b12 cy h1 gm) (pz_ad (pz_adl h0 c1 g1 c2 g2 tx gtx pg dd gd kp gkp tp gtp tl gtl lk glk ph gph c3 g3 tx2 gtx2 pg2 h1 gm) adS) 30 := ⟨_, rfl, id⟩
theorem pz_r31 : pz_row D cy H (pz_b11 cy h0 c1 g1 c2 g2 tx gtx pg dd gd kp gkp tp gtp tl gtl lk glk ph gph c3 g3 tx2 gtx2 pg2 ++ pz_b12 cy h1 gm) (pz_ad (pz_adl h0 c1 g1 c2 g2 tx gtx pg dd gd kp gkp tp gtp tl gtl lk glk ph gph c3 g3 tx2 gtx2 pg2 h1 gm) adS) 31 := ⟨_, rfl, id⟩
theorem pz_r32 : pz_row D cy H (pz_b11 cy h0 c1 g1 c2 g2 tx gtx pg dd gd kp gkp tp gtp tl gtl lk glk ph gph c3 g3 tx2 gtx2 pg2 ++ pz_b12 cy h1 gm) (pz_ad (pz_adl h0 c1 g1 c2 g2 tx gtx pg dd gd kp gkp tp gtp tl gtl lk glk ph gph c3 g3 tx2 gtx2 pg2 h1 gm) adS) 32 := ⟨_, rfl, id⟩
theorem pz_r33 : pz_row D cy H (pz_b11 cy h0 c1 g1 c2 g2 tx gtx pg dd gd kp gkp tp gtp tl gtl lk glk ph gph c3 g3 tx2 gtx2 pg2 ++ pz_b12 cy h1 gm) (pz_ad (pz_adl h0 c1 g1 c2 g2 tx gtx pg dd gd kp gkp tp gtp tl gtl lk glk ph gph c3 g3 tx2 gtx2 pg2 h1 gm) adS) 33 := ⟨_, rfl, id⟩
theorem pz_r34 : pz_row D cy H (pz_b11 cy h0 c1 g1 c2 g2 tx gtx pg dd gd kp gkp tp gtp tl gtl lk glk ph gph c3 g3 tx2 gtx2 pg2 ++ pz_b12 cy h1 gm) (pz_ad (pz_adl h0 c1 g1 c2 g2 tx gtx pg dd gd kp gkp tp gtp tl gtl lk glk ph gph c3 g3 tx2 gtx2 pg2 h1 gm) adS) 34 := ⟨_, rfl, id⟩
theorem pz_r35 : pz_row D cy H (pz_b11 cy h0 c1 g1 c2 g2 tx gtx pg dd gd kp gkp tp gtp tl gtl lk glk ph gph c3 g3 tx2 gtx2 pg2 ++ pz_b12 cy h1 gm) (pz_ad (pz_adl h0 c1 g1 c2 g2 tx gtx pg dd gd kp gkp tp gtp tl gtl lk glk ph gph c3 g3 tx2 gtx2 pg2 h1 gm) adS) 35 := ⟨_, rfl, id⟩
theorem pz_r36 : pz_row D cy H (pz_b11 cy h0 c1 g1 c2 g2 tx gtx pg dd gd kp gkp tp gtp tl gtl lk glk ph gph c3 g3 tx2 gtx2 pg2 ++ pz_b12 cy h1 gm) (pz_ad (pz_adl h0 c1 g1 c2 g2 tx gtx pg dd gd kp gkp tp gtp tl gtl lk glk ph gph c3 g3 tx2 gtx2 pg2 h1 gm) adS) 36 := ⟨_, rfl, id⟩
theorem pz_r37 : pz_row D cy H (pz_b11 cy h0 c1 g1 c2 g2 tx gtx pg dd gd kp gkp tp gtp tl gtl lk glk ph gph c3 g3 tx2 gtx2 pg2 ++ pz_b12 cy h1 gm) (pz_ad (pz_adl h0 c1 g1 c2 g2 tx gtx pg dd gd kp gkp tp gtp tl gtl lk glk ph gph c3 g3 tx2 gtx2 pg2 h1 gm) adS) 37 := ⟨_, rfl, id⟩
theorem pz_r38 : pz_row D cy H (pz_b11 cy h0 c1 g1 c2 g2 tx gtx pg dd gd kp gkp tp gtp tl gtl lk glk ph gph c3 g3 tx2 gtx2 pg2 ++ pz_b12 cy h1 gm) (pz_ad (pz_adl h0 c1 g1 c2 g2 tx gtx pg dd gd kp gkp tp gtp tl gtl lk glk ph gph c3 g3 tx2 gtx2 pg2 h1 gm) adS) 38 := ⟨_, rfl, id⟩
theorem pz_r39 : pz_row D cy H (pz_b11 cy h0 c1 g1 c2 g2 tx gtx pg dd gd kp gkp tp gtp tl gtl lk glk ph gph c3 g3 tx2 gtx2 pg2 ++ pz_b12 cy h1 gm) (pz_ad (pz_adl h0 c1 g1 c2 g2 tx gtx pg dd gd kp gkp tp gtp tl gtl lk glk ph gph c3 g3 tx2 gtx2 pg2 h1 gm) adS) 39 := ⟨_, rfl, id⟩
theorem pz_r40 : pz_row D cy H (pz_b11 cy h0 c1 g1 c2 g2 tx gtx pg dd gd kp gkp tp gtp tl gtl lk glk ph gph c3 g3 tx2 gtx2 pg2 ++ pz_b12 cy h1 gm) (pz_ad (pz_adl h0 c1 g1 c2 g2 tx gtx pg dd gd kp gkp tp gtp tl gtl lk glk ph gph c3 g3 tx2 gtx2 pg2 h1 gm) adS) 40 := ⟨_, rfl, id⟩
theorem pz_r41 : pz_row D cy H (pz_b11 cy h0 c1 g1 c2 g2 tx gtx pg dd gd kp gkp tp gtp tl gtl lk glk ph gph c3 g3 tx2 gtx2 pg2 ++ pz_b12 cy h1 gm) (pz_ad (pz_adl h0 c1 g1 c2 g2 tx gtx pg dd gd kp gkp tp gtp tl gtl lk glk ph gph c3 g3 tx2 gtx2 pg2 h1 gm) adS) 41 := ⟨_, rfl, id⟩
theorem pz_r42 : pz_row D cy H (pz_b11 cy h0 c1 g1 c2 g2 tx gtx pg dd gd kp gkp tp gtp tl gtl lk glk ph gph c3 g3 tx2 gtx2 pg2 ++ pz_b12 cy h1 gm) (pz_ad (pz_adl h0 c1 g1 c2 g2 tx gtx pg dd gd kp gkp tp gtp tl gtl lk glk ph gph c3 g3 tx2 gtx2 pg2 h1 gm) adS) 42 := ⟨_, rfl, id⟩
theorem pz_r43 : pz_row D cy H (pz_b11 cy h0 c1 g1 c2 g2 tx gtx pg dd gd kp gkp tp gtp tl gtl lk glk ph gph c3 g3 tx2 gtx2 pg2 ++ pz_b12 cy h1 gm) (pz_ad (pz_adl h0 c1 g1 c2 g2 tx gtx pg dd gd kp gkp tp gtp tl gtl lk glk ph gph c3 g3 tx2 gtx2 pg2 h1 gm) adS) 43 := ⟨_, rfl, id⟩
theorem pz_r44 : pz_row D cy H (pz_b11 cy h0 c1 g1 c2 g2 tx gtx pg dd gd kp gkp tp gtp tl gtl lk glk ph gph c3 g3 tx2 gtx2 pg2 ++ pz_b12 cy h1 gm) (pz_ad (pz_adl h0 c1 g1 c2 g2 tx gtx pg dd gd kp gkp tp gtp tl gtl lk glk ph gph c3 g3 tx2 gtx2 pg2 h1 gm) adS) 44 := ⟨_, rfl, id⟩
theorem pz_r45 : pz_row D cy H (pz_b11 cy h0 c1 g1 c2 g2 tx gtx pg dd gd kp gkp tp gtp tl gtl lk glk ph gph c3 g3 tx2 gtx2 pg2 ++ pz_b12 cy h1 gm) (pz_ad (pz_adl h0 c1 g1 c2 g2 tx gtx pg dd gd kp gkp tp gtp tl gtl lk glk ph gph c3 g3 tx2 gtx2 pg2 h1 gm) adS) 45 := ⟨_, rfl, id⟩
theorem pz_r46 : pz_row D cy H (pz_b11 cy h0 c1 g1 c2 g2 tx gtx pg dd gd kp gkp tp gtp tl gtl lk glk ph gph c3 g3 tx2 gtx2 pg2 ++ pz_b12 cy h1 gm) (pz_ad (pz_adl h0 c1 g1 c2 g2 tx gtx pg dd gd kp gkp tp gtp tl gtl lk glk ph gph c3 g3 tx2 gtx2 pg2 h1 gm) adS) 46 := ⟨_, rfl, id⟩
theorem pz_r47 : pz_row D cy H (pz_b11 cy h0 c1 g1 c2 g2 tx gtx pg dd gd kp gkp tp gtp tl gtl lk glk ph gph c3 g3 tx2 gtx2 pg2 ++ pz_b12 cy h1 gm) (pz_ad (pz_adl h0 c1 g1 c2 g2 tx gtx pg dd gd kp gkp tp gtp tl gtl lk glk ph gph c3 g3 tx2 gtx2 pg2 h1 gm) adS) 47 := ⟨_, rfl, fun h => pz_atq (fun j hj => match j, hj with | 0, _ => rfl | 1, _ => rfl | 2, _ => rfl | 3, _ => rfl | 4, _ => rfl | 5, _ => rfl | n + 6, h => absurd h (by omega)) h⟩
theorem pz_r48 : pz_row D cy H (pz_b11 cy h0 c1 g1 c2 g2 tx gtx pg dd gd kp gkp tp gtp tl gtl lk glk ph gph c3 g3 tx2 gtx2 pg2 ++ pz_b12 cy h1 gm) (pz_ad (pz_adl h0 c1 g1 c2 g2 tx gtx pg dd gd kp gkp tp gtp tl gtl lk glk ph gph c3 g3 tx2 gtx2 pg2 h1 gm) adS) 48 := ⟨_, rfl, id⟩
theorem pz_r49 : pz_row D cy H (pz_b11 cy h0 c1 g1 c2 g2 tx gtx pg dd gd kp gkp tp gtp tl gtl lk glk ph gph c3 g3 tx2 gtx2 pg2 ++ pz_b12 cy h1 gm) (pz_ad (pz_adl h0 c1 g1 c2 g2 tx gtx pg dd gd kp gkp tp gtp tl gtl lk glk ph gph c3 g3 tx2 gtx2 pg2 h1 gm) adS) 49 := ⟨_, rfl, id⟩
theorem pz_r50 : pz_row D cy H (pz_b11 cy h0 c1 g1 c2 g2 tx gtx pg dd gd kp gkp tp gtp tl gtl lk glk ph gph c3 g3 tx2 gtx2 pg2 ++ pz_b12 cy h1 gm) (pz_ad (pz_adl h0 c1 g1 c2 g2 tx gtx pg dd gd kp gkp tp gtp tl gtl lk glk ph gph c3 g3 tx2 gtx2 pg2 h1 gm) adS) 50 := ⟨_, rfl, id⟩
theorem pz_r51 : pz_row D cy H (pz_b11 cy h0 c1 g1 c2 g2 tx gtx pg dd gd kp gkp tp gtp tl gtl lk glk ph gph c3 g3 tx2 gtx2 pg2 ++ pz_b12 cy h1 gm) (pz_ad (pz_adl h0 c1 g1 c2 g2 tx gtx pg dd gd kp gkp tp gtp tl gtl lk glk ph gph c3 g3 tx2 gtx2 pg2 h1 gm) adS) 51 := ⟨_, rfl, id⟩
theorem pz_r52 : pz_row D cy H (pz_b11 cy h0 c1 g1 c2 g2 tx gtx pg dd gd kp gkp tp gtp tl gtl lk glk ph gph c3 g3 tx2 gtx2 pg2 ++ pz_b12 cy h1 gm) (pz_ad (pz_adl h0 c1 g1 c2 g2 tx gtx pg dd gd kp gkp tp gtp tl gtl lk glk ph gph c3 g3 tx2 gtx2 pg2 h1 gm) adS) 52 := ⟨_, rfl, id⟩
theorem pz_r53 : pz_row D cy H (pz_b11 cy h0 c1 g1 c2 g2 tx gtx pg dd gd kp gkp tp gtp tl gtl lk glk ph gph c3 g3 tx2 gtx2 pg2 ++ pz_b12 cy h1 gm) (pz_ad (pz_adl h0 c1 g1 c2 g2 tx gtx pg dd gd kp gkp tp gtp tl gtl lk glk ph gph c3 g3 tx2 gtx2 pg2 h1 gm) adS) 53 := ⟨_, rfl, id⟩
theorem pz_r54 : pz_row D cy H (pz_b11 cy h0 c1 g1 c2 g2 tx gtx pg dd gd kp gkp tp gtp tl gtl lk glk ph gph c3 g3 tx2 gtx2 pg2 ++ pz_b12 cy h1 gm) (pz_ad (pz_adl h0 c1 g1 c2 g2 tx gtx pg dd gd kp gkp tp gtp tl gtl lk glk ph gph c3 g3 tx2 gtx2 pg2 h1 gm) adS) 54 := ⟨_, rfl, id⟩
theorem pz_r55 : pz_row D cy H (pz_b11 cy h0 c1 g1 c2 g2 tx gtx pg dd gd kp gkp tp gtp tl gtl lk glk ph gph c3 g3 tx2 gtx2 pg2 ++ pz_b12 cy h1 gm) (pz_ad (pz_adl h0 c1 g1 c2 g2 tx gtx pg dd gd kp gkp tp gtp tl gtl lk glk ph gph c3 g3 tx2 gtx2 pg2 h1 gm) adS) 55 := ⟨_, rfl, id⟩
theorem pz_r56 : pz_row D cy H (pz_b11 cy h0 c1 g1 c2 g2 tx gtx pg dd gd kp gkp tp gtp tl gtl lk glk ph gph c3 g3 tx2 gtx2 pg2 ++ pz_b12 cy h1 gm) (pz_ad (pz_adl h0 c1 g1 c2 g2 tx gtx pg dd gd kp gkp tp gtp tl gtl lk glk ph gph c3 g3 tx2 gtx2 pg2 h1 gm) adS) 56 := ⟨_, rfl, id⟩
theorem pz_r57 : pz_row D cy H (pz_b11 cy h0 c1 g1 c2 g2 tx gtx pg dd gd kp gkp tp gtp tl gtl lk glk ph gph c3 g3 tx2 gtx2 pg2 ++ pz_b12 cy h1 gm) (pz_ad (pz_adl h0 c1 g1 c2 g2 tx gtx pg dd gd kp gkp tp gtp tl gtl lk glk ph gph c3 g3 tx2 gtx2 pg2 h1 gm) adS) 57 := ⟨_, rfl, id⟩
theorem pz_r58 : pz_row D cy H (pz_b11 cy h0 c1 g1 c2 g2 tx gtx pg dd gd kp gkp tp gtp tl gtl lk glk ph gph c3 g3 tx2 gtx2 pg2 ++ pz_b12 cy h1 gm) (pz_ad (pz_adl h0 c1 g1 c2 g2 tx gtx pg dd gd kp gkp tp gtp tl gtl lk glk ph gph c3 g3 tx2 gtx2 pg2 h1 gm) adS) 58 := ⟨_, rfl, id⟩
theorem pz_r59 : pz_row D cy H (pz_b11 cy h0 c1 g1 c2 g2 tx gtx pg dd gd kp gkp tp gtp tl gtl lk glk ph gph c3 g3 tx2 gtx2 pg2 ++ pz_b12 cy h1 gm) (pz_ad (pz_adl h0 c1 g1 c2 g2 tx gtx pg dd gd kp gkp tp gtp tl gtl lk glk ph gph c3 g3 tx2 gtx2 pg2 h1 gm) adS) 59 := ⟨_, rfl, id⟩
theorem pz_r60 : pz_row D cy H (pz_b11 cy h0 c1 g1 c2 g2 tx gtx pg dd gd kp gkp tp gtp tl gtl lk glk ph gph c3 g3 tx2 gtx2 pg2 ++ pz_b12 cy h1 gm) (pz_ad (pz_adl h0 c1 g1 c2 g2 tx gtx pg dd gd kp gkp tp gtp tl gtl lk glk ph gph c3 g3 tx2 gtx2 pg2 h1 gm) adS) 60 := ⟨_, rfl, id⟩
theorem pz_r61 : pz_row D cy H (pz_b11 cy h0 c1 g1 c2 g2 tx gtx pg dd gd kp gkp tp gtp tl gtl lk glk ph gph c3 g3 tx2 gtx2 pg2 ++ pz_b12 cy h1 gm) (pz_ad (pz_adl h0 c1 g1 c2 g2 tx gtx pg dd gd kp gkp tp gtp tl gtl lk glk ph gph c3 g3 tx2 gtx2 pg2 h1 gm) adS) 61 := ⟨_, rfl, id⟩
theorem pz_r62 : pz_row D cy H (pz_b11 cy h0 c1 g1 c2 g2 tx gtx pg dd gd kp gkp tp gtp tl gtl lk glk ph gph c3 g3 tx2 gtx2 pg2 ++ pz_b12 cy h1 gm) (pz_ad (pz_adl h0 c1 g1 c2 g2 tx gtx pg dd gd kp gkp tp gtp tl gtl lk glk ph gph c3 g3 tx2 gtx2 pg2 h1 gm) adS) 62 := ⟨_, rfl, id⟩
theorem pz_r63 : pz_row D cy H (pz_b11 cy h0 c1 g1 c2 g2 tx gtx pg dd gd kp gkp tp gtp tl gtl lk glk ph gph c3 g3 tx2 gtx2 pg2 ++ pz_b12 cy h1 gm) (pz_ad (pz_adl h0 c1 g1 c2 g2 tx gtx pg dd gd kp gkp tp gtp tl gtl lk glk ph gph c3 g3 tx2 gtx2 pg2 h1 gm) adS) 63 := ⟨_, rfl, id⟩
theorem pz_r64 : pz_row D cy H (pz_b11 cy h0 c1 g1 c2 g2 tx gtx pg dd gd kp gkp tp gtp tl gtl lk glk ph gph c3 g3 tx2 gtx2 pg2 ++ pz_b12 cy h1 gm) (pz_ad (pz_adl h0 c1 g1 c2 g2 tx gtx pg dd gd kp gkp tp gtp tl gtl lk glk ph gph c3 g3 tx2 gtx2 pg2 h1 gm) adS) 64 := ⟨_, rfl, id⟩
theorem pz_r65 : pz_row D cy H (pz_b11 cy h0 c1 g1 c2 g2 tx gtx pg dd gd kp gkp tp gtp tl gtl lk glk ph gph c3 g3 tx2 gtx2 pg2 ++ pz_b12 cy h1 gm) (pz_ad (pz_adl h0 c1 g1 c2 g2 tx gtx pg dd gd kp gkp tp gtp tl gtl lk glk ph gph c3 g3 tx2 gtx2 pg2 h1 gm) adS) 65 := ⟨_, rfl, id⟩
theorem pz_r66 : pz_row D cy H (pz_b11 cy h0 c1 g1 c2 g2 tx gtx pg dd gd kp gkp tp gtp tl gtl lk glk ph gph c3 g3 tx2 gtx2 pg2 ++ pz_b12 cy h1 gm) (pz_ad (pz_adl h0 c1 g1 c2 g2 tx gtx pg dd gd kp gkp tp gtp tl gtl lk glk ph gph c3 g3 tx2 gtx2 pg2 h1 gm) adS) 66 := ⟨_, rfl, id⟩
theorem pz_r67 : pz_row D cy H (pz_b11 cy h0 c1 g1 c2 g2 tx gtx pg dd gd kp gkp tp gtp tl gtl lk glk ph gph c3 g3 tx2 gtx2 pg2 ++ pz_b12 cy h1 gm) (pz_ad (pz_adl h0 c1 g1 c2 g2 tx gtx pg dd gd kp gkp tp gtp tl gtl lk glk ph gph c3 g3 tx2 gtx2 pg2 h1 gm) adS) 67 := ⟨_, rfl, id⟩
theorem pz_r68 : pz_row D cy H (pz_b11 cy h0 c1 g1 c2 g2 tx gtx pg dd gd kp gkp tp gtp tl gtl lk glk ph gph c3 g3 tx2 gtx2 pg2 ++ pz_b12 cy h1 gm) (pz_ad (pz_adl h0 c1 g1 c2 g2 tx gtx pg dd gd kp gkp tp gtp tl gtl lk glk ph gph c3 g3 tx2 gtx2 pg2 h1 gm) adS) 68 := ⟨_, rfl, id⟩
theorem pz_r69 : pz_row D cy H (pz_b11 cy h0 c1 g1 c2 g2 tx gtx pg dd gd kp gkp tp gtp tl gtl lk glk ph gph c3 g3 tx2 gtx2 pg2 ++ pz_b12 cy h1 gm) (pz_ad (pz_adl h0 c1 g1 c2 g2 tx gtx pg dd gd kp gkp tp gtp tl gtl lk glk ph gph c3 g3 tx2 gtx2 pg2 h1 gm) adS) 69 := ⟨_, rfl, id⟩
theorem pz_r70 : pz_row D cy H (pz_b11 cy h0 c1 g1 c2 g2 tx gtx pg dd gd kp gkp tp gtp tl gtl lk glk ph gph c3 g3 tx2 gtx2 pg2 ++ pz_b12 cy h1 gm) (pz_ad (pz_adl h0 c1 g1 c2 g2 tx gtx pg dd gd kp gkp tp gtp tl gtl lk glk ph gph c3 g3 tx2 gtx2 pg2 h1 gm) adS) 70 := ⟨_, rfl, id⟩
theorem pz_r71 : pz_row D cy H (pz_b11 cy h0 c1 g1 c2 g2 tx gtx pg dd gd kp gkp tp gtp tl gtl lk glk ph gph c3 g3 tx2 gtx2 pg2 ++ pz_b12 cy h1 gm) (pz_ad (pz_adl h0 c1 g1 c2 g2 tx gtx pg dd gd kp gkp tp gtp tl gtl lk glk ph gph c3 g3 tx2 gtx2 pg2 h1 gm) adS) 71 := ⟨_, rfl, id⟩
theorem pz_r72 : pz_row D cy H (pz_b11 cy h0 c1 g1 c2 g2 tx gtx pg dd gd kp gkp tp gtp tl gtl lk glk ph gph c3 g3 tx2 gtx2 pg2 ++ pz_b12 cy h1 gm) (pz_ad (pz_adl h0 c1 g1 c2 g2 tx gtx pg dd gd kp gkp tp gtp tl gtl lk glk ph gph c3 g3 tx2 gtx2 pg2 h1 gm) adS) 72 := ⟨_, rfl, id⟩
theorem pz_r73 : pz_row D cy H (pz_b11 cy h0 c1 g1 c2 g2 tx gtx pg dd gd kp gkp tp gtp tl gtl lk glk ph gph c3 g3 tx2 gtx2 pg2 ++ pz_b12 cy h1 gm) (pz_ad (pz_adl h0 c1 g1 c2 g2 tx gtx pg dd gd kp gkp tp gtp tl gtl lk glk ph gph c3 g3 tx2 gtx2 pg2 h1 gm) adS) 73 := ⟨_, rfl, id⟩
theorem pz_r74 : pz_row D cy H (pz_b11 cy h0 c1 g1 c2 g2 tx gtx pg dd gd kp gkp tp gtp tl gtl lk glk ph gph c3 g3 tx2 gtx2 pg2 ++ pz_b12 cy h1 gm) (pz_ad (pz_adl h0 c1 g1 c2 g2 tx gtx pg dd gd kp gkp tp gtp tl gtl lk glk ph gph c3 g3 tx2 gtx2 pg2 h1 gm) adS) 74 := ⟨_, rfl, id⟩
theorem pz_r75 : pz_row D cy H (pz_b11 cy h0 c1 g1 c2 g2 tx gtx pg dd gd kp gkp tp gtp tl gtl lk glk ph gph c3 g3 tx2 gtx2 pg2 ++ pz_b12 cy h1 gm) (pz_ad (pz_adl h0 c1 g1 c2 g2 tx gtx pg dd gd kp gkp tp gtp tl gtl lk glk ph gph c3 g3 tx2 gtx2 pg2 h1 gm) adS) 75 := ⟨_, rfl, id⟩
theorem pz_r76 : pz_row D cy H (pz_b11 cy h0 c1 g1 c2 g2 tx gtx pg dd gd kp gkp tp gtp tl gtl lk glk ph gph c3 g3 tx2 gtx2 pg2 ++ pz_b12 cy h1 gm) (pz_ad (pz_adl h0 c1 g1 c2 g2 tx gtx pg dd gd kp gkp tp gtp tl gtl lk glk ph gph c3 g3 tx2 gtx2 pg2 h1 gm) adS) 76 := ⟨_, rfl, id⟩
theorem pz_r77 : pz_row D cy H (pz_b11 cy h0 c1 g1 c2 g2 tx gtx pg dd gd kp gkp tp gtp tl gtl lk glk ph gph c3 g3 tx2 gtx2 pg2 ++ pz_b12 cy h1 gm) (pz_ad (pz_adl h0 c1 g1 c2 g2 tx gtx pg dd gd kp gkp tp gtp tl gtl lk glk ph gph c3 g3 tx2 gtx2 pg2 h1 gm) adS) 77 := ⟨_, rfl, id⟩
theorem pz_r78 : pz_row D cy H (pz_b11 cy h0 c1 g1 c2 g2 tx gtx pg dd gd kp gkp tp gtp tl gtl lk glk ph gph c3 g3 tx2 gtx2 pg2 ++ pz_b12 cy h1 gm) (pz_ad (pz_adl h0 c1 g1 c2 g2 tx gtx pg dd gd kp gkp tp gtp tl gtl lk glk ph gph c3 g3 tx2 gtx2 pg2 h1 gm) adS) 78 := ⟨_, rfl, id⟩
theorem pz_r79 : pz_row D cy H (pz_b11 cy h0 c1 g1 c2 g2 tx gtx pg dd gd kp gkp tp gtp tl gtl lk glk ph gph c3 g3 tx2 gtx2 pg2 ++ pz_b12 cy h1 gm) (pz_ad (pz_adl h0 c1 g1 c2 g2 tx gtx pg dd gd kp gkp tp gtp tl gtl lk glk ph gph c3 g3 tx2 gtx2 pg2 h1 gm) adS) 79 := ⟨_, rfl, id⟩
theorem pz_r80 : pz_row D cy H (pz_b11 cy h0 c1 g1 c2 g2 tx gtx pg dd gd kp gkp tp gtp tl gtl lk glk ph gph c3 g3 tx2 gtx2 pg2 ++ pz_b12 cy h1 gm) (pz_ad (pz_adl h0 c1 g1 c2 g2 tx gtx pg dd gd kp gkp tp gtp tl gtl lk glk ph gph c3 g3 tx2 gtx2 pg2 h1 gm) adS) 80 := ⟨_, rfl, fun h => pz_atq (fun j hj => match j, hj with | 0, _ => rfl | 1, _ => rfl | 2, _ => rfl | 3, _ => rfl | 4, _ => rfl | 5, _ => rfl | 6, _ => rfl | 7, _ => rfl | 8, _ => rfl | 9, _ => rfl | 10, _ => rfl | 11, _ => rfl | n + 12, h => absurd h (by omega)) h⟩
theorem pz_r81 : pz_row D cy H (pz_b11 cy h0 c1 g1 c2 g2 tx gtx pg dd gd kp gkp tp gtp tl gtl lk glk ph gph c3 g3 tx2 gtx2 pg2 ++ pz_b12 cy h1 gm) (pz_ad (pz_adl h0 c1 g1 c2 g2 tx gtx pg dd gd kp gkp tp gtp tl gtl lk glk ph gph c3 g3 tx2 gtx2 pg2 h1 gm) adS) 81 := ⟨_, rfl, fun h => pz_atq (fun j hj => match j, hj with | 0, _ => rfl | 1, _ => rfl | 2, _ => rfl | 3, _ => rfl | 4, _ => rfl | 5, _ => rfl | 6, _ => rfl | 7, _ => rfl | 8, _ => rfl | 9, _ => rfl | 10, _ => rfl | 11, _ => rfl | n + 12, h => absurd h (by omega)) h⟩
theorem pz_r82 : pz_row D cy H (pz_b11 cy h0 c1 g1 c2 g2 tx gtx pg dd gd kp gkp tp gtp tl gtl lk glk ph gph c3 g3 tx2 gtx2 pg2 ++ pz_b12 cy h1 gm) (pz_ad (pz_adl h0 c1 g1 c2 g2 tx gtx pg dd gd kp gkp tp gtp tl gtl lk glk ph gph c3 g3 tx2 gtx2 pg2 h1 gm) adS) 82 := ⟨_, rfl, fun h => pz_atq (fun j hj => match j, hj with | 0, _ => rfl | 1, _ => rfl | 2, _ => rfl | 3, _ => rfl | 4, _ => rfl | 5, _ => rfl | 6, _ => rfl | 7, _ => rfl | 8, _ => rfl | 9, _ => rfl | 10, _ => rfl | 11, _ => rfl | n + 12, h => absurd h (by omega)) h⟩
theorem pz_r83 : pz_row D cy H (pz_b11 cy h0 c1 g1 c2 g2 tx gtx pg dd gd kp gkp tp gtp tl gtl lk glk ph gph c3 g3 tx2 gtx2 pg2 ++ pz_b12 cy h1 gm) (pz_ad (pz_adl h0 c1 g1 c2 g2 tx gtx pg dd gd kp gkp tp gtp tl gtl lk glk ph gph c3 g3 tx2 gtx2 pg2 h1 gm) adS) 83 := ⟨_, rfl, fun h => pz_atq (fun j hj => match j, hj with | 0, _ => rfl | 1, _ => rfl | 2, _ => rfl | 3, _ => rfl | 4, _ => rfl | 5, _ => rfl | 6, _ => rfl | 7, _ => rfl | 8, _ => rfl | 9, _ => rfl | 10, _ => rfl | 11, _ => rfl | n + 12, h => absurd h (by omega)) h⟩
theorem pz_r84 : pz_row D cy H (pz_b11 cy h0 c1 g1 c2 g2 tx gtx pg dd gd kp gkp tp gtp tl gtl lk glk ph gph c3 g3 tx2 gtx2 pg2 ++ pz_b12 cy h1 gm) (pz_ad (pz_adl h0 c1 g1 c2 g2 tx gtx pg dd gd kp gkp tp gtp tl gtl lk glk ph gph c3 g3 tx2 gtx2 pg2 h1 gm) adS) 84 := ⟨_, rfl, fun h => pz_atq (fun j hj => match j, hj with | 0, _ => rfl | 1, _ => rfl | 2, _ => rfl | 3, _ => rfl | 4, _ => rfl | 5, _ => rfl | 6, _ => rfl | 7, _ => rfl | 8, _ => rfl | 9, _ => rfl | 10, _ => rfl | 11, _ => rfl | n + 12, h => absurd h (by omega)) h⟩
theorem pz_r85 : pz_row D cy H (pz_b11 cy h0 c1 g1 c2 g2 tx gtx pg dd gd kp gkp tp gtp tl gtl lk glk ph gph c3 g3 tx2 gtx2 pg2 ++ pz_b12 cy h1 gm) (pz_ad (pz_adl h0 c1 g1 c2 g2 tx gtx pg dd gd kp gkp tp gtp tl gtl lk glk ph gph c3 g3 tx2 gtx2 pg2 h1 gm) adS) 85 := ⟨_, rfl, fun h => pz_atq (fun j hj => match j, hj with | 0, _ => rfl | 1, _ => rfl | 2, _ => rfl | 3, _ => rfl | 4, _ => rfl | 5, _ => rfl | 6, _ => rfl | 7, _ => rfl | 8, _ => rfl | 9, _ => rfl | 10, _ => rfl | 11, _ => rfl | n + 12, h => absurd h (by omega)) h⟩
theorem pz_r86 : pz_row D cy H (pz_b11 cy h0 c1 g1 c2 g2 tx gtx pg dd gd kp gkp tp gtp tl gtl lk glk ph gph c3 g3 tx2 gtx2 pg2 ++ pz_b12 cy h1 gm) (pz_ad (pz_adl h0 c1 g1 c2 g2 tx gtx pg dd gd kp gkp tp gtp tl gtl lk glk ph gph c3 g3 tx2 gtx2 pg2 h1 gm) adS) 86 := ⟨_, rfl, fun h => pz_atq (fun j hj => match j, hj with | 0, _ => rfl | 1, _ => rfl | 2, _ => rfl | 3, _ => rfl | 4, _ => rfl | 5, _ => rfl | 6, _ => rfl | 7, _ => rfl | 8, _ => rfl | 9, _ => rfl | 10, _ => rfl | 11, _ => rfl | n + 12, h => absurd h (by omega)) h⟩
theorem pz_r87 : pz_row D cy H (pz_b11 cy h0 c1 g1 c2 g2 tx gtx pg dd gd kp gkp tp gtp tl gtl lk glk ph gph c3 g3 tx2 gtx2 pg2 ++ pz_b12 cy h1 gm) (pz_ad (pz_adl h0 c1 g1 c2 g2 tx gtx pg dd gd kp gkp tp gtp tl gtl lk glk ph gph c3 g3 tx2 gtx2 pg2 h1 gm) adS) 87 := ⟨_, rfl, fun h => pz_atq (fun j hj => match j, hj with | 0, _ => rfl | 1, _ => rfl | 2, _ => rfl | 3, _ => rfl | 4, _ => rfl | 5, _ => rfl | 6, _ => rfl | 7, _ => rfl | 8, _ => rfl | 9, _ => rfl | 10, _ => rfl | 11, _ => rfl | n + 12, h => absurd h (by omega)) h⟩
theorem pz_r88 : pz_row D cy H (pz_b11 cy h0 c1 g1 c2 g2 tx gtx pg dd gd kp gkp tp gtp tl gtl lk glk ph gph c3 g3 tx2 gtx2 pg2 ++ pz_b12 cy h1 gm) (pz_ad (pz_adl h0 c1 g1 c2 g2 tx gtx pg dd gd kp gkp tp gtp tl gtl lk glk ph gph c3 g3 tx2 gtx2 pg2 h1 gm) adS) 88 := ⟨_, rfl, fun h => pz_atq (fun j hj => match j, hj with | 0, _ => rfl | 1, _ => rfl | 2, _ => rfl | 3, _ => rfl | 4, _ => rfl | 5, _ => rfl | 6, _ => rfl | 7, _ => rfl | 8, _ => rfl | 9, _ => rfl | 10, _ => rfl | 11, _ => rfl | n + 12, h => absurd h (by omega)) h⟩
theorem pz_r89 : pz_row D cy H (pz_b11 cy h0 c1 g1 c2 g2 tx gtx pg dd gd kp gkp tp gtp tl gtl lk glk ph gph c3 g3 tx2 gtx2 pg2 ++ pz_b12 cy h1 gm) (pz_ad (pz_adl h0 c1 g1 c2 g2 tx gtx pg dd gd kp gkp tp gtp tl gtl lk glk ph gph c3 g3 tx2 gtx2 pg2 h1 gm) adS) 89 := ⟨_, rfl, id⟩
theorem pz_r90 : pz_row D cy H (pz_b11 cy h0 c1 g1 c2 g2 tx gtx pg dd gd kp gkp tp gtp tl gtl lk glk ph gph c3 g3 tx2 gtx2 pg2 ++ pz_b12 cy h1 gm) (pz_ad (pz_adl h0 c1 g1 c2 g2 tx gtx pg dd gd kp gkp tp gtp tl gtl lk glk ph gph c3 g3 tx2 gtx2 pg2 h1 gm) adS) 90 := ⟨_, rfl, id⟩
theorem pz_r91 : pz_row D cy H (pz_b11 cy h0 c1 g1 c2 g2 tx gtx pg dd gd kp gkp tp gtp tl gtl lk glk ph gph c3 g3 tx2 gtx2 pg2 ++ pz_b12 cy h1 gm) (pz_ad (pz_adl h0 c1 g1 c2 g2 tx gtx pg dd gd kp gkp tp gtp tl gtl lk glk ph gph c3 g3 tx2 gtx2 pg2 h1 gm) adS) 91 := ⟨_, rfl, id⟩
theorem pz_r92 : pz_row D cy H (pz_b11 cy h0 c1 g1 c2 g2 tx gtx pg dd gd kp gkp tp gtp tl gtl lk glk ph gph c3 g3 tx2 gtx2 pg2 ++ pz_b12 cy h1 gm) (pz_ad (pz_adl h0 c1 g1 c2 g2 tx gtx pg dd gd kp gkp tp gtp tl gtl lk glk ph gph c3 g3 tx2 gtx2 pg2 h1 gm) adS) 92 := ⟨_, rfl, id⟩
theorem pz_r93 : pz_row D cy H (pz_b11 cy h0 c1 g1 c2 g2 tx gtx pg dd gd kp gkp tp gtp tl gtl lk glk ph gph c3 g3 tx2 gtx2 pg2 ++ pz_b12 cy h1 gm) (pz_ad (pz_adl h0 c1 g1 c2 g2 tx gtx pg dd gd kp gkp tp gtp tl gtl lk glk ph gph c3 g3 tx2 gtx2 pg2 h1 gm) adS) 93 := ⟨_, rfl, id⟩
theorem pz_r94 : pz_row D cy H (pz_b11 cy h0 c1 g1 c2 g2 tx gtx pg dd gd kp gkp tp gtp tl gtl lk glk ph gph c3 g3 tx2 gtx2 pg2 ++ pz_b12 cy h1 gm) (pz_ad (pz_adl h0 c1 g1 c2 g2 tx gtx pg dd gd kp gkp tp gtp tl gtl lk glk ph gph c3 g3 tx2 gtx2 pg2 h1 gm) adS) 94 := ⟨_, rfl, id⟩
theorem pz_r95 : pz_row D cy H (pz_b11 cy h0 c1 g1 c2 g2 tx gtx pg dd gd kp gkp tp gtp tl gtl lk glk ph gph c3 g3 tx2 gtx2 pg2 ++ pz_b12 cy h1 gm) (pz_ad (pz_adl h0 c1 g1 c2 g2 tx gtx pg dd gd kp gkp tp gtp tl gtl lk glk ph gph c3 g3 tx2 gtx2 pg2 h1 gm) adS) 95 := ⟨_, rfl, id⟩
theorem pz_r96 : pz_row D cy H (pz_b11 cy h0 c1 g1 c2 g2 tx gtx pg dd gd kp gkp tp gtp tl gtl lk glk ph gph c3 g3 tx2 gtx2 pg2 ++ pz_b12 cy h1 gm) (pz_ad (pz_adl h0 c1 g1 c2 g2 tx gtx pg dd gd kp gkp tp gtp tl gtl lk glk ph gph c3 g3 tx2 gtx2 pg2 h1 gm) adS) 96 := ⟨_, rfl, id⟩
theorem pz_r97 : pz_row D cy H (pz_b11 cy h0 c1 g1 c2 g2 tx gtx pg dd gd kp gkp tp gtp tl gtl lk glk ph gph c3 g3 tx2 gtx2 pg2 ++ pz_b12 cy h1 gm) (pz_ad (pz_adl h0 c1 g1 c2 g2 tx gtx pg dd gd kp gkp tp gtp tl gtl lk glk ph gph c3 g3 tx2 gtx2 pg2 h1 gm) adS) 97 := ⟨_, rfl, id⟩
theorem pz_r98 : pz_row D cy H (pz_b11 cy h0 c1 g1 c2 g2 tx gtx pg dd gd kp gkp tp gtp tl gtl lk glk ph gph c3 g3 tx2 gtx2 pg2 ++ pz_b12 cy h1 gm) (pz_ad (pz_adl h0 c1 g1 c2 g2 tx gtx pg dd gd kp gkp tp gtp tl gtl lk glk ph gph c3 g3 tx2 gtx2 pg2 h1 gm) adS) 98 := ⟨_, rfl, id⟩
theorem pz_r99 : pz_row D cy H (pz_b11 cy h0 c1 g1 c2 g2 tx gtx pg dd gd kp gkp tp gtp tl gtl lk glk ph gph c3 g3 tx2 gtx2 pg2 ++ pz_b12 cy h1 gm) (pz_ad (pz_adl h0 c1 g1 c2 g2 tx gtx pg dd gd kp gkp tp gtp tl gtl lk glk ph gph c3 g3 tx2 gtx2 pg2 h1 gm) adS) 99 := ⟨_, rfl, id⟩
theorem pz_r100 : pz_row D cy H (pz_b11 cy h0 c1 g1 c2 g2 tx gtx pg dd gd kp gkp tp gtp tl gtl lk glk ph gph c3 g3 tx2 gtx2 pg2 ++ pz_b12 cy h1 gm) (pz_ad (pz_adl h0 c1 g1 c2 g2 tx gtx pg dd gd kp gkp tp gtp tl gtl lk glk ph gph c3 g3 tx2 gtx2 pg2 h1 gm) adS) 100 := ⟨_, rfl, id⟩
theorem pz_r101 : pz_row D cy H (pz_b11 cy h0 c1 g1 c2 g2 tx gtx pg dd gd kp gkp tp gtp tl gtl lk glk ph gph c3 g3 tx2 gtx2 pg2 ++ pz_b12 cy h1 gm) (pz_ad (pz_adl h0 c1 g1 c2 g2 tx gtx pg dd gd kp gkp tp gtp tl gtl lk glk ph gph c3 g3 tx2 gtx2 pg2 h1 gm) adS) 101 := ⟨_, rfl, id⟩
theorem pz_r102 : pz_row D cy H (pz_b11 cy h0 c1 g1 c2 g2 tx gtx pg dd gd kp gkp tp gtp tl gtl lk glk ph gph c3 g3 tx2 gtx2 pg2 ++ pz_b12 cy h1 gm) (pz_ad (pz_adl h0 c1 g1 c2 g2 tx gtx pg dd gd kp gkp tp gtp tl gtl lk glk ph gph c3 g3 tx2 gtx2 pg2 h1 gm) adS) 102 := ⟨_, rfl, id⟩
theorem pz_r103 : pz_row D cy H (pz_b11 cy h0 c1 g1 c2 g2 tx gtx pg dd gd kp gkp tp gtp tl gtl lk glk ph gph c3 g3 tx2 gtx2 pg2 ++ pz_b12 cy h1 gm) (pz_ad (pz_adl h0 c1 g1 c2 g2 tx gtx pg dd gd kp gkp tp gtp tl gtl lk glk ph gph c3 g3 tx2 gtx2 pg2 h1 gm) adS) 103 := ⟨_, rfl, id⟩
theorem pz_r104 : pz_row D cy H (pz_b11 cy h0 c1 g1 c2 g2 tx gtx pg dd gd kp gkp tp gtp tl gtl lk glk ph gph c3 g3 tx2 gtx2 pg2 ++ pz_b12 cy h1 gm) (pz_ad (pz_adl h0 c1 g1 c2 g2 tx gtx pg dd gd kp gkp tp gtp tl gtl lk glk ph gph c3 g3 tx2 gtx2 pg2 h1 gm) adS) 104 := ⟨_, rfl, id⟩
theorem pz_r105 : pz_row D cy H (pz_b11 cy h0 c1 g1 c2 g2 tx gtx pg dd gd kp gkp tp gtp tl gtl lk glk ph gph c3 g3 tx2 gtx2 pg2 ++ pz_b12 cy h1 gm) (pz_ad (pz_adl h0 c1 g1 c2 g2 tx gtx pg dd gd kp gkp tp gtp tl gtl lk glk ph gph c3 g3 tx2 gtx2 pg2 h1 gm) adS) 105 := ⟨_, rfl, id⟩
theorem pz_r106 : pz_row D cy H (pz_b11 cy h0 c1 g1 c2 g2 tx gtx pg dd gd kp gkp tp gtp tl gtl lk glk ph gph c3 g3 tx2 gtx2 pg2 ++ pz_b12 cy h1 gm) (pz_ad (pz_adl h0 c1 g1 c2 g2 tx gtx pg dd gd kp gkp tp gtp tl gtl lk glk ph gph c3 g3 tx2 gtx2 pg2 h1 gm) adS) 106 := ⟨_, rfl, id⟩
theorem pz_r107 : pz_row D cy H (pz_b11 cy h0 c1 g1 c2 g2 tx gtx pg dd gd kp gkp tp gtp tl gtl lk glk ph gph c3 g3 tx2 gtx2 pg2 ++ pz_b12 cy h1 gm) (pz_ad (pz_adl h0 c1 g1 c2 g2 tx gtx pg dd gd kp gkp tp gtp tl gtl lk glk ph gph c3 g3 tx2 gtx2 pg2 h1 gm) adS) 107 := ⟨_, rfl, id⟩
theorem pz_r108 : pz_row D cy H (pz_b11 cy h0 c1 g1 c2 g2 tx gtx pg dd gd kp gkp tp gtp tl gtl lk glk ph gph c3 g3 tx2 gtx2 pg2 ++ pz_b12 cy h1 gm) (pz_ad (pz_adl h0 c1 g1 c2 g2 tx gtx pg dd gd kp gkp tp gtp tl gtl lk glk ph gph c3 g3 tx2 gtx2 pg2 h1 gm) adS) 108 := ⟨_, rfl, id⟩
theorem pz_r109 : pz_row D cy H (pz_b11 cy h0 c1 g1 c2 g2 tx gtx pg dd gd kp gkp tp gtp tl gtl lk glk ph gph c3 g3 tx2 gtx2 pg2 ++ pz_b12 cy h1 gm) (pz_ad (pz_adl h0 c1 g1 c2 g2 tx gtx pg dd gd kp gkp tp gtp tl gtl lk glk ph gph c3 g3 tx2 gtx2 pg2 h1 gm) adS) 109 := ⟨_, rfl, id⟩
theorem pz_r110 : pz_row D cy H (pz_b11 cy h0 c1 g1 c2 g2 tx gtx pg dd gd kp gkp tp gtp tl gtl lk glk ph gph c3 g3 tx2 gtx2 pg2 ++ pz_b12 cy h1 gm) (pz_ad (pz_adl h0 c1 g1 c2 g2 tx gtx pg dd gd kp gkp tp gtp tl gtl lk glk ph gph c3 g3 tx2 gtx2 pg2 h1 gm) adS) 110 := ⟨_, rfl, id⟩
theorem pz_r111 : pz_row D cy H (pz_b11 cy h0 c1 g1 c2 g2 tx gtx pg dd gd kp gkp tp gtp tl gtl lk glk ph gph c3 g3 tx2 gtx2 pg2 ++ pz_b12 cy h1 gm) (pz_ad (pz_adl h0 c1 g1 c2 g2 tx gtx pg dd gd kp gkp tp gtp tl gtl lk glk ph gph c3 g3 tx2 gtx2 pg2 h1 gm) adS) 111 := ⟨_, rfl, id⟩
theorem pz_r112 : pz_row D cy H (pz_b11 cy h0 c1 g1 c2 g2 tx gtx pg dd gd kp gkp tp gtp tl gtl lk glk ph gph c3 g3 tx2 gtx2 pg2 ++ pz_b12 cy h1 gm) (pz_ad (pz_adl h0 c1 g1 c2 g2 tx gtx pg dd gd kp gkp tp gtp tl gtl lk glk ph gph c3 g3 tx2 gtx2 pg2 h1 gm) adS) 112 := ⟨_, rfl, id⟩
theorem pz_r113 : pz_row D cy H (pz_b11 cy h0 c1 g1 c2 g2 tx gtx pg dd gd kp gkp tp gtp tl gtl lk glk ph gph c3 g3 tx2 gtx2 pg2 ++ pz_b12 cy h1 gm) (pz_ad (pz_adl h0 c1 g1 c2 g2 tx gtx pg dd gd kp gkp tp gtp tl gtl lk glk ph gph c3 g3 tx2 gtx2 pg2 h1 gm) adS) 113 := ⟨_, rfl, id⟩
theorem pz_r114 : pz_row D cy H (pz_b11 cy h0 c1 g1 c2 g2 tx gtx pg dd gd kp gkp tp gtp tl gtl lk glk ph gph c3 g3 tx2 gtx2 pg2 ++ pz_b12 cy h1 gm) (pz_ad (pz_adl h0 c1 g1 c2 g2 tx gtx pg dd gd kp gkp tp gtp tl gtl lk glk ph gph c3 g3 tx2 gtx2 pg2 h1 gm) adS) 114 := ⟨_, rfl, id⟩
theorem pz_r115 : pz_row D cy H (pz_b11 cy h0 c1 g1 c2 g2 tx gtx pg dd gd kp gkp tp gtp tl gtl lk glk ph gph c3 g3 tx2 gtx2 pg2 ++ pz_b12 cy h1 gm) (pz_ad (pz_adl h0 c1 g1 c2 g2 tx gtx pg dd gd kp gkp tp gtp tl gtl lk glk ph gph c3 g3 tx2 gtx2 pg2 h1 gm) adS) 115 := ⟨_, rfl, id⟩
theorem pz_r116 : pz_row D cy H (pz_b11 cy h0 c1 g1 c2 g2 tx gtx pg dd gd kp gkp tp gtp tl gtl lk glk ph gph c3 g3 tx2 gtx2 pg2 ++ pz_b12 cy h1 gm) (pz_ad (pz_adl h0 c1 g1 c2 g2 tx gtx pg dd gd kp gkp tp gtp tl gtl lk glk ph gph c3 g3 tx2 gtx2 pg2 h1 gm) adS) 116 := ⟨_, rfl, id⟩
theorem pz_r117 : pz_row D cy H (pz_b11 cy h0 c1 g1 c2 g2 tx gtx pg dd gd kp gkp tp gtp tl gtl lk glk ph gph c3 g3 tx2 gtx2 pg2 ++ pz_b12 cy h1 gm) (pz_ad (pz_adl h0 c1 g1 c2 g2 tx gtx pg dd gd kp gkp tp gtp tl gtl lk glk ph gph c3 g3 tx2 gtx2 pg2 h1 gm) adS) 117 := ⟨_, rfl, id⟩
theorem pz_r118 : pz_row D cy H (pz_b11 cy h0 c1 g1 c2 g2 tx gtx pg dd gd kp gkp tp gtp tl gtl lk glk ph gph c3 g3 tx2 gtx2 pg2 ++ pz_b12 cy h1 gm) (pz_ad (pz_adl h0 c1 g1 c2 g2 tx gtx pg dd gd kp gkp tp gtp tl gtl lk glk ph gph c3 g3 tx2 gtx2 pg2 h1 gm) adS) 118 := ⟨_, rfl, id⟩
theorem pz_r119 : pz_row D cy H (pz_b11 cy h0 c1 g1 c2 g2 tx gtx pg dd gd kp gkp tp gtp tl gtl lk glk ph gph c3 g3 tx2 gtx2 pg2 ++ pz_b12 cy h1 gm) (pz_ad (pz_adl h0 c1 g1 c2 g2 tx gtx pg dd gd kp gkp tp gtp tl gtl lk glk ph gph c3 g3 tx2 gtx2 pg2 h1 gm) adS) 119 := ⟨_, rfl, id⟩
theorem pz_r120 : pz_row D cy H (pz_b11 cy h0 c1 g1 c2 g2 tx gtx pg dd gd kp gkp tp gtp tl gtl lk glk ph gph c3 g3 tx2 gtx2 pg2 ++ pz_b12 cy h1 gm) (pz_ad (pz_adl h0 c1 g1 c2 g2 tx gtx pg dd gd kp gkp tp gtp tl gtl lk glk ph gph c3 g3 tx2 gtx2 pg2 h1 gm) adS) 120 := ⟨_, rfl, id⟩
theorem pz_r121 : pz_row D cy H (pz_b11 cy h0 c1 g1 c2 g2 tx gtx pg dd gd kp gkp tp gtp tl gtl lk glk ph gph c3 g3 tx2 gtx2 pg2 ++ pz_b12 cy h1 gm) (pz_ad (pz_adl h0 c1 g1 c2 g2 tx gtx pg dd gd kp gkp tp gtp tl gtl lk glk ph gph c3 g3 tx2 gtx2 pg2 h1 gm) adS) 121 := ⟨_, rfl, id⟩
theorem pz_r122 : pz_row D cy H (pz_b11 cy h0 c1 g1 c2 g2 tx gtx pg dd gd kp gkp tp gtp tl gtl lk glk ph gph c3 g3 tx2 gtx2 pg2 ++ pz_b12 cy h1 gm) (pz_ad (pz_adl h0 c1 g1 c2 g2 tx gtx pg dd gd kp gkp tp gtp tl gtl lk glk ph gph c3 g3 tx2 gtx2 pg2 h1 gm) adS) 122 := ⟨_, rfl, id⟩
theorem pz_r123 : pz_row D cy H (pz_b11 cy h0 c1 g1 c2 g2 tx gtx pg dd gd kp gkp tp gtp tl gtl lk glk ph gph c3 g3 tx2 gtx2 pg2 ++ pz_b12 cy h1 gm) (pz_ad (pz_adl h0 c1 g1 c2 g2 tx gtx pg dd gd kp gkp tp gtp tl gtl lk glk ph gph c3 g3 tx2 gtx2 pg2 h1 gm) adS) 123 := ⟨_, rfl, id⟩
theorem pz_r124 : pz_row D cy H (pz_b11 cy h0 c1 g1 c2 g2 tx gtx pg dd gd kp gkp tp gtp tl gtl lk glk ph gph c3 g3 tx2 gtx2 pg2 ++ pz_b12 cy h1 gm) (pz_ad (pz_adl h0 c1 g1 c2 g2 tx gtx pg dd gd kp gkp tp gtp tl gtl lk glk ph gph c3 g3 tx2 gtx2 pg2 h1 gm) adS) 124 := ⟨_, rfl, id⟩
theorem pz_r125 : pz_row D cy H (pz_b11 cy h0 c1 g1 c2 g2 tx gtx pg dd gd kp gkp tp gtp tl gtl lk glk ph gph c3 g3 tx2 gtx2 pg2 ++ pz_b12 cy h1 gm) (pz_ad (pz_adl h0 c1 g1 c2 g2 tx gtx pg dd gd kp gkp tp gtp tl gtl lk glk ph gph c3 g3 tx2 gtx2 pg2 h1 gm) adS) 125 := ⟨_, rfl, id⟩
theorem pz_r126 : pz_row D cy H (pz_b11 cy h0 c1 g1 c2 g2 tx gtx pg dd gd kp gkp tp gtp tl gtl lk glk ph gph c3 g3 tx2 gtx2 pg2 ++ pz_b12 cy h1 gm) (pz_ad (pz_adl h0 c1 g1 c2 g2 tx gtx pg dd gd kp gkp tp gtp tl gtl lk glk ph gph c3 g3 tx2 gtx2 pg2 h1 gm) adS) 126 := ⟨_, rfl, id⟩
theorem pz_r127 : pz_row D cy H (pz_b11 cy h0 c1 g1 c2 g2 tx gtx pg dd gd kp gkp tp gtp tl gtl lk glk ph gph c3 g3 tx2 gtx2 pg2 ++ pz_b12 cy h1 gm) (pz_ad (pz_adl h0 c1 g1 c2 g2 tx gtx pg dd gd kp gkp tp gtp tl gtl lk glk ph gph c3 g3 tx2 gtx2 pg2 h1 gm) adS) 127 := ⟨_, rfl, id⟩
theorem pz_r128 : pz_row D cy H (pz_b11 cy h0 c1 g1 c2 g2 tx gtx pg dd gd kp gkp tp gtp tl gtl lk glk ph gph c3 g3 tx2 gtx2 pg2 ++ pz_b12 cy h1 gm) (pz_ad (pz_adl h0 c1 g1 c2 g2 tx gtx pg dd gd kp gkp tp gtp tl gtl lk glk ph gph c3 g3 tx2 gtx2 pg2 h1 gm) adS) 128 := ⟨_, rfl, id⟩
theorem pz_r129 : pz_row D cy H (pz_b11 cy h0 c1 g1 c2 g2 tx gtx pg dd gd kp gkp tp gtp tl gtl lk glk ph gph c3 g3 tx2 gtx2 pg2 ++ pz_b12 cy h1 gm) (pz_ad (pz_adl h0 c1 g1 c2 g2 tx gtx pg dd gd kp gkp tp gtp tl gtl lk glk ph gph c3 g3 tx2 gtx2 pg2 h1 gm) adS) 129 := ⟨_, rfl, id⟩
theorem pz_r130 : pz_row D cy H (pz_b11 cy h0 c1 g1 c2 g2 tx gtx pg dd gd kp gkp tp gtp tl gtl lk glk ph gph c3 g3 tx2 gtx2 pg2 ++ pz_b12 cy h1 gm) (pz_ad (pz_adl h0 c1 g1 c2 g2 tx gtx pg dd gd kp gkp tp gtp tl gtl lk glk ph gph c3 g3 tx2 gtx2 pg2 h1 gm) adS) 130 := ⟨_, rfl, id⟩
theorem pz_r131 : pz_row D cy H (pz_b11 cy h0 c1 g1 c2 g2 tx gtx pg dd gd kp gkp tp gtp tl gtl lk glk ph gph c3 g3 tx2 gtx2 pg2 ++ pz_b12 cy h1 gm) (pz_ad (pz_adl h0 c1 g1 c2 g2 tx gtx pg dd gd kp gkp tp gtp tl gtl lk glk ph gph c3 g3 tx2 gtx2 pg2 h1 gm) adS) 131 := ⟨_, rfl, id⟩
theorem pz_r132 : pz_row D cy H (pz_b11 cy h0 c1 g1 c2 g2 tx gtx pg dd gd kp gkp tp gtp tl gtl lk glk ph gph c3 g3 tx2 gtx2 pg2 ++ pz_b12 cy h1 gm) (pz_ad (pz_adl h0 c1 g1 c2 g2 tx gtx pg dd gd kp gkp tp gtp tl gtl lk glk ph gph c3 g3 tx2 gtx2 pg2 h1 gm) adS) 132 := ⟨_, rfl, id⟩
theorem pz_r133 : pz_row D cy H (pz_b11 cy h0 c1 g1 c2 g2 tx gtx pg dd gd kp gkp tp gtp tl gtl lk glk ph gph c3 g3 tx2 gtx2 pg2 ++ pz_b12 cy h1 gm) (pz_ad (pz_adl h0 c1 g1 c2 g2 tx gtx pg dd gd kp gkp tp gtp tl gtl lk glk ph gph c3 g3 tx2 gtx2 pg2 h1 gm) adS) 133 := ⟨_, rfl, id⟩
theorem pz_r134 : pz_row D cy H (pz_b11 cy h0 c1 g1 c2 g2 tx gtx pg dd gd kp gkp tp gtp tl gtl lk glk ph gph c3 g3 tx2 gtx2 pg2 ++ pz_b12 cy h1 gm) (pz_ad (pz_adl h0 c1 g1 c2 g2 tx gtx pg dd gd kp gkp tp gtp tl gtl lk glk ph gph c3 g3 tx2 gtx2 pg2 h1 gm) adS) 134 := ⟨_, rfl, id⟩
theorem pz_r135 : pz_row D cy H (pz_b11 cy h0 c1 g1 c2 g2 tx gtx pg dd gd kp gkp tp gtp tl gtl lk glk ph gph c3 g3 tx2 gtx2 pg2 ++ pz_b12 cy h1 gm) (pz_ad (pz_adl h0 c1 g1 c2 g2 tx gtx pg dd gd kp gkp tp gtp tl gtl lk glk ph gph c3 g3 tx2 gtx2 pg2 h1 gm) adS) 135 := ⟨_, rfl, id⟩
theorem pz_r136 : pz_row D cy H (pz_b11 cy h0 c1 g1 c2 g2 tx gtx pg dd gd kp gkp tp gtp tl gtl lk glk ph gph c3 g3 tx2 gtx2 pg2 ++ pz_b12 cy h1 gm) (pz_ad (pz_adl h0 c1 g1 c2 g2 tx gtx pg dd gd kp gkp tp gtp tl gtl lk glk ph gph c3 g3 tx2 gtx2 pg2 h1 gm) adS) 136 := ⟨_, rfl, id⟩
theorem pz_r137 : pz_row D cy H (pz_b11 cy h0 c1 g1 c2 g2 tx gtx pg dd gd kp gkp tp gtp tl gtl lk glk ph gph c3 g3 tx2 gtx2 pg2 ++ pz_b12 cy h1 gm) (pz_ad (pz_adl h0 c1 g1 c2 g2 tx gtx pg dd gd kp gkp tp gtp tl gtl lk glk ph gph c3 g3 tx2 gtx2 pg2 h1 gm) adS) 137 := ⟨_, rfl, id⟩
theorem pz_r138 : pz_row D cy H (pz_b11 cy h0 c1 g1 c2 g2 tx gtx pg dd gd kp gkp tp gtp tl gtl lk glk ph gph c3 g3 tx2 gtx2 pg2 ++ pz_b12 cy h1 gm) (pz_ad (pz_adl h0 c1 g1 c2 g2 tx gtx pg dd gd kp gkp tp gtp tl gtl lk glk ph gph c3 g3 tx2 gtx2 pg2 h1 gm) adS) 138 := ⟨_, rfl, id⟩
theorem pz_r139 : pz_row D cy H (pz_b11 cy h0 c1 g1 c2 g2 tx gtx pg dd gd kp gkp tp gtp tl gtl lk glk ph gph c3 g3 tx2 gtx2 pg2 ++ pz_b12 cy h1 gm) (pz_ad (pz_adl h0 c1 g1 c2 g2 tx gtx pg dd gd kp gkp tp gtp tl gtl lk glk ph gph c3 g3 tx2 gtx2 pg2 h1 gm) adS) 139 := ⟨_, rfl, id⟩
theorem pz_r140 : pz_row D cy H (pz_b11 cy h0 c1 g1 c2 g2 tx gtx pg dd gd kp gkp tp gtp tl gtl lk glk ph gph c3 g3 tx2 gtx2 pg2 ++ pz_b12 cy h1 gm) (pz_ad (pz_adl h0 c1 g1 c2 g2 tx gtx pg dd gd kp gkp tp gtp tl gtl lk glk ph gph c3 g3 tx2 gtx2 pg2 h1 gm) adS) 140 := ⟨_, rfl, id⟩
theorem pz_r141 : pz_row D cy H (pz_b11 cy h0 c1 g1 c2 g2 tx gtx pg dd gd kp gkp tp gtp tl gtl lk glk ph gph c3 g3 tx2 gtx2 pg2 ++ pz_b12 cy h1 gm) (pz_ad (pz_adl h0 c1 g1 c2 g2 tx gtx pg dd gd kp gkp tp gtp tl gtl lk glk ph gph c3 g3 tx2 gtx2 pg2 h1 gm) adS) 141 := ⟨_, rfl, id⟩
theorem pz_r142 : pz_row D cy H (pz_b11 cy h0 c1 g1 c2 g2 tx gtx pg dd gd kp gkp tp gtp tl gtl lk glk ph gph c3 g3 tx2 gtx2 pg2 ++ pz_b12 cy h1 gm) (pz_ad (pz_adl h0 c1 g1 c2 g2 tx gtx pg dd gd kp gkp tp gtp tl gtl lk glk ph gph c3 g3 tx2 gtx2 pg2 h1 gm) adS) 142 := ⟨_, rfl, id⟩
theorem pz_r143 : pz_row D cy H (pz_b11 cy h0 c1 g1 c2 g2 tx gtx pg dd gd kp gkp tp gtp tl gtl lk glk ph gph c3 g3 tx2 gtx2 pg2 ++ pz_b12 cy h1 gm) (pz_ad (pz_adl h0 c1 g1 c2 g2 tx gtx pg dd gd kp gkp tp gtp tl gtl lk glk ph gph c3 g3 tx2 gtx2 pg2 h1 gm) adS) 143 := ⟨_, rfl, id⟩
theorem pz_r144 : pz_row D cy H (pz_b11 cy h0 c1 g1 c2 g2 tx gtx pg dd gd kp gkp tp gtp tl gtl lk glk ph gph c3 g3 tx2 gtx2 pg2 ++ pz_b12 cy h1 gm) (pz_ad (pz_adl h0 c1 g1 c2 g2 tx gtx pg dd gd kp gkp tp gtp tl gtl lk glk ph gph c3 g3 tx2 gtx2 pg2 h1 gm) adS) 144 := ⟨_, rfl, id⟩
theorem pz_r145 : pz_row D cy H (pz_b11 cy h0 c1 g1 c2 g2 tx gtx pg dd gd kp gkp tp gtp tl gtl lk glk ph gph c3 g3 tx2 gtx2 pg2 ++ pz_b12 cy h1 gm) (pz_ad (pz_adl h0 c1 g1 c2 g2 tx gtx pg dd gd kp gkp tp gtp tl gtl lk glk ph gph c3 g3 tx2 gtx2 pg2 h1 gm) adS) 145 := ⟨_, rfl, id⟩
theorem pz_r146 : pz_row D cy H (pz_b11 cy h0 c1 g1 c2 g2 tx gtx pg dd gd kp gkp tp gtp tl gtl lk glk ph gph c3 g3 tx2 gtx2 pg2 ++ pz_b12 cy h1 gm) (pz_ad (pz_adl h0 c1 g1 c2 g2 tx gtx pg dd gd kp gkp tp gtp tl gtl lk glk ph gph c3 g3 tx2 gtx2 pg2 h1 gm) adS) 146 := ⟨_, rfl, id⟩
theorem pz_r147 : pz_row D cy H (pz_b11 cy h0 c1 g1 c2 g2 tx gtx pg dd gd kp gkp tp gtp tl gtl lk glk ph gph c3 g3 tx2 gtx2 pg2 ++ pz_b12 cy h1 gm) (pz_ad (pz_adl h0 c1 g1 c2 g2 tx gtx pg dd gd kp gkp tp gtp tl gtl lk glk ph gph c3 g3 tx2 gtx2 pg2 h1 gm) adS) 147 := ⟨_, rfl, id⟩
theorem pz_r148 : pz_row D cy H (pz_b11 cy h0 c1 g1 c2 g2 tx gtx pg dd gd kp gkp tp gtp tl gtl lk glk ph gph c3 g3 tx2 gtx2 pg2 ++ pz_b12 cy h1 gm) (pz_ad (pz_adl h0 c1 g1 c2 g2 tx gtx pg dd gd kp gkp tp gtp tl gtl lk glk ph gph c3 g3 tx2 gtx2 pg2 h1 gm) adS) 148 := ⟨_, rfl, id⟩
theorem pz_r149 : pz_row D cy H (pz_b11 cy h0 c1 g1 c2 g2 tx gtx pg dd gd kp gkp tp gtp tl gtl lk glk ph gph c3 g3 tx2 gtx2 pg2 ++ pz_b12 cy h1 gm) (pz_ad (pz_adl h0 c1 g1 c2 g2 tx gtx pg dd gd kp gkp tp gtp tl gtl lk glk ph gph c3 g3 tx2 gtx2 pg2 h1 gm) adS) 149 := ⟨_, rfl, id⟩
theorem pz_r150 : pz_row D cy H (pz_b11 cy h0 c1 g1 c2 g2 tx gtx pg dd gd kp gkp tp gtp tl gtl lk glk ph gph c3 g3 tx2 gtx2 pg2 ++ pz_b12 cy h1 gm) (pz_ad (pz_adl h0 c1 g1 c2 g2 tx gtx pg dd gd kp gkp tp gtp tl gtl lk glk ph gph c3 g3 tx2 gtx2 pg2 h1 gm) adS) 150 := ⟨_, rfl, id⟩
theorem pz_r151 : pz_row D cy H (pz_b11 cy h0 c1 g1 c2 g2 tx gtx pg dd gd kp gkp tp gtp tl gtl lk glk ph gph c3 g3 tx2 gtx2 pg2 ++ pz_b12 cy h1 gm) (pz_ad (pz_adl h0 c1 g1 c2 g2 tx gtx pg dd gd kp gkp tp gtp tl gtl lk glk ph gph c3 g3 tx2 gtx2 pg2 h1 gm) adS) 151 := ⟨_, rfl, id⟩
theorem pz_r152 : pz_row D cy H (pz_b11 cy h0 c1 g1 c2 g2 tx gtx pg dd gd kp gkp tp gtp tl gtl lk glk ph gph c3 g3 tx2 gtx2 pg2 ++ pz_b12 cy h1 gm) (pz_ad (pz_adl h0 c1 g1 c2 g2 tx gtx pg dd gd kp gkp tp gtp tl gtl lk glk ph gph c3 g3 tx2 gtx2 pg2 h1 gm) adS) 152 := ⟨_, rfl, id⟩
theorem pz_r153 : pz_row D cy H (pz_b11 cy h0 c1 g1 c2 g2 tx gtx pg dd gd kp gkp tp gtp tl gtl lk glk ph gph c3 g3 tx2 gtx2 pg2 ++ pz_b12 cy h1 gm) (pz_ad (pz_adl h0 c1 g1 c2 g2 tx gtx pg dd gd kp gkp tp gtp tl gtl lk glk ph gph c3 g3 tx2 gtx2 pg2 h1 gm) adS) 153 := ⟨_, rfl, id⟩
theorem pz_r154 : pz_row D cy H (pz_b11 cy h0 c1 g1 c2 g2 tx gtx pg dd gd kp gkp tp gtp tl gtl lk glk ph gph c3 g3 tx2 gtx2 pg2 ++ pz_b12 cy h1 gm) (pz_ad (pz_adl h0 c1 g1 c2 g2 tx gtx pg dd gd kp gkp tp gtp tl gtl lk glk ph gph c3 g3 tx2 gtx2 pg2 h1 gm) adS) 154 := ⟨_, rfl, id⟩
theorem pz_r155 : pz_row D cy H (pz_b11 cy h0 c1 g1 c2 g2 tx gtx pg dd gd kp gkp tp gtp tl gtl lk glk ph gph c3 g3 tx2 gtx2 pg2 ++ pz_b12 cy h1 gm) (pz_ad (pz_adl h0 c1 g1 c2 g2 tx gtx pg dd gd kp gkp tp gtp tl gtl lk glk ph gph c3 g3 tx2 gtx2 pg2 h1 gm) adS) 155 := ⟨_, rfl, id⟩
theorem pz_r156 : pz_row D cy H (pz_b11 cy h0 c1 g1 c2 g2 tx gtx pg dd gd kp gkp tp gtp tl gtl lk glk ph gph c3 g3 tx2 gtx2 pg2 ++ pz_b12 cy h1 gm) (pz_ad (pz_adl h0 c1 g1 c2 g2 tx gtx pg dd gd kp gkp tp gtp tl gtl lk glk ph gph c3 g3 tx2 gtx2 pg2 h1 gm) adS) 156 := ⟨_, rfl, id⟩
theorem pz_r157 : pz_row D cy H (pz_b11 cy h0 c1 g1 c2 g2 tx gtx pg dd gd kp gkp tp gtp tl gtl lk glk ph gph c3 g3 tx2 gtx2 pg2 ++ pz_b12 cy h1 gm) (pz_ad (pz_adl h0 c1 g1 c2 g2 tx gtx pg dd gd kp gkp tp gtp tl gtl lk glk ph gph c3 g3 tx2 gtx2 pg2 h1 gm) adS) 157 := ⟨_, rfl, id⟩
theorem pz_r158 : pz_row D cy H (pz_b11 cy h0 c1 g1 c2 g2 tx gtx pg dd gd kp gkp tp gtp tl gtl lk glk ph gph c3 g3 tx2 gtx2 pg2 ++ pz_b12 cy h1 gm) (pz_ad (pz_adl h0 c1 g1 c2 g2 tx gtx pg dd gd kp gkp tp gtp tl gtl lk glk ph gph c3 g3 tx2 gtx2 pg2 h1 gm) adS) 158 := ⟨_, rfl, id⟩
theorem pz_r159 : pz_row D cy H (pz_b11 cy h0 c1 g1 c2 g2 tx gtx pg dd gd kp gkp tp gtp tl gtl lk glk ph gph c3 g3 tx2 gtx2 pg2 ++ pz_b12 cy h1 gm) (pz_ad (pz_adl h0 c1 g1 c2 g2 tx gtx pg dd gd kp gkp tp gtp tl gtl lk glk ph gph c3 g3 tx2 gtx2 pg2 h1 gm) adS) 159 := ⟨_, rfl, id⟩
theorem pz_r160 : pz_row D cy H (pz_b11 cy h0 c1 g1 c2 g2 tx gtx pg dd gd kp gkp tp gtp tl gtl lk glk ph gph c3 g3 tx2 gtx2 pg2 ++ pz_b12 cy h1 gm) (pz_ad (pz_adl h0 c1 g1 c2 g2 tx gtx pg dd gd kp gkp tp gtp tl gtl lk glk ph gph c3 g3 tx2 gtx2 pg2 h1 gm) adS) 160 := ⟨_, rfl, id⟩
theorem pz_r161 : pz_row D cy H (pz_b11 cy h0 c1 g1 c2 g2 tx gtx pg dd gd kp gkp tp gtp tl gtl lk glk ph gph c3 g3 tx2 gtx2 pg2 ++ pz_b12 cy h1 gm) (pz_ad (pz_adl h0 c1 g1 c2 g2 tx gtx pg dd gd kp gkp tp gtp tl gtl lk glk ph gph c3 g3 tx2 gtx2 pg2 h1 gm) adS) 161 := ⟨_, rfl, id⟩
theorem pz_r162 : pz_row D cy H (pz_b11 cy h0 c1 g1 c2 g2 tx gtx pg dd gd kp gkp tp gtp tl gtl lk glk ph gph c3 g3 tx2 gtx2 pg2 ++ pz_b12 cy h1 gm) (pz_ad (pz_adl h0 c1 g1 c2 g2 tx gtx pg dd gd kp gkp tp gtp tl gtl lk glk ph gph c3 g3 tx2 gtx2 pg2 h1 gm) adS) 162 := ⟨_, rfl, id⟩
theorem pz_r163 : pz_row D cy H (pz_b11 cy h0 c1 g1 c2 g2 tx gtx pg dd gd kp gkp tp gtp tl gtl lk glk ph gph c3 g3 tx2 gtx2 pg2 ++ pz_b12 cy h1 gm) (pz_ad (pz_adl h0 c1 g1 c2 g2 tx gtx pg dd gd kp gkp tp gtp tl gtl lk glk ph gph c3 g3 tx2 gtx2 pg2 h1 gm) adS) 163 := ⟨_, rfl, id⟩
theorem pz_r164 : pz_row D cy H (pz_b11 cy h0 c1 g1 c2 g2 tx gtx pg dd gd kp gkp tp gtp tl gtl lk glk ph gph c3 g3 tx2 gtx2 pg2 ++ pz_b12 cy h1 gm) (pz_ad (pz_adl h0 c1 g1 c2 g2 tx gtx pg dd gd kp gkp tp gtp tl gtl lk glk ph gph c3 g3 tx2 gtx2 pg2 h1 gm) adS) 164 := ⟨_, rfl, id⟩
theorem pz_r165 : pz_row D cy H (pz_b11 cy h0 c1 g1 c2 g2 tx gtx pg dd gd kp gkp tp gtp tl gtl lk glk ph gph c3 g3 tx2 gtx2 pg2 ++ pz_b12 cy h1 gm) (pz_ad (pz_adl h0 c1 g1 c2 g2 tx gtx pg dd gd kp gkp tp gtp tl gtl lk glk ph gph c3 g3 tx2 gtx2 pg2 h1 gm) adS) 165 := ⟨_, rfl, id⟩
theorem pz_r166 : pz_row D cy H (pz_b11 cy h0 c1 g1 c2 g2 tx gtx pg dd gd kp gkp tp gtp tl gtl lk glk ph gph c3 g3 tx2 gtx2 pg2 ++ pz_b12 cy h1 gm) (pz_ad (pz_adl h0 c1 g1 c2 g2 tx gtx pg dd gd kp gkp tp gtp tl gtl lk glk ph gph c3 g3 tx2 gtx2 pg2 h1 gm) adS) 166 := ⟨_, rfl, id⟩
theorem pz_r167 : pz_row D cy H (pz_b11 cy h0 c1 g1 c2 g2 tx gtx pg dd gd kp gkp tp gtp tl gtl lk glk ph gph c3 g3 tx2 gtx2 pg2 ++ pz_b12 cy h1 gm) (pz_ad (pz_adl h0 c1 g1 c2 g2 tx gtx pg dd gd kp gkp tp gtp tl gtl lk glk ph gph c3 g3 tx2 gtx2 pg2 h1 gm) adS) 167 := ⟨_, rfl, id⟩
theorem pz_r168 : pz_row D cy H (pz_b11 cy h0 c1 g1 c2 g2 tx gtx pg dd gd kp gkp tp gtp tl gtl lk glk ph gph c3 g3 tx2 gtx2 pg2 ++ pz_b12 cy h1 gm) (pz_ad (pz_adl h0 c1 g1 c2 g2 tx gtx pg dd gd kp gkp tp gtp tl gtl lk glk ph gph c3 g3 tx2 gtx2 pg2 h1 gm) adS) 168 := ⟨_, rfl, id⟩
theorem pz_r169 : pz_row D cy H (pz_b11 cy h0 c1 g1 c2 g2 tx gtx pg dd gd kp gkp tp gtp tl gtl lk glk ph gph c3 g3 tx2 gtx2 pg2 ++ pz_b12 cy h1 gm) (pz_ad (pz_adl h0 c1 g1 c2 g2 tx gtx pg dd gd kp gkp tp gtp tl gtl lk glk ph gph c3 g3 tx2 gtx2 pg2 h1 gm) adS) 169 := ⟨_, rfl, id⟩
theorem pz_r170 : pz_row D cy H (pz_b11 cy h0 c1 g1 c2 g2 tx gtx pg dd gd kp gkp tp gtp tl gtl lk glk ph gph c3 g3 tx2 gtx2 pg2 ++ pz_b12 cy h1 gm) (pz_ad (pz_adl h0 c1 g1 c2 g2 tx gtx pg dd gd kp gkp tp gtp tl gtl lk glk ph gph c3 g3 tx2 gtx2 pg2 h1 gm) adS) 170 := ⟨_, rfl, id⟩
theorem pz_r171 : pz_row D cy H (pz_b11 cy h0 c1 g1 c2 g2 tx gtx pg dd gd kp gkp tp gtp tl gtl lk glk ph gph c3 g3 tx2 gtx2 pg2 ++ pz_b12 cy h1 gm) (pz_ad (pz_adl h0 c1 g1 c2 g2 tx gtx pg dd gd kp gkp tp gtp tl gtl lk glk ph gph c3 g3 tx2 gtx2 pg2 h1 gm) adS) 171 := ⟨_, rfl, id⟩
theorem pz_r172 : pz_row D cy H (pz_b11 cy h0 c1 g1 c2 g2 tx gtx pg dd gd kp gkp tp gtp tl gtl lk glk ph gph c3 g3 tx2 gtx2 pg2 ++ pz_b12 cy h1 gm) (pz_ad (pz_adl h0 c1 g1 c2 g2 tx gtx pg dd gd kp gkp tp gtp tl gtl lk glk ph gph c3 g3 tx2 gtx2 pg2 h1 gm) adS) 172 := ⟨_, rfl, id⟩
theorem pz_r173 : pz_row D cy H (pz_b11 cy h0 c1 g1 c2 g2 tx gtx pg dd gd kp gkp tp gtp tl gtl lk glk ph gph c3 g3 tx2 gtx2 pg2 ++ pz_b12 cy h1 gm) (pz_ad (pz_adl h0 c1 g1 c2 g2 tx gtx pg dd gd kp gkp tp gtp tl gtl lk glk ph gph c3 g3 tx2 gtx2 pg2 h1 gm) adS) 173 := ⟨_, rfl, id⟩
theorem pz_r174 : pz_row D cy H (pz_b11 cy h0 c1 g1 c2 g2 tx gtx pg dd gd kp gkp tp gtp tl gtl lk glk ph gph c3 g3 tx2 gtx2 pg2 ++ pz_b12 cy h1 gm) (pz_ad (pz_adl h0 c1 g1 c2 g2 tx gtx pg dd gd kp gkp tp gtp tl gtl lk glk ph gph c3 g3 tx2 gtx2 pg2 h1 gm) adS) 174 := ⟨_, rfl, id⟩
theorem pz_r175 : pz_row D cy H (pz_b11 cy h0 c1 g1 c2 g2 tx gtx pg dd gd kp gkp tp gtp tl gtl lk glk ph gph c3 g3 tx2 gtx2 pg2 ++ pz_b12 cy h1 gm) (pz_ad (pz_adl h0 c1 g1 c2 g2 tx gtx pg dd gd kp gkp tp gtp tl gtl lk glk ph gph c3 g3 tx2 gtx2 pg2 h1 gm) adS) 175 := ⟨_, rfl, id⟩
theorem pz_r176 : pz_row D cy H (pz_b11 cy h0 c1 g1 c2 g2 tx gtx pg dd gd kp gkp tp gtp tl gtl lk glk ph gph c3 g3 tx2 gtx2 pg2 ++ pz_b12 cy h1 gm) (pz_ad (pz_adl h0 c1 g1 c2 g2 tx gtx pg dd gd kp gkp tp gtp tl gtl lk glk ph gph c3 g3 tx2 gtx2 pg2 h1 gm) adS) 176 := ⟨_, rfl, id⟩
theorem pz_r177 : pz_row D cy H (pz_b11 cy h0 c1 g1 c2 g2 tx gtx pg dd gd kp gkp tp gtp tl gtl lk glk ph gph c3 g3 tx2 gtx2 pg2 ++ pz_b12 cy h1 gm) (pz_ad (pz_adl h0 c1 g1 c2 g2 tx gtx pg dd gd kp gkp tp gtp tl gtl lk glk ph gph c3 g3 tx2 gtx2 pg2 h1 gm) adS) 177 := ⟨_, rfl, id⟩
theorem pz_r178 : pz_row D cy H (pz_b11 cy h0 c1 g1 c2 g2 tx gtx pg dd gd kp gkp tp gtp tl gtl lk glk ph gph c3 g3 tx2 gtx2 pg2 ++ pz_b12 cy h1 gm) (pz_ad (pz_adl h0 c1 g1 c2 g2 tx gtx pg dd gd kp gkp tp gtp tl gtl lk glk ph gph c3 g3 tx2 gtx2 pg2 h1 gm) adS) 178 := ⟨_, rfl, id⟩
theorem pz_r179 : pz_row D cy H (pz_b11 cy h0 c1 g1 c2 g2 tx gtx pg dd gd kp gkp tp gtp tl gtl lk glk ph gph c3 g3 tx2 gtx2 pg2 ++ pz_b12 cy h1 gm) (pz_ad (pz_adl h0 c1 g1 c2 g2 tx gtx pg dd gd kp gkp tp gtp tl gtl lk glk ph gph c3 g3 tx2 gtx2 pg2 h1 gm) adS) 179 := ⟨_, rfl, id⟩
theorem pz_r180 : pz_row D cy H (pz_b11 cy h0 c1 g1 c2 g2 tx gtx pg dd gd kp gkp tp gtp tl gtl lk glk ph gph c3 g3 tx2 gtx2 pg2 ++ pz_b12 cy h1 gm) (pz_ad (pz_adl h0 c1 g1 c2 g2 tx gtx pg dd gd kp gkp tp gtp tl gtl lk glk ph gph c3 g3 tx2 gtx2 pg2 h1 gm) adS) 180 := ⟨_, rfl, id⟩
theorem pz_r181 : pz_row D cy H (pz_b11 cy h0 c1 g1 c2 g2 tx gtx pg dd gd kp gkp tp gtp tl gtl lk glk ph gph c3 g3 tx2 gtx2 pg2 ++ pz_b12 cy h1 gm) (pz_ad (pz_adl h0 c1 g1 c2 g2 tx gtx pg dd gd kp gkp tp gtp tl gtl lk glk ph gph c3 g3 tx2 gtx2 pg2 h1 gm) adS) 181 := ⟨_, rfl, id⟩
theorem pz_r182 : pz_row D cy H (pz_b11 cy h0 c1 g1 c2 g2 tx gtx pg dd gd kp gkp tp gtp tl gtl lk glk ph gph c3 g3 tx2 gtx2 pg2 ++ pz_b12 cy h1 gm) (pz_ad (pz_adl h0 c1 g1 c2 g2 tx gtx pg dd gd kp gkp tp gtp tl gtl lk glk ph gph c3 g3 tx2 gtx2 pg2 h1 gm) adS) 182 := ⟨_, rfl, id⟩
theorem pz_r183 : pz_row D cy H (pz_b11 cy h0 c1 g1 c2 g2 tx gtx pg dd gd kp gkp tp gtp tl gtl lk glk ph gph c3 g3 tx2 gtx2 pg2 ++ pz_b12 cy h1 gm) (pz_ad (pz_adl h0 c1 g1 c2 g2 tx gtx pg dd gd kp gkp tp gtp tl gtl lk glk ph gph c3 g3 tx2 gtx2 pg2 h1 gm) adS) 183 := ⟨_, rfl, id⟩
theorem pz_r184 : pz_row D cy H (pz_b11 cy h0 c1 g1 c2 g2 tx gtx pg dd gd kp gkp tp gtp tl gtl lk glk ph gph c3 g3 tx2 gtx2 pg2 ++ pz_b12 cy h1 gm) (pz_ad (pz_adl h0 c1 g1 c2 g2 tx gtx pg dd gd kp gkp tp gtp tl gtl lk glk ph gph c3 g3 tx2 gtx2 pg2 h1 gm) adS) 184 := ⟨_, rfl, id⟩
theorem pz_r185 : pz_row D cy H (pz_b11 cy h0 c1 g1 c2 g2 tx gtx pg dd gd kp gkp tp gtp tl gtl lk glk ph gph c3 g3 tx2 gtx2 pg2 ++ pz_b12 cy h1 gm) (pz_ad (pz_adl h0 c1 g1 c2 g2 tx gtx pg dd gd kp gkp tp gtp tl gtl lk glk ph gph c3 g3 tx2 gtx2 pg2 h1 gm) adS) 185 := ⟨_, rfl, id⟩
theorem pz_r186 : pz_row D cy H (pz_b11 cy h0 c1 g1 c2 g2 tx gtx pg dd gd kp gkp tp gtp tl gtl lk glk ph gph c3 g3 tx2 gtx2 pg2 ++ pz_b12 cy h1 gm) (pz_ad (pz_adl h0 c1 g1 c2 g2 tx gtx pg dd gd kp gkp tp gtp tl gtl lk glk ph gph c3 g3 tx2 gtx2 pg2 h1 gm) adS) 186 := ⟨_, rfl, id⟩
theorem pz_r187 : pz_row D cy H (pz_b11 cy h0 c1 g1 c2 g2 tx gtx pg dd gd kp gkp tp gtp tl gtl lk glk ph gph c3 g3 tx2 gtx2 pg2 ++ pz_b12 cy h1 gm) (pz_ad (pz_adl h0 c1 g1 c2 g2 tx gtx pg dd gd kp gkp tp gtp tl gtl lk glk ph gph c3 g3 tx2 gtx2 pg2 h1 gm) adS) 187 := ⟨_, rfl, id⟩
theorem pz_r188 : pz_row D cy H (pz_b11 cy h0 c1 g1 c2 g2 tx gtx pg dd gd kp gkp tp gtp tl gtl lk glk ph gph c3 g3 tx2 gtx2 pg2 ++ pz_b12 cy h1 gm) (pz_ad (pz_adl h0 c1 g1 c2 g2 tx gtx pg dd gd kp gkp tp gtp tl gtl lk glk ph gph c3 g3 tx2 gtx2 pg2 h1 gm) adS) 188 := ⟨_, rfl, id⟩
theorem pz_r189 : pz_row D cy H (pz_b11 cy h0 c1 g1 c2 g2 tx gtx pg dd gd kp gkp tp gtp tl gtl lk glk ph gph c3 g3 tx2 gtx2 pg2 ++ pz_b12 cy h1 gm) (pz_ad (pz_adl h0 c1 g1 c2 g2 tx gtx pg dd gd kp gkp tp gtp tl gtl lk glk ph gph c3 g3 tx2 gtx2 pg2 h1 gm) adS) 189 := ⟨_, rfl, id⟩
theorem pz_r190 : pz_row D cy H (pz_b11 cy h0 c1 g1 c2 g2 tx gtx pg dd gd kp gkp tp gtp tl gtl lk glk ph gph c3 g3 tx2 gtx2 pg2 ++ pz_b12 cy h1 gm) (pz_ad (pz_adl h0 c1 g1 c2 g2 tx gtx pg dd gd kp gkp tp gtp tl gtl lk glk ph gph c3 g3 tx2 gtx2 pg2 h1 gm) adS) 190 := ⟨_, rfl, id⟩
theorem pz_r191 : pz_row D cy H (pz_b11 cy h0 c1 g1 c2 g2 tx gtx pg dd gd kp gkp tp gtp tl gtl lk glk ph gph c3 g3 tx2 gtx2 pg2 ++ pz_b12 cy h1 gm) (pz_ad (pz_adl h0 c1 g1 c2 g2 tx gtx pg dd gd kp gkp tp gtp tl gtl lk glk ph gph c3 g3 tx2 gtx2 pg2 h1 gm) adS) 191 := ⟨_, rfl, id⟩
theorem pz_r192 : pz_row D cy H (pz_b11 cy h0 c1 g1 c2 g2 tx gtx pg dd gd kp gkp tp gtp tl gtl lk glk ph gph c3 g3 tx2 gtx2 pg2 ++ pz_b12 cy h1 gm) (pz_ad (pz_adl h0 c1 g1 c2 g2 tx gtx pg dd gd kp gkp tp gtp tl gtl lk glk ph gph c3 g3 tx2 gtx2 pg2 h1 gm) adS) 192 := ⟨_, rfl, id⟩
theorem pz_r193 : pz_row D cy H (pz_b11 cy h0 c1 g1 c2 g2 tx gtx pg dd gd kp gkp tp gtp tl gtl lk glk ph gph c3 g3 tx2 gtx2 pg2 ++ pz_b12 cy h1 gm) (pz_ad (pz_adl h0 c1 g1 c2 g2 tx gtx pg dd gd kp gkp tp gtp tl gtl lk glk ph gph c3 g3 tx2 gtx2 pg2 h1 gm) adS) 193 := ⟨_, rfl, id⟩
theorem pz_r194 : pz_row D cy H (pz_b11 cy h0 c1 g1 c2 g2 tx gtx pg dd gd kp gkp tp gtp tl gtl lk glk ph gph c3 g3 tx2 gtx2 pg2 ++ pz_b12 cy h1 gm) (pz_ad (pz_adl h0 c1 g1 c2 g2 tx gtx pg dd gd kp gkp tp gtp tl gtl lk glk ph gph c3 g3 tx2 gtx2 pg2 h1 gm) adS) 194 := ⟨_, rfl, id⟩
theorem pz_r195 : pz_row D cy H (pz_b11 cy h0 c1 g1 c2 g2 tx gtx pg dd gd kp gkp tp gtp tl gtl lk glk ph gph c3 g3 tx2 gtx2 pg2 ++ pz_b12 cy h1 gm) (pz_ad (pz_adl h0 c1 g1 c2 g2 tx gtx pg dd gd kp gkp tp gtp tl gtl lk glk ph gph c3 g3 tx2 gtx2 pg2 h1 gm) adS) 195 := ⟨_, rfl, id⟩
theorem pz_r196 : pz_row D cy H (pz_b11 cy h0 c1 g1 c2 g2 tx gtx pg dd gd kp gkp tp gtp tl gtl lk glk ph gph c3 g3 tx2 gtx2 pg2 ++ pz_b12 cy h1 gm) (pz_ad (pz_adl h0 c1 g1 c2 g2 tx gtx pg dd gd kp gkp tp gtp tl gtl lk glk ph gph c3 g3 tx2 gtx2 pg2 h1 gm) adS) 196 := ⟨_, rfl, id⟩
theorem pz_r197 : pz_row D cy H (pz_b11 cy h0 c1 g1 c2 g2 tx gtx pg dd gd kp gkp tp gtp tl gtl lk glk ph gph c3 g3 tx2 gtx2 pg2 ++ pz_b12 cy h1 gm) (pz_ad (pz_adl h0 c1 g1 c2 g2 tx gtx pg dd gd kp gkp tp gtp tl gtl lk glk ph gph c3 g3 tx2 gtx2 pg2 h1 gm) adS) 197 := ⟨_, rfl, id⟩
theorem pz_r198 : pz_row D cy H (pz_b11 cy h0 c1 g1 c2 g2 tx gtx pg dd gd kp gkp tp gtp tl gtl lk glk ph gph c3 g3 tx2 gtx2 pg2 ++ pz_b12 cy h1 gm) (pz_ad (pz_adl h0 c1 g1 c2 g2 tx gtx pg dd gd kp gkp tp gtp tl gtl lk glk ph gph c3 g3 tx2 gtx2 pg2 h1 gm) adS) 198 := ⟨_, rfl, id⟩
theorem pz_r199 : pz_row D cy H (pz_b11 cy h0 c1 g1 c2 g2 tx gtx pg dd gd kp gkp tp gtp tl gtl lk glk ph gph c3 g3 tx2 gtx2 pg2 ++ pz_b12 cy h1 gm) (pz_ad (pz_adl h0 c1 g1 c2 g2 tx gtx pg dd gd kp gkp tp gtp tl gtl lk glk ph gph c3 g3 tx2 gtx2 pg2 h1 gm) adS) 199 := ⟨_, rfl, id⟩
theorem pz_r200 : pz_row D cy H (pz_b11 cy h0 c1 g1 c2 g2 tx gtx pg dd gd kp gkp tp gtp tl gtl lk glk ph gph c3 g3 tx2 gtx2 pg2 ++ pz_b12 cy h1 gm) (pz_ad (pz_adl h0 c1 g1 c2 g2 tx gtx pg dd gd kp gkp tp gtp tl gtl lk glk ph gph c3 g3 tx2 gtx2 pg2 h1 gm) adS) 200 := ⟨_, rfl, id⟩
theorem pz_r201 : pz_row D cy H (pz_b11 cy h0 c1 g1 c2 g2 tx gtx pg dd gd kp gkp tp gtp tl gtl lk glk ph gph c3 g3 tx2 gtx2 pg2 ++ pz_b12 cy h1 gm) (pz_ad (pz_adl h0 c1 g1 c2 g2 tx gtx pg dd gd kp gkp tp gtp tl gtl lk glk ph gph c3 g3 tx2 gtx2 pg2 h1 gm) adS) 201 := ⟨_, rfl, id⟩
theorem pz_r202 : pz_row D cy H (pz_b11 cy h0 c1 g1 c2 g2 tx gtx pg dd gd kp gkp tp gtp tl gtl lk glk ph gph c3 g3 tx2 gtx2 pg2 ++ pz_b12 cy h1 gm) (pz_ad (pz_adl h0 c1 g1 c2 g2 tx gtx pg dd gd kp gkp tp gtp tl gtl lk glk ph gph c3 g3 tx2 gtx2 pg2 h1 gm) adS) 202 := ⟨_, rfl, id⟩
theorem pz_r203 : pz_row D cy H (pz_b11 cy h0 c1 g1 c2 g2 tx gtx pg dd gd kp gkp tp gtp tl gtl lk glk ph gph c3 g3 tx2 gtx2 pg2 ++ pz_b12 cy h1 gm) (pz_ad (pz_adl h0 c1 g1 c2 g2 tx gtx pg dd gd kp gkp tp gtp tl gtl lk glk ph gph c3 g3 tx2 gtx2 pg2 h1 gm) adS) 203 := ⟨_, rfl, id⟩
theorem pz_r204 : pz_row D cy H (pz_b11 cy h0 c1 g1 c2 g2 tx gtx pg dd gd kp gkp tp gtp tl gtl lk glk ph gph c3 g3 tx2 gtx2 pg2 ++ pz_b12 cy h1 gm) (pz_ad (pz_adl h0 c1 g1 c2 g2 tx gtx pg dd gd kp gkp tp gtp tl gtl lk glk ph gph c3 g3 tx2 gtx2 pg2 h1 gm) adS) 204 := ⟨_, rfl, id⟩
theorem pz_r205 : pz_row D cy H (pz_b11 cy h0 c1 g1 c2 g2 tx gtx pg dd gd kp gkp tp gtp tl gtl lk glk ph gph c3 g3 tx2 gtx2 pg2 ++ pz_b12 cy h1 gm) (pz_ad (pz_adl h0 c1 g1 c2 g2 tx gtx pg dd gd kp gkp tp gtp tl gtl lk glk ph gph c3 g3 tx2 gtx2 pg2 h1 gm) adS) 205 := ⟨_, rfl, id⟩
theorem pz_rows : ∀ a, a < 206 → pz_row D cy H (pz_b11 cy h0 c1 g1 c2 g2 tx gtx pg dd gd kp gkp tp gtp tl gtl lk glk ph gph c3 g3 tx2 gtx2 pg2 ++ pz_b12 cy h1 gm) (pz_ad (pz_adl h0 c1 g1 c2 g2 tx gtx pg dd gd kp gkp tp gtp tl gtl lk glk ph gph c3 g3 tx2 gtx2 pg2 h1 gm) adS) a := by
  have k0 : ∀ m, m < 0 → pz_row D cy H (pz_b11 cy h0 c1 g1 c2 g2 tx gtx pg dd gd kp gkp tp gtp tl gtl lk glk ph gph c3 g3 tx2 gtx2 pg2 ++ pz_b12 cy h1 gm) (pz_ad (pz_adl h0 c1 g1 c2 g2 tx gtx pg dd gd kp gkp tp gtp tl gtl lk glk ph gph c3 g3 tx2 gtx2 pg2 h1 gm) adS) m := pz_f0
  have k1 := pz_fs k0 (pz_r0 (D := D) (cy := cy) (H := H) (adS := adS))
  have k2 := pz_fs k1 (pz_r1 (D := D) (cy := cy) (H := H) (adS := adS))
  have k3 := pz_fs k2 (pz_r2 (D := D) (cy := cy) (H := H) (adS := adS))
  have k4 := pz_fs k3 (pz_r3 (D := D) (cy := cy) (H := H) (adS := adS))
  have k5 := pz_fs k4 (pz_r4 (D := D) (cy := cy) (H := H) (adS := adS))
  have k6 := pz_fs k5 (pz_r5 (D := D) (cy := cy) (H := H) (adS := adS))
  have k7 := pz_fs k6 (pz_r6 (D := D) (cy := cy) (H := H) (adS := adS))
  have k8 := pz_fs k7 (pz_r7 (D := D) (cy := cy) (H := H) (adS := adS))
  have k9 := pz_fs k8 (pz_r8 (D := D) (cy := cy) (H := H) (adS := adS))
  have k10 := pz_fs k9 (pz_r9 (D := D) (cy := cy) (H := H) (adS := adS))
  have k11 := pz_fs k10 (pz_r10 (D := D) (cy := cy) (H := H) (adS := adS))
  have k12 := pz_fs k11 (pz_r11 (D := D) (cy := cy) (H := H) (adS := adS))
  have k13 := pz_fs k12 (pz_r12 (D := D) (cy := cy) (H := H) (adS := adS))
  have k14 := pz_fs k13 (pz_r13 (D := D) (cy := cy) (H := H) (adS := adS))
  have k15 := pz_fs k14 (pz_r14 (D := D) (cy := cy) (H := H) (adS := adS))
  have k16 := pz_fs k15 (pz_r15 (D := D) (cy := cy) (H := H) (adS := adS))
  have k17 := pz_fs k16 (pz_r16 (D := D) (cy := cy) (H := H) (adS := adS))
  have k18 := pz_fs k17 (pz_r17 (D := D) (cy := cy) (H := H) (adS := adS))
  have k19 := pz_fs k18 (pz_r18 (D := D) (cy := cy) (H := H) (adS := adS))
  have k20 := pz_fs k19 (pz_r19 (D := D) (cy := cy) (H := H) (adS := adS))
  have k21 := pz_fs k20 (pz_r20 (D := D) (cy := cy) (H := H) (adS := adS))
  have k22 := pz_fs k21 (pz_r21 (D := D) (cy := cy) (H := H) (adS := adS))
  have k23 := pz_fs k22 (pz_r22 (D := D) (cy := cy) (H := H) (adS := adS))
  have k24 := pz_fs k23 (pz_r23 (D := D) (cy := cy) (H := H) (adS := adS))
  have k25 := pz_fs k24 (pz_r24 (D := D) (cy := cy) (H := H) (adS := adS))
  have k26 := pz_fs k25 (pz_r25 (D := D) (cy := cy) (H := H) (adS := adS))
  have k27 := pz_fs k26 (pz_r26 (D := D) (cy := cy) (H := H) (adS := adS))
  have k28 := pz_fs k27 (pz_r27 (D := D) (cy := cy) (H := H) (adS := adS))
  have k29 := pz_fs k28 (pz_r28 (D := D) (cy := cy) (H := H) (adS := adS))
  have k30 := pz_fs k29 (pz_r29 (D := D) (cy := cy) (H := H) (adS := adS))
  have k31 := pz_fs k30 (pz_r30 (D := D) (cy := cy) (H := H) (adS := adS))
  have k32 := pz_fs k31 (pz_r31 (D := D) (cy := cy) (H := H) (adS := adS))
  have k33 := pz_fs k32 (pz_r32 (D := D) (cy := cy) (H := H) (adS := adS))
  have k34 := pz_fs k33 (pz_r33 (D := D) (cy := cy) (H := H) (adS := adS))
  have k35 := pz_fs k34 (pz_r34 (D := D) (cy := cy) (H := H) (adS := adS))
  have k36 := pz_fs k35 (pz_r35 (D := D) (cy := cy) (H := H) (adS := adS))
  have k37 := pz_fs k36 (pz_r36 (D := D) (cy := cy) (H := H) (adS := adS))
  have k38 := pz_fs k37 (pz_r37 (D := D) (cy := cy) (H := H) (adS := adS))
  have k39 := pz_fs k38 (pz_r38 (D := D) (cy := cy) (H := H) (adS := adS))
  have k40 := pz_fs k39 (pz_r39 (D := D) (cy := cy) (H := H) (adS := adS))
  have k41 := pz_fs k40 (pz_r40 (D := D) (cy := cy) (H := H) (adS := adS))
  have k42 := pz_fs k41 (pz_r41 (D := D) (cy := cy) (H := H) (adS := adS))
  have k43 := pz_fs k42 (pz_r42 (D := D) (cy := cy) (H := H) (adS := adS))
  have k44 := pz_fs k43 (pz_r43 (D := D) (cy := cy) (H := H) (adS := adS))
  have k45 := pz_fs k44 (pz_r44 (D := D) (cy := cy) (H := H) (adS := adS))
  have k46 := pz_fs k45 (pz_r45 (D := D) (cy := cy) (H := H) (adS := adS))
  have k47 := pz_fs k46 (pz_r46 (D := D) (cy := cy) (H := H) (adS := adS))
  have k48 := pz_fs k47 (pz_r47 (D := D) (cy := cy) (H := H) (adS := adS))
  have k49 := pz_fs k48 (pz_r48 (D := D) (cy := cy) (H := H) (adS := adS))
  have k50 := pz_fs k49 (pz_r49 (D := D) (cy := cy) (H := H) (adS := adS))
  have k51 := pz_fs k50 (pz_r50 (D := D) (cy := cy) (H := H) (adS := adS))
  have k52 := pz_fs k51 (pz_r51 (D := D) (cy := cy) (H := H) (adS := adS))
  have k53 := pz_fs k52 (pz_r52 (D := D) (cy := cy) (H := H) (adS := adS))
  have k54 := pz_fs k53 (pz_r53 (D := D) (cy := cy) (H := H) (adS := adS))
  have k55 := pz_fs k54 (pz_r54 (D := D) (cy := cy) (H := H) (adS := adS))
  have k56 := pz_fs k55 (pz_r55 (D := D) (cy := cy) (H := H) (adS := adS))
  have k57 := pz_fs k56 (pz_r56 (D := D) (cy := cy) (H := H) (adS := adS))
  have k58 := pz_fs k57 (pz_r57 (D := D) (cy := cy) (H := H) (adS := adS))
  have k59 := pz_fs k58 (pz_r58 (D := D) (cy := cy) (H := H) (adS := adS))
  have k60 := pz_fs k59 (pz_r59 (D := D) (cy := cy) (H := H) (adS := adS))
  have k61 := pz_fs k60 (pz_r60 (D := D) (cy := cy) (H := H) (adS := adS))
  have k62 := pz_fs k61 (pz_r61 (D := D) (cy := cy) (H := H) (adS := adS))
  have k63 := pz_fs k62 (pz_r62 (D := D) (cy := cy) (H := H) (adS := adS))
  have k64 := pz_fs k63 (pz_r63 (D := D) (cy := cy) (H := H) (adS := adS))
  have k65 := pz_fs k64 (pz_r64 (D := D) (cy := cy) (H := H) (adS := adS))
  have k66 := pz_fs k65 (pz_r65 (D := D) (cy := cy) (H := H) (adS := adS))
  have k67 := pz_fs k66 (pz_r66 (D := D) (cy := cy) (H := H) (adS := adS))
  have k68 := pz_fs k67 (pz_r67 (D := D) (cy := cy) (H := H) (adS := adS))
  have k69 := pz_fs k68 (pz_r68 (D := D) (cy := cy) (H := H) (adS := adS))
  have k70 := pz_fs k69 (pz_r69 (D := D) (cy := cy) (H := H) (adS := adS))
  have k71 := pz_fs k70 (pz_r70 (D := D) (cy := cy) (H := H) (adS := adS))
  have k72 := pz_fs k71 (pz_r71 (D := D) (cy := cy) (H := H) (adS := adS))
  have k73 := pz_fs k72 (pz_r72 (D := D) (cy := cy) (H := H) (adS := adS))
  have k74 := pz_fs k73 (pz_r73 (D := D) (cy := cy) (H := H) (adS := adS))
  have k75 := pz_fs k74 (pz_r74 (D := D) (cy := cy) (H := H) (adS := adS))
  have k76 := pz_fs k75 (pz_r75 (D := D) (cy := cy) (H := H) (adS := adS))
  have k77 := pz_fs k76 (pz_r76 (D := D) (cy := cy) (H := H) (adS := adS))
  have k78 := pz_fs k77 (pz_r77 (D := D) (cy := cy) (H := H) (adS := adS))
  have k79 := pz_fs k78 (pz_r78 (D := D) (cy := cy) (H := H) (adS := adS))
  have k80 := pz_fs k79 (pz_r79 (D := D) (cy := cy) (H := H) (adS := adS))
  have k81 := pz_fs k80 (pz_r80 (D := D) (cy := cy) (H := H) (adS := adS))
  have k82 := pz_fs k81 (pz_r81 (D := D) (cy := cy) (H := H) (adS := adS))
  have k83 := pz_fs k82 (pz_r82 (D := D) (cy := cy) (H := H) (adS := adS))
  have k84 := pz_fs k83 (pz_r83 (D := D) (cy := cy) (H := H) (adS := adS))
  have k85 := pz_fs k84 (pz_r84 (D := D) (cy := cy) (H := H) (adS := adS))
  have k86 := pz_fs k85 (pz_r85 (D := D) (cy := cy) (H := H) (adS := adS))
  have k87 := pz_fs k86 (pz_r86 (D := D) (cy := cy) (H := H) (adS := adS))
  have k88 := pz_fs k87 (pz_r87 (D := D) (cy := cy) (H := H) (adS := adS))
  have k89 := pz_fs k88 (pz_r88 (D := D) (cy := cy) (H := H) (adS := adS))
  have k90 := pz_fs k89 (pz_r89 (D := D) (cy := cy) (H := H) (adS := adS))
  have k91 := pz_fs k90 (pz_r90 (D := D) (cy := cy) (H := H) (adS := adS))
  have k92 := pz_fs k91 (pz_r91 (D := D) (cy := cy) (H := H) (adS := adS))
  have k93 := pz_fs k92 (pz_r92 (D := D) (cy := cy) (H := H) (adS := adS))
  have k94 := pz_fs k93 (pz_r93 (D := D) (cy := cy) (H := H) (adS := adS))
  have k95 := pz_fs k94 (pz_r94 (D := D) (cy := cy) (H := H) (adS := adS))
  have k96 := pz_fs k95 (pz_r95 (D := D) (cy := cy) (H := H) (adS := adS))
  have k97 := pz_fs k96 (pz_r96 (D := D) (cy := cy) (H := H) (adS := adS))
  have k98 := pz_fs k97 (pz_r97 (D := D) (cy := cy) (H := H) (adS := adS))
  have k99 := pz_fs k98 (pz_r98 (D := D) (cy := cy) (H := H) (adS := adS))
  have k100 := pz_fs k99 (pz_r99 (D := D) (cy := cy) (H := H) (adS := adS))
  have k101 := pz_fs k100 (pz_r100 (D := D) (cy := cy) (H := H) (adS := adS))
  have k102 := pz_fs k101 (pz_r101 (D := D) (cy := cy) (H := H) (adS := adS))
  have k103 := pz_fs k102 (pz_r102 (D := D) (cy := cy) (H := H) (adS := adS))
  have k104 := pz_fs k103 (pz_r103 (D := D) (cy := cy) (H := H) (adS := adS))
  have k105 := pz_fs k104 (pz_r104 (D := D) (cy := cy) (H := H) (adS := adS))
  have k106 := pz_fs k105 (pz_r105 (D := D) (cy := cy) (H := H) (adS := adS))
  have k107 := pz_fs k106 (pz_r106 (D := D) (cy := cy) (H := H) (adS := adS))
  have k108 := pz_fs k107 (pz_r107 (D := D) (cy := cy) (H := H) (adS := adS))
  have k109 := pz_fs k108 (pz_r108 (D := D) (cy := cy) (H := H) (adS := adS))
  have k110 := pz_fs k109 (pz_r109 (D := D) (cy := cy) (H := H) (adS := adS))
  have k111 := pz_fs k110 (pz_r110 (D := D) (cy := cy) (H := H) (adS := adS))
  have k112 := pz_fs k111 (pz_r111 (D := D) (cy := cy) (H := H) (adS := adS))
  have k113 := pz_fs k112 (pz_r112 (D := D) (cy := cy) (H := H) (adS := adS))
  have k114 := pz_fs k113 (pz_r113 (D := D) (cy := cy) (H := H) (adS := adS))
  have k115 := pz_fs k114 (pz_r114 (D := D) (cy := cy) (H := H) (adS := adS))
  have k116 := pz_fs k115 (pz_r115 (D := D) (cy := cy) (H := H) (adS := adS))
  have k117 := pz_fs k116 (pz_r116 (D := D) (cy := cy) (H := H) (adS := adS))
  have k118 := pz_fs k117 (pz_r117 (D := D) (cy := cy) (H := H) (adS := adS))
  have k119 := pz_fs k118 (pz_r118 (D := D) (cy := cy) (H := H) (adS := adS))
  have k120 := pz_fs k119 (pz_r119 (D := D) (cy := cy) (H := H) (adS := adS))
  have k121 := pz_fs k120 (pz_r120 (D := D) (cy := cy) (H := H) (adS := adS))
  have k122 := pz_fs k121 (pz_r121 (D := D) (cy := cy) (H := H) (adS := adS))
  have k123 := pz_fs k122 (pz_r122 (D := D) (cy := cy) (H := H) (adS := adS))
  have k124 := pz_fs k123 (pz_r123 (D := D) (cy := cy) (H := H) (adS := adS))
  have k125 := pz_fs k124 (pz_r124 (D := D) (cy := cy) (H := H) (adS := adS))
  have k126 := pz_fs k125 (pz_r125 (D := D) (cy := cy) (H := H) (adS := adS))
  have k127 := pz_fs k126 (pz_r126 (D := D) (cy := cy) (H := H) (adS := adS))
  have k128 := pz_fs k127 (pz_r127 (D := D) (cy := cy) (H := H) (adS := adS))
  have k129 := pz_fs k128 (pz_r128 (D := D) (cy := cy) (H := H) (adS := adS))
  have k130 := pz_fs k129 (pz_r129 (D := D) (cy := cy) (H := H) (adS := adS))
  have k131 := pz_fs k130 (pz_r130 (D := D) (cy := cy) (H := H) (adS := adS))
  have k132 := pz_fs k131 (pz_r131 (D := D) (cy := cy) (H := H) (adS := adS))
  have k133 := pz_fs k132 (pz_r132 (D := D) (cy := cy) (H := H) (adS := adS))
  have k134 := pz_fs k133 (pz_r133 (D := D) (cy := cy) (H := H) (adS := adS))
  have k135 := pz_fs k134 (pz_r134 (D := D) (cy := cy) (H := H) (adS := adS))
  have k136 := pz_fs k135 (pz_r135 (D := D) (cy := cy) (H := H) (adS := adS))
  have k137 := pz_fs k136 (pz_r136 (D := D) (cy := cy) (H := H) (adS := adS))
  have k138 := pz_fs k137 (pz_r137 (D := D) (cy := cy) (H := H) (adS := adS))
  have k139 := pz_fs k138 (pz_r138 (D := D) (cy := cy) (H := H) (adS := adS))
  have k140 := pz_fs k139 (pz_r139 (D := D) (cy := cy) (H := H) (adS := adS))
  have k141 := pz_fs k140 (pz_r140 (D := D) (cy := cy) (H := H) (adS := adS))
  have k142 := pz_fs k141 (pz_r141 (D := D) (cy := cy) (H := H) (adS := adS))
  have k143 := pz_fs k142 (pz_r142 (D := D) (cy := cy) (H := H) (adS := adS))
  have k144 := pz_fs k143 (pz_r143 (D := D) (cy := cy) (H := H) (adS := adS))
  have k145 := pz_fs k144 (pz_r144 (D := D) (cy := cy) (H := H) (adS := adS))
  have k146 := pz_fs k145 (pz_r145 (D := D) (cy := cy) (H := H) (adS := adS))
  have k147 := pz_fs k146 (pz_r146 (D := D) (cy := cy) (H := H) (adS := adS))
  have k148 := pz_fs k147 (pz_r147 (D := D) (cy := cy) (H := H) (adS := adS))
  have k149 := pz_fs k148 (pz_r148 (D := D) (cy := cy) (H := H) (adS := adS))
  have k150 := pz_fs k149 (pz_r149 (D := D) (cy := cy) (H := H) (adS := adS))
  have k151 := pz_fs k150 (pz_r150 (D := D) (cy := cy) (H := H) (adS := adS))
  have k152 := pz_fs k151 (pz_r151 (D := D) (cy := cy) (H := H) (adS := adS))
  have k153 := pz_fs k152 (pz_r152 (D := D) (cy := cy) (H := H) (adS := adS))
  have k154 := pz_fs k153 (pz_r153 (D := D) (cy := cy) (H := H) (adS := adS))
  have k155 := pz_fs k154 (pz_r154 (D := D) (cy := cy) (H := H) (adS := adS))
  have k156 := pz_fs k155 (pz_r155 (D := D) (cy := cy) (H := H) (adS := adS))
  have k157 := pz_fs k156 (pz_r156 (D := D) (cy := cy) (H := H) (adS := adS))
  have k158 := pz_fs k157 (pz_r157 (D := D) (cy := cy) (H := H) (adS := adS))
  have k159 := pz_fs k158 (pz_r158 (D := D) (cy := cy) (H := H) (adS := adS))
  have k160 := pz_fs k159 (pz_r159 (D := D) (cy := cy) (H := H) (adS := adS))
  have k161 := pz_fs k160 (pz_r160 (D := D) (cy := cy) (H := H) (adS := adS))
  have k162 := pz_fs k161 (pz_r161 (D := D) (cy := cy) (H := H) (adS := adS))
  have k163 := pz_fs k162 (pz_r162 (D := D) (cy := cy) (H := H) (adS := adS))
  have k164 := pz_fs k163 (pz_r163 (D := D) (cy := cy) (H := H) (adS := adS))
  have k165 := pz_fs k164 (pz_r164 (D := D) (cy := cy) (H := H) (adS := adS))
  have k166 := pz_fs k165 (pz_r165 (D := D) (cy := cy) (H := H) (adS := adS))
  have k167 := pz_fs k166 (pz_r166 (D := D) (cy := cy) (H := H) (adS := adS))
  have k168 := pz_fs k167 (pz_r167 (D := D) (cy := cy) (H := H) (adS := adS))
  have k169 := pz_fs k168 (pz_r168 (D := D) (cy := cy) (H := H) (adS := adS))
  have k170 := pz_fs k169 (pz_r169 (D := D) (cy := cy) (H := H) (adS := adS))
  have k171 := pz_fs k170 (pz_r170 (D := D) (cy := cy) (H := H) (adS := adS))
  have k172 := pz_fs k171 (pz_r171 (D := D) (cy := cy) (H := H) (adS := adS))
  have k173 := pz_fs k172 (pz_r172 (D := D) (cy := cy) (H := H) (adS := adS))
  have k174 := pz_fs k173 (pz_r173 (D := D) (cy := cy) (H := H) (adS := adS))
  have k175 := pz_fs k174 (pz_r174 (D := D) (cy := cy) (H := H) (adS := adS))
  have k176 := pz_fs k175 (pz_r175 (D := D) (cy := cy) (H := H) (adS := adS))
  have k177 := pz_fs k176 (pz_r176 (D := D) (cy := cy) (H := H) (adS := adS))
  have k178 := pz_fs k177 (pz_r177 (D := D) (cy := cy) (H := H) (adS := adS))
  have k179 := pz_fs k178 (pz_r178 (D := D) (cy := cy) (H := H) (adS := adS))
  have k180 := pz_fs k179 (pz_r179 (D := D) (cy := cy) (H := H) (adS := adS))
  have k181 := pz_fs k180 (pz_r180 (D := D) (cy := cy) (H := H) (adS := adS))
  have k182 := pz_fs k181 (pz_r181 (D := D) (cy := cy) (H := H) (adS := adS))
  have k183 := pz_fs k182 (pz_r182 (D := D) (cy := cy) (H := H) (adS := adS))
  have k184 := pz_fs k183 (pz_r183 (D := D) (cy := cy) (H := H) (adS := adS))
  have k185 := pz_fs k184 (pz_r184 (D := D) (cy := cy) (H := H) (adS := adS))
  have k186 := pz_fs k185 (pz_r185 (D := D) (cy := cy) (H := H) (adS := adS))
  have k187 := pz_fs k186 (pz_r186 (D := D) (cy := cy) (H := H) (adS := adS))
  have k188 := pz_fs k187 (pz_r187 (D := D) (cy := cy) (H := H) (adS := adS))
  have k189 := pz_fs k188 (pz_r188 (D := D) (cy := cy) (H := H) (adS := adS))
  have k190 := pz_fs k189 (pz_r189 (D := D) (cy := cy) (H := H) (adS := adS))
  have k191 := pz_fs k190 (pz_r190 (D := D) (cy := cy) (H := H) (adS := adS))
  have k192 := pz_fs k191 (pz_r191 (D := D) (cy := cy) (H := H) (adS := adS))
  have k193 := pz_fs k192 (pz_r192 (D := D) (cy := cy) (H := H) (adS := adS))
  have k194 := pz_fs k193 (pz_r193 (D := D) (cy := cy) (H := H) (adS := adS))
  have k195 := pz_fs k194 (pz_r194 (D := D) (cy := cy) (H := H) (adS := adS))
  have k196 := pz_fs k195 (pz_r195 (D := D) (cy := cy) (H := H) (adS := adS))
  have k197 := pz_fs k196 (pz_r196 (D := D) (cy := cy) (H := H) (adS := adS))
  have k198 := pz_fs k197 (pz_r197 (D := D) (cy := cy) (H := H) (adS := adS))
  have k199 := pz_fs k198 (pz_r198 (D := D) (cy := cy) (H := H) (adS := adS))
  have k200 := pz_fs k199 (pz_r199 (D := D) (cy := cy) (H := H) (adS := adS))
  have k201 := pz_fs k200 (pz_r200 (D := D) (cy := cy) (H := H) (adS := adS))
  have k202 := pz_fs k201 (pz_r201 (D := D) (cy := cy) (H := H) (adS := adS))
  have k203 := pz_fs k202 (pz_r202 (D := D) (cy := cy) (H := H) (adS := adS))
  have k204 := pz_fs k203 (pz_r203 (D := D) (cy := cy) (H := H) (adS := adS))
  have k205 := pz_fs k204 (pz_r204 (D := D) (cy := cy) (H := H) (adS := adS))
  have k206 := pz_fs k205 (pz_r205 (D := D) (cy := cy) (H := H) (adS := adS))
  exact k206
theorem pz_asmP (hP : va_P D vwCl (pz_b11 cy h0 c1 g1 c2 g2 tx gtx pg dd gd kp gkp tp gtp tl gtl lk glk ph gph c3 g3 tx2 gtx2 pg2 ++ pz_b12 cy h1 gm) H) : va_P D vwCl (pz_ws (pz_ad (pz_adl h0 c1 g1 c2 g2 tx gtx pg dd gd kp gkp tp gtp tl gtl lk glk ph gph c3 g3 tx2 gtx2 pg2 h1 gm) adS) cy pz_M0) H := by
  intro k q hk
  have hl : k < 206 := by
    have := (List.getElem?_eq_some_iff.mp hk).1
    simpa [pz_ws] using this
  rw [pz_ws_get hl] at hk
  cases hk
  obtain ⟨e, h1, h2⟩ := pz_rows (D := D) (cy := cy) (H := H) (adS := adS) k hl
  exact h2 (hP _ _ h1)
theorem pz_asmD {A : Nat → Prop} (hD : va_D A (pz_b11 cy h0 c1 g1 c2 g2 tx gtx pg dd gd kp gkp tp gtp tl gtl lk glk ph gph c3 g3 tx2 gtx2 pg2 ++ pz_b12 cy h1 gm)) : (∀ i j : Nat, i < 206 → j < 206 → (pz_ad (pz_adl h0 c1 g1 c2 g2 tx gtx pg dd gd kp gkp tp gtp tl gtl lk glk ph gph c3 g3 tx2 gtx2 pg2 h1 gm) adS) i = (pz_ad (pz_adl h0 c1 g1 c2 g2 tx gtx pg dd gd kp gkp tp gtp tl gtl lk glk ph gph c3 g3 tx2 gtx2 pg2 h1 gm) adS) j → i = j) ∧ ∀ i : Nat, i < 206 → A ((pz_ad (pz_adl h0 c1 g1 c2 g2 tx gtx pg dd gd kp gkp tp gtp tl gtl lk glk ph gph c3 g3 tx2 gtx2 pg2 h1 gm) adS) i) := by
  refine ⟨fun i j hi hj he => ?_, fun i hi => ?_⟩
  · obtain ⟨e, h1, -⟩ := pz_rows (D := (fun _ => 0, fun _ _ => 0)) (cy := cy) (H := #[]) (adS := adS) i hi
    obtain ⟨e', h2, -⟩ := pz_rows (D := (fun _ => 0, fun _ _ => 0)) (cy := cy) (H := #[]) (adS := adS) j hj
    have h3 := hD.1 _ _ _ _ h1 h2 he
    rw [← pz_pos_inv i hi, ← pz_pos_inv j hj, h3]
  · obtain ⟨e, h1, -⟩ := pz_rows (D := (fun _ => 0, fun _ _ => 0)) (cy := cy) (H := #[]) (adS := adS) i hi
    exact hD.2 _ _ h1
end PZ16
