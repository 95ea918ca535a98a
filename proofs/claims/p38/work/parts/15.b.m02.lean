section
section PZ16
variable {D : va_G} {cy : Nat → ClassId} {H : Heap} {adS : Nat → Nat} {h0 : Nat} {c1 : Nat} {g1 : Nat → Nat} {c2 : Nat} {g2 : Nat → Nat} {tx : Nat} {gtx : (Nat × (Nat → Nat)) × (Nat × (Nat → Nat)) × (Nat × (Nat → Nat)) × Nat × (Nat → Nat)} {pg : Nat} {dd : Nat} {gd : Nat → Nat} {kp : Nat} {gkp : (Nat → Nat) × (Nat → Nat → Nat)} {tp : Nat} {gtp : Nat → Nat} {tl : Nat} {gtl : (Nat × (Nat → Nat)) × Nat × (Nat → Nat)} {lk : Nat} {glk : Nat → Nat} {ph : Nat} {gph : Nat → Nat} {c3 : Nat} {g3 : Nat → Nat} {tx2 : Nat} {gtx2 : (Nat × (Nat → Nat)) × (Nat × (Nat → Nat)) × (Nat × (Nat → Nat)) × Nat × (Nat → Nat)} {pg2 : Nat} {h1 : Nat} {gm : Nat → Nat}
theorem pz_ro0 : pz_rw6 D cy H (pz_WL cy h0 c1 g1 c2 g2 tx gtx pg dd gd kp gkp tp gtp tl gtl lk glk ph gph c3 g3 tx2 gtx2 pg2 h1 gm) (pz_ad (pz_adl h0 c1 g1 c2 g2 tx gtx pg dd gd kp gkp tp gtp tl gtl lk glk ph gph c3 g3 tx2 gtx2 pg2 h1 gm) adS) 0 := ⟨.inr (11, [.ref c1, .ref c2, .ref tx, .ref pg, .ref dd, .ref kp, .ref tp, .ref tl, .ref lk, .ref ph, .ref c3, .ref tx2, .ref pg2, .int 0]), rfl, fun h => by
  rw [pz_o11 (a := 0) (M := pz_M0) rfl rfl rfl rfl rfl rfl rfl rfl rfl rfl rfl rfl rfl rfl ((congrArg Int32.ofInt (pz_M0_z (a := 0) (k := 13) (by omega) (by omega) (by omega) (by omega))).trans pz_i0)]
  exact h⟩
theorem pz_ro1 : pz_rw6 D cy H (pz_WL cy h0 c1 g1 c2 g2 tx gtx pg dd gd kp gkp tp gtp tl gtl lk glk ph gph c3 g3 tx2 gtx2 pg2 h1 gm) (pz_ad (pz_adl h0 c1 g1 c2 g2 tx gtx pg dd gd kp gkp tp gtp tl gtl lk glk ph gph c3 g3 tx2 gtx2 pg2 h1 gm) adS) 1 := ⟨.inr (12, [.ref (gm 0), .ref (gm 1), .ref (gm 2), .ref (gm 3), .int 0, .int 0, .ref (gm 4), .ref (gm 5), .ref (gm 6), .ref (gm 7), .ref (gm 8), .ref (gm 9), .int 0, .int 0, .int 0, .int 0, .int 0, .int 0, .int 0, .int 0, .int 0, .int 0, .int 0, .int 0, .int 0, .int (-1), .int 0, .ref (gm 10)]), rfl, fun h => by
  rw [pz_o12 (a := 1) (M := pz_M0) rfl rfl rfl rfl rfl ((congrArg Int32.ofInt (pz_M0_z (a := 1) (k := 4) (by omega) (by omega) (by omega) (by omega))).trans pz_i0) ((congrArg Int32.ofInt (pz_M0_z (a := 1) (k := 5) (by omega) (by omega) (by omega) (by omega))).trans pz_i0) rfl rfl rfl rfl rfl rfl ((congrArg Int32.ofInt (pz_M0_z (a := 1) (k := 12) (by omega) (by omega) (by omega) (by omega))).trans pz_i0) ((congrArg Int32.ofInt (pz_M0_z (a := 1) (k := 13) (by omega) (by omega) (by omega) (by omega))).trans pz_i0) ((congrArg Int32.ofInt (pz_M0_z (a := 1) (k := 14) (by omega) (by omega) (by omega) (by omega))).trans pz_i0) ((congrArg Int32.ofInt (pz_M0_z (a := 1) (k := 15) (by omega) (by omega) (by omega) (by omega))).trans pz_i0) ((congrArg Int32.ofInt (pz_M0_z (a := 1) (k := 16) (by omega) (by omega) (by omega) (by omega))).trans pz_i0) ((congrArg Int32.ofInt (pz_M0_z (a := 1) (k := 17) (by omega) (by omega) (by omega) (by omega))).trans pz_i0) ((congrArg Int32.ofInt (pz_M0_z (a := 1) (k := 18) (by omega) (by omega) (by omega) (by omega))).trans pz_i0) ((congrArg Int32.ofInt (pz_M0_z (a := 1) (k := 19) (by omega) (by omega) (by omega) (by omega))).trans pz_i0) ((congrArg Int32.ofInt (pz_M0_z (a := 1) (k := 20) (by omega) (by omega) (by omega) (by omega))).trans pz_i0) ((congrArg Int32.ofInt (pz_M0_z (a := 1) (k := 21) (by omega) (by omega) (by omega) (by omega))).trans pz_i0) ((congrArg Int32.ofInt (pz_M0_z (a := 1) (k := 22) (by omega) (by omega) (by omega) (by omega))).trans pz_i0) ((congrArg Int32.ofInt (pz_M0_z (a := 1) (k := 23) (by omega) (by omega) (by omega) (by omega))).trans pz_i0) ((congrArg Int32.ofInt (pz_M0_z (a := 1) (k := 24) (by omega) (by omega) (by omega) (by omega))).trans pz_i0) ((congrArg Int32.ofInt (show pz_M0 1 25 = -1 from rfl)).trans pz_im1) ((congrArg Int32.ofInt (pz_M0_z (a := 1) (k := 26) (by omega) (by omega) (by omega) (by omega))).trans pz_i0) rfl]
  exact h⟩
theorem pz_ro2 : pz_rw6 D cy H (pz_WL cy h0 c1 g1 c2 g2 tx gtx pg dd gd kp gkp tp gtp tl gtl lk glk ph gph c3 g3 tx2 gtx2 pg2 h1 gm) (pz_ad (pz_adl h0 c1 g1 c2 g2 tx gtx pg dd gd kp gkp tp gtp tl gtl lk glk ph gph c3 g3 tx2 gtx2 pg2 h1 gm) adS) 2 := ⟨.inr (1, [.ref tx, .ref pg]), rfl, fun h => by
  rw [pz_o1 (a := 2) (M := pz_M0) rfl rfl rfl]
  exact h⟩
theorem pz_ro3 : pz_rw6 D cy H (pz_WL cy h0 c1 g1 c2 g2 tx gtx pg dd gd kp gkp tp gtp tl gtl lk glk ph gph c3 g3 tx2 gtx2 pg2 h1 gm) (pz_ad (pz_adl h0 c1 g1 c2 g2 tx gtx pg dd gd kp gkp tp gtp tl gtl lk glk ph gph c3 g3 tx2 gtx2 pg2 h1 gm) adS) 3 := ⟨.inr (2, [.ref (gkp.1 0), .int 0, .int 0]), rfl, fun h => by
  rw [pz_o2 (a := 3) (M := pz_M0) rfl rfl ((congrArg Int32.ofInt (pz_M0_z (a := 3) (k := 1) (by omega) (by omega) (by omega) (by omega))).trans pz_i0) ((congrArg Int32.ofInt (pz_M0_z (a := 3) (k := 2) (by omega) (by omega) (by omega) (by omega))).trans pz_i0)]
  exact h⟩
theorem pz_ro4 : pz_rw6 D cy H (pz_WL cy h0 c1 g1 c2 g2 tx gtx pg dd gd kp gkp tp gtp tl gtl lk glk ph gph c3 g3 tx2 gtx2 pg2 h1 gm) (pz_ad (pz_adl h0 c1 g1 c2 g2 tx gtx pg dd gd kp gkp tp gtp tl gtl lk glk ph gph c3 g3 tx2 gtx2 pg2 h1 gm) adS) 4 := ⟨.inr (7, [.ref (gtp 0), .int 0, .ref (gtp 1), .ref (gtp 2), .ref (gtp 3)]), rfl, fun h => by
  rw [pz_o7 (a := 4) (M := pz_M0) rfl rfl ((congrArg Int32.ofInt (pz_M0_z (a := 4) (k := 1) (by omega) (by omega) (by omega) (by omega))).trans pz_i0) rfl rfl rfl]
  exact h⟩
theorem pz_ro5 : pz_rw6 D cy H (pz_WL cy h0 c1 g1 c2 g2 tx gtx pg dd gd kp gkp tp gtp tl gtl lk glk ph gph c3 g3 tx2 gtx2 pg2 h1 gm) (pz_ad (pz_adl h0 c1 g1 c2 g2 tx gtx pg dd gd kp gkp tp gtp tl gtl lk glk ph gph c3 g3 tx2 gtx2 pg2 h1 gm) adS) 5 := ⟨.inr (9, [.ref tp, .ref gtl.1.1, .ref gtl.2.1, .int 0, .int (-1), .int 0, .int 0, .int 0, .int 0, .int 0]), rfl, fun h => by
  rw [pz_o9 (a := 5) (M := pz_M0) rfl rfl rfl rfl ((congrArg Int32.ofInt (pz_M0_z (a := 5) (k := 3) (by omega) (by omega) (by omega) (by omega))).trans pz_i0) ((congrArg Int32.ofInt (show pz_M0 5 4 = -1 from rfl)).trans pz_im1) ((congrArg Int32.ofInt (pz_M0_z (a := 5) (k := 5) (by omega) (by omega) (by omega) (by omega))).trans pz_i0) ((congrArg Int32.ofInt (pz_M0_z (a := 5) (k := 6) (by omega) (by omega) (by omega) (by omega))).trans pz_i0) ((congrArg Int32.ofInt (pz_M0_z (a := 5) (k := 7) (by omega) (by omega) (by omega) (by omega))).trans pz_i0) ((congrArg Int32.ofInt (pz_M0_z (a := 5) (k := 8) (by omega) (by omega) (by omega) (by omega))).trans pz_i0) ((congrArg Int32.ofInt (pz_M0_z (a := 5) (k := 9) (by omega) (by omega) (by omega) (by omega))).trans pz_i0)]
  exact h⟩
theorem pz_ro6 : pz_rw6 D cy H (pz_WL cy h0 c1 g1 c2 g2 tx gtx pg dd gd kp gkp tp gtp tl gtl lk glk ph gph c3 g3 tx2 gtx2 pg2 h1 gm) (pz_ad (pz_adl h0 c1 g1 c2 g2 tx gtx pg dd gd kp gkp tp gtp tl gtl lk glk ph gph c3 g3 tx2 gtx2 pg2 h1 gm) adS) 6 := ⟨.inr (4, [.ref gtx.1.1, .ref (glk 0), .ref (glk 1), .ref (glk 2), .ref (glk 3)]), rfl, fun h => by
  rw [pz_o4 (a := 6) (M := pz_M0) rfl rfl rfl rfl rfl rfl]
  exact h⟩
theorem pz_ro7 : pz_rw6 D cy H (pz_WL cy h0 c1 g1 c2 g2 tx gtx pg dd gd kp gkp tp gtp tl gtl lk glk ph gph c3 g3 tx2 gtx2 pg2 h1 gm) (pz_ad (pz_adl h0 c1 g1 c2 g2 tx gtx pg dd gd kp gkp tp gtp tl gtl lk glk ph gph c3 g3 tx2 gtx2 pg2 h1 gm) adS) 7 := ⟨.inr (8, [.int 0, .int 0, .int 0, .int 0, .ref (gph 0), .ref (gph 1), .ref (gph 2), .ref (gph 3)]), rfl, fun h => by
  rw [pz_o8 (a := 7) (M := pz_M0) rfl ((congrArg Int32.ofInt (pz_M0_z (a := 7) (k := 0) (by omega) (by omega) (by omega) (by omega))).trans pz_i0) ((congrArg Int32.ofInt (pz_M0_z (a := 7) (k := 1) (by omega) (by omega) (by omega) (by omega))).trans pz_i0) ((congrArg Int32.ofInt (pz_M0_z (a := 7) (k := 2) (by omega) (by omega) (by omega) (by omega))).trans pz_i0) ((congrArg Int32.ofInt (pz_M0_z (a := 7) (k := 3) (by omega) (by omega) (by omega) (by omega))).trans pz_i0) rfl rfl rfl rfl]
  exact h⟩
theorem pz_ro8 : pz_rw6 D cy H (pz_WL cy h0 c1 g1 c2 g2 tx gtx pg dd gd kp gkp tp gtp tl gtl lk glk ph gph c3 g3 tx2 gtx2 pg2 h1 gm) (pz_ad (pz_adl h0 c1 g1 c2 g2 tx gtx pg dd gd kp gkp tp gtp tl gtl lk glk ph gph c3 g3 tx2 gtx2 pg2 h1 gm) adS) 8 := ⟨.inr (10, [.ref gtx.1.1, .ref gtx.2.1.1, .ref gtx.2.2.1.1, .ref gtx.2.2.2.1]), rfl, fun h => by
  rw [pz_o10 (a := 8) (M := pz_M0) rfl rfl rfl rfl rfl]
  exact h⟩
theorem pz_ro9 : pz_rw6 D cy H (pz_WL cy h0 c1 g1 c2 g2 tx gtx pg dd gd kp gkp tp gtp tl gtl lk glk ph gph c3 g3 tx2 gtx2 pg2 h1 gm) (pz_ad (pz_adl h0 c1 g1 c2 g2 tx gtx pg dd gd kp gkp tp gtp tl gtl lk glk ph gph c3 g3 tx2 gtx2 pg2 h1 gm) adS) 9 := ⟨.inr (10, [.ref gtx2.1.1, .ref gtx2.2.1.1, .ref gtx2.2.2.1.1, .ref gtx2.2.2.2.1]), rfl, fun h => by
  rw [pz_o10 (a := 9) (M := pz_M0) rfl rfl rfl rfl rfl]
  exact h⟩
theorem pz_ro10 : pz_rw6 D cy H (pz_WL cy h0 c1 g1 c2 g2 tx gtx pg dd gd kp gkp tp gtp tl gtl lk glk ph gph c3 g3 tx2 gtx2 pg2 h1 gm) (pz_ad (pz_adl h0 c1 g1 c2 g2 tx gtx pg dd gd kp gkp tp gtp tl gtl lk glk ph gph c3 g3 tx2 gtx2 pg2 h1 gm) adS) 10 := ⟨.inr (3, [.int 0, .int 0, .ref (gtx.1.2 0), .ref (gtx.1.2 1), .ref (gtx.1.2 2), .ref (gtx.1.2 3), .ref (gtx.1.2 4), .ref (gtx.1.2 5)]), rfl, fun h => by
  rw [pz_o3 (a := 10) (M := pz_M0) rfl ((congrArg Int32.ofInt (pz_M0_z (a := 10) (k := 0) (by omega) (by omega) (by omega) (by omega))).trans pz_i0) ((congrArg Int32.ofInt (pz_M0_z (a := 10) (k := 1) (by omega) (by omega) (by omega) (by omega))).trans pz_i0) rfl rfl rfl rfl rfl rfl]
  exact h⟩
theorem pz_ro11 : pz_rw6 D cy H (pz_WL cy h0 c1 g1 c2 g2 tx gtx pg dd gd kp gkp tp gtp tl gtl lk glk ph gph c3 g3 tx2 gtx2 pg2 h1 gm) (pz_ad (pz_adl h0 c1 g1 c2 g2 tx gtx pg dd gd kp gkp tp gtp tl gtl lk glk ph gph c3 g3 tx2 gtx2 pg2 h1 gm) adS) 11 := ⟨.inr (3, [.int 0, .int 0, .ref (gtx2.1.2 0), .ref (gtx2.1.2 1), .ref (gtx2.1.2 2), .ref (gtx2.1.2 3), .ref (gtx2.1.2 4), .ref (gtx2.1.2 5)]), rfl, fun h => by
  rw [pz_o3 (a := 11) (M := pz_M0) rfl ((congrArg Int32.ofInt (pz_M0_z (a := 11) (k := 0) (by omega) (by omega) (by omega) (by omega))).trans pz_i0) ((congrArg Int32.ofInt (pz_M0_z (a := 11) (k := 1) (by omega) (by omega) (by omega) (by omega))).trans pz_i0) rfl rfl rfl rfl rfl rfl]
  exact h⟩
theorem pz_ro12 : pz_rw6 D cy H (pz_WL cy h0 c1 g1 c2 g2 tx gtx pg dd gd kp gkp tp gtp tl gtl lk glk ph gph c3 g3 tx2 gtx2 pg2 h1 gm) (pz_ad (pz_adl h0 c1 g1 c2 g2 tx gtx pg dd gd kp gkp tp gtp tl gtl lk glk ph gph c3 g3 tx2 gtx2 pg2 h1 gm) adS) 12 := ⟨.inr (3, [.int 0, .int 0, .ref (gtl.1.2 0), .ref (gtl.1.2 1), .ref (gtl.1.2 2), .ref (gtl.1.2 3), .ref (gtl.1.2 4), .ref (gtl.1.2 5)]), rfl, fun h => by
  rw [pz_o3 (a := 12) (M := pz_M0) rfl ((congrArg Int32.ofInt (pz_M0_z (a := 12) (k := 0) (by omega) (by omega) (by omega) (by omega))).trans pz_i0) ((congrArg Int32.ofInt (pz_M0_z (a := 12) (k := 1) (by omega) (by omega) (by omega) (by omega))).trans pz_i0) rfl rfl rfl rfl rfl rfl]
  exact h⟩
theorem pz_ro13 : pz_rw6 D cy H (pz_WL cy h0 c1 g1 c2 g2 tx gtx pg dd gd kp gkp tp gtp tl gtl lk glk ph gph c3 g3 tx2 gtx2 pg2 h1 gm) (pz_ad (pz_adl h0 c1 g1 c2 g2 tx gtx pg dd gd kp gkp tp gtp tl gtl lk glk ph gph c3 g3 tx2 gtx2 pg2 h1 gm) adS) 13 := ⟨.inr (6, [.int 0, .ref (gtx.2.1.2 0)]), rfl, fun h => by
  rw [pz_o6 (a := 13) (M := pz_M0) rfl ((congrArg Int32.ofInt (pz_M0_z (a := 13) (k := 0) (by omega) (by omega) (by omega) (by omega))).trans pz_i0) rfl]
  exact h⟩
theorem pz_ro14 : pz_rw6 D cy H (pz_WL cy h0 c1 g1 c2 g2 tx gtx pg dd gd kp gkp tp gtp tl gtl lk glk ph gph c3 g3 tx2 gtx2 pg2 h1 gm) (pz_ad (pz_adl h0 c1 g1 c2 g2 tx gtx pg dd gd kp gkp tp gtp tl gtl lk glk ph gph c3 g3 tx2 gtx2 pg2 h1 gm) adS) 14 := ⟨.inr (6, [.int 0, .ref (gtx.2.2.1.2 0)]), rfl, fun h => by
  rw [pz_o6 (a := 14) (M := pz_M0) rfl ((congrArg Int32.ofInt (pz_M0_z (a := 14) (k := 0) (by omega) (by omega) (by omega) (by omega))).trans pz_i0) rfl]
  exact h⟩
theorem pz_ro15 : pz_rw6 D cy H (pz_WL cy h0 c1 g1 c2 g2 tx gtx pg dd gd kp gkp tp gtp tl gtl lk glk ph gph c3 g3 tx2 gtx2 pg2 h1 gm) (pz_ad (pz_adl h0 c1 g1 c2 g2 tx gtx pg dd gd kp gkp tp gtp tl gtl lk glk ph gph c3 g3 tx2 gtx2 pg2 h1 gm) adS) 15 := ⟨.inr (6, [.int 0, .ref (gtx.2.2.2.2 0)]), rfl, fun h => by
  rw [pz_o6 (a := 15) (M := pz_M0) rfl ((congrArg Int32.ofInt (pz_M0_z (a := 15) (k := 0) (by omega) (by omega) (by omega) (by omega))).trans pz_i0) rfl]
  exact h⟩
theorem pz_ro16 : pz_rw6 D cy H (pz_WL cy h0 c1 g1 c2 g2 tx gtx pg dd gd kp gkp tp gtp tl gtl lk glk ph gph c3 g3 tx2 gtx2 pg2 h1 gm) (pz_ad (pz_adl h0 c1 g1 c2 g2 tx gtx pg dd gd kp gkp tp gtp tl gtl lk glk ph gph c3 g3 tx2 gtx2 pg2 h1 gm) adS) 16 := ⟨.inr (6, [.int 0, .ref (gtx2.2.1.2 0)]), rfl, fun h => by
  rw [pz_o6 (a := 16) (M := pz_M0) rfl ((congrArg Int32.ofInt (pz_M0_z (a := 16) (k := 0) (by omega) (by omega) (by omega) (by omega))).trans pz_i0) rfl]
  exact h⟩
theorem pz_ro17 : pz_rw6 D cy H (pz_WL cy h0 c1 g1 c2 g2 tx gtx pg dd gd kp gkp tp gtp tl gtl lk glk ph gph c3 g3 tx2 gtx2 pg2 h1 gm) (pz_ad (pz_adl h0 c1 g1 c2 g2 tx gtx pg dd gd kp gkp tp gtp tl gtl lk glk ph gph c3 g3 tx2 gtx2 pg2 h1 gm) adS) 17 := ⟨.inr (6, [.int 0, .ref (gtx2.2.2.1.2 0)]), rfl, fun h => by
  rw [pz_o6 (a := 17) (M := pz_M0) rfl ((congrArg Int32.ofInt (pz_M0_z (a := 17) (k := 0) (by omega) (by omega) (by omega) (by omega))).trans pz_i0) rfl]
  exact h⟩
theorem pz_ro18 : pz_rw6 D cy H (pz_WL cy h0 c1 g1 c2 g2 tx gtx pg dd gd kp gkp tp gtp tl gtl lk glk ph gph c3 g3 tx2 gtx2 pg2 h1 gm) (pz_ad (pz_adl h0 c1 g1 c2 g2 tx gtx pg dd gd kp gkp tp gtp tl gtl lk glk ph gph c3 g3 tx2 gtx2 pg2 h1 gm) adS) 18 := ⟨.inr (6, [.int 0, .ref (gtx2.2.2.2.2 0)]), rfl, fun h => by
  rw [pz_o6 (a := 18) (M := pz_M0) rfl ((congrArg Int32.ofInt (pz_M0_z (a := 18) (k := 0) (by omega) (by omega) (by omega) (by omega))).trans pz_i0) rfl]
  exact h⟩
theorem pz_ro19 : pz_rw6 D cy H (pz_WL cy h0 c1 g1 c2 g2 tx gtx pg dd gd kp gkp tp gtp tl gtl lk glk ph gph c3 g3 tx2 gtx2 pg2 h1 gm) (pz_ad (pz_adl h0 c1 g1 c2 g2 tx gtx pg dd gd kp gkp tp gtp tl gtl lk glk ph gph c3 g3 tx2 gtx2 pg2 h1 gm) adS) 19 := ⟨.inr (6, [.int 0, .ref (gtl.2.2 0)]), rfl, fun h => by
  rw [pz_o6 (a := 19) (M := pz_M0) rfl ((congrArg Int32.ofInt (pz_M0_z (a := 19) (k := 0) (by omega) (by omega) (by omega) (by omega))).trans pz_i0) rfl]
  exact h⟩
theorem pz_ro20 : pz_rw6 D cy H (pz_WL cy h0 c1 g1 c2 g2 tx gtx pg dd gd kp gkp tp gtp tl gtl lk glk ph gph c3 g3 tx2 gtx2 pg2 h1 gm) (pz_ad (pz_adl h0 c1 g1 c2 g2 tx gtx pg dd gd kp gkp tp gtp tl gtl lk glk ph gph c3 g3 tx2 gtx2 pg2 h1 gm) adS) 20 := ⟨.inl (cy 0, 80, .inl (fun _ => 0)), rfl, fun h => by
  rw [pz_enA (a := 20) 17 0 80 rfl (by decide) rfl (by decide) (fun _ => pz_M0_zA (by decide))]
  exact h⟩
theorem pz_ro21 : pz_rw6 D cy H (pz_WL cy h0 c1 g1 c2 g2 tx gtx pg dd gd kp gkp tp gtp tl gtl lk glk ph gph c3 g3 tx2 gtx2 pg2 h1 gm) (pz_ad (pz_adl h0 c1 g1 c2 g2 tx gtx pg dd gd kp gkp tp gtp tl gtl lk glk ph gph c3 g3 tx2 gtx2 pg2 h1 gm) adS) 21 := ⟨.inl (cy 0, 80, .inl (fun _ => 0)), rfl, fun h => by
  rw [pz_enA (a := 21) 17 0 80 rfl (by decide) rfl (by decide) (fun _ => pz_M0_zA (by decide))]
  exact h⟩
theorem pz_ro22 : pz_rw6 D cy H (pz_WL cy h0 c1 g1 c2 g2 tx gtx pg dd gd kp gkp tp gtp tl gtl lk glk ph gph c3 g3 tx2 gtx2 pg2 h1 gm) (pz_ad (pz_adl h0 c1 g1 c2 g2 tx gtx pg dd gd kp gkp tp gtp tl gtl lk glk ph gph c3 g3 tx2 gtx2 pg2 h1 gm) adS) 22 := ⟨.inl (cy 0, 80, .inl (fun _ => 0)), rfl, fun h => by
  rw [pz_enA (a := 22) 17 0 80 rfl (by decide) rfl (by decide) (fun _ => pz_M0_zA (by decide))]
  exact h⟩
theorem pz_ro23 : pz_rw6 D cy H (pz_WL cy h0 c1 g1 c2 g2 tx gtx pg dd gd kp gkp tp gtp tl gtl lk glk ph gph c3 g3 tx2 gtx2 pg2 h1 gm) (pz_ad (pz_adl h0 c1 g1 c2 g2 tx gtx pg dd gd kp gkp tp gtp tl gtl lk glk ph gph c3 g3 tx2 gtx2 pg2 h1 gm) adS) 23 := ⟨.inl (cy 0, 80, .inl (fun _ => 0)), rfl, fun h => by
  rw [pz_enA (a := 23) 17 0 80 rfl (by decide) rfl (by decide) (fun _ => pz_M0_zA (by decide))]
  exact h⟩
theorem pz_ro24 : pz_rw6 D cy H (pz_WL cy h0 c1 g1 c2 g2 tx gtx pg dd gd kp gkp tp gtp tl gtl lk glk ph gph c3 g3 tx2 gtx2 pg2 h1 gm) (pz_ad (pz_adl h0 c1 g1 c2 g2 tx gtx pg dd gd kp gkp tp gtp tl gtl lk glk ph gph c3 g3 tx2 gtx2 pg2 h1 gm) adS) 24 := ⟨.inl (cy 0, 80, .inl (fun _ => 0)), rfl, fun h => by
  rw [pz_enA (a := 24) 17 0 80 rfl (by decide) rfl (by decide) (fun _ => pz_M0_zA (by decide))]
  exact h⟩
theorem pz_ro25 : pz_rw6 D cy H (pz_WL cy h0 c1 g1 c2 g2 tx gtx pg dd gd kp gkp tp gtp tl gtl lk glk ph gph c3 g3 tx2 gtx2 pg2 h1 gm) (pz_ad (pz_adl h0 c1 g1 c2 g2 tx gtx pg dd gd kp gkp tp gtp tl gtl lk glk ph gph c3 g3 tx2 gtx2 pg2 h1 gm) adS) 25 := ⟨.inl (cy 0, 80, .inl (fun _ => 0)), rfl, fun h => by
  rw [pz_enA (a := 25) 17 0 80 rfl (by decide) rfl (by decide) (fun _ => pz_M0_zA (by decide))]
  exact h⟩
theorem pz_ro26 : pz_rw6 D cy H (pz_WL cy h0 c1 g1 c2 g2 tx gtx pg dd gd kp gkp tp gtp tl gtl lk glk ph gph c3 g3 tx2 gtx2 pg2 h1 gm) (pz_ad (pz_adl h0 c1 g1 c2 g2 tx gtx pg dd gd kp gkp tp gtp tl gtl lk glk ph gph c3 g3 tx2 gtx2 pg2 h1 gm) adS) 26 := ⟨.inl (cy 0, 80, .inl (fun _ => 0)), rfl, fun h => by
  rw [pz_enA (a := 26) 17 0 80 rfl (by decide) rfl (by decide) (fun _ => pz_M0_zA (by decide))]
  exact h⟩
theorem pz_ro27 : pz_rw6 D cy H (pz_WL cy h0 c1 g1 c2 g2 tx gtx pg dd gd kp gkp tp gtp tl gtl lk glk ph gph c3 g3 tx2 gtx2 pg2 h1 gm) (pz_ad (pz_adl h0 c1 g1 c2 g2 tx gtx pg dd gd kp gkp tp gtp tl gtl lk glk ph gph c3 g3 tx2 gtx2 pg2 h1 gm) adS) 27 := ⟨.inl (cy 0, 16, .inl (fun _ => 0)), rfl, fun h => by
  rw [pz_enA (a := 27) 14 0 16 rfl (by decide) rfl (by decide) (fun _ => pz_M0_zA (by decide))]
  exact h⟩
theorem pz_ro28 : pz_rw6 D cy H (pz_WL cy h0 c1 g1 c2 g2 tx gtx pg dd gd kp gkp tp gtp tl gtl lk glk ph gph c3 g3 tx2 gtx2 pg2 h1 gm) (pz_ad (pz_adl h0 c1 g1 c2 g2 tx gtx pg dd gd kp gkp tp gtp tl gtl lk glk ph gph c3 g3 tx2 gtx2 pg2 h1 gm) adS) 28 := ⟨.inl (cy 0, 16, .inl (fun _ => 0)), rfl, fun h => by
  rw [pz_enA (a := 28) 14 0 16 rfl (by decide) rfl (by decide) (fun _ => pz_M0_zA (by decide))]
  exact h⟩
theorem pz_ro29 : pz_rw6 D cy H (pz_WL cy h0 c1 g1 c2 g2 tx gtx pg dd gd kp gkp tp gtp tl gtl lk glk ph gph c3 g3 tx2 gtx2 pg2 h1 gm) (pz_ad (pz_adl h0 c1 g1 c2 g2 tx gtx pg dd gd kp gkp tp gtp tl gtl lk glk ph gph c3 g3 tx2 gtx2 pg2 h1 gm) adS) 29 := ⟨.inl (cy 0, 16, .inl (fun _ => 0)), rfl, fun h => by
  rw [pz_enA (a := 29) 14 0 16 rfl (by decide) rfl (by decide) (fun _ => pz_M0_zA (by decide))]
  exact h⟩
theorem pz_ro30 : pz_rw6 D cy H (pz_WL cy h0 c1 g1 c2 g2 tx gtx pg dd gd kp gkp tp gtp tl gtl lk glk ph gph c3 g3 tx2 gtx2 pg2 h1 gm) (pz_ad (pz_adl h0 c1 g1 c2 g2 tx gtx pg dd gd kp gkp tp gtp tl gtl lk glk ph gph c3 g3 tx2 gtx2 pg2 h1 gm) adS) 30 := ⟨.inl (cy 0, 16, .inl (fun _ => 0)), rfl, fun h => by
  rw [pz_enA (a := 30) 14 0 16 rfl (by decide) rfl (by decide) (fun _ => pz_M0_zA (by decide))]
  exact h⟩
theorem pz_ro31 : pz_rw6 D cy H (pz_WL cy h0 c1 g1 c2 g2 tx gtx pg dd gd kp gkp tp gtp tl gtl lk glk ph gph c3 g3 tx2 gtx2 pg2 h1 gm) (pz_ad (pz_adl h0 c1 g1 c2 g2 tx gtx pg dd gd kp gkp tp gtp tl gtl lk glk ph gph c3 g3 tx2 gtx2 pg2 h1 gm) adS) 31 := ⟨.inl (cy 0, 400, .inl (fun _ => 0)), rfl, fun h => by
  rw [pz_enA (a := 31) 15 0 400 rfl (by decide) rfl (by decide) (fun _ => pz_M0_zA (by decide))]
  exact h⟩
theorem pz_ro32 : pz_rw6 D cy H (pz_WL cy h0 c1 g1 c2 g2 tx gtx pg dd gd kp gkp tp gtp tl gtl lk glk ph gph c3 g3 tx2 gtx2 pg2 h1 gm) (pz_ad (pz_adl h0 c1 g1 c2 g2 tx gtx pg dd gd kp gkp tp gtp tl gtl lk glk ph gph c3 g3 tx2 gtx2 pg2 h1 gm) adS) 32 := ⟨.inl (cy 0, 64, .inl (fun _ => 0)), rfl, fun h => by
  rw [pz_enA (a := 32) 16 0 64 rfl (by decide) rfl (by decide) (fun _ => pz_M0_zA (by decide))]
  exact h⟩
theorem pz_ro33 : pz_rw6 D cy H (pz_WL cy h0 c1 g1 c2 g2 tx gtx pg dd gd kp gkp tp gtp tl gtl lk glk ph gph c3 g3 tx2 gtx2 pg2 h1 gm) (pz_ad (pz_adl h0 c1 g1 c2 g2 tx gtx pg dd gd kp gkp tp gtp tl gtl lk glk ph gph c3 g3 tx2 gtx2 pg2 h1 gm) adS) 33 := ⟨.inl (cy 0, 16, .inl (fun _ => 0)), rfl, fun h => by
  rw [pz_enA (a := 33) 14 0 16 rfl (by decide) rfl (by decide) (fun _ => pz_M0_zA (by decide))]
  exact h⟩
theorem pz_ro34 : pz_rw6 D cy H (pz_WL cy h0 c1 g1 c2 g2 tx gtx pg dd gd kp gkp tp gtp tl gtl lk glk ph gph c3 g3 tx2 gtx2 pg2 h1 gm) (pz_ad (pz_adl h0 c1 g1 c2 g2 tx gtx pg dd gd kp gkp tp gtp tl gtl lk glk ph gph c3 g3 tx2 gtx2 pg2 h1 gm) adS) 34 := ⟨.inl (cy 0, 16, .inl (fun _ => 0)), rfl, fun h => by
  rw [pz_enA (a := 34) 14 0 16 rfl (by decide) rfl (by decide) (fun _ => pz_M0_zA (by decide))]
  exact h⟩
theorem pz_ro35 : pz_rw6 D cy H (pz_WL cy h0 c1 g1 c2 g2 tx gtx pg dd gd kp gkp tp gtp tl gtl lk glk ph gph c3 g3 tx2 gtx2 pg2 h1 gm) (pz_ad (pz_adl h0 c1 g1 c2 g2 tx gtx pg dd gd kp gkp tp gtp tl gtl lk glk ph gph c3 g3 tx2 gtx2 pg2 h1 gm) adS) 35 := ⟨.inl (cy 0, 16, .inl (fun _ => 0)), rfl, fun h => by
  rw [pz_enA (a := 35) 14 0 16 rfl (by decide) rfl (by decide) (fun _ => pz_M0_zA (by decide))]
  exact h⟩
theorem pz_ro36 : pz_rw6 D cy H (pz_WL cy h0 c1 g1 c2 g2 tx gtx pg dd gd kp gkp tp gtp tl gtl lk glk ph gph c3 g3 tx2 gtx2 pg2 h1 gm) (pz_ad (pz_adl h0 c1 g1 c2 g2 tx gtx pg dd gd kp gkp tp gtp tl gtl lk glk ph gph c3 g3 tx2 gtx2 pg2 h1 gm) adS) 36 := ⟨.inl (cy 0, 16, .inl (fun _ => 0)), rfl, fun h => by
  rw [pz_enA (a := 36) 14 0 16 rfl (by decide) rfl (by decide) (fun _ => pz_M0_zA (by decide))]
  exact h⟩
theorem pz_ro37 : pz_rw6 D cy H (pz_WL cy h0 c1 g1 c2 g2 tx gtx pg dd gd kp gkp tp gtp tl gtl lk glk ph gph c3 g3 tx2 gtx2 pg2 h1 gm) (pz_ad (pz_adl h0 c1 g1 c2 g2 tx gtx pg dd gd kp gkp tp gtp tl gtl lk glk ph gph c3 g3 tx2 gtx2 pg2 h1 gm) adS) 37 := ⟨.inl (cy 0, 400, .inl (fun _ => 0)), rfl, fun h => by
  rw [pz_enA (a := 37) 15 0 400 rfl (by decide) rfl (by decide) (fun _ => pz_M0_zA (by decide))]
  exact h⟩
theorem pz_ro38 : pz_rw6 D cy H (pz_WL cy h0 c1 g1 c2 g2 tx gtx pg dd gd kp gkp tp gtp tl gtl lk glk ph gph c3 g3 tx2 gtx2 pg2 h1 gm) (pz_ad (pz_adl h0 c1 g1 c2 g2 tx gtx pg dd gd kp gkp tp gtp tl gtl lk glk ph gph c3 g3 tx2 gtx2 pg2 h1 gm) adS) 38 := ⟨.inl (cy 0, 64, .inl (fun _ => 0)), rfl, fun h => by
  rw [pz_enA (a := 38) 16 0 64 rfl (by decide) rfl (by decide) (fun _ => pz_M0_zA (by decide))]
  exact h⟩
theorem pz_ro39 : pz_rw6 D cy H (pz_WL cy h0 c1 g1 c2 g2 tx gtx pg dd gd kp gkp tp gtp tl gtl lk glk ph gph c3 g3 tx2 gtx2 pg2 h1 gm) (pz_ad (pz_adl h0 c1 g1 c2 g2 tx gtx pg dd gd kp gkp tp gtp tl gtl lk glk ph gph c3 g3 tx2 gtx2 pg2 h1 gm) adS) 39 := ⟨.inl (cy 0, 16, .inl (fun _ => 0)), rfl, fun h => by
  rw [pz_enA (a := 39) 14 0 16 rfl (by decide) rfl (by decide) (fun _ => pz_M0_zA (by decide))]
  exact h⟩
theorem pz_ro40 : pz_rw6 D cy H (pz_WL cy h0 c1 g1 c2 g2 tx gtx pg dd gd kp gkp tp gtp tl gtl lk glk ph gph c3 g3 tx2 gtx2 pg2 h1 gm) (pz_ad (pz_adl h0 c1 g1 c2 g2 tx gtx pg dd gd kp gkp tp gtp tl gtl lk glk ph gph c3 g3 tx2 gtx2 pg2 h1 gm) adS) 40 := ⟨.inl (cy 0, 16, .inl (fun _ => 0)), rfl, fun h => by
  rw [pz_enA (a := 40) 14 0 16 rfl (by decide) rfl (by decide) (fun _ => pz_M0_zA (by decide))]
  exact h⟩
theorem pz_ro41 : pz_rw6 D cy H (pz_WL cy h0 c1 g1 c2 g2 tx gtx pg dd gd kp gkp tp gtp tl gtl lk glk ph gph c3 g3 tx2 gtx2 pg2 h1 gm) (pz_ad (pz_adl h0 c1 g1 c2 g2 tx gtx pg dd gd kp gkp tp gtp tl gtl lk glk ph gph c3 g3 tx2 gtx2 pg2 h1 gm) adS) 41 := ⟨.inl (cy 0, 16, .inl (fun _ => 0)), rfl, fun h => by
  rw [pz_enA (a := 41) 14 0 16 rfl (by decide) rfl (by decide) (fun _ => pz_M0_zA (by decide))]
  exact h⟩
theorem pz_ro42 : pz_rw6 D cy H (pz_WL cy h0 c1 g1 c2 g2 tx gtx pg dd gd kp gkp tp gtp tl gtl lk glk ph gph c3 g3 tx2 gtx2 pg2 h1 gm) (pz_ad (pz_adl h0 c1 g1 c2 g2 tx gtx pg dd gd kp gkp tp gtp tl gtl lk glk ph gph c3 g3 tx2 gtx2 pg2 h1 gm) adS) 42 := ⟨.inl (cy 0, 16, .inl (fun _ => 0)), rfl, fun h => by
  rw [pz_enA (a := 42) 14 0 16 rfl (by decide) rfl (by decide) (fun _ => pz_M0_zA (by decide))]
  exact h⟩
theorem pz_ro43 : pz_rw6 D cy H (pz_WL cy h0 c1 g1 c2 g2 tx gtx pg dd gd kp gkp tp gtp tl gtl lk glk ph gph c3 g3 tx2 gtx2 pg2 h1 gm) (pz_ad (pz_adl h0 c1 g1 c2 g2 tx gtx pg dd gd kp gkp tp gtp tl gtl lk glk ph gph c3 g3 tx2 gtx2 pg2 h1 gm) adS) 43 := ⟨.inl (cy 0, 400, .inl (fun _ => 0)), rfl, fun h => by
  rw [pz_enA (a := 43) 15 0 400 rfl (by decide) rfl (by decide) (fun _ => pz_M0_zA (by decide))]
  exact h⟩
theorem pz_ro44 : pz_rw6 D cy H (pz_WL cy h0 c1 g1 c2 g2 tx gtx pg dd gd kp gkp tp gtp tl gtl lk glk ph gph c3 g3 tx2 gtx2 pg2 h1 gm) (pz_ad (pz_adl h0 c1 g1 c2 g2 tx gtx pg dd gd kp gkp tp gtp tl gtl lk glk ph gph c3 g3 tx2 gtx2 pg2 h1 gm) adS) 44 := ⟨.inl (cy 0, 64, .inl (fun _ => 0)), rfl, fun h => by
  rw [pz_enA (a := 44) 16 0 64 rfl (by decide) rfl (by decide) (fun _ => pz_M0_zA (by decide))]
  exact h⟩
theorem pz_ro45 : pz_rw6 D cy H (pz_WL cy h0 c1 g1 c2 g2 tx gtx pg dd gd kp gkp tp gtp tl gtl lk glk ph gph c3 g3 tx2 gtx2 pg2 h1 gm) (pz_ad (pz_adl h0 c1 g1 c2 g2 tx gtx pg dd gd kp gkp tp gtp tl gtl lk glk ph gph c3 g3 tx2 gtx2 pg2 h1 gm) adS) 45 := ⟨.inl (cy 0, 600, .inl (fun _ => 0)), rfl, fun h => by
  rw [pz_enA (a := 45) 13 0 600 rfl (by decide) rfl (by decide) (fun _ => pz_M0_zA (by decide))]
  exact h⟩
theorem pz_ro46 : pz_rw6 D cy H (pz_WL cy h0 c1 g1 c2 g2 tx gtx pg dd gd kp gkp tp gtp tl gtl lk glk ph gph c3 g3 tx2 gtx2 pg2 h1 gm) (pz_ad (pz_adl h0 c1 g1 c2 g2 tx gtx pg dd gd kp gkp tp gtp tl gtl lk glk ph gph c3 g3 tx2 gtx2 pg2 h1 gm) adS) 46 := ⟨.inl (cy 0, 600, .inl (fun _ => 0)), rfl, fun h => by
  rw [pz_enA (a := 46) 13 0 600 rfl (by decide) rfl (by decide) (fun _ => pz_M0_zA (by decide))]
  exact h⟩
theorem pz_ro47 : pz_rw6 D cy H (pz_WL cy h0 c1 g1 c2 g2 tx gtx pg dd gd kp gkp tp gtp tl gtl lk glk ph gph c3 g3 tx2 gtx2 pg2 h1 gm) (pz_ad (pz_adl h0 c1 g1 c2 g2 tx gtx pg dd gd kp gkp tp gtp tl gtl lk glk ph gph c3 g3 tx2 gtx2 pg2 h1 gm) adS) 47 := ⟨.inl (cy 3, 6, .inr (.inr (.inr (.inr (fun j => some (gkp.1 (1 + j))))))), rfl, fun h => by
  rw [pz_enQ (a := 47) 30 3 6 rfl (by decide) rfl (by decide)]
  exact pz_atq (fun j hj => match j, hj with | 0, _ => rfl | 1, _ => rfl | 2, _ => rfl | 3, _ => rfl | 4, _ => rfl | 5, _ => rfl | n + 6, h => absurd h (by omega)) h⟩
theorem pz_ro48 : pz_rw6 D cy H (pz_WL cy h0 c1 g1 c2 g2 tx gtx pg dd gd kp gkp tp gtp tl gtl lk glk ph gph c3 g3 tx2 gtx2 pg2 h1 gm) (pz_ad (pz_adl h0 c1 g1 c2 g2 tx gtx pg dd gd kp gkp tp gtp tl gtl lk glk ph gph c3 g3 tx2 gtx2 pg2 h1 gm) adS) 48 := ⟨.inl (cy 1, 400, .inl (fun _ => 0)), rfl, fun h => by
  rw [pz_enA (a := 48) 18 1 400 rfl (by decide) rfl (by decide) (fun _ => pz_M0_zA (by decide))]
  exact h⟩
theorem pz_ro49 : pz_rw6 D cy H (pz_WL cy h0 c1 g1 c2 g2 tx gtx pg dd gd kp gkp tp gtp tl gtl lk glk ph gph c3 g3 tx2 gtx2 pg2 h1 gm) (pz_ad (pz_adl h0 c1 g1 c2 g2 tx gtx pg dd gd kp gkp tp gtp tl gtl lk glk ph gph c3 g3 tx2 gtx2 pg2 h1 gm) adS) 49 := ⟨.inl (cy 0, 401, .inl (fun _ => 0)), rfl, fun h => by
  rw [pz_enA (a := 49) 19 0 401 rfl (by decide) rfl (by decide) (fun _ => pz_M0_zA (by decide))]
  exact h⟩
theorem pz_ro50 : pz_rw6 D cy H (pz_WL cy h0 c1 g1 c2 g2 tx gtx pg dd gd kp gkp tp gtp tl gtl lk glk ph gph c3 g3 tx2 gtx2 pg2 h1 gm) (pz_ad (pz_adl h0 c1 g1 c2 g2 tx gtx pg dd gd kp gkp tp gtp tl gtl lk glk ph gph c3 g3 tx2 gtx2 pg2 h1 gm) adS) 50 := ⟨.inl (cy 0, 401, .inl (fun _ => 0)), rfl, fun h => by
  rw [pz_enA (a := 50) 19 0 401 rfl (by decide) rfl (by decide) (fun _ => pz_M0_zA (by decide))]
  exact h⟩
theorem pz_ro51 : pz_rw6 D cy H (pz_WL cy h0 c1 g1 c2 g2 tx gtx pg dd gd kp gkp tp gtp tl gtl lk glk ph gph c3 g3 tx2 gtx2 pg2 h1 gm) (pz_ad (pz_adl h0 c1 g1 c2 g2 tx gtx pg dd gd kp gkp tp gtp tl gtl lk glk ph gph c3 g3 tx2 gtx2 pg2 h1 gm) adS) 51 := ⟨.inl (cy 0, 401, .inl (fun _ => 0)), rfl, fun h => by
  rw [pz_enA (a := 51) 19 0 401 rfl (by decide) rfl (by decide) (fun _ => pz_M0_zA (by decide))]
  exact h⟩
end PZ16
end
