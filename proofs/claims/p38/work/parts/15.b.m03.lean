section
section PZ16
variable {D : va_G} {cy : Nat → ClassId} {H : Heap} {adS : Nat → Nat} {h0 : Nat} {c1 : Nat} {g1 : Nat → Nat} {c2 : Nat} {g2 : Nat → Nat} {tx : Nat} {gtx : (Nat × (Nat → Nat)) × (Nat × (Nat → Nat)) × (Nat × (Nat → Nat)) × Nat × (Nat → Nat)} {pg : Nat} {dd : Nat} {gd : Nat → Nat} {kp : Nat} {gkp : (Nat → Nat) × (Nat → Nat → Nat)} {tp : Nat} {gtp : Nat → Nat} {tl : Nat} {gtl : (Nat × (Nat → Nat)) × Nat × (Nat → Nat)} {lk : Nat} {glk : Nat → Nat} {ph : Nat} {gph : Nat → Nat} {c3 : Nat} {g3 : Nat → Nat} {tx2 : Nat} {gtx2 : (Nat × (Nat → Nat)) × (Nat × (Nat → Nat)) × (Nat × (Nat → Nat)) × Nat × (Nat → Nat)} {pg2 : Nat} {h1 : Nat} {gm : Nat → Nat}
theorem pz_ro52 : pz_rw6 D cy H (pz_WL cy h0 c1 g1 c2 g2 tx gtx pg dd gd kp gkp tp gtp tl gtl lk glk ph gph c3 g3 tx2 gtx2 pg2 h1 gm) (pz_ad (pz_adl h0 c1 g1 c2 g2 tx gtx pg dd gd kp gkp tp gtp tl gtl lk glk ph gph c3 g3 tx2 gtx2 pg2 h1 gm) adS) 52 := ⟨.inl (cy 0, 12, .inl (fun _ => 0)), rfl, fun h => by
  rw [pz_enA (a := 52) 20 0 12 rfl (by decide) rfl (by decide) (fun _ => pz_M0_zA (by decide))]
  exact h⟩
theorem pz_ro53 : pz_rw6 D cy H (pz_WL cy h0 c1 g1 c2 g2 tx gtx pg dd gd kp gkp tp gtp tl gtl lk glk ph gph c3 g3 tx2 gtx2 pg2 h1 gm) (pz_ad (pz_adl h0 c1 g1 c2 g2 tx gtx pg dd gd kp gkp tp gtp tl gtl lk glk ph gph c3 g3 tx2 gtx2 pg2 h1 gm) adS) 53 := ⟨.inl (cy 0, 12, .inl (fun _ => 0)), rfl, fun h => by
  rw [pz_enA (a := 53) 20 0 12 rfl (by decide) rfl (by decide) (fun _ => pz_M0_zA (by decide))]
  exact h⟩
theorem pz_ro54 : pz_rw6 D cy H (pz_WL cy h0 c1 g1 c2 g2 tx gtx pg dd gd kp gkp tp gtp tl gtl lk glk ph gph c3 g3 tx2 gtx2 pg2 h1 gm) (pz_ad (pz_adl h0 c1 g1 c2 g2 tx gtx pg dd gd kp gkp tp gtp tl gtl lk glk ph gph c3 g3 tx2 gtx2 pg2 h1 gm) adS) 54 := ⟨.inl (cy 0, 12, .inl (fun _ => 0)), rfl, fun h => by
  rw [pz_enA (a := 54) 20 0 12 rfl (by decide) rfl (by decide) (fun _ => pz_M0_zA (by decide))]
  exact h⟩
theorem pz_ro55 : pz_rw6 D cy H (pz_WL cy h0 c1 g1 c2 g2 tx gtx pg dd gd kp gkp tp gtp tl gtl lk glk ph gph c3 g3 tx2 gtx2 pg2 h1 gm) (pz_ad (pz_adl h0 c1 g1 c2 g2 tx gtx pg dd gd kp gkp tp gtp tl gtl lk glk ph gph c3 g3 tx2 gtx2 pg2 h1 gm) adS) 55 := ⟨.inl (cy 0, 144, .inl (fun _ => 0)), rfl, fun h => by
  rw [pz_enA (a := 55) 21 0 144 rfl (by decide) rfl (by decide) (fun _ => pz_M0_zA (by decide))]
  exact h⟩
theorem pz_ro56 : pz_rw6 D cy H (pz_WL cy h0 c1 g1 c2 g2 tx gtx pg dd gd kp gkp tp gtp tl gtl lk glk ph gph c3 g3 tx2 gtx2 pg2 h1 gm) (pz_ad (pz_adl h0 c1 g1 c2 g2 tx gtx pg dd gd kp gkp tp gtp tl gtl lk glk ph gph c3 g3 tx2 gtx2 pg2 h1 gm) adS) 56 := ⟨.inl (cy 0, 12, .inl (fun _ => 0)), rfl, fun h => by
  rw [pz_enA (a := 56) 20 0 12 rfl (by decide) rfl (by decide) (fun _ => pz_M0_zA (by decide))]
  exact h⟩
theorem pz_ro57 : pz_rw6 D cy H (pz_WL cy h0 c1 g1 c2 g2 tx gtx pg dd gd kp gkp tp gtp tl gtl lk glk ph gph c3 g3 tx2 gtx2 pg2 h1 gm) (pz_ad (pz_adl h0 c1 g1 c2 g2 tx gtx pg dd gd kp gkp tp gtp tl gtl lk glk ph gph c3 g3 tx2 gtx2 pg2 h1 gm) adS) 57 := ⟨.inl (cy 0, 12, .inl (fun _ => 0)), rfl, fun h => by
  rw [pz_enA (a := 57) 20 0 12 rfl (by decide) rfl (by decide) (fun _ => pz_M0_zA (by decide))]
  exact h⟩
theorem pz_ro58 : pz_rw6 D cy H (pz_WL cy h0 c1 g1 c2 g2 tx gtx pg dd gd kp gkp tp gtp tl gtl lk glk ph gph c3 g3 tx2 gtx2 pg2 h1 gm) (pz_ad (pz_adl h0 c1 g1 c2 g2 tx gtx pg dd gd kp gkp tp gtp tl gtl lk glk ph gph c3 g3 tx2 gtx2 pg2 h1 gm) adS) 58 := ⟨.inl (cy 0, 12, .inl (fun _ => 0)), rfl, fun h => by
  rw [pz_enA (a := 58) 20 0 12 rfl (by decide) rfl (by decide) (fun _ => pz_M0_zA (by decide))]
  exact h⟩
theorem pz_ro59 : pz_rw6 D cy H (pz_WL cy h0 c1 g1 c2 g2 tx gtx pg dd gd kp gkp tp gtp tl gtl lk glk ph gph c3 g3 tx2 gtx2 pg2 h1 gm) (pz_ad (pz_adl h0 c1 g1 c2 g2 tx gtx pg dd gd kp gkp tp gtp tl gtl lk glk ph gph c3 g3 tx2 gtx2 pg2 h1 gm) adS) 59 := ⟨.inl (cy 0, 4096, .inl (fun _ => 0)), rfl, fun h => by
  rw [pz_enA (a := 59) 22 0 4096 rfl (by decide) rfl (by decide) (fun _ => pz_M0_zA (by decide))]
  exact h⟩
theorem pz_ro60 : pz_rw6 D cy H (pz_WL cy h0 c1 g1 c2 g2 tx gtx pg dd gd kp gkp tp gtp tl gtl lk glk ph gph c3 g3 tx2 gtx2 pg2 h1 gm) (pz_ad (pz_adl h0 c1 g1 c2 g2 tx gtx pg dd gd kp gkp tp gtp tl gtl lk glk ph gph c3 g3 tx2 gtx2 pg2 h1 gm) adS) 60 := ⟨.inl (cy 0, 1725, .inl (fun _ => 0)), rfl, fun h => by
  rw [pz_enA (a := 60) 23 0 1725 rfl (by decide) rfl (by decide) (fun _ => pz_M0_zA (by decide))]
  exact h⟩
theorem pz_ro61 : pz_rw6 D cy H (pz_WL cy h0 c1 g1 c2 g2 tx gtx pg dd gd kp gkp tp gtp tl gtl lk glk ph gph c3 g3 tx2 gtx2 pg2 h1 gm) (pz_ad (pz_adl h0 c1 g1 c2 g2 tx gtx pg dd gd kp gkp tp gtp tl gtl lk glk ph gph c3 g3 tx2 gtx2 pg2 h1 gm) adS) 61 := ⟨.inl (cy 0, 1725, .inl (fun _ => 0)), rfl, fun h => by
  rw [pz_enA (a := 61) 23 0 1725 rfl (by decide) rfl (by decide) (fun _ => pz_M0_zA (by decide))]
  exact h⟩
theorem pz_ro62 : pz_rw6 D cy H (pz_WL cy h0 c1 g1 c2 g2 tx gtx pg dd gd kp gkp tp gtp tl gtl lk glk ph gph c3 g3 tx2 gtx2 pg2 h1 gm) (pz_ad (pz_adl h0 c1 g1 c2 g2 tx gtx pg dd gd kp gkp tp gtp tl gtl lk glk ph gph c3 g3 tx2 gtx2 pg2 h1 gm) adS) 62 := ⟨.inl (cy 0, 528, .inl (fun _ => 0)), rfl, fun h => by
  rw [pz_enA (a := 62) 24 0 528 rfl (by decide) rfl (by decide) (fun _ => pz_M0_zA (by decide))]
  exact h⟩
theorem pz_ro63 : pz_rw6 D cy H (pz_WL cy h0 c1 g1 c2 g2 tx gtx pg dd gd kp gkp tp gtp tl gtl lk glk ph gph c3 g3 tx2 gtx2 pg2 h1 gm) (pz_ad (pz_adl h0 c1 g1 c2 g2 tx gtx pg dd gd kp gkp tp gtp tl gtl lk glk ph gph c3 g3 tx2 gtx2 pg2 h1 gm) adS) 63 := ⟨.inl (cy 0, 88, .inl (fun _ => 0)), rfl, fun h => by
  rw [pz_enA (a := 63) 25 0 88 rfl (by decide) rfl (by decide) (fun _ => pz_M0_zA (by decide))]
  exact h⟩
theorem pz_ro64 : pz_rw6 D cy H (pz_WL cy h0 c1 g1 c2 g2 tx gtx pg dd gd kp gkp tp gtp tl gtl lk glk ph gph c3 g3 tx2 gtx2 pg2 h1 gm) (pz_ad (pz_adl h0 c1 g1 c2 g2 tx gtx pg dd gd kp gkp tp gtp tl gtl lk glk ph gph c3 g3 tx2 gtx2 pg2 h1 gm) adS) 64 := ⟨.inl (cy 0, 64, .inl (fun _ => 0)), rfl, fun h => by
  rw [pz_enA (a := 64) 16 0 64 rfl (by decide) rfl (by decide) (fun _ => pz_M0_zA (by decide))]
  exact h⟩
theorem pz_ro65 : pz_rw6 D cy H (pz_WL cy h0 c1 g1 c2 g2 tx gtx pg dd gd kp gkp tp gtp tl gtl lk glk ph gph c3 g3 tx2 gtx2 pg2 h1 gm) (pz_ad (pz_adl h0 c1 g1 c2 g2 tx gtx pg dd gd kp gkp tp gtp tl gtl lk glk ph gph c3 g3 tx2 gtx2 pg2 h1 gm) adS) 65 := ⟨.inl (cy 0, 820, .inl (fun _ => 0)), rfl, fun h => by
  rw [pz_enA (a := 65) 26 0 820 rfl (by decide) rfl (by decide) (fun _ => pz_M0_zA (by decide))]
  exact h⟩
theorem pz_ro66 : pz_rw6 D cy H (pz_WL cy h0 c1 g1 c2 g2 tx gtx pg dd gd kp gkp tp gtp tl gtl lk glk ph gph c3 g3 tx2 gtx2 pg2 h1 gm) (pz_ad (pz_adl h0 c1 g1 c2 g2 tx gtx pg dd gd kp gkp tp gtp tl gtl lk glk ph gph c3 g3 tx2 gtx2 pg2 h1 gm) adS) 66 := ⟨.inl (cy 0, 80, .inl (fun _ => 0)), rfl, fun h => by
  rw [pz_enA (a := 66) 17 0 80 rfl (by decide) rfl (by decide) (fun _ => pz_M0_zA (by decide))]
  exact h⟩
theorem pz_ro67 : pz_rw6 D cy H (pz_WL cy h0 c1 g1 c2 g2 tx gtx pg dd gd kp gkp tp gtp tl gtl lk glk ph gph c3 g3 tx2 gtx2 pg2 h1 gm) (pz_ad (pz_adl h0 c1 g1 c2 g2 tx gtx pg dd gd kp gkp tp gtp tl gtl lk glk ph gph c3 g3 tx2 gtx2 pg2 h1 gm) adS) 67 := ⟨.inl (cy 0, 400, .inl (fun _ => 0)), rfl, fun h => by
  rw [pz_enA (a := 67) 15 0 400 rfl (by decide) rfl (by decide) (fun _ => pz_M0_zA (by decide))]
  exact h⟩
theorem pz_ro68 : pz_rw6 D cy H (pz_WL cy h0 c1 g1 c2 g2 tx gtx pg dd gd kp gkp tp gtp tl gtl lk glk ph gph c3 g3 tx2 gtx2 pg2 h1 gm) (pz_ad (pz_adl h0 c1 g1 c2 g2 tx gtx pg dd gd kp gkp tp gtp tl gtl lk glk ph gph c3 g3 tx2 gtx2 pg2 h1 gm) adS) 68 := ⟨.inl (cy 0, 420, .inl (fun _ => 0)), rfl, fun h => by
  rw [pz_enA (a := 68) 27 0 420 rfl (by decide) rfl (by decide) (fun _ => pz_M0_zA (by decide))]
  exact h⟩
theorem pz_ro69 : pz_rw6 D cy H (pz_WL cy h0 c1 g1 c2 g2 tx gtx pg dd gd kp gkp tp gtp tl gtl lk glk ph gph c3 g3 tx2 gtx2 pg2 h1 gm) (pz_ad (pz_adl h0 c1 g1 c2 g2 tx gtx pg dd gd kp gkp tp gtp tl gtl lk glk ph gph c3 g3 tx2 gtx2 pg2 h1 gm) adS) 69 := ⟨.inl (cy 0, 10, .inl (fun _ => 0)), rfl, fun h => by
  rw [pz_enA (a := 69) 28 0 10 rfl (by decide) rfl (by decide) (fun _ => pz_M0_zA (by decide))]
  exact h⟩
theorem pz_ro70 : pz_rw6 D cy H (pz_WL cy h0 c1 g1 c2 g2 tx gtx pg dd gd kp gkp tp gtp tl gtl lk glk ph gph c3 g3 tx2 gtx2 pg2 h1 gm) (pz_ad (pz_adl h0 c1 g1 c2 g2 tx gtx pg dd gd kp gkp tp gtp tl gtl lk glk ph gph c3 g3 tx2 gtx2 pg2 h1 gm) adS) 70 := ⟨.inl (cy 0, 4096, .inl (fun _ => 0)), rfl, fun h => by
  rw [pz_enA (a := 70) 22 0 4096 rfl (by decide) rfl (by decide) (fun _ => pz_M0_zA (by decide))]
  exact h⟩
theorem pz_ro71 : pz_rw6 D cy H (pz_WL cy h0 c1 g1 c2 g2 tx gtx pg dd gd kp gkp tp gtp tl gtl lk glk ph gph c3 g3 tx2 gtx2 pg2 h1 gm) (pz_ad (pz_adl h0 c1 g1 c2 g2 tx gtx pg dd gd kp gkp tp gtp tl gtl lk glk ph gph c3 g3 tx2 gtx2 pg2 h1 gm) adS) 71 := ⟨.inr (0, [.int 0, .ref (g1 0), .ref (g1 1), .int 0, .int 0, .int 0, .int 0, .int 0]), rfl, fun h => by
  rw [pz_o0 (a := 71) (M := pz_M0) rfl ((congrArg Int32.ofInt (pz_M0_z (a := 71) (k := 0) (by omega) (by omega) (by omega) (by omega))).trans pz_i0) rfl rfl ((congrArg Int32.ofInt (pz_M0_z (a := 71) (k := 3) (by omega) (by omega) (by omega) (by omega))).trans pz_i0) ((congrArg Int32.ofInt (pz_M0_z (a := 71) (k := 4) (by omega) (by omega) (by omega) (by omega))).trans pz_i0) ((congrArg Int32.ofInt (pz_M0_z (a := 71) (k := 5) (by omega) (by omega) (by omega) (by omega))).trans pz_i0) ((congrArg Int32.ofInt (pz_M0_z (a := 71) (k := 6) (by omega) (by omega) (by omega) (by omega))).trans pz_i0) ((congrArg Int32.ofInt (pz_M0_z (a := 71) (k := 7) (by omega) (by omega) (by omega) (by omega))).trans pz_i0)]
  exact h⟩
theorem pz_ro72 : pz_rw6 D cy H (pz_WL cy h0 c1 g1 c2 g2 tx gtx pg dd gd kp gkp tp gtp tl gtl lk glk ph gph c3 g3 tx2 gtx2 pg2 h1 gm) (pz_ad (pz_adl h0 c1 g1 c2 g2 tx gtx pg dd gd kp gkp tp gtp tl gtl lk glk ph gph c3 g3 tx2 gtx2 pg2 h1 gm) adS) 72 := ⟨.inr (0, [.int 1, .ref (g2 0), .ref (g2 1), .int 0, .int 0, .int 0, .int 0, .int 0]), rfl, fun h => by
  rw [pz_o0 (a := 72) (M := pz_M0) rfl ((congrArg Int32.ofInt (show pz_M0 72 0 = 1 from rfl)).trans pz_i1) rfl rfl ((congrArg Int32.ofInt (pz_M0_z (a := 72) (k := 3) (by omega) (by omega) (by omega) (by omega))).trans pz_i0) ((congrArg Int32.ofInt (pz_M0_z (a := 72) (k := 4) (by omega) (by omega) (by omega) (by omega))).trans pz_i0) ((congrArg Int32.ofInt (pz_M0_z (a := 72) (k := 5) (by omega) (by omega) (by omega) (by omega))).trans pz_i0) ((congrArg Int32.ofInt (pz_M0_z (a := 72) (k := 6) (by omega) (by omega) (by omega) (by omega))).trans pz_i0) ((congrArg Int32.ofInt (pz_M0_z (a := 72) (k := 7) (by omega) (by omega) (by omega) (by omega))).trans pz_i0)]
  exact h⟩
theorem pz_ro73 : pz_rw6 D cy H (pz_WL cy h0 c1 g1 c2 g2 tx gtx pg dd gd kp gkp tp gtp tl gtl lk glk ph gph c3 g3 tx2 gtx2 pg2 h1 gm) (pz_ad (pz_adl h0 c1 g1 c2 g2 tx gtx pg dd gd kp gkp tp gtp tl gtl lk glk ph gph c3 g3 tx2 gtx2 pg2 h1 gm) adS) 73 := ⟨.inr (0, [.int 0, .ref (g3 0), .ref (g3 1), .int 0, .int 0, .int 0, .int 0, .int 0]), rfl, fun h => by
  rw [pz_o0 (a := 73) (M := pz_M0) rfl ((congrArg Int32.ofInt (pz_M0_z (a := 73) (k := 0) (by omega) (by omega) (by omega) (by omega))).trans pz_i0) rfl rfl ((congrArg Int32.ofInt (pz_M0_z (a := 73) (k := 3) (by omega) (by omega) (by omega) (by omega))).trans pz_i0) ((congrArg Int32.ofInt (pz_M0_z (a := 73) (k := 4) (by omega) (by omega) (by omega) (by omega))).trans pz_i0) ((congrArg Int32.ofInt (pz_M0_z (a := 73) (k := 5) (by omega) (by omega) (by omega) (by omega))).trans pz_i0) ((congrArg Int32.ofInt (pz_M0_z (a := 73) (k := 6) (by omega) (by omega) (by omega) (by omega))).trans pz_i0) ((congrArg Int32.ofInt (pz_M0_z (a := 73) (k := 7) (by omega) (by omega) (by omega) (by omega))).trans pz_i0)]
  exact h⟩
theorem pz_ro74 : pz_rw6 D cy H (pz_WL cy h0 c1 g1 c2 g2 tx gtx pg dd gd kp gkp tp gtp tl gtl lk glk ph gph c3 g3 tx2 gtx2 pg2 h1 gm) (pz_ad (pz_adl h0 c1 g1 c2 g2 tx gtx pg dd gd kp gkp tp gtp tl gtl lk glk ph gph c3 g3 tx2 gtx2 pg2 h1 gm) adS) 74 := ⟨.inr (0, [.int 0, .ref (gkp.2 0 0), .ref (gkp.2 0 1), .int 0, .int 0, .int 0, .int 0, .int 0]), rfl, fun h => by
  rw [pz_o0 (a := 74) (M := pz_M0) rfl ((congrArg Int32.ofInt (pz_M0_z (a := 74) (k := 0) (by omega) (by omega) (by omega) (by omega))).trans pz_i0) rfl rfl ((congrArg Int32.ofInt (pz_M0_z (a := 74) (k := 3) (by omega) (by omega) (by omega) (by omega))).trans pz_i0) ((congrArg Int32.ofInt (pz_M0_z (a := 74) (k := 4) (by omega) (by omega) (by omega) (by omega))).trans pz_i0) ((congrArg Int32.ofInt (pz_M0_z (a := 74) (k := 5) (by omega) (by omega) (by omega) (by omega))).trans pz_i0) ((congrArg Int32.ofInt (pz_M0_z (a := 74) (k := 6) (by omega) (by omega) (by omega) (by omega))).trans pz_i0) ((congrArg Int32.ofInt (pz_M0_z (a := 74) (k := 7) (by omega) (by omega) (by omega) (by omega))).trans pz_i0)]
  exact h⟩
theorem pz_ro75 : pz_rw6 D cy H (pz_WL cy h0 c1 g1 c2 g2 tx gtx pg dd gd kp gkp tp gtp tl gtl lk glk ph gph c3 g3 tx2 gtx2 pg2 h1 gm) (pz_ad (pz_adl h0 c1 g1 c2 g2 tx gtx pg dd gd kp gkp tp gtp tl gtl lk glk ph gph c3 g3 tx2 gtx2 pg2 h1 gm) adS) 75 := ⟨.inr (0, [.int 0, .ref (gkp.2 1 0), .ref (gkp.2 1 1), .int 0, .int 0, .int 0, .int 0, .int 0]), rfl, fun h => by
  rw [pz_o0 (a := 75) (M := pz_M0) rfl ((congrArg Int32.ofInt (pz_M0_z (a := 75) (k := 0) (by omega) (by omega) (by omega) (by omega))).trans pz_i0) rfl rfl ((congrArg Int32.ofInt (pz_M0_z (a := 75) (k := 3) (by omega) (by omega) (by omega) (by omega))).trans pz_i0) ((congrArg Int32.ofInt (pz_M0_z (a := 75) (k := 4) (by omega) (by omega) (by omega) (by omega))).trans pz_i0) ((congrArg Int32.ofInt (pz_M0_z (a := 75) (k := 5) (by omega) (by omega) (by omega) (by omega))).trans pz_i0) ((congrArg Int32.ofInt (pz_M0_z (a := 75) (k := 6) (by omega) (by omega) (by omega) (by omega))).trans pz_i0) ((congrArg Int32.ofInt (pz_M0_z (a := 75) (k := 7) (by omega) (by omega) (by omega) (by omega))).trans pz_i0)]
  exact h⟩
theorem pz_ro76 : pz_rw6 D cy H (pz_WL cy h0 c1 g1 c2 g2 tx gtx pg dd gd kp gkp tp gtp tl gtl lk glk ph gph c3 g3 tx2 gtx2 pg2 h1 gm) (pz_ad (pz_adl h0 c1 g1 c2 g2 tx gtx pg dd gd kp gkp tp gtp tl gtl lk glk ph gph c3 g3 tx2 gtx2 pg2 h1 gm) adS) 76 := ⟨.inr (0, [.int 0, .ref (gkp.2 2 0), .ref (gkp.2 2 1), .int 0, .int 0, .int 0, .int 0, .int 0]), rfl, fun h => by
  rw [pz_o0 (a := 76) (M := pz_M0) rfl ((congrArg Int32.ofInt (pz_M0_z (a := 76) (k := 0) (by omega) (by omega) (by omega) (by omega))).trans pz_i0) rfl rfl ((congrArg Int32.ofInt (pz_M0_z (a := 76) (k := 3) (by omega) (by omega) (by omega) (by omega))).trans pz_i0) ((congrArg Int32.ofInt (pz_M0_z (a := 76) (k := 4) (by omega) (by omega) (by omega) (by omega))).trans pz_i0) ((congrArg Int32.ofInt (pz_M0_z (a := 76) (k := 5) (by omega) (by omega) (by omega) (by omega))).trans pz_i0) ((congrArg Int32.ofInt (pz_M0_z (a := 76) (k := 6) (by omega) (by omega) (by omega) (by omega))).trans pz_i0) ((congrArg Int32.ofInt (pz_M0_z (a := 76) (k := 7) (by omega) (by omega) (by omega) (by omega))).trans pz_i0)]
  exact h⟩
theorem pz_ro77 : pz_rw6 D cy H (pz_WL cy h0 c1 g1 c2 g2 tx gtx pg dd gd kp gkp tp gtp tl gtl lk glk ph gph c3 g3 tx2 gtx2 pg2 h1 gm) (pz_ad (pz_adl h0 c1 g1 c2 g2 tx gtx pg dd gd kp gkp tp gtp tl gtl lk glk ph gph c3 g3 tx2 gtx2 pg2 h1 gm) adS) 77 := ⟨.inr (0, [.int 0, .ref (gkp.2 3 0), .ref (gkp.2 3 1), .int 0, .int 0, .int 0, .int 0, .int 0]), rfl, fun h => by
  rw [pz_o0 (a := 77) (M := pz_M0) rfl ((congrArg Int32.ofInt (pz_M0_z (a := 77) (k := 0) (by omega) (by omega) (by omega) (by omega))).trans pz_i0) rfl rfl ((congrArg Int32.ofInt (pz_M0_z (a := 77) (k := 3) (by omega) (by omega) (by omega) (by omega))).trans pz_i0) ((congrArg Int32.ofInt (pz_M0_z (a := 77) (k := 4) (by omega) (by omega) (by omega) (by omega))).trans pz_i0) ((congrArg Int32.ofInt (pz_M0_z (a := 77) (k := 5) (by omega) (by omega) (by omega) (by omega))).trans pz_i0) ((congrArg Int32.ofInt (pz_M0_z (a := 77) (k := 6) (by omega) (by omega) (by omega) (by omega))).trans pz_i0) ((congrArg Int32.ofInt (pz_M0_z (a := 77) (k := 7) (by omega) (by omega) (by omega) (by omega))).trans pz_i0)]
  exact h⟩
theorem pz_ro78 : pz_rw6 D cy H (pz_WL cy h0 c1 g1 c2 g2 tx gtx pg dd gd kp gkp tp gtp tl gtl lk glk ph gph c3 g3 tx2 gtx2 pg2 h1 gm) (pz_ad (pz_adl h0 c1 g1 c2 g2 tx gtx pg dd gd kp gkp tp gtp tl gtl lk glk ph gph c3 g3 tx2 gtx2 pg2 h1 gm) adS) 78 := ⟨.inr (0, [.int 0, .ref (gkp.2 4 0), .ref (gkp.2 4 1), .int 0, .int 0, .int 0, .int 0, .int 0]), rfl, fun h => by
  rw [pz_o0 (a := 78) (M := pz_M0) rfl ((congrArg Int32.ofInt (pz_M0_z (a := 78) (k := 0) (by omega) (by omega) (by omega) (by omega))).trans pz_i0) rfl rfl ((congrArg Int32.ofInt (pz_M0_z (a := 78) (k := 3) (by omega) (by omega) (by omega) (by omega))).trans pz_i0) ((congrArg Int32.ofInt (pz_M0_z (a := 78) (k := 4) (by omega) (by omega) (by omega) (by omega))).trans pz_i0) ((congrArg Int32.ofInt (pz_M0_z (a := 78) (k := 5) (by omega) (by omega) (by omega) (by omega))).trans pz_i0) ((congrArg Int32.ofInt (pz_M0_z (a := 78) (k := 6) (by omega) (by omega) (by omega) (by omega))).trans pz_i0) ((congrArg Int32.ofInt (pz_M0_z (a := 78) (k := 7) (by omega) (by omega) (by omega) (by omega))).trans pz_i0)]
  exact h⟩
theorem pz_ro79 : pz_rw6 D cy H (pz_WL cy h0 c1 g1 c2 g2 tx gtx pg dd gd kp gkp tp gtp tl gtl lk glk ph gph c3 g3 tx2 gtx2 pg2 h1 gm) (pz_ad (pz_adl h0 c1 g1 c2 g2 tx gtx pg dd gd kp gkp tp gtp tl gtl lk glk ph gph c3 g3 tx2 gtx2 pg2 h1 gm) adS) 79 := ⟨.inr (0, [.int 0, .ref (gkp.2 5 0), .ref (gkp.2 5 1), .int 0, .int 0, .int 0, .int 0, .int 0]), rfl, fun h => by
  rw [pz_o0 (a := 79) (M := pz_M0) rfl ((congrArg Int32.ofInt (pz_M0_z (a := 79) (k := 0) (by omega) (by omega) (by omega) (by omega))).trans pz_i0) rfl rfl ((congrArg Int32.ofInt (pz_M0_z (a := 79) (k := 3) (by omega) (by omega) (by omega) (by omega))).trans pz_i0) ((congrArg Int32.ofInt (pz_M0_z (a := 79) (k := 4) (by omega) (by omega) (by omega) (by omega))).trans pz_i0) ((congrArg Int32.ofInt (pz_M0_z (a := 79) (k := 5) (by omega) (by omega) (by omega) (by omega))).trans pz_i0) ((congrArg Int32.ofInt (pz_M0_z (a := 79) (k := 6) (by omega) (by omega) (by omega) (by omega))).trans pz_i0) ((congrArg Int32.ofInt (pz_M0_z (a := 79) (k := 7) (by omega) (by omega) (by omega) (by omega))).trans pz_i0)]
  exact h⟩
theorem pz_ro80 : pz_rw6 D cy H (pz_WL cy h0 c1 g1 c2 g2 tx gtx pg dd gd kp gkp tp gtp tl gtl lk glk ph gph c3 g3 tx2 gtx2 pg2 h1 gm) (pz_ad (pz_adl h0 c1 g1 c2 g2 tx gtx pg dd gd kp gkp tp gtp tl gtl lk glk ph gph c3 g3 tx2 gtx2 pg2 h1 gm) adS) 80 := ⟨.inl (cy 2, 12, .inr (.inr (.inr (.inr (fun j => some (g1 (2 + j))))))), rfl, fun h => by
  rw [pz_enQ (a := 80) 29 2 12 rfl (by decide) rfl (by decide)]
  exact pz_atq (fun j hj => match j, hj with | 0, _ => rfl | 1, _ => rfl | 2, _ => rfl | 3, _ => rfl | 4, _ => rfl | 5, _ => rfl | 6, _ => rfl | 7, _ => rfl | 8, _ => rfl | 9, _ => rfl | 10, _ => rfl | 11, _ => rfl | n + 12, h => absurd h (by omega)) h⟩
theorem pz_ro81 : pz_rw6 D cy H (pz_WL cy h0 c1 g1 c2 g2 tx gtx pg dd gd kp gkp tp gtp tl gtl lk glk ph gph c3 g3 tx2 gtx2 pg2 h1 gm) (pz_ad (pz_adl h0 c1 g1 c2 g2 tx gtx pg dd gd kp gkp tp gtp tl gtl lk glk ph gph c3 g3 tx2 gtx2 pg2 h1 gm) adS) 81 := ⟨.inl (cy 2, 12, .inr (.inr (.inr (.inr (fun j => some (g2 (2 + j))))))), rfl, fun h => by
  rw [pz_enQ (a := 81) 29 2 12 rfl (by decide) rfl (by decide)]
  exact pz_atq (fun j hj => match j, hj with | 0, _ => rfl | 1, _ => rfl | 2, _ => rfl | 3, _ => rfl | 4, _ => rfl | 5, _ => rfl | 6, _ => rfl | 7, _ => rfl | 8, _ => rfl | 9, _ => rfl | 10, _ => rfl | 11, _ => rfl | n + 12, h => absurd h (by omega)) h⟩
theorem pz_ro82 : pz_rw6 D cy H (pz_WL cy h0 c1 g1 c2 g2 tx gtx pg dd gd kp gkp tp gtp tl gtl lk glk ph gph c3 g3 tx2 gtx2 pg2 h1 gm) (pz_ad (pz_adl h0 c1 g1 c2 g2 tx gtx pg dd gd kp gkp tp gtp tl gtl lk glk ph gph c3 g3 tx2 gtx2 pg2 h1 gm) adS) 82 := ⟨.inl (cy 2, 12, .inr (.inr (.inr (.inr (fun j => some (g3 (2 + j))))))), rfl, fun h => by
  rw [pz_enQ (a := 82) 29 2 12 rfl (by decide) rfl (by decide)]
  exact pz_atq (fun j hj => match j, hj with | 0, _ => rfl | 1, _ => rfl | 2, _ => rfl | 3, _ => rfl | 4, _ => rfl | 5, _ => rfl | 6, _ => rfl | 7, _ => rfl | 8, _ => rfl | 9, _ => rfl | 10, _ => rfl | 11, _ => rfl | n + 12, h => absurd h (by omega)) h⟩
theorem pz_ro83 : pz_rw6 D cy H (pz_WL cy h0 c1 g1 c2 g2 tx gtx pg dd gd kp gkp tp gtp tl gtl lk glk ph gph c3 g3 tx2 gtx2 pg2 h1 gm) (pz_ad (pz_adl h0 c1 g1 c2 g2 tx gtx pg dd gd kp gkp tp gtp tl gtl lk glk ph gph c3 g3 tx2 gtx2 pg2 h1 gm) adS) 83 := ⟨.inl (cy 2, 12, .inr (.inr (.inr (.inr (fun j => some (gkp.2 0 (2 + j))))))), rfl, fun h => by
  rw [pz_enQ (a := 83) 29 2 12 rfl (by decide) rfl (by decide)]
  exact pz_atq (fun j hj => match j, hj with | 0, _ => rfl | 1, _ => rfl | 2, _ => rfl | 3, _ => rfl | 4, _ => rfl | 5, _ => rfl | 6, _ => rfl | 7, _ => rfl | 8, _ => rfl | 9, _ => rfl | 10, _ => rfl | 11, _ => rfl | n + 12, h => absurd h (by omega)) h⟩
theorem pz_ro84 : pz_rw6 D cy H (pz_WL cy h0 c1 g1 c2 g2 tx gtx pg dd gd kp gkp tp gtp tl gtl lk glk ph gph c3 g3 tx2 gtx2 pg2 h1 gm) (pz_ad (pz_adl h0 c1 g1 c2 g2 tx gtx pg dd gd kp gkp tp gtp tl gtl lk glk ph gph c3 g3 tx2 gtx2 pg2 h1 gm) adS) 84 := ⟨.inl (cy 2, 12, .inr (.inr (.inr (.inr (fun j => some (gkp.2 1 (2 + j))))))), rfl, fun h => by
  rw [pz_enQ (a := 84) 29 2 12 rfl (by decide) rfl (by decide)]
  exact pz_atq (fun j hj => match j, hj with | 0, _ => rfl | 1, _ => rfl | 2, _ => rfl | 3, _ => rfl | 4, _ => rfl | 5, _ => rfl | 6, _ => rfl | 7, _ => rfl | 8, _ => rfl | 9, _ => rfl | 10, _ => rfl | 11, _ => rfl | n + 12, h => absurd h (by omega)) h⟩
theorem pz_ro85 : pz_rw6 D cy H (pz_WL cy h0 c1 g1 c2 g2 tx gtx pg dd gd kp gkp tp gtp tl gtl lk glk ph gph c3 g3 tx2 gtx2 pg2 h1 gm) (pz_ad (pz_adl h0 c1 g1 c2 g2 tx gtx pg dd gd kp gkp tp gtp tl gtl lk glk ph gph c3 g3 tx2 gtx2 pg2 h1 gm) adS) 85 := ⟨.inl (cy 2, 12, .inr (.inr (.inr (.inr (fun j => some (gkp.2 2 (2 + j))))))), rfl, fun h => by
  rw [pz_enQ (a := 85) 29 2 12 rfl (by decide) rfl (by decide)]
  exact pz_atq (fun j hj => match j, hj with | 0, _ => rfl | 1, _ => rfl | 2, _ => rfl | 3, _ => rfl | 4, _ => rfl | 5, _ => rfl | 6, _ => rfl | 7, _ => rfl | 8, _ => rfl | 9, _ => rfl | 10, _ => rfl | 11, _ => rfl | n + 12, h => absurd h (by omega)) h⟩
theorem pz_ro86 : pz_rw6 D cy H (pz_WL cy h0 c1 g1 c2 g2 tx gtx pg dd gd kp gkp tp gtp tl gtl lk glk ph gph c3 g3 tx2 gtx2 pg2 h1 gm) (pz_ad (pz_adl h0 c1 g1 c2 g2 tx gtx pg dd gd kp gkp tp gtp tl gtl lk glk ph gph c3 g3 tx2 gtx2 pg2 h1 gm) adS) 86 := ⟨.inl (cy 2, 12, .inr (.inr (.inr (.inr (fun j => some (gkp.2 3 (2 + j))))))), rfl, fun h => by
  rw [pz_enQ (a := 86) 29 2 12 rfl (by decide) rfl (by decide)]
  exact pz_atq (fun j hj => match j, hj with | 0, _ => rfl | 1, _ => rfl | 2, _ => rfl | 3, _ => rfl | 4, _ => rfl | 5, _ => rfl | 6, _ => rfl | 7, _ => rfl | 8, _ => rfl | 9, _ => rfl | 10, _ => rfl | 11, _ => rfl | n + 12, h => absurd h (by omega)) h⟩
theorem pz_ro87 : pz_rw6 D cy H (pz_WL cy h0 c1 g1 c2 g2 tx gtx pg dd gd kp gkp tp gtp tl gtl lk glk ph gph c3 g3 tx2 gtx2 pg2 h1 gm) (pz_ad (pz_adl h0 c1 g1 c2 g2 tx gtx pg dd gd kp gkp tp gtp tl gtl lk glk ph gph c3 g3 tx2 gtx2 pg2 h1 gm) adS) 87 := ⟨.inl (cy 2, 12, .inr (.inr (.inr (.inr (fun j => some (gkp.2 4 (2 + j))))))), rfl, fun h => by
  rw [pz_enQ (a := 87) 29 2 12 rfl (by decide) rfl (by decide)]
  exact pz_atq (fun j hj => match j, hj with | 0, _ => rfl | 1, _ => rfl | 2, _ => rfl | 3, _ => rfl | 4, _ => rfl | 5, _ => rfl | 6, _ => rfl | 7, _ => rfl | 8, _ => rfl | 9, _ => rfl | 10, _ => rfl | 11, _ => rfl | n + 12, h => absurd h (by omega)) h⟩
theorem pz_ro88 : pz_rw6 D cy H (pz_WL cy h0 c1 g1 c2 g2 tx gtx pg dd gd kp gkp tp gtp tl gtl lk glk ph gph c3 g3 tx2 gtx2 pg2 h1 gm) (pz_ad (pz_adl h0 c1 g1 c2 g2 tx gtx pg dd gd kp gkp tp gtp tl gtl lk glk ph gph c3 g3 tx2 gtx2 pg2 h1 gm) adS) 88 := ⟨.inl (cy 2, 12, .inr (.inr (.inr (.inr (fun j => some (gkp.2 5 (2 + j))))))), rfl, fun h => by
  rw [pz_enQ (a := 88) 29 2 12 rfl (by decide) rfl (by decide)]
  exact pz_atq (fun j hj => match j, hj with | 0, _ => rfl | 1, _ => rfl | 2, _ => rfl | 3, _ => rfl | 4, _ => rfl | 5, _ => rfl | 6, _ => rfl | 7, _ => rfl | 8, _ => rfl | 9, _ => rfl | 10, _ => rfl | 11, _ => rfl | n + 12, h => absurd h (by omega)) h⟩
theorem pz_ro89 : pz_rw6 D cy H (pz_WL cy h0 c1 g1 c2 g2 tx gtx pg dd gd kp gkp tp gtp tl gtl lk glk ph gph c3 g3 tx2 gtx2 pg2 h1 gm) (pz_ad (pz_adl h0 c1 g1 c2 g2 tx gtx pg dd gd kp gkp tp gtp tl gtl lk glk ph gph c3 g3 tx2 gtx2 pg2 h1 gm) adS) 89 := ⟨.inr (5, [.int 0, .int 0, .int 0, .int 0, .int 0, .int 0, .int 0, .int (-1)]), rfl, fun h => by
  rw [pz_o5z (a := 89) rfl (by decide)]
  exact h⟩
theorem pz_ro90 : pz_rw6 D cy H (pz_WL cy h0 c1 g1 c2 g2 tx gtx pg dd gd kp gkp tp gtp tl gtl lk glk ph gph c3 g3 tx2 gtx2 pg2 h1 gm) (pz_ad (pz_adl h0 c1 g1 c2 g2 tx gtx pg dd gd kp gkp tp gtp tl gtl lk glk ph gph c3 g3 tx2 gtx2 pg2 h1 gm) adS) 90 := ⟨.inr (5, [.int 0, .int 0, .int 0, .int 0, .int 0, .int 0, .int 0, .int (-1)]), rfl, fun h => by
  rw [pz_o5z (a := 90) rfl (by decide)]
  exact h⟩
theorem pz_ro91 : pz_rw6 D cy H (pz_WL cy h0 c1 g1 c2 g2 tx gtx pg dd gd kp gkp tp gtp tl gtl lk glk ph gph c3 g3 tx2 gtx2 pg2 h1 gm) (pz_ad (pz_adl h0 c1 g1 c2 g2 tx gtx pg dd gd kp gkp tp gtp tl gtl lk glk ph gph c3 g3 tx2 gtx2 pg2 h1 gm) adS) 91 := ⟨.inr (5, [.int 0, .int 0, .int 0, .int 0, .int 0, .int 0, .int 0, .int (-1)]), rfl, fun h => by
  rw [pz_o5z (a := 91) rfl (by decide)]
  exact h⟩
theorem pz_ro92 : pz_rw6 D cy H (pz_WL cy h0 c1 g1 c2 g2 tx gtx pg dd gd kp gkp tp gtp tl gtl lk glk ph gph c3 g3 tx2 gtx2 pg2 h1 gm) (pz_ad (pz_adl h0 c1 g1 c2 g2 tx gtx pg dd gd kp gkp tp gtp tl gtl lk glk ph gph c3 g3 tx2 gtx2 pg2 h1 gm) adS) 92 := ⟨.inr (5, [.int 0, .int 0, .int 0, .int 0, .int 0, .int 0, .int 0, .int (-1)]), rfl, fun h => by
  rw [pz_o5z (a := 92) rfl (by decide)]
  exact h⟩
theorem pz_ro93 : pz_rw6 D cy H (pz_WL cy h0 c1 g1 c2 g2 tx gtx pg dd gd kp gkp tp gtp tl gtl lk glk ph gph c3 g3 tx2 gtx2 pg2 h1 gm) (pz_ad (pz_adl h0 c1 g1 c2 g2 tx gtx pg dd gd kp gkp tp gtp tl gtl lk glk ph gph c3 g3 tx2 gtx2 pg2 h1 gm) adS) 93 := ⟨.inr (5, [.int 0, .int 0, .int 0, .int 0, .int 0, .int 0, .int 0, .int (-1)]), rfl, fun h => by
  rw [pz_o5z (a := 93) rfl (by decide)]
  exact h⟩
theorem pz_ro94 : pz_rw6 D cy H (pz_WL cy h0 c1 g1 c2 g2 tx gtx pg dd gd kp gkp tp gtp tl gtl lk glk ph gph c3 g3 tx2 gtx2 pg2 h1 gm) (pz_ad (pz_adl h0 c1 g1 c2 g2 tx gtx pg dd gd kp gkp tp gtp tl gtl lk glk ph gph c3 g3 tx2 gtx2 pg2 h1 gm) adS) 94 := ⟨.inr (5, [.int 0, .int 0, .int 0, .int 0, .int 0, .int 0, .int 0, .int (-1)]), rfl, fun h => by
  rw [pz_o5z (a := 94) rfl (by decide)]
  exact h⟩
theorem pz_ro95 : pz_rw6 D cy H (pz_WL cy h0 c1 g1 c2 g2 tx gtx pg dd gd kp gkp tp gtp tl gtl lk glk ph gph c3 g3 tx2 gtx2 pg2 h1 gm) (pz_ad (pz_adl h0 c1 g1 c2 g2 tx gtx pg dd gd kp gkp tp gtp tl gtl lk glk ph gph c3 g3 tx2 gtx2 pg2 h1 gm) adS) 95 := ⟨.inr (5, [.int 0, .int 0, .int 0, .int 0, .int 0, .int 0, .int 0, .int (-1)]), rfl, fun h => by
  rw [pz_o5z (a := 95) rfl (by decide)]
  exact h⟩
theorem pz_ro96 : pz_rw6 D cy H (pz_WL cy h0 c1 g1 c2 g2 tx gtx pg dd gd kp gkp tp gtp tl gtl lk glk ph gph c3 g3 tx2 gtx2 pg2 h1 gm) (pz_ad (pz_adl h0 c1 g1 c2 g2 tx gtx pg dd gd kp gkp tp gtp tl gtl lk glk ph gph c3 g3 tx2 gtx2 pg2 h1 gm) adS) 96 := ⟨.inr (5, [.int 0, .int 0, .int 0, .int 0, .int 0, .int 0, .int 0, .int (-1)]), rfl, fun h => by
  rw [pz_o5z (a := 96) rfl (by decide)]
  exact h⟩
theorem pz_ro97 : pz_rw6 D cy H (pz_WL cy h0 c1 g1 c2 g2 tx gtx pg dd gd kp gkp tp gtp tl gtl lk glk ph gph c3 g3 tx2 gtx2 pg2 h1 gm) (pz_ad (pz_adl h0 c1 g1 c2 g2 tx gtx pg dd gd kp gkp tp gtp tl gtl lk glk ph gph c3 g3 tx2 gtx2 pg2 h1 gm) adS) 97 := ⟨.inr (5, [.int 0, .int 0, .int 0, .int 0, .int 0, .int 0, .int 0, .int (-1)]), rfl, fun h => by
  rw [pz_o5z (a := 97) rfl (by decide)]
  exact h⟩
theorem pz_ro98 : pz_rw6 D cy H (pz_WL cy h0 c1 g1 c2 g2 tx gtx pg dd gd kp gkp tp gtp tl gtl lk glk ph gph c3 g3 tx2 gtx2 pg2 h1 gm) (pz_ad (pz_adl h0 c1 g1 c2 g2 tx gtx pg dd gd kp gkp tp gtp tl gtl lk glk ph gph c3 g3 tx2 gtx2 pg2 h1 gm) adS) 98 := ⟨.inr (5, [.int 0, .int 0, .int 0, .int 0, .int 0, .int 0, .int 0, .int (-1)]), rfl, fun h => by
  rw [pz_o5z (a := 98) rfl (by decide)]
  exact h⟩
theorem pz_ro99 : pz_rw6 D cy H (pz_WL cy h0 c1 g1 c2 g2 tx gtx pg dd gd kp gkp tp gtp tl gtl lk glk ph gph c3 g3 tx2 gtx2 pg2 h1 gm) (pz_ad (pz_adl h0 c1 g1 c2 g2 tx gtx pg dd gd kp gkp tp gtp tl gtl lk glk ph gph c3 g3 tx2 gtx2 pg2 h1 gm) adS) 99 := ⟨.inr (5, [.int 0, .int 0, .int 0, .int 0, .int 0, .int 0, .int 0, .int (-1)]), rfl, fun h => by
  rw [pz_o5z (a := 99) rfl (by decide)]
  exact h⟩
theorem pz_ro100 : pz_rw6 D cy H (pz_WL cy h0 c1 g1 c2 g2 tx gtx pg dd gd kp gkp tp gtp tl gtl lk glk ph gph c3 g3 tx2 gtx2 pg2 h1 gm) (pz_ad (pz_adl h0 c1 g1 c2 g2 tx gtx pg dd gd kp gkp tp gtp tl gtl lk glk ph gph c3 g3 tx2 gtx2 pg2 h1 gm) adS) 100 := ⟨.inr (5, [.int 0, .int 0, .int 0, .int 0, .int 0, .int 0, .int 0, .int (-1)]), rfl, fun h => by
  rw [pz_o5z (a := 100) rfl (by decide)]
  exact h⟩
theorem pz_ro101 : pz_rw6 D cy H (pz_WL cy h0 c1 g1 c2 g2 tx gtx pg dd gd kp gkp tp gtp tl gtl lk glk ph gph c3 g3 tx2 gtx2 pg2 h1 gm) (pz_ad (pz_adl h0 c1 g1 c2 g2 tx gtx pg dd gd kp gkp tp gtp tl gtl lk glk ph gph c3 g3 tx2 gtx2 pg2 h1 gm) adS) 101 := ⟨.inr (5, [.int 0, .int 0, .int 0, .int 0, .int 0, .int 0, .int 0, .int (-1)]), rfl, fun h => by
  rw [pz_o5z (a := 101) rfl (by decide)]
  exact h⟩
theorem pz_ro102 : pz_rw6 D cy H (pz_WL cy h0 c1 g1 c2 g2 tx gtx pg dd gd kp gkp tp gtp tl gtl lk glk ph gph c3 g3 tx2 gtx2 pg2 h1 gm) (pz_ad (pz_adl h0 c1 g1 c2 g2 tx gtx pg dd gd kp gkp tp gtp tl gtl lk glk ph gph c3 g3 tx2 gtx2 pg2 h1 gm) adS) 102 := ⟨.inr (5, [.int 0, .int 0, .int 0, .int 0, .int 0, .int 0, .int 0, .int (-1)]), rfl, fun h => by
  rw [pz_o5z (a := 102) rfl (by decide)]
  exact h⟩
theorem pz_ro103 : pz_rw6 D cy H (pz_WL cy h0 c1 g1 c2 g2 tx gtx pg dd gd kp gkp tp gtp tl gtl lk glk ph gph c3 g3 tx2 gtx2 pg2 h1 gm) (pz_ad (pz_adl h0 c1 g1 c2 g2 tx gtx pg dd gd kp gkp tp gtp tl gtl lk glk ph gph c3 g3 tx2 gtx2 pg2 h1 gm) adS) 103 := ⟨.inr (5, [.int 0, .int 0, .int 0, .int 0, .int 0, .int 0, .int 0, .int (-1)]), rfl, fun h => by
  rw [pz_o5z (a := 103) rfl (by decide)]
  exact h⟩
end PZ16
end
