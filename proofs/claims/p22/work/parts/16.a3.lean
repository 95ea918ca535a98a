section
section PZ16
variable {D : va_G} {cy : Nat → ClassId} {H : Heap} {adS : Nat → Nat} {h0 : Nat} {c1 : Nat} {g1 : Nat → Nat} {c2 : Nat} {g2 : Nat → Nat} {tx : Nat} {gtx : (Nat × (Nat → Nat)) × (Nat × (Nat → Nat)) × (Nat × (Nat → Nat)) × Nat × (Nat → Nat)} {pg : Nat} {dd : Nat} {gd : Nat → Nat} {kp : Nat} {gkp : (Nat → Nat) × (Nat → Nat → Nat)} {tp : Nat} {gtp : Nat → Nat} {tl : Nat} {gtl : (Nat × (Nat → Nat)) × Nat × (Nat → Nat)} {lk : Nat} {glk : Nat → Nat} {ph : Nat} {gph : Nat → Nat} {c3 : Nat} {g3 : Nat → Nat} {tx2 : Nat} {gtx2 : (Nat × (Nat → Nat)) × (Nat × (Nat → Nat)) × (Nat × (Nat → Nat)) × Nat × (Nat → Nat)} {pg2 : Nat} {h1 : Nat} {gm : Nat → Nat}
theorem pz_ro104 : pz_rw6 D cy H (pz_WL cy h0 c1 g1 c2 g2 tx gtx pg dd gd kp gkp tp gtp tl gtl lk glk ph gph c3 g3 tx2 gtx2 pg2 h1 gm) (pz_ad (pz_adl h0 c1 g1 c2 g2 tx gtx pg dd gd kp gkp tp gtp tl gtl lk glk ph gph c3 g3 tx2 gtx2 pg2 h1 gm) adS) 104 := ⟨.inr (5, [.int 0, .int 0, .int 0, .int 0, .int 0, .int 0, .int 0, .int (-1)]), rfl, fun h => by
  rw [pz_o5z (a := 104) rfl (by decide)]
  exact h⟩
theorem pz_ro105 : pz_rw6 D cy H (pz_WL cy h0 c1 g1 c2 g2 tx gtx pg dd gd kp gkp tp gtp tl gtl lk glk ph gph c3 g3 tx2 gtx2 pg2 h1 gm) (pz_ad (pz_adl h0 c1 g1 c2 g2 tx gtx pg dd gd kp gkp tp gtp tl gtl lk glk ph gph c3 g3 tx2 gtx2 pg2 h1 gm) adS) 105 := ⟨.inr (5, [.int 0, .int 0, .int 0, .int 0, .int 0, .int 0, .int 0, .int (-1)]), rfl, fun h => by
  rw [pz_o5z (a := 105) rfl (by decide)]
  exact h⟩
theorem pz_ro106 : pz_rw6 D cy H (pz_WL cy h0 c1 g1 c2 g2 tx gtx pg dd gd kp gkp tp gtp tl gtl lk glk ph gph c3 g3 tx2 gtx2 pg2 h1 gm) (pz_ad (pz_adl h0 c1 g1 c2 g2 tx gtx pg dd gd kp gkp tp gtp tl gtl lk glk ph gph c3 g3 tx2 gtx2 pg2 h1 gm) adS) 106 := ⟨.inr (5, [.int 0, .int 0, .int 0, .int 0, .int 0, .int 0, .int 0, .int (-1)]), rfl, fun h => by
  rw [pz_o5z (a := 106) rfl (by decide)]
  exact h⟩
theorem pz_ro107 : pz_rw6 D cy H (pz_WL cy h0 c1 g1 c2 g2 tx gtx pg dd gd kp gkp tp gtp tl gtl lk glk ph gph c3 g3 tx2 gtx2 pg2 h1 gm) (pz_ad (pz_adl h0 c1 g1 c2 g2 tx gtx pg dd gd kp gkp tp gtp tl gtl lk glk ph gph c3 g3 tx2 gtx2 pg2 h1 gm) adS) 107 := ⟨.inr (5, [.int 0, .int 0, .int 0, .int 0, .int 0, .int 0, .int 0, .int (-1)]), rfl, fun h => by
  rw [pz_o5z (a := 107) rfl (by decide)]
  exact h⟩
theorem pz_ro108 : pz_rw6 D cy H (pz_WL cy h0 c1 g1 c2 g2 tx gtx pg dd gd kp gkp tp gtp tl gtl lk glk ph gph c3 g3 tx2 gtx2 pg2 h1 gm) (pz_ad (pz_adl h0 c1 g1 c2 g2 tx gtx pg dd gd kp gkp tp gtp tl gtl lk glk ph gph c3 g3 tx2 gtx2 pg2 h1 gm) adS) 108 := ⟨.inr (5, [.int 0, .int 0, .int 0, .int 0, .int 0, .int 0, .int 0, .int (-1)]), rfl, fun h => by
  rw [pz_o5z (a := 108) rfl (by decide)]
  exact h⟩
theorem pz_ro109 : pz_rw6 D cy H (pz_WL cy h0 c1 g1 c2 g2 tx gtx pg dd gd kp gkp tp gtp tl gtl lk glk ph gph c3 g3 tx2 gtx2 pg2 h1 gm) (pz_ad (pz_adl h0 c1 g1 c2 g2 tx gtx pg dd gd kp gkp tp gtp tl gtl lk glk ph gph c3 g3 tx2 gtx2 pg2 h1 gm) adS) 109 := ⟨.inr (5, [.int 0, .int 0, .int 0, .int 0, .int 0, .int 0, .int 0, .int (-1)]), rfl, fun h => by
  rw [pz_o5z (a := 109) rfl (by decide)]
  exact h⟩
theorem pz_ro110 : pz_rw6 D cy H (pz_WL cy h0 c1 g1 c2 g2 tx gtx pg dd gd kp gkp tp gtp tl gtl lk glk ph gph c3 g3 tx2 gtx2 pg2 h1 gm) (pz_ad (pz_adl h0 c1 g1 c2 g2 tx gtx pg dd gd kp gkp tp gtp tl gtl lk glk ph gph c3 g3 tx2 gtx2 pg2 h1 gm) adS) 110 := ⟨.inr (5, [.int 0, .int 0, .int 0, .int 0, .int 0, .int 0, .int 0, .int (-1)]), rfl, fun h => by
  rw [pz_o5z (a := 110) rfl (by decide)]
  exact h⟩
theorem pz_ro111 : pz_rw6 D cy H (pz_WL cy h0 c1 g1 c2 g2 tx gtx pg dd gd kp gkp tp gtp tl gtl lk glk ph gph c3 g3 tx2 gtx2 pg2 h1 gm) (pz_ad (pz_adl h0 c1 g1 c2 g2 tx gtx pg dd gd kp gkp tp gtp tl gtl lk glk ph gph c3 g3 tx2 gtx2 pg2 h1 gm) adS) 111 := ⟨.inr (5, [.int 0, .int 0, .int 0, .int 0, .int 0, .int 0, .int 0, .int (-1)]), rfl, fun h => by
  rw [pz_o5z (a := 111) rfl (by decide)]
  exact h⟩
theorem pz_ro112 : pz_rw6 D cy H (pz_WL cy h0 c1 g1 c2 g2 tx gtx pg dd gd kp gkp tp gtp tl gtl lk glk ph gph c3 g3 tx2 gtx2 pg2 h1 gm) (pz_ad (pz_adl h0 c1 g1 c2 g2 tx gtx pg dd gd kp gkp tp gtp tl gtl lk glk ph gph c3 g3 tx2 gtx2 pg2 h1 gm) adS) 112 := ⟨.inr (5, [.int 0, .int 0, .int 0, .int 0, .int 0, .int 0, .int 0, .int (-1)]), rfl, fun h => by
  rw [pz_o5z (a := 112) rfl (by decide)]
  exact h⟩
theorem pz_ro113 : pz_rw6 D cy H (pz_WL cy h0 c1 g1 c2 g2 tx gtx pg dd gd kp gkp tp gtp tl gtl lk glk ph gph c3 g3 tx2 gtx2 pg2 h1 gm) (pz_ad (pz_adl h0 c1 g1 c2 g2 tx gtx pg dd gd kp gkp tp gtp tl gtl lk glk ph gph c3 g3 tx2 gtx2 pg2 h1 gm) adS) 113 := ⟨.inr (5, [.int 0, .int 0, .int 0, .int 0, .int 0, .int 0, .int 0, .int (-1)]), rfl, fun h => by
  rw [pz_o5z (a := 113) rfl (by decide)]
  exact h⟩
theorem pz_ro114 : pz_rw6 D cy H (pz_WL cy h0 c1 g1 c2 g2 tx gtx pg dd gd kp gkp tp gtp tl gtl lk glk ph gph c3 g3 tx2 gtx2 pg2 h1 gm) (pz_ad (pz_adl h0 c1 g1 c2 g2 tx gtx pg dd gd kp gkp tp gtp tl gtl lk glk ph gph c3 g3 tx2 gtx2 pg2 h1 gm) adS) 114 := ⟨.inr (5, [.int 0, .int 0, .int 0, .int 0, .int 0, .int 0, .int 0, .int (-1)]), rfl, fun h => by
  rw [pz_o5z (a := 114) rfl (by decide)]
  exact h⟩
theorem pz_ro115 : pz_rw6 D cy H (pz_WL cy h0 c1 g1 c2 g2 tx gtx pg dd gd kp gkp tp gtp tl gtl lk glk ph gph c3 g3 tx2 gtx2 pg2 h1 gm) (pz_ad (pz_adl h0 c1 g1 c2 g2 tx gtx pg dd gd kp gkp tp gtp tl gtl lk glk ph gph c3 g3 tx2 gtx2 pg2 h1 gm) adS) 115 := ⟨.inr (5, [.int 0, .int 0, .int 0, .int 0, .int 0, .int 0, .int 0, .int (-1)]), rfl, fun h => by
  rw [pz_o5z (a := 115) rfl (by decide)]
  exact h⟩
theorem pz_ro116 : pz_rw6 D cy H (pz_WL cy h0 c1 g1 c2 g2 tx gtx pg dd gd kp gkp tp gtp tl gtl lk glk ph gph c3 g3 tx2 gtx2 pg2 h1 gm) (pz_ad (pz_adl h0 c1 g1 c2 g2 tx gtx pg dd gd kp gkp tp gtp tl gtl lk glk ph gph c3 g3 tx2 gtx2 pg2 h1 gm) adS) 116 := ⟨.inr (5, [.int 0, .int 0, .int 0, .int 0, .int 0, .int 0, .int 0, .int (-1)]), rfl, fun h => by
  rw [pz_o5z (a := 116) rfl (by decide)]
  exact h⟩
theorem pz_ro117 : pz_rw6 D cy H (pz_WL cy h0 c1 g1 c2 g2 tx gtx pg dd gd kp gkp tp gtp tl gtl lk glk ph gph c3 g3 tx2 gtx2 pg2 h1 gm) (pz_ad (pz_adl h0 c1 g1 c2 g2 tx gtx pg dd gd kp gkp tp gtp tl gtl lk glk ph gph c3 g3 tx2 gtx2 pg2 h1 gm) adS) 117 := ⟨.inr (5, [.int 0, .int 0, .int 0, .int 0, .int 0, .int 0, .int 0, .int (-1)]), rfl, fun h => by
  rw [pz_o5z (a := 117) rfl (by decide)]
  exact h⟩
theorem pz_ro118 : pz_rw6 D cy H (pz_WL cy h0 c1 g1 c2 g2 tx gtx pg dd gd kp gkp tp gtp tl gtl lk glk ph gph c3 g3 tx2 gtx2 pg2 h1 gm) (pz_ad (pz_adl h0 c1 g1 c2 g2 tx gtx pg dd gd kp gkp tp gtp tl gtl lk glk ph gph c3 g3 tx2 gtx2 pg2 h1 gm) adS) 118 := ⟨.inr (5, [.int 0, .int 0, .int 0, .int 0, .int 0, .int 0, .int 0, .int (-1)]), rfl, fun h => by
  rw [pz_o5z (a := 118) rfl (by decide)]
  exact h⟩
theorem pz_ro119 : pz_rw6 D cy H (pz_WL cy h0 c1 g1 c2 g2 tx gtx pg dd gd kp gkp tp gtp tl gtl lk glk ph gph c3 g3 tx2 gtx2 pg2 h1 gm) (pz_ad (pz_adl h0 c1 g1 c2 g2 tx gtx pg dd gd kp gkp tp gtp tl gtl lk glk ph gph c3 g3 tx2 gtx2 pg2 h1 gm) adS) 119 := ⟨.inr (5, [.int 0, .int 0, .int 0, .int 0, .int 0, .int 0, .int 0, .int (-1)]), rfl, fun h => by
  rw [pz_o5z (a := 119) rfl (by decide)]
  exact h⟩
theorem pz_ro120 : pz_rw6 D cy H (pz_WL cy h0 c1 g1 c2 g2 tx gtx pg dd gd kp gkp tp gtp tl gtl lk glk ph gph c3 g3 tx2 gtx2 pg2 h1 gm) (pz_ad (pz_adl h0 c1 g1 c2 g2 tx gtx pg dd gd kp gkp tp gtp tl gtl lk glk ph gph c3 g3 tx2 gtx2 pg2 h1 gm) adS) 120 := ⟨.inr (5, [.int 0, .int 0, .int 0, .int 0, .int 0, .int 0, .int 0, .int (-1)]), rfl, fun h => by
  rw [pz_o5z (a := 120) rfl (by decide)]
  exact h⟩
theorem pz_ro121 : pz_rw6 D cy H (pz_WL cy h0 c1 g1 c2 g2 tx gtx pg dd gd kp gkp tp gtp tl gtl lk glk ph gph c3 g3 tx2 gtx2 pg2 h1 gm) (pz_ad (pz_adl h0 c1 g1 c2 g2 tx gtx pg dd gd kp gkp tp gtp tl gtl lk glk ph gph c3 g3 tx2 gtx2 pg2 h1 gm) adS) 121 := ⟨.inr (5, [.int 0, .int 0, .int 0, .int 0, .int 0, .int 0, .int 0, .int (-1)]), rfl, fun h => by
  rw [pz_o5z (a := 121) rfl (by decide)]
  exact h⟩
theorem pz_ro122 : pz_rw6 D cy H (pz_WL cy h0 c1 g1 c2 g2 tx gtx pg dd gd kp gkp tp gtp tl gtl lk glk ph gph c3 g3 tx2 gtx2 pg2 h1 gm) (pz_ad (pz_adl h0 c1 g1 c2 g2 tx gtx pg dd gd kp gkp tp gtp tl gtl lk glk ph gph c3 g3 tx2 gtx2 pg2 h1 gm) adS) 122 := ⟨.inr (5, [.int 0, .int 0, .int 0, .int 0, .int 0, .int 0, .int 0, .int (-1)]), rfl, fun h => by
  rw [pz_o5z (a := 122) rfl (by decide)]
  exact h⟩
theorem pz_ro123 : pz_rw6 D cy H (pz_WL cy h0 c1 g1 c2 g2 tx gtx pg dd gd kp gkp tp gtp tl gtl lk glk ph gph c3 g3 tx2 gtx2 pg2 h1 gm) (pz_ad (pz_adl h0 c1 g1 c2 g2 tx gtx pg dd gd kp gkp tp gtp tl gtl lk glk ph gph c3 g3 tx2 gtx2 pg2 h1 gm) adS) 123 := ⟨.inr (5, [.int 0, .int 0, .int 0, .int 0, .int 0, .int 0, .int 0, .int (-1)]), rfl, fun h => by
  rw [pz_o5z (a := 123) rfl (by decide)]
  exact h⟩
theorem pz_ro124 : pz_rw6 D cy H (pz_WL cy h0 c1 g1 c2 g2 tx gtx pg dd gd kp gkp tp gtp tl gtl lk glk ph gph c3 g3 tx2 gtx2 pg2 h1 gm) (pz_ad (pz_adl h0 c1 g1 c2 g2 tx gtx pg dd gd kp gkp tp gtp tl gtl lk glk ph gph c3 g3 tx2 gtx2 pg2 h1 gm) adS) 124 := ⟨.inr (5, [.int 0, .int 0, .int 0, .int 0, .int 0, .int 0, .int 0, .int (-1)]), rfl, fun h => by
  rw [pz_o5z (a := 124) rfl (by decide)]
  exact h⟩
theorem pz_ro125 : pz_rw6 D cy H (pz_WL cy h0 c1 g1 c2 g2 tx gtx pg dd gd kp gkp tp gtp tl gtl lk glk ph gph c3 g3 tx2 gtx2 pg2 h1 gm) (pz_ad (pz_adl h0 c1 g1 c2 g2 tx gtx pg dd gd kp gkp tp gtp tl gtl lk glk ph gph c3 g3 tx2 gtx2 pg2 h1 gm) adS) 125 := ⟨.inr (5, [.int 0, .int 0, .int 0, .int 0, .int 0, .int 0, .int 0, .int (-1)]), rfl, fun h => by
  rw [pz_o5z (a := 125) rfl (by decide)]
  exact h⟩
theorem pz_ro126 : pz_rw6 D cy H (pz_WL cy h0 c1 g1 c2 g2 tx gtx pg dd gd kp gkp tp gtp tl gtl lk glk ph gph c3 g3 tx2 gtx2 pg2 h1 gm) (pz_ad (pz_adl h0 c1 g1 c2 g2 tx gtx pg dd gd kp gkp tp gtp tl gtl lk glk ph gph c3 g3 tx2 gtx2 pg2 h1 gm) adS) 126 := ⟨.inr (5, [.int 0, .int 0, .int 0, .int 0, .int 0, .int 0, .int 0, .int (-1)]), rfl, fun h => by
  rw [pz_o5z (a := 126) rfl (by decide)]
  exact h⟩
theorem pz_ro127 : pz_rw6 D cy H (pz_WL cy h0 c1 g1 c2 g2 tx gtx pg dd gd kp gkp tp gtp tl gtl lk glk ph gph c3 g3 tx2 gtx2 pg2 h1 gm) (pz_ad (pz_adl h0 c1 g1 c2 g2 tx gtx pg dd gd kp gkp tp gtp tl gtl lk glk ph gph c3 g3 tx2 gtx2 pg2 h1 gm) adS) 127 := ⟨.inr (5, [.int 0, .int 0, .int 0, .int 0, .int 0, .int 0, .int 0, .int (-1)]), rfl, fun h => by
  rw [pz_o5z (a := 127) rfl (by decide)]
  exact h⟩
theorem pz_ro128 : pz_rw6 D cy H (pz_WL cy h0 c1 g1 c2 g2 tx gtx pg dd gd kp gkp tp gtp tl gtl lk glk ph gph c3 g3 tx2 gtx2 pg2 h1 gm) (pz_ad (pz_adl h0 c1 g1 c2 g2 tx gtx pg dd gd kp gkp tp gtp tl gtl lk glk ph gph c3 g3 tx2 gtx2 pg2 h1 gm) adS) 128 := ⟨.inr (5, [.int 0, .int 0, .int 0, .int 0, .int 0, .int 0, .int 0, .int (-1)]), rfl, fun h => by
  rw [pz_o5z (a := 128) rfl (by decide)]
  exact h⟩
theorem pz_ro129 : pz_rw6 D cy H (pz_WL cy h0 c1 g1 c2 g2 tx gtx pg dd gd kp gkp tp gtp tl gtl lk glk ph gph c3 g3 tx2 gtx2 pg2 h1 gm) (pz_ad (pz_adl h0 c1 g1 c2 g2 tx gtx pg dd gd kp gkp tp gtp tl gtl lk glk ph gph c3 g3 tx2 gtx2 pg2 h1 gm) adS) 129 := ⟨.inr (5, [.int 0, .int 0, .int 0, .int 0, .int 0, .int 0, .int 0, .int (-1)]), rfl, fun h => by
  rw [pz_o5z (a := 129) rfl (by decide)]
  exact h⟩
theorem pz_ro130 : pz_rw6 D cy H (pz_WL cy h0 c1 g1 c2 g2 tx gtx pg dd gd kp gkp tp gtp tl gtl lk glk ph gph c3 g3 tx2 gtx2 pg2 h1 gm) (pz_ad (pz_adl h0 c1 g1 c2 g2 tx gtx pg dd gd kp gkp tp gtp tl gtl lk glk ph gph c3 g3 tx2 gtx2 pg2 h1 gm) adS) 130 := ⟨.inr (5, [.int 0, .int 0, .int 0, .int 0, .int 0, .int 0, .int 0, .int (-1)]), rfl, fun h => by
  rw [pz_o5z (a := 130) rfl (by decide)]
  exact h⟩
theorem pz_ro131 : pz_rw6 D cy H (pz_WL cy h0 c1 g1 c2 g2 tx gtx pg dd gd kp gkp tp gtp tl gtl lk glk ph gph c3 g3 tx2 gtx2 pg2 h1 gm) (pz_ad (pz_adl h0 c1 g1 c2 g2 tx gtx pg dd gd kp gkp tp gtp tl gtl lk glk ph gph c3 g3 tx2 gtx2 pg2 h1 gm) adS) 131 := ⟨.inr (5, [.int 0, .int 0, .int 0, .int 0, .int 0, .int 0, .int 0, .int (-1)]), rfl, fun h => by
  rw [pz_o5z (a := 131) rfl (by decide)]
  exact h⟩
theorem pz_ro132 : pz_rw6 D cy H (pz_WL cy h0 c1 g1 c2 g2 tx gtx pg dd gd kp gkp tp gtp tl gtl lk glk ph gph c3 g3 tx2 gtx2 pg2 h1 gm) (pz_ad (pz_adl h0 c1 g1 c2 g2 tx gtx pg dd gd kp gkp tp gtp tl gtl lk glk ph gph c3 g3 tx2 gtx2 pg2 h1 gm) adS) 132 := ⟨.inr (5, [.int 0, .int 0, .int 0, .int 0, .int 0, .int 0, .int 0, .int (-1)]), rfl, fun h => by
  rw [pz_o5z (a := 132) rfl (by decide)]
  exact h⟩
theorem pz_ro133 : pz_rw6 D cy H (pz_WL cy h0 c1 g1 c2 g2 tx gtx pg dd gd kp gkp tp gtp tl gtl lk glk ph gph c3 g3 tx2 gtx2 pg2 h1 gm) (pz_ad (pz_adl h0 c1 g1 c2 g2 tx gtx pg dd gd kp gkp tp gtp tl gtl lk glk ph gph c3 g3 tx2 gtx2 pg2 h1 gm) adS) 133 := ⟨.inr (5, [.int 0, .int 0, .int 0, .int 0, .int 0, .int 0, .int 0, .int (-1)]), rfl, fun h => by
  rw [pz_o5z (a := 133) rfl (by decide)]
  exact h⟩
theorem pz_ro134 : pz_rw6 D cy H (pz_WL cy h0 c1 g1 c2 g2 tx gtx pg dd gd kp gkp tp gtp tl gtl lk glk ph gph c3 g3 tx2 gtx2 pg2 h1 gm) (pz_ad (pz_adl h0 c1 g1 c2 g2 tx gtx pg dd gd kp gkp tp gtp tl gtl lk glk ph gph c3 g3 tx2 gtx2 pg2 h1 gm) adS) 134 := ⟨.inr (5, [.int 0, .int 0, .int 0, .int 0, .int 0, .int 0, .int 0, .int (-1)]), rfl, fun h => by
  rw [pz_o5z (a := 134) rfl (by decide)]
  exact h⟩
theorem pz_ro135 : pz_rw6 D cy H (pz_WL cy h0 c1 g1 c2 g2 tx gtx pg dd gd kp gkp tp gtp tl gtl lk glk ph gph c3 g3 tx2 gtx2 pg2 h1 gm) (pz_ad (pz_adl h0 c1 g1 c2 g2 tx gtx pg dd gd kp gkp tp gtp tl gtl lk glk ph gph c3 g3 tx2 gtx2 pg2 h1 gm) adS) 135 := ⟨.inr (5, [.int 0, .int 0, .int 0, .int 0, .int 0, .int 0, .int 0, .int (-1)]), rfl, fun h => by
  rw [pz_o5z (a := 135) rfl (by decide)]
  exact h⟩
theorem pz_ro136 : pz_rw6 D cy H (pz_WL cy h0 c1 g1 c2 g2 tx gtx pg dd gd kp gkp tp gtp tl gtl lk glk ph gph c3 g3 tx2 gtx2 pg2 h1 gm) (pz_ad (pz_adl h0 c1 g1 c2 g2 tx gtx pg dd gd kp gkp tp gtp tl gtl lk glk ph gph c3 g3 tx2 gtx2 pg2 h1 gm) adS) 136 := ⟨.inr (5, [.int 0, .int 0, .int 0, .int 0, .int 0, .int 0, .int 0, .int (-1)]), rfl, fun h => by
  rw [pz_o5z (a := 136) rfl (by decide)]
  exact h⟩
theorem pz_ro137 : pz_rw6 D cy H (pz_WL cy h0 c1 g1 c2 g2 tx gtx pg dd gd kp gkp tp gtp tl gtl lk glk ph gph c3 g3 tx2 gtx2 pg2 h1 gm) (pz_ad (pz_adl h0 c1 g1 c2 g2 tx gtx pg dd gd kp gkp tp gtp tl gtl lk glk ph gph c3 g3 tx2 gtx2 pg2 h1 gm) adS) 137 := ⟨.inr (5, [.int 0, .int 0, .int 0, .int 0, .int 0, .int 0, .int 0, .int (-1)]), rfl, fun h => by
  rw [pz_o5z (a := 137) rfl (by decide)]
  exact h⟩
theorem pz_ro138 : pz_rw6 D cy H (pz_WL cy h0 c1 g1 c2 g2 tx gtx pg dd gd kp gkp tp gtp tl gtl lk glk ph gph c3 g3 tx2 gtx2 pg2 h1 gm) (pz_ad (pz_adl h0 c1 g1 c2 g2 tx gtx pg dd gd kp gkp tp gtp tl gtl lk glk ph gph c3 g3 tx2 gtx2 pg2 h1 gm) adS) 138 := ⟨.inr (5, [.int 0, .int 0, .int 0, .int 0, .int 0, .int 0, .int 0, .int (-1)]), rfl, fun h => by
  rw [pz_o5z (a := 138) rfl (by decide)]
  exact h⟩
theorem pz_ro139 : pz_rw6 D cy H (pz_WL cy h0 c1 g1 c2 g2 tx gtx pg dd gd kp gkp tp gtp tl gtl lk glk ph gph c3 g3 tx2 gtx2 pg2 h1 gm) (pz_ad (pz_adl h0 c1 g1 c2 g2 tx gtx pg dd gd kp gkp tp gtp tl gtl lk glk ph gph c3 g3 tx2 gtx2 pg2 h1 gm) adS) 139 := ⟨.inr (5, [.int 0, .int 0, .int 0, .int 0, .int 0, .int 0, .int 0, .int (-1)]), rfl, fun h => by
  rw [pz_o5z (a := 139) rfl (by decide)]
  exact h⟩
theorem pz_ro140 : pz_rw6 D cy H (pz_WL cy h0 c1 g1 c2 g2 tx gtx pg dd gd kp gkp tp gtp tl gtl lk glk ph gph c3 g3 tx2 gtx2 pg2 h1 gm) (pz_ad (pz_adl h0 c1 g1 c2 g2 tx gtx pg dd gd kp gkp tp gtp tl gtl lk glk ph gph c3 g3 tx2 gtx2 pg2 h1 gm) adS) 140 := ⟨.inr (5, [.int 0, .int 0, .int 0, .int 0, .int 0, .int 0, .int 0, .int (-1)]), rfl, fun h => by
  rw [pz_o5z (a := 140) rfl (by decide)]
  exact h⟩
theorem pz_ro141 : pz_rw6 D cy H (pz_WL cy h0 c1 g1 c2 g2 tx gtx pg dd gd kp gkp tp gtp tl gtl lk glk ph gph c3 g3 tx2 gtx2 pg2 h1 gm) (pz_ad (pz_adl h0 c1 g1 c2 g2 tx gtx pg dd gd kp gkp tp gtp tl gtl lk glk ph gph c3 g3 tx2 gtx2 pg2 h1 gm) adS) 141 := ⟨.inr (5, [.int 0, .int 0, .int 0, .int 0, .int 0, .int 0, .int 0, .int (-1)]), rfl, fun h => by
  rw [pz_o5z (a := 141) rfl (by decide)]
  exact h⟩
theorem pz_ro142 : pz_rw6 D cy H (pz_WL cy h0 c1 g1 c2 g2 tx gtx pg dd gd kp gkp tp gtp tl gtl lk glk ph gph c3 g3 tx2 gtx2 pg2 h1 gm) (pz_ad (pz_adl h0 c1 g1 c2 g2 tx gtx pg dd gd kp gkp tp gtp tl gtl lk glk ph gph c3 g3 tx2 gtx2 pg2 h1 gm) adS) 142 := ⟨.inr (5, [.int 0, .int 0, .int 0, .int 0, .int 0, .int 0, .int 0, .int (-1)]), rfl, fun h => by
  rw [pz_o5z (a := 142) rfl (by decide)]
  exact h⟩
theorem pz_ro143 : pz_rw6 D cy H (pz_WL cy h0 c1 g1 c2 g2 tx gtx pg dd gd kp gkp tp gtp tl gtl lk glk ph gph c3 g3 tx2 gtx2 pg2 h1 gm) (pz_ad (pz_adl h0 c1 g1 c2 g2 tx gtx pg dd gd kp gkp tp gtp tl gtl lk glk ph gph c3 g3 tx2 gtx2 pg2 h1 gm) adS) 143 := ⟨.inr (5, [.int 0, .int 0, .int 0, .int 0, .int 0, .int 0, .int 0, .int (-1)]), rfl, fun h => by
  rw [pz_o5z (a := 143) rfl (by decide)]
  exact h⟩
theorem pz_ro144 : pz_rw6 D cy H (pz_WL cy h0 c1 g1 c2 g2 tx gtx pg dd gd kp gkp tp gtp tl gtl lk glk ph gph c3 g3 tx2 gtx2 pg2 h1 gm) (pz_ad (pz_adl h0 c1 g1 c2 g2 tx gtx pg dd gd kp gkp tp gtp tl gtl lk glk ph gph c3 g3 tx2 gtx2 pg2 h1 gm) adS) 144 := ⟨.inr (5, [.int 0, .int 0, .int 0, .int 0, .int 0, .int 0, .int 0, .int (-1)]), rfl, fun h => by
  rw [pz_o5z (a := 144) rfl (by decide)]
  exact h⟩
theorem pz_ro145 : pz_rw6 D cy H (pz_WL cy h0 c1 g1 c2 g2 tx gtx pg dd gd kp gkp tp gtp tl gtl lk glk ph gph c3 g3 tx2 gtx2 pg2 h1 gm) (pz_ad (pz_adl h0 c1 g1 c2 g2 tx gtx pg dd gd kp gkp tp gtp tl gtl lk glk ph gph c3 g3 tx2 gtx2 pg2 h1 gm) adS) 145 := ⟨.inr (5, [.int 0, .int 0, .int 0, .int 0, .int 0, .int 0, .int 0, .int (-1)]), rfl, fun h => by
  rw [pz_o5z (a := 145) rfl (by decide)]
  exact h⟩
theorem pz_ro146 : pz_rw6 D cy H (pz_WL cy h0 c1 g1 c2 g2 tx gtx pg dd gd kp gkp tp gtp tl gtl lk glk ph gph c3 g3 tx2 gtx2 pg2 h1 gm) (pz_ad (pz_adl h0 c1 g1 c2 g2 tx gtx pg dd gd kp gkp tp gtp tl gtl lk glk ph gph c3 g3 tx2 gtx2 pg2 h1 gm) adS) 146 := ⟨.inr (5, [.int 0, .int 0, .int 0, .int 0, .int 0, .int 0, .int 0, .int (-1)]), rfl, fun h => by
  rw [pz_o5z (a := 146) rfl (by decide)]
  exact h⟩
theorem pz_ro147 : pz_rw6 D cy H (pz_WL cy h0 c1 g1 c2 g2 tx gtx pg dd gd kp gkp tp gtp tl gtl lk glk ph gph c3 g3 tx2 gtx2 pg2 h1 gm) (pz_ad (pz_adl h0 c1 g1 c2 g2 tx gtx pg dd gd kp gkp tp gtp tl gtl lk glk ph gph c3 g3 tx2 gtx2 pg2 h1 gm) adS) 147 := ⟨.inr (5, [.int 0, .int 0, .int 0, .int 0, .int 0, .int 0, .int 0, .int (-1)]), rfl, fun h => by
  rw [pz_o5z (a := 147) rfl (by decide)]
  exact h⟩
theorem pz_ro148 : pz_rw6 D cy H (pz_WL cy h0 c1 g1 c2 g2 tx gtx pg dd gd kp gkp tp gtp tl gtl lk glk ph gph c3 g3 tx2 gtx2 pg2 h1 gm) (pz_ad (pz_adl h0 c1 g1 c2 g2 tx gtx pg dd gd kp gkp tp gtp tl gtl lk glk ph gph c3 g3 tx2 gtx2 pg2 h1 gm) adS) 148 := ⟨.inr (5, [.int 0, .int 0, .int 0, .int 0, .int 0, .int 0, .int 0, .int (-1)]), rfl, fun h => by
  rw [pz_o5z (a := 148) rfl (by decide)]
  exact h⟩
theorem pz_ro149 : pz_rw6 D cy H (pz_WL cy h0 c1 g1 c2 g2 tx gtx pg dd gd kp gkp tp gtp tl gtl lk glk ph gph c3 g3 tx2 gtx2 pg2 h1 gm) (pz_ad (pz_adl h0 c1 g1 c2 g2 tx gtx pg dd gd kp gkp tp gtp tl gtl lk glk ph gph c3 g3 tx2 gtx2 pg2 h1 gm) adS) 149 := ⟨.inr (5, [.int 0, .int 0, .int 0, .int 0, .int 0, .int 0, .int 0, .int (-1)]), rfl, fun h => by
  rw [pz_o5z (a := 149) rfl (by decide)]
  exact h⟩
theorem pz_ro150 : pz_rw6 D cy H (pz_WL cy h0 c1 g1 c2 g2 tx gtx pg dd gd kp gkp tp gtp tl gtl lk glk ph gph c3 g3 tx2 gtx2 pg2 h1 gm) (pz_ad (pz_adl h0 c1 g1 c2 g2 tx gtx pg dd gd kp gkp tp gtp tl gtl lk glk ph gph c3 g3 tx2 gtx2 pg2 h1 gm) adS) 150 := ⟨.inr (5, [.int 0, .int 0, .int 0, .int 0, .int 0, .int 0, .int 0, .int (-1)]), rfl, fun h => by
  rw [pz_o5z (a := 150) rfl (by decide)]
  exact h⟩
theorem pz_ro151 : pz_rw6 D cy H (pz_WL cy h0 c1 g1 c2 g2 tx gtx pg dd gd kp gkp tp gtp tl gtl lk glk ph gph c3 g3 tx2 gtx2 pg2 h1 gm) (pz_ad (pz_adl h0 c1 g1 c2 g2 tx gtx pg dd gd kp gkp tp gtp tl gtl lk glk ph gph c3 g3 tx2 gtx2 pg2 h1 gm) adS) 151 := ⟨.inr (5, [.int 0, .int 0, .int 0, .int 0, .int 0, .int 0, .int 0, .int (-1)]), rfl, fun h => by
  rw [pz_o5z (a := 151) rfl (by decide)]
  exact h⟩
theorem pz_ro152 : pz_rw6 D cy H (pz_WL cy h0 c1 g1 c2 g2 tx gtx pg dd gd kp gkp tp gtp tl gtl lk glk ph gph c3 g3 tx2 gtx2 pg2 h1 gm) (pz_ad (pz_adl h0 c1 g1 c2 g2 tx gtx pg dd gd kp gkp tp gtp tl gtl lk glk ph gph c3 g3 tx2 gtx2 pg2 h1 gm) adS) 152 := ⟨.inr (5, [.int 0, .int 0, .int 0, .int 0, .int 0, .int 0, .int 0, .int (-1)]), rfl, fun h => by
  rw [pz_o5z (a := 152) rfl (by decide)]
  exact h⟩
theorem pz_ro153 : pz_rw6 D cy H (pz_WL cy h0 c1 g1 c2 g2 tx gtx pg dd gd kp gkp tp gtp tl gtl lk glk ph gph c3 g3 tx2 gtx2 pg2 h1 gm) (pz_ad (pz_adl h0 c1 g1 c2 g2 tx gtx pg dd gd kp gkp tp gtp tl gtl lk glk ph gph c3 g3 tx2 gtx2 pg2 h1 gm) adS) 153 := ⟨.inr (5, [.int 0, .int 0, .int 0, .int 0, .int 0, .int 0, .int 0, .int (-1)]), rfl, fun h => by
  rw [pz_o5z (a := 153) rfl (by decide)]
  exact h⟩
theorem pz_ro154 : pz_rw6 D cy H (pz_WL cy h0 c1 g1 c2 g2 tx gtx pg dd gd kp gkp tp gtp tl gtl lk glk ph gph c3 g3 tx2 gtx2 pg2 h1 gm) (pz_ad (pz_adl h0 c1 g1 c2 g2 tx gtx pg dd gd kp gkp tp gtp tl gtl lk glk ph gph c3 g3 tx2 gtx2 pg2 h1 gm) adS) 154 := ⟨.inr (5, [.int 0, .int 0, .int 0, .int 0, .int 0, .int 0, .int 0, .int (-1)]), rfl, fun h => by
  rw [pz_o5z (a := 154) rfl (by decide)]
  exact h⟩
theorem pz_ro155 : pz_rw6 D cy H (pz_WL cy h0 c1 g1 c2 g2 tx gtx pg dd gd kp gkp tp gtp tl gtl lk glk ph gph c3 g3 tx2 gtx2 pg2 h1 gm) (pz_ad (pz_adl h0 c1 g1 c2 g2 tx gtx pg dd gd kp gkp tp gtp tl gtl lk glk ph gph c3 g3 tx2 gtx2 pg2 h1 gm) adS) 155 := ⟨.inr (5, [.int 0, .int 0, .int 0, .int 0, .int 0, .int 0, .int 0, .int (-1)]), rfl, fun h => by
  rw [pz_o5z (a := 155) rfl (by decide)]
  exact h⟩
end PZ16
end
section
section PZ16
variable {D : va_G} {cy : Nat → ClassId} {H : Heap} {adS : Nat → Nat} {h0 : Nat} {c1 : Nat} {g1 : Nat → Nat} {c2 : Nat} {g2 : Nat → Nat} {tx : Nat} {gtx : (Nat × (Nat → Nat)) × (Nat × (Nat → Nat)) × (Nat × (Nat → Nat)) × Nat × (Nat → Nat)} {pg : Nat} {dd : Nat} {gd : Nat → Nat} {kp : Nat} {gkp : (Nat → Nat) × (Nat → Nat → Nat)} {tp : Nat} {gtp : Nat → Nat} {tl : Nat} {gtl : (Nat × (Nat → Nat)) × Nat × (Nat → Nat)} {lk : Nat} {glk : Nat → Nat} {ph : Nat} {gph : Nat → Nat} {c3 : Nat} {g3 : Nat → Nat} {tx2 : Nat} {gtx2 : (Nat × (Nat → Nat)) × (Nat × (Nat → Nat)) × (Nat × (Nat → Nat)) × Nat × (Nat → Nat)} {pg2 : Nat} {h1 : Nat} {gm : Nat → Nat}
theorem pz_ro156 : pz_rw6 D cy H (pz_WL cy h0 c1 g1 c2 g2 tx gtx pg dd gd kp gkp tp gtp tl gtl lk glk ph gph c3 g3 tx2 gtx2 pg2 h1 gm) (pz_ad (pz_adl h0 c1 g1 c2 g2 tx gtx pg dd gd kp gkp tp gtp tl gtl lk glk ph gph c3 g3 tx2 gtx2 pg2 h1 gm) adS) 156 := ⟨.inr (5, [.int 0, .int 0, .int 0, .int 0, .int 0, .int 0, .int 0, .int (-1)]), rfl, fun h => by
  rw [pz_o5z (a := 156) rfl (by decide)]
  exact h⟩
theorem pz_ro157 : pz_rw6 D cy H (pz_WL cy h0 c1 g1 c2 g2 tx gtx pg dd gd kp gkp tp gtp tl gtl lk glk ph gph c3 g3 tx2 gtx2 pg2 h1 gm) (pz_ad (pz_adl h0 c1 g1 c2 g2 tx gtx pg dd gd kp gkp tp gtp tl gtl lk glk ph gph c3 g3 tx2 gtx2 pg2 h1 gm) adS) 157 := ⟨.inr (5, [.int 0, .int 0, .int 0, .int 0, .int 0, .int 0, .int 0, .int (-1)]), rfl, fun h => by
  rw [pz_o5z (a := 157) rfl (by decide)]
  exact h⟩
theorem pz_ro158 : pz_rw6 D cy H (pz_WL cy h0 c1 g1 c2 g2 tx gtx pg dd gd kp gkp tp gtp tl gtl lk glk ph gph c3 g3 tx2 gtx2 pg2 h1 gm) (pz_ad (pz_adl h0 c1 g1 c2 g2 tx gtx pg dd gd kp gkp tp gtp tl gtl lk glk ph gph c3 g3 tx2 gtx2 pg2 h1 gm) adS) 158 := ⟨.inr (5, [.int 0, .int 0, .int 0, .int 0, .int 0, .int 0, .int 0, .int (-1)]), rfl, fun h => by
  rw [pz_o5z (a := 158) rfl (by decide)]
  exact h⟩
theorem pz_ro159 : pz_rw6 D cy H (pz_WL cy h0 c1 g1 c2 g2 tx gtx pg dd gd kp gkp tp gtp tl gtl lk glk ph gph c3 g3 tx2 gtx2 pg2 h1 gm) (pz_ad (pz_adl h0 c1 g1 c2 g2 tx gtx pg dd gd kp gkp tp gtp tl gtl lk glk ph gph c3 g3 tx2 gtx2 pg2 h1 gm) adS) 159 := ⟨.inr (5, [.int 0, .int 0, .int 0, .int 0, .int 0, .int 0, .int 0, .int (-1)]), rfl, fun h => by
  rw [pz_o5z (a := 159) rfl (by decide)]
  exact h⟩
theorem pz_ro160 : pz_rw6 D cy H (pz_WL cy h0 c1 g1 c2 g2 tx gtx pg dd gd kp gkp tp gtp tl gtl lk glk ph gph c3 g3 tx2 gtx2 pg2 h1 gm) (pz_ad (pz_adl h0 c1 g1 c2 g2 tx gtx pg dd gd kp gkp tp gtp tl gtl lk glk ph gph c3 g3 tx2 gtx2 pg2 h1 gm) adS) 160 := ⟨.inr (5, [.int 0, .int 0, .int 0, .int 0, .int 0, .int 0, .int 0, .int (-1)]), rfl, fun h => by
  rw [pz_o5z (a := 160) rfl (by decide)]
  exact h⟩
theorem pz_ro161 : pz_rw6 D cy H (pz_WL cy h0 c1 g1 c2 g2 tx gtx pg dd gd kp gkp tp gtp tl gtl lk glk ph gph c3 g3 tx2 gtx2 pg2 h1 gm) (pz_ad (pz_adl h0 c1 g1 c2 g2 tx gtx pg dd gd kp gkp tp gtp tl gtl lk glk ph gph c3 g3 tx2 gtx2 pg2 h1 gm) adS) 161 := ⟨.inr (5, [.int 0, .int 0, .int 0, .int 0, .int 0, .int 0, .int 0, .int (-1)]), rfl, fun h => by
  rw [pz_o5z (a := 161) rfl (by decide)]
  exact h⟩
theorem pz_ro162 : pz_rw6 D cy H (pz_WL cy h0 c1 g1 c2 g2 tx gtx pg dd gd kp gkp tp gtp tl gtl lk glk ph gph c3 g3 tx2 gtx2 pg2 h1 gm) (pz_ad (pz_adl h0 c1 g1 c2 g2 tx gtx pg dd gd kp gkp tp gtp tl gtl lk glk ph gph c3 g3 tx2 gtx2 pg2 h1 gm) adS) 162 := ⟨.inr (5, [.int 0, .int 0, .int 0, .int 0, .int 0, .int 0, .int 0, .int (-1)]), rfl, fun h => by
  rw [pz_o5z (a := 162) rfl (by decide)]
  exact h⟩
theorem pz_ro163 : pz_rw6 D cy H (pz_WL cy h0 c1 g1 c2 g2 tx gtx pg dd gd kp gkp tp gtp tl gtl lk glk ph gph c3 g3 tx2 gtx2 pg2 h1 gm) (pz_ad (pz_adl h0 c1 g1 c2 g2 tx gtx pg dd gd kp gkp tp gtp tl gtl lk glk ph gph c3 g3 tx2 gtx2 pg2 h1 gm) adS) 163 := ⟨.inr (5, [.int 0, .int 0, .int 0, .int 0, .int 0, .int 0, .int 0, .int (-1)]), rfl, fun h => by
  rw [pz_o5z (a := 163) rfl (by decide)]
  exact h⟩
theorem pz_ro164 : pz_rw6 D cy H (pz_WL cy h0 c1 g1 c2 g2 tx gtx pg dd gd kp gkp tp gtp tl gtl lk glk ph gph c3 g3 tx2 gtx2 pg2 h1 gm) (pz_ad (pz_adl h0 c1 g1 c2 g2 tx gtx pg dd gd kp gkp tp gtp tl gtl lk glk ph gph c3 g3 tx2 gtx2 pg2 h1 gm) adS) 164 := ⟨.inr (5, [.int 0, .int 0, .int 0, .int 0, .int 0, .int 0, .int 0, .int (-1)]), rfl, fun h => by
  rw [pz_o5z (a := 164) rfl (by decide)]
  exact h⟩
theorem pz_ro165 : pz_rw6 D cy H (pz_WL cy h0 c1 g1 c2 g2 tx gtx pg dd gd kp gkp tp gtp tl gtl lk glk ph gph c3 g3 tx2 gtx2 pg2 h1 gm) (pz_ad (pz_adl h0 c1 g1 c2 g2 tx gtx pg dd gd kp gkp tp gtp tl gtl lk glk ph gph c3 g3 tx2 gtx2 pg2 h1 gm) adS) 165 := ⟨.inr (5, [.int 0, .int 0, .int 0, .int 0, .int 0, .int 0, .int 0, .int (-1)]), rfl, fun h => by
  rw [pz_o5z (a := 165) rfl (by decide)]
  exact h⟩
theorem pz_ro166 : pz_rw6 D cy H (pz_WL cy h0 c1 g1 c2 g2 tx gtx pg dd gd kp gkp tp gtp tl gtl lk glk ph gph c3 g3 tx2 gtx2 pg2 h1 gm) (pz_ad (pz_adl h0 c1 g1 c2 g2 tx gtx pg dd gd kp gkp tp gtp tl gtl lk glk ph gph c3 g3 tx2 gtx2 pg2 h1 gm) adS) 166 := ⟨.inr (5, [.int 0, .int 0, .int 0, .int 0, .int 0, .int 0, .int 0, .int (-1)]), rfl, fun h => by
  rw [pz_o5z (a := 166) rfl (by decide)]
  exact h⟩
theorem pz_ro167 : pz_rw6 D cy H (pz_WL cy h0 c1 g1 c2 g2 tx gtx pg dd gd kp gkp tp gtp tl gtl lk glk ph gph c3 g3 tx2 gtx2 pg2 h1 gm) (pz_ad (pz_adl h0 c1 g1 c2 g2 tx gtx pg dd gd kp gkp tp gtp tl gtl lk glk ph gph c3 g3 tx2 gtx2 pg2 h1 gm) adS) 167 := ⟨.inr (5, [.int 0, .int 0, .int 0, .int 0, .int 0, .int 0, .int 0, .int (-1)]), rfl, fun h => by
  rw [pz_o5z (a := 167) rfl (by decide)]
  exact h⟩
theorem pz_ro168 : pz_rw6 D cy H (pz_WL cy h0 c1 g1 c2 g2 tx gtx pg dd gd kp gkp tp gtp tl gtl lk glk ph gph c3 g3 tx2 gtx2 pg2 h1 gm) (pz_ad (pz_adl h0 c1 g1 c2 g2 tx gtx pg dd gd kp gkp tp gtp tl gtl lk glk ph gph c3 g3 tx2 gtx2 pg2 h1 gm) adS) 168 := ⟨.inr (5, [.int 0, .int 0, .int 0, .int 0, .int 0, .int 0, .int 0, .int (-1)]), rfl, fun h => by
  rw [pz_o5z (a := 168) rfl (by decide)]
  exact h⟩
theorem pz_ro169 : pz_rw6 D cy H (pz_WL cy h0 c1 g1 c2 g2 tx gtx pg dd gd kp gkp tp gtp tl gtl lk glk ph gph c3 g3 tx2 gtx2 pg2 h1 gm) (pz_ad (pz_adl h0 c1 g1 c2 g2 tx gtx pg dd gd kp gkp tp gtp tl gtl lk glk ph gph c3 g3 tx2 gtx2 pg2 h1 gm) adS) 169 := ⟨.inr (5, [.int 0, .int 0, .int 0, .int 0, .int 0, .int 0, .int 0, .int (-1)]), rfl, fun h => by
  rw [pz_o5z (a := 169) rfl (by decide)]
  exact h⟩
theorem pz_ro170 : pz_rw6 D cy H (pz_WL cy h0 c1 g1 c2 g2 tx gtx pg dd gd kp gkp tp gtp tl gtl lk glk ph gph c3 g3 tx2 gtx2 pg2 h1 gm) (pz_ad (pz_adl h0 c1 g1 c2 g2 tx gtx pg dd gd kp gkp tp gtp tl gtl lk glk ph gph c3 g3 tx2 gtx2 pg2 h1 gm) adS) 170 := ⟨.inr (5, [.int 0, .int 0, .int 0, .int 0, .int 0, .int 0, .int 0, .int (-1)]), rfl, fun h => by
  rw [pz_o5z (a := 170) rfl (by decide)]
  exact h⟩
theorem pz_ro171 : pz_rw6 D cy H (pz_WL cy h0 c1 g1 c2 g2 tx gtx pg dd gd kp gkp tp gtp tl gtl lk glk ph gph c3 g3 tx2 gtx2 pg2 h1 gm) (pz_ad (pz_adl h0 c1 g1 c2 g2 tx gtx pg dd gd kp gkp tp gtp tl gtl lk glk ph gph c3 g3 tx2 gtx2 pg2 h1 gm) adS) 171 := ⟨.inr (5, [.int 0, .int 0, .int 0, .int 0, .int 0, .int 0, .int 0, .int (-1)]), rfl, fun h => by
  rw [pz_o5z (a := 171) rfl (by decide)]
  exact h⟩
theorem pz_ro172 : pz_rw6 D cy H (pz_WL cy h0 c1 g1 c2 g2 tx gtx pg dd gd kp gkp tp gtp tl gtl lk glk ph gph c3 g3 tx2 gtx2 pg2 h1 gm) (pz_ad (pz_adl h0 c1 g1 c2 g2 tx gtx pg dd gd kp gkp tp gtp tl gtl lk glk ph gph c3 g3 tx2 gtx2 pg2 h1 gm) adS) 172 := ⟨.inr (5, [.int 0, .int 0, .int 0, .int 0, .int 0, .int 0, .int 0, .int (-1)]), rfl, fun h => by
  rw [pz_o5z (a := 172) rfl (by decide)]
  exact h⟩
theorem pz_ro173 : pz_rw6 D cy H (pz_WL cy h0 c1 g1 c2 g2 tx gtx pg dd gd kp gkp tp gtp tl gtl lk glk ph gph c3 g3 tx2 gtx2 pg2 h1 gm) (pz_ad (pz_adl h0 c1 g1 c2 g2 tx gtx pg dd gd kp gkp tp gtp tl gtl lk glk ph gph c3 g3 tx2 gtx2 pg2 h1 gm) adS) 173 := ⟨.inr (5, [.int 0, .int 0, .int 0, .int 0, .int 0, .int 0, .int 0, .int (-1)]), rfl, fun h => by
  rw [pz_o5z (a := 173) rfl (by decide)]
  exact h⟩
theorem pz_ro174 : pz_rw6 D cy H (pz_WL cy h0 c1 g1 c2 g2 tx gtx pg dd gd kp gkp tp gtp tl gtl lk glk ph gph c3 g3 tx2 gtx2 pg2 h1 gm) (pz_ad (pz_adl h0 c1 g1 c2 g2 tx gtx pg dd gd kp gkp tp gtp tl gtl lk glk ph gph c3 g3 tx2 gtx2 pg2 h1 gm) adS) 174 := ⟨.inr (5, [.int 0, .int 0, .int 0, .int 0, .int 0, .int 0, .int 0, .int (-1)]), rfl, fun h => by
  rw [pz_o5z (a := 174) rfl (by decide)]
  exact h⟩
theorem pz_ro175 : pz_rw6 D cy H (pz_WL cy h0 c1 g1 c2 g2 tx gtx pg dd gd kp gkp tp gtp tl gtl lk glk ph gph c3 g3 tx2 gtx2 pg2 h1 gm) (pz_ad (pz_adl h0 c1 g1 c2 g2 tx gtx pg dd gd kp gkp tp gtp tl gtl lk glk ph gph c3 g3 tx2 gtx2 pg2 h1 gm) adS) 175 := ⟨.inr (5, [.int 0, .int 0, .int 0, .int 0, .int 0, .int 0, .int 0, .int (-1)]), rfl, fun h => by
  rw [pz_o5z (a := 175) rfl (by decide)]
  exact h⟩
theorem pz_ro176 : pz_rw6 D cy H (pz_WL cy h0 c1 g1 c2 g2 tx gtx pg dd gd kp gkp tp gtp tl gtl lk glk ph gph c3 g3 tx2 gtx2 pg2 h1 gm) (pz_ad (pz_adl h0 c1 g1 c2 g2 tx gtx pg dd gd kp gkp tp gtp tl gtl lk glk ph gph c3 g3 tx2 gtx2 pg2 h1 gm) adS) 176 := ⟨.inr (5, [.int 0, .int 0, .int 0, .int 0, .int 0, .int 0, .int 0, .int (-1)]), rfl, fun h => by
  rw [pz_o5z (a := 176) rfl (by decide)]
  exact h⟩
theorem pz_ro177 : pz_rw6 D cy H (pz_WL cy h0 c1 g1 c2 g2 tx gtx pg dd gd kp gkp tp gtp tl gtl lk glk ph gph c3 g3 tx2 gtx2 pg2 h1 gm) (pz_ad (pz_adl h0 c1 g1 c2 g2 tx gtx pg dd gd kp gkp tp gtp tl gtl lk glk ph gph c3 g3 tx2 gtx2 pg2 h1 gm) adS) 177 := ⟨.inr (5, [.int 0, .int 0, .int 0, .int 0, .int 0, .int 0, .int 0, .int (-1)]), rfl, fun h => by
  rw [pz_o5z (a := 177) rfl (by decide)]
  exact h⟩
theorem pz_ro178 : pz_rw6 D cy H (pz_WL cy h0 c1 g1 c2 g2 tx gtx pg dd gd kp gkp tp gtp tl gtl lk glk ph gph c3 g3 tx2 gtx2 pg2 h1 gm) (pz_ad (pz_adl h0 c1 g1 c2 g2 tx gtx pg dd gd kp gkp tp gtp tl gtl lk glk ph gph c3 g3 tx2 gtx2 pg2 h1 gm) adS) 178 := ⟨.inr (5, [.int 0, .int 0, .int 0, .int 0, .int 0, .int 0, .int 0, .int (-1)]), rfl, fun h => by
  rw [pz_o5z (a := 178) rfl (by decide)]
  exact h⟩
theorem pz_ro179 : pz_rw6 D cy H (pz_WL cy h0 c1 g1 c2 g2 tx gtx pg dd gd kp gkp tp gtp tl gtl lk glk ph gph c3 g3 tx2 gtx2 pg2 h1 gm) (pz_ad (pz_adl h0 c1 g1 c2 g2 tx gtx pg dd gd kp gkp tp gtp tl gtl lk glk ph gph c3 g3 tx2 gtx2 pg2 h1 gm) adS) 179 := ⟨.inr (5, [.int 0, .int 0, .int 0, .int 0, .int 0, .int 0, .int 0, .int (-1)]), rfl, fun h => by
  rw [pz_o5z (a := 179) rfl (by decide)]
  exact h⟩
theorem pz_ro180 : pz_rw6 D cy H (pz_WL cy h0 c1 g1 c2 g2 tx gtx pg dd gd kp gkp tp gtp tl gtl lk glk ph gph c3 g3 tx2 gtx2 pg2 h1 gm) (pz_ad (pz_adl h0 c1 g1 c2 g2 tx gtx pg dd gd kp gkp tp gtp tl gtl lk glk ph gph c3 g3 tx2 gtx2 pg2 h1 gm) adS) 180 := ⟨.inr (5, [.int 0, .int 0, .int 0, .int 0, .int 0, .int 0, .int 0, .int (-1)]), rfl, fun h => by
  rw [pz_o5z (a := 180) rfl (by decide)]
  exact h⟩
theorem pz_ro181 : pz_rw6 D cy H (pz_WL cy h0 c1 g1 c2 g2 tx gtx pg dd gd kp gkp tp gtp tl gtl lk glk ph gph c3 g3 tx2 gtx2 pg2 h1 gm) (pz_ad (pz_adl h0 c1 g1 c2 g2 tx gtx pg dd gd kp gkp tp gtp tl gtl lk glk ph gph c3 g3 tx2 gtx2 pg2 h1 gm) adS) 181 := ⟨.inr (5, [.int 0, .int 0, .int 0, .int 0, .int 0, .int 0, .int 0, .int (-1)]), rfl, fun h => by
  rw [pz_o5z (a := 181) rfl (by decide)]
  exact h⟩
theorem pz_ro182 : pz_rw6 D cy H (pz_WL cy h0 c1 g1 c2 g2 tx gtx pg dd gd kp gkp tp gtp tl gtl lk glk ph gph c3 g3 tx2 gtx2 pg2 h1 gm) (pz_ad (pz_adl h0 c1 g1 c2 g2 tx gtx pg dd gd kp gkp tp gtp tl gtl lk glk ph gph c3 g3 tx2 gtx2 pg2 h1 gm) adS) 182 := ⟨.inr (5, [.int 0, .int 0, .int 0, .int 0, .int 0, .int 0, .int 0, .int (-1)]), rfl, fun h => by
  rw [pz_o5z (a := 182) rfl (by decide)]
  exact h⟩
theorem pz_ro183 : pz_rw6 D cy H (pz_WL cy h0 c1 g1 c2 g2 tx gtx pg dd gd kp gkp tp gtp tl gtl lk glk ph gph c3 g3 tx2 gtx2 pg2 h1 gm) (pz_ad (pz_adl h0 c1 g1 c2 g2 tx gtx pg dd gd kp gkp tp gtp tl gtl lk glk ph gph c3 g3 tx2 gtx2 pg2 h1 gm) adS) 183 := ⟨.inr (5, [.int 0, .int 0, .int 0, .int 0, .int 0, .int 0, .int 0, .int (-1)]), rfl, fun h => by
  rw [pz_o5z (a := 183) rfl (by decide)]
  exact h⟩
theorem pz_ro184 : pz_rw6 D cy H (pz_WL cy h0 c1 g1 c2 g2 tx gtx pg dd gd kp gkp tp gtp tl gtl lk glk ph gph c3 g3 tx2 gtx2 pg2 h1 gm) (pz_ad (pz_adl h0 c1 g1 c2 g2 tx gtx pg dd gd kp gkp tp gtp tl gtl lk glk ph gph c3 g3 tx2 gtx2 pg2 h1 gm) adS) 184 := ⟨.inr (5, [.int 0, .int 0, .int 0, .int 0, .int 0, .int 0, .int 0, .int (-1)]), rfl, fun h => by
  rw [pz_o5z (a := 184) rfl (by decide)]
  exact h⟩
theorem pz_ro185 : pz_rw6 D cy H (pz_WL cy h0 c1 g1 c2 g2 tx gtx pg dd gd kp gkp tp gtp tl gtl lk glk ph gph c3 g3 tx2 gtx2 pg2 h1 gm) (pz_ad (pz_adl h0 c1 g1 c2 g2 tx gtx pg dd gd kp gkp tp gtp tl gtl lk glk ph gph c3 g3 tx2 gtx2 pg2 h1 gm) adS) 185 := ⟨.inr (5, [.int 0, .int 0, .int 0, .int 0, .int 0, .int 0, .int 0, .int (-1)]), rfl, fun h => by
  rw [pz_o5z (a := 185) rfl (by decide)]
  exact h⟩
theorem pz_ro186 : pz_rw6 D cy H (pz_WL cy h0 c1 g1 c2 g2 tx gtx pg dd gd kp gkp tp gtp tl gtl lk glk ph gph c3 g3 tx2 gtx2 pg2 h1 gm) (pz_ad (pz_adl h0 c1 g1 c2 g2 tx gtx pg dd gd kp gkp tp gtp tl gtl lk glk ph gph c3 g3 tx2 gtx2 pg2 h1 gm) adS) 186 := ⟨.inr (5, [.int 0, .int 0, .int 0, .int 0, .int 0, .int 0, .int 0, .int (-1)]), rfl, fun h => by
  rw [pz_o5z (a := 186) rfl (by decide)]
  exact h⟩
theorem pz_ro187 : pz_rw6 D cy H (pz_WL cy h0 c1 g1 c2 g2 tx gtx pg dd gd kp gkp tp gtp tl gtl lk glk ph gph c3 g3 tx2 gtx2 pg2 h1 gm) (pz_ad (pz_adl h0 c1 g1 c2 g2 tx gtx pg dd gd kp gkp tp gtp tl gtl lk glk ph gph c3 g3 tx2 gtx2 pg2 h1 gm) adS) 187 := ⟨.inr (5, [.int 0, .int 0, .int 0, .int 0, .int 0, .int 0, .int 0, .int (-1)]), rfl, fun h => by
  rw [pz_o5z (a := 187) rfl (by decide)]
  exact h⟩
theorem pz_ro188 : pz_rw6 D cy H (pz_WL cy h0 c1 g1 c2 g2 tx gtx pg dd gd kp gkp tp gtp tl gtl lk glk ph gph c3 g3 tx2 gtx2 pg2 h1 gm) (pz_ad (pz_adl h0 c1 g1 c2 g2 tx gtx pg dd gd kp gkp tp gtp tl gtl lk glk ph gph c3 g3 tx2 gtx2 pg2 h1 gm) adS) 188 := ⟨.inr (5, [.int 0, .int 0, .int 0, .int 0, .int 0, .int 0, .int 0, .int (-1)]), rfl, fun h => by
  rw [pz_o5z (a := 188) rfl (by decide)]
  exact h⟩
theorem pz_ro189 : pz_rw6 D cy H (pz_WL cy h0 c1 g1 c2 g2 tx gtx pg dd gd kp gkp tp gtp tl gtl lk glk ph gph c3 g3 tx2 gtx2 pg2 h1 gm) (pz_ad (pz_adl h0 c1 g1 c2 g2 tx gtx pg dd gd kp gkp tp gtp tl gtl lk glk ph gph c3 g3 tx2 gtx2 pg2 h1 gm) adS) 189 := ⟨.inr (5, [.int 0, .int 0, .int 0, .int 0, .int 0, .int 0, .int 0, .int (-1)]), rfl, fun h => by
  rw [pz_o5z (a := 189) rfl (by decide)]
  exact h⟩
theorem pz_ro190 : pz_rw6 D cy H (pz_WL cy h0 c1 g1 c2 g2 tx gtx pg dd gd kp gkp tp gtp tl gtl lk glk ph gph c3 g3 tx2 gtx2 pg2 h1 gm) (pz_ad (pz_adl h0 c1 g1 c2 g2 tx gtx pg dd gd kp gkp tp gtp tl gtl lk glk ph gph c3 g3 tx2 gtx2 pg2 h1 gm) adS) 190 := ⟨.inr (5, [.int 0, .int 0, .int 0, .int 0, .int 0, .int 0, .int 0, .int (-1)]), rfl, fun h => by
  rw [pz_o5z (a := 190) rfl (by decide)]
  exact h⟩
theorem pz_ro191 : pz_rw6 D cy H (pz_WL cy h0 c1 g1 c2 g2 tx gtx pg dd gd kp gkp tp gtp tl gtl lk glk ph gph c3 g3 tx2 gtx2 pg2 h1 gm) (pz_ad (pz_adl h0 c1 g1 c2 g2 tx gtx pg dd gd kp gkp tp gtp tl gtl lk glk ph gph c3 g3 tx2 gtx2 pg2 h1 gm) adS) 191 := ⟨.inr (5, [.int 0, .int 0, .int 0, .int 0, .int 0, .int 0, .int 0, .int (-1)]), rfl, fun h => by
  rw [pz_o5z (a := 191) rfl (by decide)]
  exact h⟩
theorem pz_ro192 : pz_rw6 D cy H (pz_WL cy h0 c1 g1 c2 g2 tx gtx pg dd gd kp gkp tp gtp tl gtl lk glk ph gph c3 g3 tx2 gtx2 pg2 h1 gm) (pz_ad (pz_adl h0 c1 g1 c2 g2 tx gtx pg dd gd kp gkp tp gtp tl gtl lk glk ph gph c3 g3 tx2 gtx2 pg2 h1 gm) adS) 192 := ⟨.inr (5, [.int 0, .int 0, .int 0, .int 0, .int 0, .int 0, .int 0, .int (-1)]), rfl, fun h => by
  rw [pz_o5z (a := 192) rfl (by decide)]
  exact h⟩
theorem pz_ro193 : pz_rw6 D cy H (pz_WL cy h0 c1 g1 c2 g2 tx gtx pg dd gd kp gkp tp gtp tl gtl lk glk ph gph c3 g3 tx2 gtx2 pg2 h1 gm) (pz_ad (pz_adl h0 c1 g1 c2 g2 tx gtx pg dd gd kp gkp tp gtp tl gtl lk glk ph gph c3 g3 tx2 gtx2 pg2 h1 gm) adS) 193 := ⟨.inr (5, [.int 0, .int 0, .int 0, .int 0, .int 0, .int 0, .int 0, .int (-1)]), rfl, fun h => by
  rw [pz_o5z (a := 193) rfl (by decide)]
  exact h⟩
theorem pz_ro194 : pz_rw6 D cy H (pz_WL cy h0 c1 g1 c2 g2 tx gtx pg dd gd kp gkp tp gtp tl gtl lk glk ph gph c3 g3 tx2 gtx2 pg2 h1 gm) (pz_ad (pz_adl h0 c1 g1 c2 g2 tx gtx pg dd gd kp gkp tp gtp tl gtl lk glk ph gph c3 g3 tx2 gtx2 pg2 h1 gm) adS) 194 := ⟨.inr (5, [.int 0, .int 0, .int 0, .int 0, .int 0, .int 0, .int 0, .int (-1)]), rfl, fun h => by
  rw [pz_o5z (a := 194) rfl (by decide)]
  exact h⟩
theorem pz_ro195 : pz_rw6 D cy H (pz_WL cy h0 c1 g1 c2 g2 tx gtx pg dd gd kp gkp tp gtp tl gtl lk glk ph gph c3 g3 tx2 gtx2 pg2 h1 gm) (pz_ad (pz_adl h0 c1 g1 c2 g2 tx gtx pg dd gd kp gkp tp gtp tl gtl lk glk ph gph c3 g3 tx2 gtx2 pg2 h1 gm) adS) 195 := ⟨.inr (5, [.int 0, .int 0, .int 0, .int 0, .int 0, .int 0, .int 0, .int (-1)]), rfl, fun h => by
  rw [pz_o5z (a := 195) rfl (by decide)]
  exact h⟩
theorem pz_ro196 : pz_rw6 D cy H (pz_WL cy h0 c1 g1 c2 g2 tx gtx pg dd gd kp gkp tp gtp tl gtl lk glk ph gph c3 g3 tx2 gtx2 pg2 h1 gm) (pz_ad (pz_adl h0 c1 g1 c2 g2 tx gtx pg dd gd kp gkp tp gtp tl gtl lk glk ph gph c3 g3 tx2 gtx2 pg2 h1 gm) adS) 196 := ⟨.inr (5, [.int 0, .int 0, .int 0, .int 0, .int 0, .int 0, .int 0, .int (-1)]), rfl, fun h => by
  rw [pz_o5z (a := 196) rfl (by decide)]
  exact h⟩
theorem pz_ro197 : pz_rw6 D cy H (pz_WL cy h0 c1 g1 c2 g2 tx gtx pg dd gd kp gkp tp gtp tl gtl lk glk ph gph c3 g3 tx2 gtx2 pg2 h1 gm) (pz_ad (pz_adl h0 c1 g1 c2 g2 tx gtx pg dd gd kp gkp tp gtp tl gtl lk glk ph gph c3 g3 tx2 gtx2 pg2 h1 gm) adS) 197 := ⟨.inr (5, [.int 0, .int 0, .int 0, .int 0, .int 0, .int 0, .int 0, .int (-1)]), rfl, fun h => by
  rw [pz_o5z (a := 197) rfl (by decide)]
  exact h⟩
theorem pz_ro198 : pz_rw6 D cy H (pz_WL cy h0 c1 g1 c2 g2 tx gtx pg dd gd kp gkp tp gtp tl gtl lk glk ph gph c3 g3 tx2 gtx2 pg2 h1 gm) (pz_ad (pz_adl h0 c1 g1 c2 g2 tx gtx pg dd gd kp gkp tp gtp tl gtl lk glk ph gph c3 g3 tx2 gtx2 pg2 h1 gm) adS) 198 := ⟨.inr (5, [.int 0, .int 0, .int 0, .int 0, .int 0, .int 0, .int 0, .int (-1)]), rfl, fun h => by
  rw [pz_o5z (a := 198) rfl (by decide)]
  exact h⟩
theorem pz_ro199 : pz_rw6 D cy H (pz_WL cy h0 c1 g1 c2 g2 tx gtx pg dd gd kp gkp tp gtp tl gtl lk glk ph gph c3 g3 tx2 gtx2 pg2 h1 gm) (pz_ad (pz_adl h0 c1 g1 c2 g2 tx gtx pg dd gd kp gkp tp gtp tl gtl lk glk ph gph c3 g3 tx2 gtx2 pg2 h1 gm) adS) 199 := ⟨.inr (5, [.int 0, .int 0, .int 0, .int 0, .int 0, .int 0, .int 0, .int (-1)]), rfl, fun h => by
  rw [pz_o5z (a := 199) rfl (by decide)]
  exact h⟩
theorem pz_ro200 : pz_rw6 D cy H (pz_WL cy h0 c1 g1 c2 g2 tx gtx pg dd gd kp gkp tp gtp tl gtl lk glk ph gph c3 g3 tx2 gtx2 pg2 h1 gm) (pz_ad (pz_adl h0 c1 g1 c2 g2 tx gtx pg dd gd kp gkp tp gtp tl gtl lk glk ph gph c3 g3 tx2 gtx2 pg2 h1 gm) adS) 200 := ⟨.inr (5, [.int 0, .int 0, .int 0, .int 0, .int 0, .int 0, .int 0, .int (-1)]), rfl, fun h => by
  rw [pz_o5z (a := 200) rfl (by decide)]
  exact h⟩
theorem pz_ro201 : pz_rw6 D cy H (pz_WL cy h0 c1 g1 c2 g2 tx gtx pg dd gd kp gkp tp gtp tl gtl lk glk ph gph c3 g3 tx2 gtx2 pg2 h1 gm) (pz_ad (pz_adl h0 c1 g1 c2 g2 tx gtx pg dd gd kp gkp tp gtp tl gtl lk glk ph gph c3 g3 tx2 gtx2 pg2 h1 gm) adS) 201 := ⟨.inr (5, [.int 0, .int 0, .int 0, .int 0, .int 0, .int 0, .int 0, .int (-1)]), rfl, fun h => by
  rw [pz_o5z (a := 201) rfl (by decide)]
  exact h⟩
theorem pz_ro202 : pz_rw6 D cy H (pz_WL cy h0 c1 g1 c2 g2 tx gtx pg dd gd kp gkp tp gtp tl gtl lk glk ph gph c3 g3 tx2 gtx2 pg2 h1 gm) (pz_ad (pz_adl h0 c1 g1 c2 g2 tx gtx pg dd gd kp gkp tp gtp tl gtl lk glk ph gph c3 g3 tx2 gtx2 pg2 h1 gm) adS) 202 := ⟨.inr (5, [.int 0, .int 0, .int 0, .int 0, .int 0, .int 0, .int 0, .int (-1)]), rfl, fun h => by
  rw [pz_o5z (a := 202) rfl (by decide)]
  exact h⟩
theorem pz_ro203 : pz_rw6 D cy H (pz_WL cy h0 c1 g1 c2 g2 tx gtx pg dd gd kp gkp tp gtp tl gtl lk glk ph gph c3 g3 tx2 gtx2 pg2 h1 gm) (pz_ad (pz_adl h0 c1 g1 c2 g2 tx gtx pg dd gd kp gkp tp gtp tl gtl lk glk ph gph c3 g3 tx2 gtx2 pg2 h1 gm) adS) 203 := ⟨.inr (5, [.int 0, .int 0, .int 0, .int 0, .int 0, .int 0, .int 0, .int (-1)]), rfl, fun h => by
  rw [pz_o5z (a := 203) rfl (by decide)]
  exact h⟩
theorem pz_ro204 : pz_rw6 D cy H (pz_WL cy h0 c1 g1 c2 g2 tx gtx pg dd gd kp gkp tp gtp tl gtl lk glk ph gph c3 g3 tx2 gtx2 pg2 h1 gm) (pz_ad (pz_adl h0 c1 g1 c2 g2 tx gtx pg dd gd kp gkp tp gtp tl gtl lk glk ph gph c3 g3 tx2 gtx2 pg2 h1 gm) adS) 204 := ⟨.inr (5, [.int 0, .int 0, .int 0, .int 0, .int 0, .int 0, .int 0, .int (-1)]), rfl, fun h => by
  rw [pz_o5z (a := 204) rfl (by decide)]
  exact h⟩
theorem pz_ro205 : pz_rw6 D cy H (pz_WL cy h0 c1 g1 c2 g2 tx gtx pg dd gd kp gkp tp gtp tl gtl lk glk ph gph c3 g3 tx2 gtx2 pg2 h1 gm) (pz_ad (pz_adl h0 c1 g1 c2 g2 tx gtx pg dd gd kp gkp tp gtp tl gtl lk glk ph gph c3 g3 tx2 gtx2 pg2 h1 gm) adS) 205 := ⟨.inr (5, [.int 0, .int 0, .int 0, .int 0, .int 0, .int 0, .int 0, .int (-1)]), rfl, fun h => by
  rw [pz_o5z (a := 205) rfl (by decide)]
  exact h⟩
end PZ16
end
section
section PZ16
variable {D : va_G} {cy : Nat → ClassId} {H : Heap} {adS : Nat → Nat} {h0 : Nat} {c1 : Nat} {g1 : Nat → Nat} {c2 : Nat} {g2 : Nat → Nat} {tx : Nat} {gtx : (Nat × (Nat → Nat)) × (Nat × (Nat → Nat)) × (Nat × (Nat → Nat)) × Nat × (Nat → Nat)} {pg : Nat} {dd : Nat} {gd : Nat → Nat} {kp : Nat} {gkp : (Nat → Nat) × (Nat → Nat → Nat)} {tp : Nat} {gtp : Nat → Nat} {tl : Nat} {gtl : (Nat × (Nat → Nat)) × Nat × (Nat → Nat)} {lk : Nat} {glk : Nat → Nat} {ph : Nat} {gph : Nat → Nat} {c3 : Nat} {g3 : Nat → Nat} {tx2 : Nat} {gtx2 : (Nat × (Nat → Nat)) × (Nat × (Nat → Nat)) × (Nat × (Nat → Nat)) × Nat × (Nat → Nat)} {pg2 : Nat} {h1 : Nat} {gm : Nat → Nat}
theorem pz_rows : ∀ a, a < 206 → pz_rw6 D cy H (pz_b11 cy h0 c1 g1 c2 g2 tx gtx pg dd gd kp gkp tp gtp tl gtl lk glk ph gph c3 g3 tx2 gtx2 pg2 ++ pz_b12 cy h1 gm) (pz_ad (pz_adl h0 c1 g1 c2 g2 tx gtx pg dd gd kp gkp tp gtp tl gtl lk glk ph gph c3 g3 tx2 gtx2 pg2 h1 gm) adS) a := by
  rw [pz_WLe]
  have k0 : ∀ m, m < 0 → pz_rw6 D cy H (pz_WL cy h0 c1 g1 c2 g2 tx gtx pg dd gd kp gkp tp gtp tl gtl lk glk ph gph c3 g3 tx2 gtx2 pg2 h1 gm) (pz_ad (pz_adl h0 c1 g1 c2 g2 tx gtx pg dd gd kp gkp tp gtp tl gtl lk glk ph gph c3 g3 tx2 gtx2 pg2 h1 gm) adS) m := pz_f0
  have k1 := pz_fs k0 (pz_ro0 (D := D) (cy := cy) (H := H) (adS := adS))
  have k2 := pz_fs k1 (pz_ro1 (D := D) (cy := cy) (H := H) (adS := adS))
  have k3 := pz_fs k2 (pz_ro2 (D := D) (cy := cy) (H := H) (adS := adS))
  have k4 := pz_fs k3 (pz_ro3 (D := D) (cy := cy) (H := H) (adS := adS))
  have k5 := pz_fs k4 (pz_ro4 (D := D) (cy := cy) (H := H) (adS := adS))
  have k6 := pz_fs k5 (pz_ro5 (D := D) (cy := cy) (H := H) (adS := adS))
  have k7 := pz_fs k6 (pz_ro6 (D := D) (cy := cy) (H := H) (adS := adS))
  have k8 := pz_fs k7 (pz_ro7 (D := D) (cy := cy) (H := H) (adS := adS))
  have k9 := pz_fs k8 (pz_ro8 (D := D) (cy := cy) (H := H) (adS := adS))
  have k10 := pz_fs k9 (pz_ro9 (D := D) (cy := cy) (H := H) (adS := adS))
  have k11 := pz_fs k10 (pz_ro10 (D := D) (cy := cy) (H := H) (adS := adS))
  have k12 := pz_fs k11 (pz_ro11 (D := D) (cy := cy) (H := H) (adS := adS))
  have k13 := pz_fs k12 (pz_ro12 (D := D) (cy := cy) (H := H) (adS := adS))
  have k14 := pz_fs k13 (pz_ro13 (D := D) (cy := cy) (H := H) (adS := adS))
  have k15 := pz_fs k14 (pz_ro14 (D := D) (cy := cy) (H := H) (adS := adS))
  have k16 := pz_fs k15 (pz_ro15 (D := D) (cy := cy) (H := H) (adS := adS))
  have k17 := pz_fs k16 (pz_ro16 (D := D) (cy := cy) (H := H) (adS := adS))
  have k18 := pz_fs k17 (pz_ro17 (D := D) (cy := cy) (H := H) (adS := adS))
  have k19 := pz_fs k18 (pz_ro18 (D := D) (cy := cy) (H := H) (adS := adS))
  have k20 := pz_fs k19 (pz_ro19 (D := D) (cy := cy) (H := H) (adS := adS))
  have k21 := pz_fs k20 (pz_ro20 (D := D) (cy := cy) (H := H) (adS := adS))
  have k22 := pz_fs k21 (pz_ro21 (D := D) (cy := cy) (H := H) (adS := adS))
  have k23 := pz_fs k22 (pz_ro22 (D := D) (cy := cy) (H := H) (adS := adS))
  have k24 := pz_fs k23 (pz_ro23 (D := D) (cy := cy) (H := H) (adS := adS))
  have k25 := pz_fs k24 (pz_ro24 (D := D) (cy := cy) (H := H) (adS := adS))
  have k26 := pz_fs k25 (pz_ro25 (D := D) (cy := cy) (H := H) (adS := adS))
  have k27 := pz_fs k26 (pz_ro26 (D := D) (cy := cy) (H := H) (adS := adS))
  have k28 := pz_fs k27 (pz_ro27 (D := D) (cy := cy) (H := H) (adS := adS))
  have k29 := pz_fs k28 (pz_ro28 (D := D) (cy := cy) (H := H) (adS := adS))
  have k30 := pz_fs k29 (pz_ro29 (D := D) (cy := cy) (H := H) (adS := adS))
  have k31 := pz_fs k30 (pz_ro30 (D := D) (cy := cy) (H := H) (adS := adS))
  have k32 := pz_fs k31 (pz_ro31 (D := D) (cy := cy) (H := H) (adS := adS))
  have k33 := pz_fs k32 (pz_ro32 (D := D) (cy := cy) (H := H) (adS := adS))
  have k34 := pz_fs k33 (pz_ro33 (D := D) (cy := cy) (H := H) (adS := adS))
  have k35 := pz_fs k34 (pz_ro34 (D := D) (cy := cy) (H := H) (adS := adS))
  have k36 := pz_fs k35 (pz_ro35 (D := D) (cy := cy) (H := H) (adS := adS))
  have k37 := pz_fs k36 (pz_ro36 (D := D) (cy := cy) (H := H) (adS := adS))
  have k38 := pz_fs k37 (pz_ro37 (D := D) (cy := cy) (H := H) (adS := adS))
  have k39 := pz_fs k38 (pz_ro38 (D := D) (cy := cy) (H := H) (adS := adS))
  have k40 := pz_fs k39 (pz_ro39 (D := D) (cy := cy) (H := H) (adS := adS))
  have k41 := pz_fs k40 (pz_ro40 (D := D) (cy := cy) (H := H) (adS := adS))
  have k42 := pz_fs k41 (pz_ro41 (D := D) (cy := cy) (H := H) (adS := adS))
  have k43 := pz_fs k42 (pz_ro42 (D := D) (cy := cy) (H := H) (adS := adS))
  have k44 := pz_fs k43 (pz_ro43 (D := D) (cy := cy) (H := H) (adS := adS))
  have k45 := pz_fs k44 (pz_ro44 (D := D) (cy := cy) (H := H) (adS := adS))
  have k46 := pz_fs k45 (pz_ro45 (D := D) (cy := cy) (H := H) (adS := adS))
  have k47 := pz_fs k46 (pz_ro46 (D := D) (cy := cy) (H := H) (adS := adS))
  have k48 := pz_fs k47 (pz_ro47 (D := D) (cy := cy) (H := H) (adS := adS))
  have k49 := pz_fs k48 (pz_ro48 (D := D) (cy := cy) (H := H) (adS := adS))
  have k50 := pz_fs k49 (pz_ro49 (D := D) (cy := cy) (H := H) (adS := adS))
  have k51 := pz_fs k50 (pz_ro50 (D := D) (cy := cy) (H := H) (adS := adS))
  have k52 := pz_fs k51 (pz_ro51 (D := D) (cy := cy) (H := H) (adS := adS))
  have k53 := pz_fs k52 (pz_ro52 (D := D) (cy := cy) (H := H) (adS := adS))
  have k54 := pz_fs k53 (pz_ro53 (D := D) (cy := cy) (H := H) (adS := adS))
  have k55 := pz_fs k54 (pz_ro54 (D := D) (cy := cy) (H := H) (adS := adS))
  have k56 := pz_fs k55 (pz_ro55 (D := D) (cy := cy) (H := H) (adS := adS))
  have k57 := pz_fs k56 (pz_ro56 (D := D) (cy := cy) (H := H) (adS := adS))
  have k58 := pz_fs k57 (pz_ro57 (D := D) (cy := cy) (H := H) (adS := adS))
  have k59 := pz_fs k58 (pz_ro58 (D := D) (cy := cy) (H := H) (adS := adS))
  have k60 := pz_fs k59 (pz_ro59 (D := D) (cy := cy) (H := H) (adS := adS))
  have k61 := pz_fs k60 (pz_ro60 (D := D) (cy := cy) (H := H) (adS := adS))
  have k62 := pz_fs k61 (pz_ro61 (D := D) (cy := cy) (H := H) (adS := adS))
  have k63 := pz_fs k62 (pz_ro62 (D := D) (cy := cy) (H := H) (adS := adS))
  have k64 := pz_fs k63 (pz_ro63 (D := D) (cy := cy) (H := H) (adS := adS))
  have k65 := pz_fs k64 (pz_ro64 (D := D) (cy := cy) (H := H) (adS := adS))
  have k66 := pz_fs k65 (pz_ro65 (D := D) (cy := cy) (H := H) (adS := adS))
  have k67 := pz_fs k66 (pz_ro66 (D := D) (cy := cy) (H := H) (adS := adS))
  have k68 := pz_fs k67 (pz_ro67 (D := D) (cy := cy) (H := H) (adS := adS))
  have k69 := pz_fs k68 (pz_ro68 (D := D) (cy := cy) (H := H) (adS := adS))
  have k70 := pz_fs k69 (pz_ro69 (D := D) (cy := cy) (H := H) (adS := adS))
  have k71 := pz_fs k70 (pz_ro70 (D := D) (cy := cy) (H := H) (adS := adS))
  have k72 := pz_fs k71 (pz_ro71 (D := D) (cy := cy) (H := H) (adS := adS))
  have k73 := pz_fs k72 (pz_ro72 (D := D) (cy := cy) (H := H) (adS := adS))
  have k74 := pz_fs k73 (pz_ro73 (D := D) (cy := cy) (H := H) (adS := adS))
  have k75 := pz_fs k74 (pz_ro74 (D := D) (cy := cy) (H := H) (adS := adS))
  have k76 := pz_fs k75 (pz_ro75 (D := D) (cy := cy) (H := H) (adS := adS))
  have k77 := pz_fs k76 (pz_ro76 (D := D) (cy := cy) (H := H) (adS := adS))
  have k78 := pz_fs k77 (pz_ro77 (D := D) (cy := cy) (H := H) (adS := adS))
  have k79 := pz_fs k78 (pz_ro78 (D := D) (cy := cy) (H := H) (adS := adS))
  have k80 := pz_fs k79 (pz_ro79 (D := D) (cy := cy) (H := H) (adS := adS))
  have k81 := pz_fs k80 (pz_ro80 (D := D) (cy := cy) (H := H) (adS := adS))
  have k82 := pz_fs k81 (pz_ro81 (D := D) (cy := cy) (H := H) (adS := adS))
  have k83 := pz_fs k82 (pz_ro82 (D := D) (cy := cy) (H := H) (adS := adS))
  have k84 := pz_fs k83 (pz_ro83 (D := D) (cy := cy) (H := H) (adS := adS))
  have k85 := pz_fs k84 (pz_ro84 (D := D) (cy := cy) (H := H) (adS := adS))
  have k86 := pz_fs k85 (pz_ro85 (D := D) (cy := cy) (H := H) (adS := adS))
  have k87 := pz_fs k86 (pz_ro86 (D := D) (cy := cy) (H := H) (adS := adS))
  have k88 := pz_fs k87 (pz_ro87 (D := D) (cy := cy) (H := H) (adS := adS))
  have k89 := pz_fs k88 (pz_ro88 (D := D) (cy := cy) (H := H) (adS := adS))
  have k90 := pz_fs k89 (pz_ro89 (D := D) (cy := cy) (H := H) (adS := adS))
  have k91 := pz_fs k90 (pz_ro90 (D := D) (cy := cy) (H := H) (adS := adS))
  have k92 := pz_fs k91 (pz_ro91 (D := D) (cy := cy) (H := H) (adS := adS))
  have k93 := pz_fs k92 (pz_ro92 (D := D) (cy := cy) (H := H) (adS := adS))
  have k94 := pz_fs k93 (pz_ro93 (D := D) (cy := cy) (H := H) (adS := adS))
  have k95 := pz_fs k94 (pz_ro94 (D := D) (cy := cy) (H := H) (adS := adS))
  have k96 := pz_fs k95 (pz_ro95 (D := D) (cy := cy) (H := H) (adS := adS))
  have k97 := pz_fs k96 (pz_ro96 (D := D) (cy := cy) (H := H) (adS := adS))
  have k98 := pz_fs k97 (pz_ro97 (D := D) (cy := cy) (H := H) (adS := adS))
  have k99 := pz_fs k98 (pz_ro98 (D := D) (cy := cy) (H := H) (adS := adS))
  have k100 := pz_fs k99 (pz_ro99 (D := D) (cy := cy) (H := H) (adS := adS))
  have k101 := pz_fs k100 (pz_ro100 (D := D) (cy := cy) (H := H) (adS := adS))
  have k102 := pz_fs k101 (pz_ro101 (D := D) (cy := cy) (H := H) (adS := adS))
  have k103 := pz_fs k102 (pz_ro102 (D := D) (cy := cy) (H := H) (adS := adS))
  have k104 := pz_fs k103 (pz_ro103 (D := D) (cy := cy) (H := H) (adS := adS))
  have k105 := pz_fs k104 (pz_ro104 (D := D) (cy := cy) (H := H) (adS := adS))
  have k106 := pz_fs k105 (pz_ro105 (D := D) (cy := cy) (H := H) (adS := adS))
  have k107 := pz_fs k106 (pz_ro106 (D := D) (cy := cy) (H := H) (adS := adS))
  have k108 := pz_fs k107 (pz_ro107 (D := D) (cy := cy) (H := H) (adS := adS))
  have k109 := pz_fs k108 (pz_ro108 (D := D) (cy := cy) (H := H) (adS := adS))
  have k110 := pz_fs k109 (pz_ro109 (D := D) (cy := cy) (H := H) (adS := adS))
  have k111 := pz_fs k110 (pz_ro110 (D := D) (cy := cy) (H := H) (adS := adS))
  have k112 := pz_fs k111 (pz_ro111 (D := D) (cy := cy) (H := H) (adS := adS))
  have k113 := pz_fs k112 (pz_ro112 (D := D) (cy := cy) (H := H) (adS := adS))
  have k114 := pz_fs k113 (pz_ro113 (D := D) (cy := cy) (H := H) (adS := adS))
  have k115 := pz_fs k114 (pz_ro114 (D := D) (cy := cy) (H := H) (adS := adS))
  have k116 := pz_fs k115 (pz_ro115 (D := D) (cy := cy) (H := H) (adS := adS))
  have k117 := pz_fs k116 (pz_ro116 (D := D) (cy := cy) (H := H) (adS := adS))
  have k118 := pz_fs k117 (pz_ro117 (D := D) (cy := cy) (H := H) (adS := adS))
  have k119 := pz_fs k118 (pz_ro118 (D := D) (cy := cy) (H := H) (adS := adS))
  have k120 := pz_fs k119 (pz_ro119 (D := D) (cy := cy) (H := H) (adS := adS))
  have k121 := pz_fs k120 (pz_ro120 (D := D) (cy := cy) (H := H) (adS := adS))
  have k122 := pz_fs k121 (pz_ro121 (D := D) (cy := cy) (H := H) (adS := adS))
  have k123 := pz_fs k122 (pz_ro122 (D := D) (cy := cy) (H := H) (adS := adS))
  have k124 := pz_fs k123 (pz_ro123 (D := D) (cy := cy) (H := H) (adS := adS))
  have k125 := pz_fs k124 (pz_ro124 (D := D) (cy := cy) (H := H) (adS := adS))
  have k126 := pz_fs k125 (pz_ro125 (D := D) (cy := cy) (H := H) (adS := adS))
  have k127 := pz_fs k126 (pz_ro126 (D := D) (cy := cy) (H := H) (adS := adS))
  have k128 := pz_fs k127 (pz_ro127 (D := D) (cy := cy) (H := H) (adS := adS))
  have k129 := pz_fs k128 (pz_ro128 (D := D) (cy := cy) (H := H) (adS := adS))
  have k130 := pz_fs k129 (pz_ro129 (D := D) (cy := cy) (H := H) (adS := adS))
  have k131 := pz_fs k130 (pz_ro130 (D := D) (cy := cy) (H := H) (adS := adS))
  have k132 := pz_fs k131 (pz_ro131 (D := D) (cy := cy) (H := H) (adS := adS))
  have k133 := pz_fs k132 (pz_ro132 (D := D) (cy := cy) (H := H) (adS := adS))
  have k134 := pz_fs k133 (pz_ro133 (D := D) (cy := cy) (H := H) (adS := adS))
  have k135 := pz_fs k134 (pz_ro134 (D := D) (cy := cy) (H := H) (adS := adS))
  have k136 := pz_fs k135 (pz_ro135 (D := D) (cy := cy) (H := H) (adS := adS))
  have k137 := pz_fs k136 (pz_ro136 (D := D) (cy := cy) (H := H) (adS := adS))
  have k138 := pz_fs k137 (pz_ro137 (D := D) (cy := cy) (H := H) (adS := adS))
  have k139 := pz_fs k138 (pz_ro138 (D := D) (cy := cy) (H := H) (adS := adS))
  have k140 := pz_fs k139 (pz_ro139 (D := D) (cy := cy) (H := H) (adS := adS))
  have k141 := pz_fs k140 (pz_ro140 (D := D) (cy := cy) (H := H) (adS := adS))
  have k142 := pz_fs k141 (pz_ro141 (D := D) (cy := cy) (H := H) (adS := adS))
  have k143 := pz_fs k142 (pz_ro142 (D := D) (cy := cy) (H := H) (adS := adS))
  have k144 := pz_fs k143 (pz_ro143 (D := D) (cy := cy) (H := H) (adS := adS))
  have k145 := pz_fs k144 (pz_ro144 (D := D) (cy := cy) (H := H) (adS := adS))
  have k146 := pz_fs k145 (pz_ro145 (D := D) (cy := cy) (H := H) (adS := adS))
  have k147 := pz_fs k146 (pz_ro146 (D := D) (cy := cy) (H := H) (adS := adS))
  have k148 := pz_fs k147 (pz_ro147 (D := D) (cy := cy) (H := H) (adS := adS))
  have k149 := pz_fs k148 (pz_ro148 (D := D) (cy := cy) (H := H) (adS := adS))
  have k150 := pz_fs k149 (pz_ro149 (D := D) (cy := cy) (H := H) (adS := adS))
  have k151 := pz_fs k150 (pz_ro150 (D := D) (cy := cy) (H := H) (adS := adS))
  have k152 := pz_fs k151 (pz_ro151 (D := D) (cy := cy) (H := H) (adS := adS))
  have k153 := pz_fs k152 (pz_ro152 (D := D) (cy := cy) (H := H) (adS := adS))
  have k154 := pz_fs k153 (pz_ro153 (D := D) (cy := cy) (H := H) (adS := adS))
  have k155 := pz_fs k154 (pz_ro154 (D := D) (cy := cy) (H := H) (adS := adS))
  have k156 := pz_fs k155 (pz_ro155 (D := D) (cy := cy) (H := H) (adS := adS))
  have k157 := pz_fs k156 (pz_ro156 (D := D) (cy := cy) (H := H) (adS := adS))
  have k158 := pz_fs k157 (pz_ro157 (D := D) (cy := cy) (H := H) (adS := adS))
  have k159 := pz_fs k158 (pz_ro158 (D := D) (cy := cy) (H := H) (adS := adS))
  have k160 := pz_fs k159 (pz_ro159 (D := D) (cy := cy) (H := H) (adS := adS))
  have k161 := pz_fs k160 (pz_ro160 (D := D) (cy := cy) (H := H) (adS := adS))
  have k162 := pz_fs k161 (pz_ro161 (D := D) (cy := cy) (H := H) (adS := adS))
  have k163 := pz_fs k162 (pz_ro162 (D := D) (cy := cy) (H := H) (adS := adS))
  have k164 := pz_fs k163 (pz_ro163 (D := D) (cy := cy) (H := H) (adS := adS))
  have k165 := pz_fs k164 (pz_ro164 (D := D) (cy := cy) (H := H) (adS := adS))
  have k166 := pz_fs k165 (pz_ro165 (D := D) (cy := cy) (H := H) (adS := adS))
  have k167 := pz_fs k166 (pz_ro166 (D := D) (cy := cy) (H := H) (adS := adS))
  have k168 := pz_fs k167 (pz_ro167 (D := D) (cy := cy) (H := H) (adS := adS))
  have k169 := pz_fs k168 (pz_ro168 (D := D) (cy := cy) (H := H) (adS := adS))
  have k170 := pz_fs k169 (pz_ro169 (D := D) (cy := cy) (H := H) (adS := adS))
  have k171 := pz_fs k170 (pz_ro170 (D := D) (cy := cy) (H := H) (adS := adS))
  have k172 := pz_fs k171 (pz_ro171 (D := D) (cy := cy) (H := H) (adS := adS))
  have k173 := pz_fs k172 (pz_ro172 (D := D) (cy := cy) (H := H) (adS := adS))
  have k174 := pz_fs k173 (pz_ro173 (D := D) (cy := cy) (H := H) (adS := adS))
  have k175 := pz_fs k174 (pz_ro174 (D := D) (cy := cy) (H := H) (adS := adS))
  have k176 := pz_fs k175 (pz_ro175 (D := D) (cy := cy) (H := H) (adS := adS))
  have k177 := pz_fs k176 (pz_ro176 (D := D) (cy := cy) (H := H) (adS := adS))
  have k178 := pz_fs k177 (pz_ro177 (D := D) (cy := cy) (H := H) (adS := adS))
  have k179 := pz_fs k178 (pz_ro178 (D := D) (cy := cy) (H := H) (adS := adS))
  have k180 := pz_fs k179 (pz_ro179 (D := D) (cy := cy) (H := H) (adS := adS))
  have k181 := pz_fs k180 (pz_ro180 (D := D) (cy := cy) (H := H) (adS := adS))
  have k182 := pz_fs k181 (pz_ro181 (D := D) (cy := cy) (H := H) (adS := adS))
  have k183 := pz_fs k182 (pz_ro182 (D := D) (cy := cy) (H := H) (adS := adS))
  have k184 := pz_fs k183 (pz_ro183 (D := D) (cy := cy) (H := H) (adS := adS))
  have k185 := pz_fs k184 (pz_ro184 (D := D) (cy := cy) (H := H) (adS := adS))
  have k186 := pz_fs k185 (pz_ro185 (D := D) (cy := cy) (H := H) (adS := adS))
  have k187 := pz_fs k186 (pz_ro186 (D := D) (cy := cy) (H := H) (adS := adS))
  have k188 := pz_fs k187 (pz_ro187 (D := D) (cy := cy) (H := H) (adS := adS))
  have k189 := pz_fs k188 (pz_ro188 (D := D) (cy := cy) (H := H) (adS := adS))
  have k190 := pz_fs k189 (pz_ro189 (D := D) (cy := cy) (H := H) (adS := adS))
  have k191 := pz_fs k190 (pz_ro190 (D := D) (cy := cy) (H := H) (adS := adS))
  have k192 := pz_fs k191 (pz_ro191 (D := D) (cy := cy) (H := H) (adS := adS))
  have k193 := pz_fs k192 (pz_ro192 (D := D) (cy := cy) (H := H) (adS := adS))
  have k194 := pz_fs k193 (pz_ro193 (D := D) (cy := cy) (H := H) (adS := adS))
  have k195 := pz_fs k194 (pz_ro194 (D := D) (cy := cy) (H := H) (adS := adS))
  have k196 := pz_fs k195 (pz_ro195 (D := D) (cy := cy) (H := H) (adS := adS))
  have k197 := pz_fs k196 (pz_ro196 (D := D) (cy := cy) (H := H) (adS := adS))
  have k198 := pz_fs k197 (pz_ro197 (D := D) (cy := cy) (H := H) (adS := adS))
  have k199 := pz_fs k198 (pz_ro198 (D := D) (cy := cy) (H := H) (adS := adS))
  have k200 := pz_fs k199 (pz_ro199 (D := D) (cy := cy) (H := H) (adS := adS))
  have k201 := pz_fs k200 (pz_ro200 (D := D) (cy := cy) (H := H) (adS := adS))
  have k202 := pz_fs k201 (pz_ro201 (D := D) (cy := cy) (H := H) (adS := adS))
  have k203 := pz_fs k202 (pz_ro202 (D := D) (cy := cy) (H := H) (adS := adS))
  have k204 := pz_fs k203 (pz_ro203 (D := D) (cy := cy) (H := H) (adS := adS))
  have k205 := pz_fs k204 (pz_ro204 (D := D) (cy := cy) (H := H) (adS := adS))
  have k206 := pz_fs k205 (pz_ro205 (D := D) (cy := cy) (H := H) (adS := adS))
  exact k206
theorem pz_asmP (hP : va_P D vwCl (pz_b11 cy h0 c1 g1 c2 g2 tx gtx pg dd gd kp gkp tp gtp tl gtl lk glk ph gph c3 g3 tx2 gtx2 pg2 ++ pz_b12 cy h1 gm) H) : va_P D vwCl (pz_ws (pz_ad (pz_adl h0 c1 g1 c2 g2 tx gtx pg dd gd kp gkp tp gtp tl gtl lk glk ph gph c3 g3 tx2 gtx2 pg2 h1 gm) adS) cy pz_M0) H := by
  intro k q hk
  have hl : k < 206 := by
    have := (List.getElem?_eq_some_iff.mp hk).1
    simpa [pz_ws] using this
  rw [pz_ws_get hl] at hk
  cases hk
  obtain ⟨e, h1, h2⟩ := pz_rows (D := D) (cy := cy) (H := H) (adS := adS) k hl
  exact h2 (hP _ _ h1)
theorem pz_asmD {A : Nat → Prop} (hD : va_D A (pz_b11 cy h0 c1 g1 c2 g2 tx gtx pg dd gd kp gkp tp gtp tl gtl lk glk ph gph c3 g3 tx2 gtx2 pg2 ++ pz_b12 cy h1 gm)) : (∀ i j : Nat, i < 206 → j < 206 → (pz_ad (pz_adl h0 c1 g1 c2 g2 tx gtx pg dd gd kp gkp tp gtp tl gtl lk glk ph gph c3 g3 tx2 gtx2 pg2 h1 gm) adS) i = (pz_ad (pz_adl h0 c1 g1 c2 g2 tx gtx pg dd gd kp gkp tp gtp tl gtl lk glk ph gph c3 g3 tx2 gtx2 pg2 h1 gm) adS) j → i = j) ∧ ∀ i : Nat, i < 206 → A ((pz_ad (pz_adl h0 c1 g1 c2 g2 tx gtx pg dd gd kp gkp tp gtp tl gtl lk glk ph gph c3 g3 tx2 gtx2 pg2 h1 gm) adS) i) := by
  refine ⟨fun i j hi hj he => ?_, fun i hi => ?_⟩
  · obtain ⟨e, h1, -⟩ := pz_rows (D := (fun _ => 0, fun _ _ => 0)) (cy := cy) (H := #[]) (adS := adS) i hi
    obtain ⟨e', h2, -⟩ := pz_rows (D := (fun _ => 0, fun _ _ => 0)) (cy := cy) (H := #[]) (adS := adS) j hj
    have h3 := hD.1 _ _ _ _ h1 h2 he
    rw [← pz_psx_inv i hi, ← pz_psx_inv j hj, h3]
  · obtain ⟨e, h1, -⟩ := pz_rows (D := (fun _ => 0, fun _ _ => 0)) (cy := cy) (H := #[]) (adS := adS) i hi
    exact hD.2 _ _ h1
end PZ16
end
