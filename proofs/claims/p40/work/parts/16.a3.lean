section
section PZ16
variable {D : va_G} {cy : Nat → ClassId} {H : Heap} {adS : Nat → Nat} {h0 : Nat} {c1 : Nat} {g1 : Nat → Nat} {c2 : Nat} {g2 : Nat → Nat} {tx : Nat} {gtx : (Nat × (Nat → Nat)) × (Nat × (Nat → Nat)) × (Nat × (Nat → Nat)) × Nat × (Nat → Nat)} {pg : Nat} {dd : Nat} {gd : Nat → Nat} {kp : Nat} {gkp : (Nat → Nat) × (Nat → Nat → Nat)} {tp : Nat} {gtp : Nat → Nat} {tl : Nat} {gtl : (Nat × (Nat → Nat)) × Nat × (Nat → Nat)} {lk : Nat} {glk : Nat → Nat} {ph : Nat} {gph : Nat → Nat} {c3 : Nat} {g3 : Nat → Nat} {tx2 : Nat} {gtx2 : (Nat × (Nat → Nat)) × (Nat × (Nat → Nat)) × (Nat × (Nat → Nat)) × Nat × (Nat → Nat)} {pg2 : Nat} {h1 : Nat} {gm : Nat → Nat}
theorem pz_ro104 : pz_rw6 D cy H (pz_WL cy h0 c1 g1 c2 g2 tx gtx pg dd gd kp gkp tp gtp tl gtl lk glk ph gph c3 g3 tx2 gtx2 pg2 h1 gm) (pz_ad (pz_adl h0 c1 g1 c2 g2 tx gtx pg dd gd kp gkp tp gtp tl gtl lk glk ph gph c3 g3 tx2 gtx2 pg2 h1 gm) adS) 104 := ⟨.inr (5, [.int 0, .int 0, .int 0, .int 0, .int 0, .int 0, .int 0, .int (-1)]), rfl, fun h => by
  rw [pz_o5z (a := 104) rfl (by decide)]
  exact h⟩
theorem pz_ro105 : pz_rw6 D cy H (pz_WL cy h0 c1 g1 c2 g2 tx gtx pg dd gd kp gkp tp gtp tl gtl lk glk ph gph c3 g3 tx2 gtx2 pg2 h1 gm) (pz_ad (pz_adl h0 c1 g1 c2 g2 tx gtx pg dd gd kp gkp tp gtp tl gtl lk glk ph gph c3 g3 tx2 gtx2 pg2 h1 gm) adS) 105 := ⟨.inr (5, [.int 0, .int 0, .int 0, .int 0, .int 0, .int 0, .int 0, .int (-1)]), rfl, fun h => by
  rw [pz_o5z (a := 105) rfl (by decide)]
  exact h⟩
theorem pz_ro106 : pz_rw6 D cy H (pz_WL cy h0 c1 g1 c2 g2 tx gtx pg dd gd kp gkp tp gtp tl gtl lk glk ph gph c3 g3 tx2 gtx2 pg2 h1 gm) (pz_ad (pz_adl h0 c1 g1 c2 g2 tx gtx pg dd gd kp gkp tp gtp tl gtl lk glk ph gph c3 g3 tx2 gtx2 pg2 h1 gm) adS) 106 := ⟨.inr (5, [.int 0, .int 0, .int 0, .int 0, .int 0, .int 0, .int 0, .int (-1)]), rfl, fun h => by
  rw [pz_o5z (a := 106) rfl (by decide)]
  exact h⟩
theorem pz_ro107 : pz_rw6 D cy H (pz_WL cy h0 c1 g1 c2 g2 tx gtx pg dd gd kp gkp tp gtp tl gtl lk glk ph gph c3 g3 tx2 gtx2 pg2 h1 gm) (pz_ad (pz_adl h0 c1 g1 c2 g2 tx gtx pg dd gd kp gkp tp gtp tl gtl lk glk ph gph c3 g3 tx2 gtx2 pg2 h1 gm) adS) 107 := ⟨.inr (5, [.int 0, .int 0, .int 0, .int 0, .int 0, .int 0, .int 0, .int (-1)]), rfl, fun h => by
  rw [pz_o5z (a := 107) rfl (by decide)]
  exact h⟩
theorem pz_ro108 : pz_rw6 D cy H (pz_WL cy h0 c1 g1 c2 g2 tx gtx pg dd gd kp gkp tp gtp tl gtl lk glk ph gph c3 g3 tx2 gtx2 pg2 h1 gm) (pz_ad (pz_adl h0 c1 g1 c2 g2 tx gtx pg dd gd kp gkp tp gtp tl gtl lk glk ph gph c3 g3 tx2 gtx2 pg2 h1 gm) adS) 108 := ⟨.inr (5, [.int 0, .int 0, .int 0, .int 0, .int 0, .int 0, .int 0, .int (-1)]), rfl, fun h => by
  rw [pz_o5z (a := 108) rfl (by decide)]
  exact h⟩
theorem pz_ro109 : pz_rw6 D cy H (pz_WL cy h0 c1 g1 c2 g2 tx gtx pg dd gd kp gkp tp gtp tl gtl lk glk ph gph c3 g3 tx2 gtx2 pg2 h1 gm) (pz_ad (pz_adl h0 c1 g1 c2 g2 tx gtx pg dd gd kp gkp tp gtp tl gtl lk glk ph gph c3 g3 tx2 gtx2 pg2 h1 gm) adS) 109 := ⟨.inr (5, [.int 0, .int 0, .int 0, .int 0, .int 0, .int 0, .int 0, .int (-1)]), rfl, fun h => by
  rw [pz_o5z (a := 109) rfl (by decide)]
  exact h⟩
theorem pz_ro110 : pz_rw6 D cy H (pz_WL cy h0 c1 g1 c2 g2 tx gtx pg dd gd kp gkp tp gtp tl gtl lk glk ph gph c3 g3 tx2 gtx2 pg2 h1 gm) (pz_ad (pz_adl h0 c1 g1 c2 g2 tx gtx pg dd gd kp gkp tp gtp tl gtl lk glk ph gph c3 g3 tx2 gtx2 pg2 h1 gm) adS) 110 := ⟨.inr (5, [.int 0, .int 0, .int 0, .int 0, .int 0, .int 0, .int 0, .int (-1)]), rfl, fun h => by
  rw [pz_o5z (a := 110) rfl (by decide)]
  exact h⟩
theorem pz_ro111 : pz_rw6 D cy H (pz_WL cy h0 c1 g1 c2 g2 tx gtx pg dd gd kp gkp tp gtp tl gtl lk glk ph gph c3 g3 tx2 gtx2 pg2 h1 gm) (pz_ad (pz_adl h0 c1 g1 c2 g2 tx gtx pg dd gd kp gkp tp gtp tl gtl lk glk ph gph c3 g3 tx2 gtx2 pg2 h1 gm) adS) 111 := ⟨.inr (5, [.int 0, .int 0, .int 0, .int 0, .int 0, .int 0, .int 0, .int (-1)]), rfl, fun h => by
  rw [pz_o5z (a := 111) rfl (by decide)]
  exact h⟩
theorem pz_ro112 : pz_rw6 D cy H (pz_WL cy h0 c1 g1 c2 g2 tx gtx pg dd gd kp gkp tp gtp tl gtl lk glk ph gph c3 g3 tx2 gtx2 pg2 h1 gm) (pz_ad (pz_adl h0 c1 g1 c2 g2 tx gtx pg dd gd kp gkp tp gtp tl gtl lk glk ph gph c3 g3 tx2 gtx2 pg2 h1 gm) adS) 112 := ⟨.inr (5, [.int 0, .int 0, .int 0, .int 0, .int 0, .int 0, .int 0, .int (-1)]), rfl, fun h => by
  rw [pz_o5z (a := 112) rfl (by decide)]
  exact h⟩
theorem pz_ro113 : pz_rw6 D cy H (pz_WL cy h0 c1 g1 c2 g2 tx gtx pg dd gd kp gkp tp gtp tl gtl lk glk ph gph c3 g3 tx2 gtx2 pg2 h1 gm) (pz_ad (pz_adl h0 c1 g1 c2 g2 tx gtx pg dd gd kp gkp tp gtp tl gtl lk glk ph gph c3 g3 tx2 gtx2 pg2 h1 gm) adS) 113 := ⟨.inr (5, [.int 0, .int 0, .int 0, .int 0, .int 0, .int 0, .int 0, .int (-1)]), rfl, fun h => by
  rw [pz_o5z (a := 113) rfl (by decide)]
  exact h⟩
theorem pz_ro114 : pz_rw6 D cy H (pz_WL cy h0 c1 g1 c2 g2 tx gtx pg dd gd kp gkp tp gtp tl gtl lk glk ph gph c3 g3 tx2 gtx2 pg2 h1 gm) (pz_ad (pz_adl h0 c1 g1 c2 g2 tx gtx pg dd gd kp gkp tp gtp tl gtl lk glk ph gph c3 g3 tx2 gtx2 pg2 h1 gm) adS) 114 := ⟨.inr (5, [.int 0, .int 0, .int 0, .int 0, .int 0, .int 0, .int 0, .int (-1)]), rfl, fun h => by
  rw [pz_o5z (a := 114) rfl (by decide)]
  exact h⟩
theorem pz_ro115 : pz_rw6 D cy H (pz_WL cy h0 c1 g1 c2 g2 tx gtx pg dd gd kp gkp tp gtp tl gtl lk glk ph gph c3 g3 tx2 gtx2 pg2 h1 gm) (pz_ad (pz_adl h0 c1 g1 c2 g2 tx gtx pg dd gd kp gkp tp gtp tl gtl lk glk ph gph c3 g3 tx2 gtx2 pg2 h1 gm) adS) 115 := ⟨.inr (5, [.int 0, .int 0, .int 0, .int 0, .int 0, .int 0, .int 0, .int (-1)]), rfl, fun h => by
  rw [pz_o5z (a := 115) rfl (by decide)]
  exact h⟩
theorem pz_ro116 : pz_rw6 D cy H (pz_WL cy h0 c1 g1 c2 g2 tx gtx pg dd gd kp gkp tp gtp tl gtl lk glk ph gph c3 g3 tx2 gtx2 pg2 h1 gm) (pz_ad (pz_adl h0 c1 g1 c2 g2 tx gtx pg dd gd kp gkp tp gtp tl gtl lk glk ph gph c3 g3 tx2 gtx2 pg2 h1 gm) adS) 116 := ⟨.inr (5, [.int 0, .int 0, .int 0, .int 0, .int 0, .int 0, .int 0, .int (-1)]), rfl, fun h => by
  rw [pz_o5z (a := 116) rfl (by decide)]
  exact h⟩
theorem pz_ro117 : pz_rw6 D cy H (pz_WL cy h0 c1 g1 c2 g2 tx gtx pg dd gd kp gkp tp gtp tl gtl lk glk ph gph c3 g3 tx2 gtx2 pg2 h1 gm) (pz_ad (pz_adl h0 c1 g1 c2 g2 tx gtx pg dd gd kp gkp tp gtp tl gtl lk glk ph gph c3 g3 tx2 gtx2 pg2 h1 gm) adS) 117 := ⟨.inr (5, [.int 0, .int 0, .int 0, .int 0, .int 0, .int 0, .int 0, .int (-1)]), rfl, fun h => by
  rw [pz_o5z (a := 117) rfl (by decide)]
  exact h⟩
theorem pz_ro118 : pz_rw6 D cy H (pz_WL cy h0 c1 g1 c2 g2 tx gtx pg dd gd kp gkp tp gtp tl gtl lk glk ph gph c3 g3 tx2 gtx2 pg2 h1 gm) (pz_ad (pz_adl h0 c1 g1 c2 g2 tx gtx pg dd gd kp gkp tp gtp tl gtl lk glk ph gph c3 g3 tx2 gtx2 pg2 h1 gm) adS) 118 := ⟨.inr (5, [.int 0, .int 0, .int 0, .int 0, .int 0, .int 0, .int 0, .int (-1)]), rfl, fun h => by
  rw [pz_o5z (a := 118) rfl (by decide)]
  exact h⟩
theorem pz_ro119 : pz_rw6 D cy H (pz_WL cy h0 c1 g1 c2 g2 tx gtx pg dd gd kp gkp tp gtp tl gtl lk glk ph gph c3 g3 tx2 gtx2 pg2 h1 gm) (pz_ad (pz_adl h0 c1 g1 c2 g2 tx gtx pg dd gd kp gkp tp gtp tl gtl lk glk ph gph c3 g3 tx2 gtx2 pg2 h1 gm) adS) 119 := ⟨.inr (5, [.int 0, .int 0, .int 0, .int 0, .int 0, .int 0, .int 0, .int (-1)]), rfl, fun h => by
  rw [pz_o5z (a := 119) rfl (by decide)]
  exact h⟩
theorem pz_ro120 : pz_rw6 D cy H (pz_WL cy h0 c1 g1 c2 g2 tx gtx pg dd gd kp gkp tp gtp tl gtl lk glk ph gph c3 g3 tx2 gtx2 pg2 h1 gm) (pz_ad (pz_adl h0 c1 g1 c2 g2 tx gtx pg dd gd kp gkp tp gtp tl gtl lk glk ph gph c3 g3 tx2 gtx2 pg2 h1 gm) adS) 120 := ⟨.inr (5, [.int 0, .int 0, .int 0, .int 0, .int 0, .int 0, .int 0, .int (-1)]), rfl, fun h => by
  rw [pz_o5z (a := 120) rfl (by decide)]
  exact h⟩
theorem pz_ro121 : pz_rw6 D cy H (pz_WL cy h0 c1 g1 c2 g2 tx gtx pg dd gd kp gkp tp gtp tl gtl lk glk ph gph c3 g3 tx2 gtx2 pg2 h1 gm) (pz_ad (pz_adl h0 c1 g1 c2 g2 tx gtx pg dd gd kp gkp tp gtp tl gtl lk glk ph gph c3 g3 tx2 gtx2 pg2 h1 gm) adS) 121 := ⟨.inr (5, [.int 0, .int 0, .int 0, .int 0, .int 0, .int 0, .int 0, .int (-1)]), rfl, fun h => by
  rw [pz_o5z (a := 121) rfl (by decide)]
  exact h⟩
theorem pz_ro122 : pz_rw6 D cy H (pz_WL cy h0 c1 g1 c2 g2 tx gtx pg dd gd kp gkp tp gtp tl gtl lk glk ph gph c3 g3 tx2 gtx2 pg2 h1 gm) (pz_ad (pz_adl h0 c1 g1 c2 g2 tx gtx pg dd gd kp gkp tp gtp tl gtl lk glk ph gph c3 g3 tx2 gtx2 pg2 h1 gm) adS) 122 := ⟨.inr (5, [.int 0, .int 0, .int 0, .int 0, .int 0, .int 0, .int 0, .int (-1)]), rfl, fun h => by
  rw [pz_o5z (a := 122) rfl (by decide)]
  exact h⟩
theorem pz_ro123 : pz_rw6 D cy H (pz_WL cy h0 c1 g1 c2 g2 tx gtx pg dd gd kp gkp tp gtp tl gtl lk glk ph gph c3 g3 tx2 gtx2 pg2 h1 gm) (pz_ad (pz_adl h0 c1 g1 c2 g2 tx gtx pg dd gd kp gkp tp gtp tl gtl lk glk ph gph c3 g3 tx2 gtx2 pg2 h1 gm) adS) 123 := ⟨.inr (5, [.int 0, .int 0, .int 0, .int 0, .int 0, .int 0, .int 0, .int (-1)]), rfl, fun h => by
  rw [pz_o5z (a := 123) rfl (by decide)]
  exact h⟩
theorem pz_ro124 : pz_rw6 D cy H (pz_WL cy h0 c1 g1 c2 g2 tx gtx pg dd gd kp gkp tp gtp tl gtl lk glk ph gph c3 g3 tx2 gtx2 pg2 h1 gm) (pz_ad (pz_adl h0 c1 g1 c2 g2 tx gtx pg dd gd kp gkp tp gtp tl gtl lk glk ph gph c3 g3 tx2 gtx2 pg2 h1 gm) adS) 124 := ⟨.inr (5, [.int 0, .int 0, .int 0, .int 0, .int 0, .int 0, .int 0, .int (-1)]), rfl, fun h => by
  rw [pz_o5z (a := 124) rfl (by decide)]
  exact h⟩
theorem pz_ro125 : pz_rw6 D cy H (pz_WL cy h0 c1 g1 c2 g2 tx gtx pg dd gd kp gkp tp gtp tl gtl lk glk ph gph c3 g3 tx2 gtx2 pg2 h1 gm) (pz_ad (pz_adl h0 c1 g1 c2 g2 tx gtx pg dd gd kp gkp tp gtp tl gtl lk glk ph gph c3 g3 tx2 gtx2 pg2 h1 gm) adS) 125 := ⟨.inr (5, [.int 0, .int 0, .int 0, .int 0, .int 0, .int 0, .int 0, .int (-1)]), rfl, fun h => by
  rw [pz_o5z (a := 125) rfl (by decide)]
  exact h⟩
theorem pz_ro126 : pz_rw6 D cy H (pz_WL cy h0 c1 g1 c2 g2 tx gtx pg dd gd kp gkp tp gtp tl gtl lk glk ph gph c3 g3 tx2 gtx2 pg2 h1 gm) (pz_ad (pz_adl h0 c1 g1 c2 g2 tx gtx pg dd gd kp gkp tp gtp tl gtl lk glk ph gph c3 g3 tx2 gtx2 pg2 h1 gm) adS) 126 := ⟨.inr (5, [.int 0, .int 0, .int 0, .int 0, .int 0, .int 0, .int 0, .int (-1)]), rfl, fun h => by
  rw [pz_o5z (a := 126) rfl (by decide)]
  exact h⟩
theorem pz_ro127 : pz_rw6 D cy H (pz_WL cy h0 c1 g1 c2 g2 tx gtx pg dd gd kp gkp tp gtp tl gtl lk glk ph gph c3 g3 tx2 gtx2 pg2 h1 gm) (pz_ad (pz_adl h0 c1 g1 c2 g2 tx gtx pg dd gd kp gkp tp gtp tl gtl lk glk ph gph c3 g3 tx2 gtx2 pg2 h1 gm) adS) 127 := ⟨.inr (5, [.int 0, .int 0, .int 0, .int 0, .int 0, .int 0, .int 0, .int (-1)]), rfl, fun h => by
  rw [pz_o5z (a := 127) rfl (by decide)]
  exact h⟩
theorem pz_ro128 : pz_rw6 D cy H (pz_WL cy h0 c1 g1 c2 g2 tx gtx pg dd gd kp gkp tp gtp tl gtl lk glk ph gph c3 g3 tx2 gtx2 pg2 h1 gm) (pz_ad (pz_adl h0 c1 g1 c2 g2 tx gtx pg dd gd kp gkp tp gtp tl gtl lk glk ph gph c3 g3 tx2 gtx2 pg2 h1 gm) adS) 128 := ⟨.inr (5, [.int 0, .int 0, .int 0, .int 0, .int 0, .int 0, .int 0, .int (-1)]), rfl, fun h => by
  rw [pz_o5z (a := 128) rfl (by decide)]
  exact h⟩
theorem pz_ro129 : pz_rw6 D cy H (pz_WL cy h0 c1 g1 c2 g2 tx gtx pg dd gd kp gkp tp gtp tl gtl lk glk ph gph c3 g3 tx2 gtx2 pg2 h1 gm) (pz_ad (pz_adl h0 c1 g1 c2 g2 tx gtx pg dd gd kp gkp tp gtp tl gtl lk glk ph gph c3 g3 tx2 gtx2 pg2 h1 gm) adS) 129 := ⟨.inr (5, [.int 0, .int 0, .int 0, .int 0, .int 0, .int 0, .int 0, .int (-1)]), rfl, fun h => by
  rw [pz_o5z (a := 129) rfl (by decide)]
  exact h⟩
theorem pz_ro130 : pz_rw6 D cy H (pz_WL cy h0 c1 g1 c2 g2 tx gtx pg dd gd kp gkp tp gtp tl gtl lk glk ph gph c3 g3 tx2 gtx2 pg2 h1 gm) (pz_ad (pz_adl h0 c1 g1 c2 g2 tx gtx pg dd gd kp gkp tp gtp tl gtl lk glk ph gph c3 g3 tx2 gtx2 pg2 h1 gm) adS) 130 := ⟨.inr (5, [.int 0, .int 0, .int 0, .int 0, .int 0, .int 0, .int 0, .int (-1)]), rfl, fun h => by
  rw [pz_o5z (a := 130) rfl (by decide)]
  exact h⟩
theorem pz_ro131 : pz_rw6 D cy H (pz_WL cy h0 c1 g1 c2 g2 tx gtx pg dd gd kp gkp tp gtp tl gtl lk glk ph gph c3 g3 tx2 gtx2 pg2 h1 gm) (pz_ad (pz_adl h0 c1 g1 c2 g2 tx gtx pg dd gd kp gkp tp gtp tl gtl lk glk ph gph c3 g3 tx2 gtx2 pg2 h1 gm) adS) 131 := ⟨.inr (5, [.int 0, .int 0, .int 0, .int 0, .int 0, .int 0, .int 0, .int (-1)]), rfl, fun h => by
  rw [pz_o5z (a := 131) rfl (by decide)]
  exact h⟩
theorem pz_ro132 : pz_rw6 D cy H (pz_WL cy h0 c1 g1 c2 g2 tx gtx pg dd gd kp gkp tp gtp tl gtl lk glk ph gph c3 g3 tx2 gtx2 pg2 h1 gm) (pz_ad (pz_adl h0 c1 g1 c2 g2 tx gtx pg dd gd kp gkp tp gtp tl gtl lk glk ph gph c3 g3 tx2 gtx2 pg2 h1 gm) adS) 132 := ⟨.inr (5, [.int 0, .int 0, .int 0, .int 0, .int 0, .int 0, .int 0, .int (-1)]), rfl, fun h => by
  rw [pz_o5z (a := 132) rfl (by decide)]
  exact h⟩
theorem pz_ro133 : pz_rw6 D cy H (pz_WL cy h0 c1 g1 c2 g2 tx gtx pg dd gd kp gkp tp gtp tl gtl lk glk ph gph c3 g3 tx2 gtx2 pg2 h1 gm) (pz_ad (pz_adl h0 c1 g1 c2 g2 tx gtx pg dd gd kp gkp tp gtp tl gtl lk glk ph gph c3 g3 tx2 gtx2 pg2 h1 gm) adS) 133 := ⟨.inr (5, [.int 0, .int 0, .int 0, .int 0, .int 0, .int 0, .int 0, .int (-1)]), rfl, fun h => by
  rw [pz_o5z (a := 133) rfl (by decide)]
  exact h⟩
theorem pz_ro134 : pz_rw6 D cy H (pz_WL cy h0 c1 g1 c2 g2 tx gtx pg dd gd kp gkp tp gtp tl gtl lk glk ph gph c3 g3 tx2 gtx2 pg2 h1 gm) (pz_ad (pz_adl h0 c1 g1 c2 g2 tx gtx pg dd gd kp gkp tp gtp tl gtl lk glk ph gph c3 g3 tx2 gtx2 pg2 h1 gm) adS) 134 := ⟨.inr (5, [.int 0, .int 0, .int 0, .int 0, .int 0, .int 0, .int 0, .int (-1)]), rfl, fun h => by
  rw [pz_o5z (a := 134) rfl (by decide)]
  exact h⟩
theorem pz_ro135 : pz_rw6 D cy H (pz_WL cy h0 c1 g1 c2 g2 tx gtx pg dd gd kp gkp tp gtp tl gtl lk glk ph gph c3 g3 tx2 gtx2 pg2 h1 gm) (pz_ad (pz_adl h0 c1 g1 c2 g2 tx gtx pg dd gd kp gkp tp gtp tl gtl lk glk ph gph c3 g3 tx2 gtx2 pg2 h1 gm) adS) 135 := ⟨.inr (5, [.int 0, .int 0, .int 0, .int 0, .int 0, .int 0, .int 0, .int (-1)]), rfl, fun h => by
  rw [pz_o5z (a := 135) rfl (by decide)]
  exact h⟩
theorem pz_ro136 : pz_rw6 D cy H (pz_WL cy h0 c1 g1 c2 g2 tx gtx pg dd gd kp gkp tp gtp tl gtl lk glk ph gph c3 g3 tx2 gtx2 pg2 h1 gm) (pz_ad (pz_adl h0 c1 g1 c2 g2 tx gtx pg dd gd kp gkp tp gtp tl gtl lk glk ph gph c3 g3 tx2 gtx2 pg2 h1 gm) adS) 136 := ⟨.inr (5, [.int 0, .int 0, .int 0, .int 0, .int 0, .int 0, .int 0, .int (-1)]), rfl, fun h => by
  rw [pz_o5z (a := 136) rfl (by decide)]
  exact h⟩
theorem pz_ro137 : pz_rw6 D cy H (pz_WL cy h0 c1 g1 c2 g2 tx gtx pg dd gd kp gkp tp gtp tl gtl lk glk ph gph c3 g3 tx2 gtx2 pg2 h1 gm) (pz_ad (pz_adl h0 c1 g1 c2 g2 tx gtx pg dd gd kp gkp tp gtp tl gtl lk glk ph gph c3 g3 tx2 gtx2 pg2 h1 gm) adS) 137 := ⟨.inr (5, [.int 0, .int 0, .int 0, .int 0, .int 0, .int 0, .int 0, .int (-1)]), rfl, fun h => by
  rw [pz_o5z (a := 137) rfl (by decide)]
  exact h⟩
theorem pz_ro138 : pz_rw6 D cy H (pz_WL cy h0 c1 g1 c2 g2 tx gtx pg dd gd kp gkp tp gtp tl gtl lk glk ph gph c3 g3 tx2 gtx2 pg2 h1 gm) (pz_ad (pz_adl h0 c1 g1 c2 g2 tx gtx pg dd gd kp gkp tp gtp tl gtl lk glk ph gph c3 g3 tx2 gtx2 pg2 h1 gm) adS) 138 := ⟨.inr (5, [.int 0, .int 0, .int 0, .int 0, .int 0, .int 0, .int 0, .int (-1)]), rfl, fun h => by
  rw [pz_o5z (a := 138) rfl (by decide)]
  exact h⟩
theorem pz_ro139 : pz_rw6 D cy H (pz_WL cy h0 c1 g1 c2 g2 tx gtx pg dd gd kp gkp tp gtp tl gtl lk glk ph gph c3 g3 tx2 gtx2 pg2 h1 gm) (pz_ad (pz_adl h0 c1 g1 c2 g2 tx gtx pg dd gd kp gkp tp gtp tl gtl lk glk ph gph c3 g3 tx2 gtx2 pg2 h1 gm) adS) 139 := ⟨.inr (5, [.int 0, .int 0, .int 0, .int 0, .int 0, .int 0, .int 0, .int (-1)]), rfl, fun h => by
  rw [pz_o5z (a := 139) rfl (by decide)]
  exact h⟩
theorem pz_ro140 : pz_rw6 D cy H (pz_WL cy h0 c1 g1 c2 g2 tx gtx pg dd gd kp gkp tp gtp tl gtl lk glk ph gph c3 g3 tx2 gtx2 pg2 h1 gm) (pz_ad (pz_adl h0 c1 g1 c2 g2 tx gtx pg dd gd kp gkp tp gtp tl gtl lk glk ph gph c3 g3 tx2 gtx2 pg2 h1 gm) adS) 140 := ⟨.inr (5, [.int 0, .int 0, .int 0, .int 0, .int 0, .int 0, .int 0, .int (-1)]), rfl, fun h => by
  rw [pz_o5z (a := 140) rfl (by decide)]
  exact h⟩
theorem pz_ro141 : pz_rw6 D cy H (pz_WL cy h0 c1 g1 c2 g2 tx gtx pg dd gd kp gkp tp gtp tl gtl lk glk ph gph c3 g3 tx2 gtx2 pg2 h1 gm) (pz_ad (pz_adl h0 c1 g1 c2 g2 tx gtx pg dd gd kp gkp tp gtp tl gtl lk glk ph gph c3 g3 tx2 gtx2 pg2 h1 gm) adS) 141 := ⟨.inr (5, [.int 0, .int 0, .int 0, .int 0, .int 0, .int 0, .int 0, .int (-1)]), rfl, fun h => by
  rw [pz_o5z (a := 141) rfl (by decide)]
  exact h⟩
theorem pz_ro142 : pz_rw6 D cy H (pz_WL cy h0 c1 g1 c2 g2 tx gtx pg dd gd kp gkp tp gtp tl gtl lk glk ph gph c3 g3 tx2 gtx2 pg2 h1 gm) (pz_ad (pz_adl h0 c1 g1 c2 g2 tx gtx pg dd gd kp gkp tp gtp tl gtl lk glk ph gph c3 g3 tx2 gtx2 pg2 h1 gm) adS) 142 := ⟨.inr (5, [.int 0, .int 0, .int 0, .int 0, .int 0, .int 0, .int 0, .int (-1)]), rfl, fun h => by
  rw [pz_o5z (a := 142) rfl (by decide)]
  exact h⟩
theorem pz_ro143 : pz_rw6 D cy H (pz_WL cy h0 c1 g1 c2 g2 tx gtx pg dd gd kp gkp tp gtp tl gtl lk glk ph gph c3 g3 tx2 gtx2 pg2 h1 gm) (pz_ad (pz_adl h0 c1 g1 c2 g2 tx gtx pg dd gd kp gkp tp gtp tl gtl lk glk ph gph c3 g3 tx2 gtx2 pg2 h1 gm) adS) 143 := ⟨.inr (5, [.int 0, .int 0, .int 0, .int 0, .int 0, .int 0, .int 0, .int (-1)]), rfl, fun h => by
  rw [pz_o5z (a := 143) rfl (by decide)]
  exact h⟩
theorem pz_ro144 : pz_rw6 D cy H (pz_WL cy h0 c1 g1 c2 g2 tx gtx pg dd gd kp gkp tp gtp tl gtl lk glk ph gph c3 g3 tx2 gtx2 pg2 h1 gm) (pz_ad (pz_adl h0 c1 g1 c2 g2 tx gtx pg dd gd kp gkp tp gtp tl gtl lk glk ph gph c3 g3 tx2 gtx2 pg2 h1 gm) adS) 144 := ⟨.inr (5, [.int 0, .int 0, .int 0, .int 0, .int 0, .int 0, .int 0, .int (-1)]), rfl, fun h => by
  rw [pz_o5z (a := 144) rfl (by decide)]
  exact h⟩
theorem pz_ro145 : pz_rw6 D cy H (pz_WL cy h0 c1 g1 c2 g2 tx gtx pg dd gd kp gkp tp gtp tl gtl lk glk ph gph c3 g3 tx2 gtx2 pg2 h1 gm) (pz_ad (pz_adl h0 c1 g1 c2 g2 tx gtx pg dd gd kp gkp tp gtp tl gtl lk glk ph gph c3 g3 tx2 gtx2 pg2 h1 gm) adS) 145 := ⟨.inr (5, [.int 0, .int 0, .int 0, .int 0, .int 0, .int 0, .int 0, .int (-1)]), rfl, fun h => by
  rw [pz_o5z (a := 145) rfl (by decide)]
  exact h⟩
theorem pz_ro146 : pz_rw6 D cy H (pz_WL cy h0 c1 g1 c2 g2 tx gtx pg dd gd kp gkp tp gtp tl gtl lk glk ph gph c3 g3 tx2 gtx2 pg2 h1 gm) (pz_ad (pz_adl h0 c1 g1 c2 g2 tx gtx pg dd gd kp gkp tp gtp tl gtl lk glk ph gph c3 g3 tx2 gtx2 pg2 h1 gm) adS) 146 := ⟨.inr (5, [.int 0, .int 0, .int 0, .int 0, .int 0, .int 0, .int 0, .int (-1)]), rfl, fun h => by
  rw [pz_o5z (a := 146) rfl (by decide)]
  exact h⟩
theorem pz_ro147 : pz_rw6 D cy H (pz_WL cy h0 c1 g1 c2 g2 tx gtx pg dd gd kp gkp tp gtp tl gtl lk glk ph gph c3 g3 tx2 gtx2 pg2 h1 gm) (pz_ad (pz_adl h0 c1 g1 c2 g2 tx gtx pg dd gd kp gkp tp gtp tl gtl lk glk ph gph c3 g3 tx2 gtx2 pg2 h1 gm) adS) 147 := ⟨.inr (5, [.int 0, .int 0, .int 0, .int 0, .int 0, .int 0, .int 0, .int (-1)]), rfl, fun h => by
  rw [pz_o5z (a := 147) rfl (by decide)]
  exact h⟩
theorem pz_ro148 : pz_rw6 D cy H (pz_WL cy h0 c1 g1 c2 g2 tx gtx pg dd gd kp gkp tp gtp tl gtl lk glk ph gph c3 g3 tx2 gtx2 pg2 h1 gm) (pz_ad (pz_adl h0 c1 g1 c2 g2 tx gtx pg dd gd kp gkp tp gtp tl gtl lk glk ph gph c3 g3 tx2 gtx2 pg2 h1 gm) adS) 148 := ⟨.inr (5, [.int 0, .int 0, .int 0, .int 0, .int 0, .int 0, .int 0, .int (-1)]), rfl, fun h => by
  rw [pz_o5z (a := 148) rfl (by decide)]
  exact h⟩
theorem pz_ro149 : pz_rw6 D cy H (pz_WL cy h0 c1 g1 c2 g2 tx gtx pg dd gd kp gkp tp gtp tl gtl lk glk ph gph c3 g3 tx2 gtx2 pg2 h1 gm) (pz_ad (pz_adl h0 c1 g1 c2 g2 tx gtx pg dd gd kp gkp tp gtp tl gtl lk glk ph gph c3 g3 tx2 gtx2 pg2 h1 gm) adS) 149 := ⟨.inr (5, [.int 0, .int 0, .int 0, .int 0, .int 0, .int 0, .int 0, .int (-1)]), rfl, fun h => by
  rw [pz_o5z (a := 149) rfl (by decide)]
  exact h⟩
theorem pz_ro150 : pz_rw6 D cy H (pz_WL cy h0 c1 g1 c2 g2 tx gtx pg dd gd kp gkp tp gtp tl gtl lk glk ph gph c3 g3 tx2 gtx2 pg2 h1 gm) (pz_ad (pz_adl h0 c1 g1 c2 g2 tx gtx pg dd gd kp gkp tp gtp tl gtl lk glk ph gph c3 g3 tx2 gtx2 pg2 h1 gm) adS) 150 := ⟨.inr (5, [.int 0, .int 0, .int 0, .int 0, .int 0, .int 0, .int 0, .int (-1)]), rfl, fun h => by
  rw [pz_o5z (a := 150) rfl (by decide)]
  exact h⟩
theorem pz_ro151 : pz_rw6 D cy H (pz_WL cy h0 c1 g1 c2 g2 tx gtx pg dd gd kp gkp tp gtp tl gtl lk glk ph gph c3 g3 tx2 gtx2 pg2 h1 gm) (pz_ad (pz_adl h0 c1 g1 c2 g2 tx gtx pg dd gd kp gkp tp gtp tl gtl lk glk ph gph c3 g3 tx2 gtx2 pg2 h1 gm) adS) 151 := ⟨.inr (5, [.int 0, .int 0, .int 0, .int 0, .int 0, .int 0, .int 0, .int (-1)]), rfl, fun h => by
  rw [pz_o5z (a := 151) rfl (by decide)]
  exact h⟩
theorem pz_ro152 : pz_rw6 D cy H (pz_WL cy h0 c1 g1 c2 g2 tx gtx pg dd gd kp gkp tp gtp tl gtl lk glk ph gph c3 g3 tx2 gtx2 pg2 h1 gm) (pz_ad (pz_adl h0 c1 g1 c2 g2 tx gtx pg dd gd kp gkp tp gtp tl gtl lk glk ph gph c3 g3 tx2 gtx2 pg2 h1 gm) adS) 152 := ⟨.inr (5, [.int 0, .int 0, .int 0, .int 0, .int 0, .int 0, .int 0, .int (-1)]), rfl, fun h => by
  rw [pz_o5z (a := 152) rfl (by decide)]
  exact h⟩
theorem pz_ro153 : pz_rw6 D cy H (pz_WL cy h0 c1 g1 c2 g2 tx gtx pg dd gd kp gkp tp gtp tl gtl lk glk ph gph c3 g3 tx2 gtx2 pg2 h1 gm) (pz_ad (pz_adl h0 c1 g1 c2 g2 tx gtx pg dd gd kp gkp tp gtp tl gtl lk glk ph gph c3 g3 tx2 gtx2 pg2 h1 gm) adS) 153 := ⟨.inr (5, [.int 0, .int 0, .int 0, .int 0, .int 0, .int 0, .int 0, .int (-1)]), rfl, fun h => by
  rw [pz_o5z (a := 153) rfl (by decide)]
  exact h⟩
theorem pz_ro154 : pz_rw6 D cy H (pz_WL cy h0 c1 g1 c2 g2 tx gtx pg dd gd kp gkp tp gtp tl gtl lk glk ph gph c3 g3 tx2 gtx2 pg2 h1 gm) (pz_ad (pz_adl h0 c1 g1 c2 g2 tx gtx pg dd gd kp gkp tp gtp tl gtl lk glk ph gph c3 g3 tx2 gtx2 pg2 h1 gm) adS) 154 := ⟨.inr (5, [.int 0, .int 0, .int 0, .int 0, .int 0, .int 0, .int 0, .int (-1)]), rfl, fun h => by
  rw [pz_o5z (a := 154) rfl (by decide)]
  exact h⟩
theorem pz_ro155 : pz_rw6 D cy H (pz_WL cy h0 c1 g1 c2 g2 tx gtx pg dd gd kp gkp tp gtp tl gtl lk glk ph gph c3 g3 tx2 gtx2 pg2 h1 gm) (pz_ad (pz_adl h0 c1 g1 c2 g2 tx gtx pg dd gd kp gkp tp gtp tl gtl lk glk ph gph c3 g3 tx2 gtx2 pg2 h1 gm) adS) 155 := ⟨.inr (5, [.int 0, .int 0, .int 0, .int 0, .int 0, .int 0, .int 0, .int (-1)]), rfl, fun h => by
  rw [pz_o5z (a := 155) rfl (by decide)]
  exact h⟩
end PZ16
end
section
section PZ16
variable {D : va_G} {cy : Nat → ClassId} {H : Heap} {adS : Nat → Nat} {h0 : Nat} {c1 : Nat} {g1 : Nat → Nat} {c2 : Nat} {g2 : Nat → Nat} {tx : Nat} {gtx : (Nat × (Nat → Nat)) × (Nat × (Nat → Nat)) × (Nat × (Nat → Nat)) × Nat × (Nat → Nat)} {pg : Nat} {dd : Nat} {gd : Nat → Nat} {kp : Nat} {gkp : (Nat → Nat) × (Nat → Nat → Nat)} {tp : Nat} {gtp : Nat → Nat} {tl : Nat} {gtl : (Nat × (Nat → Nat)) × Nat × (Nat → Nat)} {lk : Nat} {glk : Nat → Nat} {ph : Nat} {gph : Nat → Nat} {c3 : Nat} {g3 : Nat → Nat} {tx2 : Nat} {gtx2 : (Nat × (Nat → Nat)) × (Nat × (Nat → Nat)) × (Nat × (Nat → Nat)) × Nat × (Nat → Nat)} {pg2 : Nat} {h1 : Nat} {gm : Nat → Nat}
theorem pz_ro156 : pz_rw6 D cy H (pz_WL cy h0 c1 g1 c2 g2 tx gtx pg dd gd kp gkp tp gtp tl gtl lk glk ph gph c3 g3 tx2 gtx2 pg2 h1 gm) (pz_ad (pz_adl h0 c1 g1 c2 g2 tx gtx pg dd gd kp gkp tp gtp tl gtl lk glk ph gph c3 g3 tx2 gtx2 pg2 h1 gm) adS) 156 := ⟨.inr (5, [.int 0, .int 0, .int 0, .int 0, .int 0, .int 0, .int 0, .int (-1)]), rfl, fun h => by
  rw [pz_o5z (a := 156) rfl (by decide)]
  exact h⟩
theorem pz_ro157 : pz_rw6 D cy H (pz_WL cy h0 c1 g1 c2 g2 tx gtx pg dd gd kp gkp tp gtp tl gtl lk glk ph gph c3 g3 tx2 gtx2 pg2 h1 gm) (pz_ad (pz_adl h0 c1 g1 c2 g2 tx gtx pg dd gd kp gkp tp gtp tl gtl lk glk ph gph c3 g3 tx2 gtx2 pg2 h1 gm) adS) 157 := ⟨.inr (5, [.int 0, .int 0, .int 0, .int 0, .int 0, .int 0, .int 0, .int (-1)]), rfl, fun h => by
  rw [pz_o5z (a := 157) rfl (by decide)]
  exact h⟩
theorem pz_ro158 : pz_rw6 D cy H (pz_WL cy h0 c1 g1 c2 g2 tx gtx pg dd gd kp gkp tp gtp tl gtl lk glk ph gph c3 g3 tx2 gtx2 pg2 h1 gm) (pz_ad (pz_adl h0 c1 g1 c2 g2 tx gtx pg dd gd kp gkp tp gtp tl gtl lk glk ph gph c3 g3 tx2 gtx2 pg2 h1 gm) adS) 158 := ⟨.inr (5, [.int 0, .int 0, .int 0, .int 0, .int 0, .int 0, .int 0, .int (-1)]), rfl, fun h => by
  rw [pz_o5z (a := 158) rfl (by decide)]
  exact h⟩
theorem pz_ro159 : pz_rw6 D cy H (pz_WL cy h0 c1 g1 c2 g2 tx gtx pg dd gd kp gkp tp gtp tl gtl lk glk ph gph c3 g3 tx2 gtx2 pg2 h1 gm) (pz_ad (pz_adl h0 c1 g1 c2 g2 tx gtx pg dd gd kp gkp tp gtp tl gtl lk glk ph gph c3 g3 tx2 gtx2 pg2 h1 gm) adS) 159 := ⟨.inr (5, [.int 0, .int 0, .int 0, .int 0, .int 0, .int 0, .int 0, .int (-1)]), rfl, fun h => by
  rw [pz_o5z (a := 159) rfl (by decide)]
  exact h⟩
theorem pz_ro160 : pz_rw6 D cy H (pz_WL cy h0 c1 g1 c2 g2 tx gtx pg dd gd kp gkp tp gtp tl gtl lk glk ph gph c3 g3 tx2 gtx2 pg2 h1 gm) (pz_ad (pz_adl h0 c1 g1 c2 g2 tx gtx pg dd gd kp gkp tp gtp tl gtl lk glk ph gph c3 g3 tx2 gtx2 pg2 h1 gm) adS) 160 := ⟨.inr (5, [.int 0, .int 0, .int 0, .int 0, .int 0, .int 0, .int 0, .int (-1)]), rfl, fun h => by
  rw [pz_o5z (a := 160) rfl (by decide)]
  exact h⟩
theorem pz_ro161 : pz_rw6 D cy H (pz_WL cy h0 c1 g1 c2 g2 tx gtx pg dd gd kp gkp tp gtp tl gtl lk glk ph gph c3 g3 tx2 gtx2 pg2 h1 gm) (pz_ad (pz_adl h0 c1 g1 c2 g2 tx gtx pg dd gd kp gkp tp gtp tl gtl lk glk ph gph c3 g3 tx2 gtx2 pg2 h1 gm) adS) 161 := ⟨.inr (5, [.int 0, .int 0, .int 0, .int 0, .int 0, .int 0, .int 0, .int (-1)]), rfl, fun h => by
  rw [pz_o5z (a := 161) rfl (by decide)]
  exact h⟩
theorem pz_ro162 : pz_rw6 D cy H (pz_WL cy h0 c1 g1 c2 g2 tx gtx pg dd gd kp gkp tp gtp tl gtl lk glk ph gph c3 g3 tx2 gtx2 pg2 h1 gm) (pz_ad (pz_adl h0 c1 g1 c2 g2 tx gtx pg dd gd kp gkp tp gtp tl gtl lk glk ph gph c3 g3 tx2 gtx2 pg2 h1 gm) adS) 162 := ⟨.inr (5, [.int 0, .int 0, .int 0, .int 0, .int 0, .int 0, .int 0, .int (-1)]), rfl, fun h => by
  rw [pz_o5z (a := 162) rfl (by decide)]
  exact h⟩
theorem pz_ro163 : pz_rw6 D cy H (pz_WL cy h0 c1 g1 c2 g2 tx gtx pg dd gd kp gkp tp gtp tl gtl lk glk ph gph c3 g3 tx2 gtx2 pg2 h1 gm) (pz_ad (pz_adl h0 c1 g1 c2 g2 tx gtx pg dd gd kp gkp tp gtp tl gtl lk glk ph gph c3 g3 tx2 gtx2 pg2 h1 gm) adS) 163 := ⟨.inr (5, [.int 0, .int 0, .int 0, .int 0, .int 0, .int 0, .int 0, .int (-1)]), rfl, fun h => by
  rw [pz_o5z (a := 163) rfl (by decide)]
  exact h⟩
theorem pz_ro164 : pz_rw6 D cy H (pz_WL cy h0 c1 g1 c2 g2 tx gtx pg dd gd kp gkp tp gtp tl gtl lk glk ph gph c3 g3 tx2 gtx2 pg2 h1 gm) (pz_ad (pz_adl h0 c1 g1 c2 g2 tx gtx pg dd gd kp gkp tp gtp tl gtl lk glk ph gph c3 g3 tx2 gtx2 pg2 h1 gm) adS) 164 := ⟨.inr (5, [.int 0, .int 0, .int 0, .int 0, .int 0, .int 0, .int 0, .int (-1)]), rfl, fun h => by
  rw [pz_o5z (a := 164) rfl (by decide)]
  exact h⟩
theorem pz_ro165 : pz_rw6 D cy H (pz_WL cy h0 c1 g1 c2 g2 tx gtx pg dd gd kp gkp tp gtp tl gtl lk glk ph gph c3 g3 tx2 gtx2 pg2 h1 gm) (pz_ad (pz_adl h0 c1 g1 c2 g2 tx gtx pg dd gd kp gkp tp gtp tl gtl lk glk ph gph c3 g3 tx2 gtx2 pg2 h1 gm) adS) 165 := ⟨.inr (5, [.int 0, .int 0, .int 0, .int 0, .int 0, .int 0, .int 0, .int (-1)]), rfl, fun h => by
  rw [pz_o5z (a := 165) rfl (by decide)]
  exact h⟩
theorem pz_ro166 : pz_rw6 D cy H (pz_WL cy h0 c1 g1 c2 g2 tx gtx pg dd gd kp gkp tp gtp tl gtl lk glk ph gph c3 g3 tx2 gtx2 pg2 h1 gm) (pz_ad (pz_adl h0 c1 g1 c2 g2 tx gtx pg dd gd kp gkp tp gtp tl gtl lk glk ph gph c3 g3 tx2 gtx2 pg2 h1 gm) adS) 166 := ⟨.inr (5, [.int 0, .int 0, .int 0, .int 0, .int 0, .int 0, .int 0, .int (-1)]), rfl, fun h => by
  rw [pz_o5z (a := 166) rfl (by decide)]
  exact h⟩
theorem pz_ro167 : pz_rw6 D cy H (pz_WL cy h0 c1 g1 c2 g2 tx gtx pg dd gd kp gkp tp gtp tl gtl lk glk ph gph c3 g3 tx2 gtx2 pg2 h1 gm) (pz_ad (pz_adl h0 c1 g1 c2 g2 tx gtx pg dd gd kp gkp tp gtp tl gtl lk glk ph gph c3 g3 tx2 gtx2 pg2 h1 gm) adS) 167 := ⟨.inr (5, [.int 0, .int 0, .int 0, .int 0, .int 0, .int 0, .int 0, .int (-1)]), rfl, fun h => by
  rw [pz_o5z (a := 167) rfl (by decide)]
  exact h⟩
theorem pz_ro168 : pz_rw6 D cy H (pz_WL cy h0 c1 g1 c2 g2 tx gtx pg dd gd kp gkp tp gtp tl gtl lk glk ph gph c3 g3 tx2 gtx2 pg2 h1 gm) (pz_ad (pz_adl h0 c1 g1 c2 g2 tx gtx pg dd gd kp gkp tp gtp tl gtl lk glk ph gph c3 g3 tx2 gtx2 pg2 h1 gm) adS) 168 := ⟨.inr (5, [.int 0, .int 0, .int 0, .int 0, .int 0, .int 0, .int 0, .int (-1)]), rfl, fun h => by
  rw [pz_o5z (a := 168) rfl (by decide)]
  exact h⟩
theorem pz_ro169 : pz_rw6 D cy H (pz_WL cy h0 c1 g1 c2 g2 tx gtx pg dd gd kp gkp tp gtp tl gtl lk glk ph gph c3 g3 tx2 gtx2 pg2 h1 gm) (pz_ad (pz_adl h0 c1 g1 c2 g2 tx gtx pg dd gd kp gkp tp gtp tl gtl lk glk ph gph c3 g3 tx2 gtx2 pg2 h1 gm) adS) 169 := ⟨.inr (5, [.int 0, .int 0, .int 0, .int 0, .int 0, .int 0, .int 0, .int (-1)]), rfl, fun h => by
  rw [pz_o5z (a := 169) rfl (by decide)]
  exact h⟩
theorem pz_ro170 : pz_rw6 D cy H (pz_WL cy h0 c1 g1 c2 g2 tx gtx pg dd gd kp gkp tp gtp tl gtl lk glk ph gph c3 g3 tx2 gtx2 pg2 h1 gm) (pz_ad (pz_adl h0 c1 g1 c2 g2 tx gtx pg dd gd kp gkp tp gtp tl gtl lk glk ph gph c3 g3 tx2 gtx2 pg2 h1 gm) adS) 170 := ⟨.inr (5, [.int 0, .int 0, .int 0, .int 0, .int 0, .int 0, .int 0, .int (-1)]), rfl, fun h => by
  rw [pz_o5z (a := 170) rfl (by decide)]
  exact h⟩
theorem pz_ro171 : pz_rw6 D cy H (pz_WL cy h0 c1 g1 c2 g2 tx gtx pg dd gd kp gkp tp gtp tl gtl lk glk ph gph c3 g3 tx2 gtx2 pg2 h1 gm) (pz_ad (pz_adl h0 c1 g1 c2 g2 tx gtx pg dd gd kp gkp tp gtp tl gtl lk glk ph gph c3 g3 tx2 gtx2 pg2 h1 gm) adS) 171 := ⟨.inr (5, [.int 0, .int 0, .int 0, .int 0, .int 0, .int 0, .int 0, .int (-1)]), rfl, fun h => by
  rw [pz_o5z (a := 171) rfl (by decide)]
  exact h⟩
theorem pz_ro172 : pz_rw6 D cy H (pz_WL cy h0 c1 g1 c2 g2 tx gtx pg dd gd kp gkp tp gtp tl gtl lk glk ph gph c3 g3 tx2 gtx2 pg2 h1 gm) (pz_ad (pz_adl h0 c1 g1 c2 g2 tx gtx pg dd gd kp gkp tp gtp tl gtl lk glk ph gph c3 g3 tx2 gtx2 pg2 h1 gm) adS) 172 := ⟨.inr (5, [.int 0, .int 0, .int 0, .int 0, .int 0, .int 0, .int 0, .int (-1)]), rfl, fun h => by
  rw [pz_o5z (a := 172) rfl (by decide)]
  exact h⟩
theorem pz_ro173 : pz_rw6 D cy H (pz_WL cy h0 c1 g1 c2 g2 tx gtx pg dd gd kp gkp tp gtp tl gtl lk glk ph gph c3 g3 tx2 gtx2 pg2 h1 gm) (pz_ad (pz_adl h0 c1 g1 c2 g2 tx gtx pg dd gd kp gkp tp gtp tl gtl lk glk ph gph c3 g3 tx2 gtx2 pg2 h1 gm) adS) 173 := ⟨.inr (5, [.int 0, .int 0, .int 0, .int 0, .int 0, .int 0, .int 0, .int (-1)]), rfl, fun h => by
  rw [pz_o5z (a := 173) rfl (by decide)]
  exact h⟩
theorem pz_ro174 : pz_rw6 D cy H (pz_WL cy h0 c1 g1 c2 g2 tx gtx pg dd gd kp gkp tp gtp tl gtl lk glk ph gph c3 g3 tx2 gtx2 pg2 h1 gm) (pz_ad (pz_adl h0 c1 g1 c2 g2 tx gtx pg dd gd kp gkp tp gtp tl gtl lk glk ph gph c3 g3 tx2 gtx2 pg2 h1 gm) adS) 174 := ⟨.inr (5, [.int 0, .int 0, .int 0, .int 0, .int 0, .int 0, .int 0, .int (-1)]), rfl, fun h => by
  rw [pz_o5z (a := 174) rfl (by decide)]
  exact h⟩
theorem pz_ro175 : pz_rw6 D cy H (pz_WL cy h0 c1 g1 c2 g2 tx gtx pg dd gd kp gkp tp gtp tl gtl lk glk ph gph c3 g3 tx2 gtx2 pg2 h1 gm) (pz_ad (pz_adl h0 c1 g1 c2 g2 tx gtx pg dd gd kp gkp tp gtp tl gtl lk glk ph gph c3 g3 tx2 gtx2 pg2 h1 gm) adS) 175 := ⟨.inr (5, [.int 0, .int 0, .int 0, .int 0, .int 0, .int 0, .int 0, .int (-1)]), rfl, fun h => by
  rw [pz_o5z (a := 175) rfl (by decide)]
  exact h⟩
theorem pz_ro176 : pz_rw6 D cy H (pz_WL cy h0 c1 g1 c2 g2 tx gtx pg dd gd kp gkp tp gtp tl gtl lk glk ph gph c3 g3 tx2 gtx2 pg2 h1 gm) (pz_ad (pz_adl h0 c1 g1 c2 g2 tx gtx pg dd gd kp gkp tp gtp tl gtl lk glk ph gph c3 g3 tx2 gtx2 pg2 h1 gm) adS) 176 := ⟨.inr (5, [.int 0, .int 0, .int 0, .int 0, .int 0, .int 0, .int 0, .int (-1)]), rfl, fun h => by
  rw [pz_o5z (a := 176) rfl (by decide)]
  exact h⟩
theorem pz_ro177 : pz_rw6 D cy H (pz_WL cy h0 c1 g1 c2 g2 tx gtx pg dd gd kp gkp tp gtp tl gtl lk glk ph gph c3 g3 tx2 gtx2 pg2 h1 gm) (pz_ad (pz_adl h0 c1 g1 c2 g2 tx gtx pg dd gd kp gkp tp gtp tl gtl lk glk ph gph c3 g3 tx2 gtx2 pg2 h1 gm) adS) 177 := ⟨.inr (5, [.int 0, .int 0, .int 0, .int 0, .int 0, .int 0, .int 0, .int (-1)]), rfl, fun h => by
  rw [pz_o5z (a := 177) rfl (by decide)]
  exact h⟩
theorem pz_ro178 : pz_rw6 D cy H (pz_WL cy h0 c1 g1 c2 g2 tx gtx pg dd gd kp gkp tp gtp tl gtl lk glk ph gph c3 g3 tx2 gtx2 pg2 h1 gm) (pz_ad (pz_adl h0 c1 g1 c2 g2 tx gtx pg dd gd kp gkp tp gtp tl gtl lk glk ph gph c3 g3 tx2 gtx2 pg2 h1 gm) adS) 178 := ⟨.inr (5, [.int 0, .int 0, .int 0, .int 0, .int 0, .int 0, .int 0, .int (-1)]), rfl, fun h => by
  rw [pz_o5z (a := 178) rfl (by decide)]
  exact h⟩
theorem pz_ro179 : pz_rw6 D cy H (pz_WL cy h0 c1 g1 c2 g2 tx gtx pg dd gd kp gkp tp gtp tl gtl lk glk ph gph c3 g3 tx2 gtx2 pg2 h1 gm) (pz_ad (pz_adl h0 c1 g1 c2 g2 tx gtx pg dd gd kp gkp tp gtp tl gtl lk glk ph gph c3 g3 tx2 gtx2 pg2 h1 gm) adS) 179 := ⟨.inr (5, [.int 0, .int 0, .int 0, .int 0, .int 0, .int 0, .int 0, .int (-1)]), rfl, fun h => by
  rw [pz_o5z (a := 179) rfl (by decide)]
  exact h⟩
theorem pz_ro180 : pz_rw6 D cy H (pz_WL cy h0 c1 g1 c2 g2 tx gtx pg dd gd kp gkp tp gtp tl gtl lk glk ph gph c3 g3 tx2 gtx2 pg2 h1 gm) (pz_ad (pz_adl h0 c1 g1 c2 g2 tx gtx pg dd gd kp gkp tp gtp tl gtl lk glk ph gph c3 g3 tx2 gtx2 pg2 h1 gm) adS) 180 := ⟨.inr (5, [.int 0, .int 0, .int 0, .int 0, .int 0, .int 0, .int 0, .int (-1)]), rfl, fun h => by
  rw [pz_o5z (a := 180) rfl (by decide)]
  exact h⟩
theorem pz_ro181 : pz_rw6 D cy H (pz_WL cy h0 c1 g1 c2 g2 tx gtx pg dd gd kp gkp tp gtp tl gtl lk glk ph gph c3 g3 tx2 gtx2 pg2 h1 gm) (pz_ad (pz_adl h0 c1 g1 c2 g2 tx gtx pg dd gd kp gkp tp gtp tl gtl lk glk ph gph c3 g3 tx2 gtx2 pg2 h1 gm) adS) 181 := ⟨.inr (5, [.int 0, .int 0, .int 0, .int 0, .int 0, .int 0, .int 0, .int (-1)]), rfl, fun h => by
  rw [pz_o5z (a := 181) rfl (by decide)]
  exact h⟩
theorem pz_ro182 : pz_rw6 D cy H (pz_WL cy h0 c1 g1 c2 g2 tx gtx pg dd gd kp gkp tp gtp tl gtl lk glk ph gph c3 g3 tx2 gtx2 pg2 h1 gm) (pz_ad (pz_adl h0 c1 g1 c2 g2 tx gtx pg dd gd kp gkp tp gtp tl gtl lk glk ph gph c3 g3 tx2 gtx2 pg2 h1 gm) adS) 182 := ⟨.inr (5, [.int 0, .int 0, .int 0, .int 0, .int 0, .int 0, .int 0, .int (-1)]), rfl, fun h => by
  rw [pz_o5z (a := 182) rfl (by decide)]
  exact h⟩
theorem pz_ro183 : pz_rw6 D cy H (pz_WL cy h0 c1 g1 c2 g2 tx gtx pg dd gd kp gkp tp gtp tl gtl lk glk ph gph c3 g3 tx2 gtx2 pg2 h1 gm) (pz_ad (pz_adl h0 c1 g1 c2 g2 tx gtx pg dd gd kp gkp tp gtp tl gtl lk glk ph gph c3 g3 tx2 gtx2 pg2 h1 gm) adS) 183 := ⟨.inr (5, [.int 0, .int 0, .int 0, .int 0, .int 0, .int 0, .int 0, .int (-1)]), rfl, fun h => by
  rw [pz_o5z (a := 183) rfl (by decide)]
  exact h⟩
theorem pz_ro184 : pz_rw6 D cy H (pz_WL cy h0 c1 g1 c2 g2 tx gtx pg dd gd kp gkp tp gtp tl gtl lk glk ph gph c3 g3 tx2 gtx2 pg2 h1 gm) (pz_ad (pz_adl h0 c1 g1 c2 g2 tx gtx pg dd gd kp gkp tp gtp tl gtl lk glk ph gph c3 g3 tx2 gtx2 pg2 h1 gm) adS) 184 := ⟨.inr (5, [.int 0, .int 0, .int 0, .int 0, .int 0, .int 0, .int 0, .int (-1)]), rfl, fun h => by
  rw [pz_o5z (a := 184) rfl (by decide)]
  exact h⟩
theorem pz_ro185 : pz_rw6 D cy H (pz_WL cy h0 c1 g1 c2 g2 tx gtx pg dd gd kp gkp tp gtp tl gtl lk glk ph gph c3 g3 tx2 gtx2 pg2 h1 gm) (pz_ad (pz_adl h0 c1 g1 c2 g2 tx gtx pg dd gd kp gkp tp gtp tl gtl lk glk ph gph c3 g3 tx2 gtx2 pg2 h1 gm) adS) 185 := ⟨.inr (5, [.int 0, .int 0, .int 0, .int 0, .int 0, .int 0, .int 0, .int (-1)]), rfl, fun h => by
  rw [pz_o5z (a := 185) rfl (by decide)]
  exact h⟩
theorem pz_ro186 : pz_rw6 D cy H (pz_WL cy h0 c1 g1 c2 g2 tx gtx pg dd gd kp gkp tp gtp tl gtl lk glk ph gph c3 g3 tx2 gtx2 pg2 h1 gm) (pz_ad (pz_adl h0 c1 g1 c2 g2 tx gtx pg dd gd kp gkp tp gtp tl gtl lk glk ph gph c3 g3 tx2 gtx2 pg2 h1 gm) adS) 186 := ⟨.inr (5, [.int 0, .int 0, .int 0, .int 0, .int 0, .int 0, .int 0, .int (-1)]), rfl, fun h => by
  rw [pz_o5z (a := 186) rfl (by decide)]
  exact h⟩
theorem pz_ro187 : pz_rw6 D cy H (pz_WL cy h0 c1 g1 c2 g2 tx gtx pg dd gd kp gkp tp gtp tl gtl lk glk ph gph c3 g3 tx2 gtx2 pg2 h1 gm) (pz_ad (pz_adl h0 c1 g1 c2 g2 tx gtx pg dd gd kp gkp tp gtp tl gtl lk glk ph gph c3 g3 tx2 gtx2 pg2 h1 gm) adS) 187 := ⟨.inr (5, [.int 0, .int 0, .int 0, .int 0, .int 0, .int 0, .int 0, .int (-1)]), rfl, fun h => by
  rw [pz_o5z (a := 187) rfl (by decide)]
  exact h⟩
theorem pz_ro188 : pz_rw6 D cy H (pz_WL cy h0 c1 g1 c2 g2 tx gtx pg dd gd kp gkp tp gtp tl gtl lk glk ph gph c3 g3 tx2 gtx2 pg2 h1 gm) (pz_ad (pz_adl h0 c1 g1 c2 g2 tx gtx pg dd gd kp gkp tp gtp tl gtl lk glk ph gph c3 g3 tx2 gtx2 pg2 h1 gm) adS) 188 := ⟨.inr (5, [.int 0, .int 0, .int 0, .int 0, .int 0, .int 0, .int 0, .int (-1)]), rfl, fun h => by
  rw [pz_o5z (a := 188) rfl (by decide)]
  exact h⟩
theorem pz_ro189 : pz_rw6 D cy H (pz_WL cy h0 c1 g1 c2 g2 tx gtx pg dd gd kp gkp tp gtp tl gtl lk glk ph gph c3 g3 tx2 gtx2 pg2 h1 gm) (pz_ad (pz_adl h0 c1 g1 c2 g2 tx gtx pg dd gd kp gkp tp gtp tl gtl lk glk ph gph c3 g3 tx2 gtx2 pg2 h1 gm) adS) 189 := ⟨.inr (5, [.int 0, .int 0, .int 0, .int 0, .int 0, .int 0, .int 0, .int (-1)]), rfl, fun h => by
  rw [pz_o5z (a := 189) rfl (by decide)]
  exact h⟩
theorem pz_ro190 : pz_rw6 D cy H (pz_WL cy h0 c1 g1 c2 g2 tx gtx pg dd gd kp gkp tp gtp tl gtl lk glk ph gph c3 g3 tx2 gtx2 pg2 h1 gm) (pz_ad (pz_adl h0 c1 g1 c2 g2 tx gtx pg dd gd kp gkp tp gtp tl gtl lk glk ph gph c3 g3 tx2 gtx2 pg2 h1 gm) adS) 190 := ⟨.inr (5, [.int 0, .int 0, .int 0, .int 0, .int 0, .int 0, .int 0, .int (-1)]), rfl, fun h => by
  rw [pz_o5z (a := 190) rfl (by decide)]
  exact h⟩
theorem pz_ro191 : pz_rw6 D cy H (pz_WL cy h0 c1 g1 c2 g2 tx gtx pg dd gd kp gkp tp gtp tl gtl lk glk ph gph c3 g3 tx2 gtx2 pg2 h1 gm) (pz_ad (pz_adl h0 c1 g1 c2 g2 tx gtx pg dd gd kp gkp tp gtp tl gtl lk glk ph gph c3 g3 tx2 gtx2 pg2 h1 gm) adS) 191 := ⟨.inr (5, [.int 0, .int 0, .int 0, .int 0, .int 0, .int 0, .int 0, .int (-1)]), rfl, fun h => by
  rw [pz_o5z (a := 191) rfl (by decide)]
  exact h⟩
theorem pz_ro192 : pz_rw6 D cy H (pz_WL cy h0 c1 g1 c2 g2 tx gtx pg dd gd kp gkp tp gtp tl gtl lk glk ph gph c3 g3 tx2 gtx2 pg2 h1 gm) (pz_ad (pz_adl h0 c1 g1 c2 g2 tx gtx pg dd gd kp gkp tp gtp tl gtl lk glk ph gph c3 g3 tx2 gtx2 pg2 h1 gm) adS) 192 := ⟨.inr (5, [.int 0, .int 0, .int 0, .int 0, .int 0, .int 0, .int 0, .int (-1)]), rfl, fun h => by
  rw [pz_o5z (a := 192) rfl (by decide)]
  exact h⟩
theorem pz_ro193 : pz_rw6 D cy H (pz_WL cy h0 c1 g1 c2 g2 tx gtx pg dd gd kp gkp tp gtp tl gtl lk glk ph gph c3 g3 tx2 gtx2 pg2 h1 gm) (pz_ad (pz_adl h0 c1 g1 c2 g2 tx gtx pg dd gd kp gkp tp gtp tl gtl lk glk ph gph c3 g3 tx2 gtx2 pg2 h1 gm) adS) 193 := ⟨.inr (5, [.int 0, .int 0, .int 0, .int 0, .int 0, .int 0, .int 0, .int (-1)]), rfl, fun h => by
  rw [pz_o5z (a := 193) rfl (by decide)]
  exact h⟩
theorem pz_ro194 : pz_rw6 D cy H (pz_WL cy h0 c1 g1 c2 g2 tx gtx pg dd gd kp gkp tp gtp tl gtl lk glk ph gph c3 g3 tx2 gtx2 pg2 h1 gm) (pz_ad (pz_adl h0 c1 g1 c2 g2 tx gtx pg dd gd kp gkp tp gtp tl gtl lk glk ph gph c3 g3 tx2 gtx2 pg2 h1 gm) adS) 194 := ⟨.inr (5, [.int 0, .int 0, .int 0, .int 0, .int 0, .int 0, .int 0, .int (-1)]), rfl, fun h => by
  rw [pz_o5z (a := 194) rfl (by decide)]
  exact h⟩
theorem pz_ro195 : pz_rw6 D cy H (pz_WL cy h0 c1 g1 c2 g2 tx gtx pg dd gd kp gkp tp gtp tl gtl lk glk ph gph c3 g3 tx2 gtx2 pg2 h1 gm) (pz_ad (pz_adl h0 c1 g1 c2 g2 tx gtx pg dd gd kp gkp tp gtp tl gtl lk glk ph gph c3 g3 tx2 gtx2 pg2 h1 gm) adS) 195 := ⟨.inr (5, [.int 0, .int 0, .int 0, .int 0, .int 0, .int 0, .int 0, .int (-1)]), rfl, fun h => by
  rw [pz_o5z (a := 195) rfl (by decide)]
  exact h⟩
theorem pz_ro196 : pz_rw6 D cy H (pz_WL cy h0 c1 g1 c2 g2 tx gtx pg dd gd kp gkp tp gtp tl gtl lk glk ph gph c3 g3 tx2 gtx2 pg2 h1 gm) (pz_ad (pz_adl h0 c1 g1 c2 g2 tx gtx pg dd gd kp gkp tp gtp tl gtl lk glk ph gph c3 g3 tx2 gtx2 pg2 h1 gm) adS) 196 := ⟨.inr (5, [.int 0, .int 0, .int 0, .int 0, .int 0, .int 0, .int 0, .int (-1)]), rfl, fun h => by
  rw [pz_o5z (a := 196) rfl (by decide)]
  exact h⟩
theorem pz_ro197 : pz_rw6 D cy H (pz_WL cy h0 c1 g1 c2 g2 tx gtx pg dd gd kp gkp tp gtp tl gtl lk glk ph gph c3 g3 tx2 gtx2 pg2 h1 gm) (pz_ad (pz_adl h0 c1 g1 c2 g2 tx gtx pg dd gd kp gkp tp gtp tl gtl lk glk ph gph c3 g3 tx2 gtx2 pg2 h1 gm) adS) 197 := ⟨.inr (5, [.int 0, .int 0, .int 0, .int 0, .int 0, .int 0, .int 0, .int (-1)]), rfl, fun h => by
  rw [pz_o5z (a := 197) rfl (by decide)]
  exact h⟩
theorem pz_ro198 : pz_rw6 D cy H (pz_WL cy h0 c1 g1 c2 g2 tx gtx pg dd gd kp gkp tp gtp tl gtl lk glk ph gph c3 g3 tx2 gtx2 pg2 h1 gm) (pz_ad (pz_adl h0 c1 g1 c2 g2 tx gtx pg dd gd kp gkp tp gtp tl gtl lk glk ph gph c3 g3 tx2 gtx2 pg2 h1 gm) adS) 198 := ⟨.inr (5, [.int 0, .int 0, .int 0, .int 0, .int 0, .int 0, .int 0, .int (-1)]), rfl, fun h => by
  rw [pz_o5z (a := 198) rfl (by decide)]
  exact h⟩
theorem pz_ro199 : pz_rw6 D cy H (pz_WL cy h0 c1 g1 c2 g2 tx gtx pg dd gd kp gkp tp gtp tl gtl lk glk ph gph c3 g3 tx2 gtx2 pg2 h1 gm) (pz_ad (pz_adl h0 c1 g1 c2 g2 tx gtx pg dd gd kp gkp tp gtp tl gtl lk glk ph gph c3 g3 tx2 gtx2 pg2 h1 gm) adS) 199 := ⟨.inr (5, [.int 0, .int 0, .int 0, .int 0, .int 0, .int 0, .int 0, .int (-1)]), rfl, fun h => by
  rw [pz_o5z (a := 199) rfl (by decide)]
  exact h⟩
theorem pz_ro200 : pz_rw6 D cy H (pz_WL cy h0 c1 g1 c2 g2 tx gtx pg dd gd kp gkp tp gtp tl gtl lk glk ph gph c3 g3 tx2 gtx2 pg2 h1 gm) (pz_ad (pz_adl h0 c1 g1 c2 g2 tx gtx pg dd gd kp gkp tp gtp tl gtl lk glk ph gph c3 g3 tx2 gtx2 pg2 h1 gm) adS) 200 := ⟨.inr (5, [.int 0, .int 0, .int 0, .int 0, .int 0, .int 0, .int 0, .int (-1)]), rfl, fun h => by
  rw [pz_o5z (a := 200) rfl (by decide)]
  exact h⟩
theorem pz_ro201 : pz_rw6 D cy H (pz_WL cy h0 c1 g1 c2 g2 tx gtx pg dd gd kp gkp tp gtp tl gtl lk glk ph gph c3 g3 tx2 gtx2 pg2 h1 gm) (pz_ad (pz_adl h0 c1 g1 c2 g2 tx gtx pg dd gd kp gkp tp gtp tl gtl lk glk ph gph c3 g3 tx2 gtx2 pg2 h1 gm) adS) 201 := ⟨.inr (5, [.int 0, .int 0, .int 0, .int 0, .int 0, .int 0, .int 0, .int (-1)]), rfl, fun h => by
  rw [pz_o5z (a := 201) rfl (by decide)]
  exact h⟩
theorem pz_ro202 : pz_rw6 D cy H (pz_WL cy h0 c1 g1 c2 g2 tx gtx pg dd gd kp gkp tp gtp tl gtl lk glk ph gph c3 g3 tx2 gtx2 pg2 h1 gm) (pz_ad (pz_adl h0 c1 g1 c2 g2 tx gtx pg dd gd kp gkp tp gtp tl gtl lk glk ph gph c3 g3 tx2 gtx2 pg2 h1 gm) adS) 202 := ⟨.inr (5, [.int 0, .int 0, .int 0, .int 0, .int 0, .int 0, .int 0, .int (-1)]), rfl, fun h => by
  rw [pz_o5z (a := 202) rfl (by decide)]
  exact h⟩
theorem pz_ro203 : pz_rw6 D cy H (pz_WL cy h0 c1 g1 c2 g2 tx gtx pg dd gd kp gkp tp gtp tl gtl lk glk ph gph c3 g3 tx2 gtx2 pg2 h1 gm) (pz_ad (pz_adl h0 c1 g1 c2 g2 tx gtx pg dd gd kp gkp tp gtp tl gtl lk glk ph gph c3 g3 tx2 gtx2 pg2 h1 gm) adS) 203 := ⟨.inr (5, [.int 0, .int 0, .int 0, .int 0, .int 0, .int 0, .int 0, .int (-1)]), rfl, fun h => by
  rw [pz_o5z (a := 203) rfl (by decide)]
  exact h⟩
theorem pz_ro204 : pz_rw6 D cy H (pz_WL cy h0 c1 g1 c2 g2 tx gtx pg dd gd kp gkp tp gtp tl gtl lk glk ph gph c3 g3 tx2 gtx2 pg2 h1 gm) (pz_ad (pz_adl h0 c1 g1 c2 g2 tx gtx pg dd gd kp gkp tp gtp tl gtl lk glk ph gph c3 g3 tx2 gtx2 pg2 h1 gm) adS) 204 := ⟨.inr (5, [.int 0, .int 0, .int 0, .int 0, .int 0, .int 0, .int 0, .int (-1)]), rfl, fun h => by
  rw [pz_o5z (a := 204) rfl (by decide)]
  exact h⟩
theorem pz_ro205 : pz_rw6 D cy H (pz_WL cy h0 c1 g1 c2 g2 tx gtx pg dd gd kp gkp tp gtp tl gtl lk glk ph gph c3 g3 tx2 gtx2 pg2 h1 gm) (pz_ad (pz_adl h0 c1 g1 c2 g2 tx gtx pg dd gd kp gkp tp gtp tl gtl lk glk ph gph c3 g3 tx2 gtx2 pg2 h1 gm) adS) 205 := ⟨.inr (5, [.int 0, .int 0, .int 0, .int 0, .int 0, .int 0, .int 0, .int (-1)]), rfl, fun h => by
  rw [pz_o5z (a := 205) rfl (by decide)]
  exact h⟩
end PZ16
end
section
section PZ16
variable {D : va_G} {cy : Nat → ClassId} {H : Heap} {adS : Nat → Nat} {h0 : Nat} {c1 : Nat} {g1 : Nat → Nat} {c2 : Nat} {g2 : Nat → Nat} {tx : Nat} {gtx : (Nat × (Nat → Nat)) × (Nat × (Nat → Nat)) × (Nat × (Nat → Nat)) × Nat × (Nat → Nat)} {pg : Nat} {dd : Nat} {gd : Nat → Nat} {kp : Nat} {gkp : (Nat → Nat) × (Nat → Nat → Nat)} {tp : Nat} {gtp : Nat → Nat} {tl : Nat} {gtl : (Nat × (Nat → Nat)) × Nat × (Nat → Nat)} {lk : Nat} {glk : Nat → Nat} {ph : Nat} {gph : Nat → Nat} {c3 : Nat} {g3 : Nat → Nat} {tx2 : Nat} {gtx2 : (Nat × (Nat → Nat)) × (Nat × (Nat → Nat)) × (Nat × (Nat → Nat)) × Nat × (Nat → Nat)} {pg2 : Nat} {h1 : Nat} {gm : Nat → Nat}
theorem pz_rows : ∀ a, a < 206 → pz_rw6 D cy H (pz_b11 cy h0 c1 g1 c2 g2 tx gtx pg dd gd kp gkp tp gtp tl gtl lk glk ph gph c3 g3 tx2 gtx2 pg2 ++ pz_b12 cy h1 gm) (pz_ad (pz_adl h0 c1 g1 c2 g2 tx gtx pg dd gd kp gkp tp gtp tl gtl lk glk ph gph c3 g3 tx2 gtx2 pg2 h1 gm) adS) a := by
  rw [pz_WLe]
  have k0 : ∀ m, m < 0 → pz_rw6 D cy H (pz_WL cy h0 c1 g1 c2 g2 tx gtx pg dd gd kp gkp tp gtp tl gtl lk glk ph gph c3 g3 tx2 gtx2 pg2 h1 gm) (pz_ad (pz_adl h0 c1 g1 c2 g2 tx gtx pg dd gd kp gkp tp gtp tl gtl lk glk ph gph c3 g3 tx2 gtx2 pg2 h1 gm) adS) m := pz_f0
  have k1 := pz_fs k0 (pz_ro0 (D := D) (cy := cy) (H := H) (adS := adS))
  have k2 := pz_fs k1 (pz_ro1 (D := D) (cy := cy) (H := H) (adS := adS))
  have k3 := pz_fs k2 (pz_ro2 (D := D) (cy := cy) (H := H) (adS := adS))
  have k4 := pz_fs k3 (pz_ro3 (D := D) (cy := cy) (H := H) (adS := adS))
  have k5 := pz_fs k4 (pz_ro4 (D := D) (cy := cy) (H := H) (adS := adS))
  have k6 := pz_fs k5 (pz_ro5 (D := D) (cy := cy) (H := H) (adS := adS))
  have k7 := pz_fs k6 (pz_ro6 (D := D) (cy := cy) (H := H) (adS := adS))
  have k8 := pz_fs k7 (pz_ro7 (D := D) (cy := cy) (H := H) (adS := adS))
  have k9 := pz_fs k8 (pz_ro8 (D := D) (cy := cy) (H := H) (adS := adS))
  have k10 := pz_fs k9 (pz_ro9 (D := D) (cy := cy) (H := H) (adS := adS))
  have k11 := pz_fs k10 (pz_ro10 (D := D) (cy := cy) (H := H) (adS := adS))
  have k12 := pz_fs k11 (pz_ro11 (D := D) (cy := cy) (H := H) (adS := adS))
  have k13 := pz_fs k12 (pz_ro12 (D := D) (cy := cy) (H := H) (adS := adS))
  have k14 := pz_fs k13 (pz_ro13 (D := D) (cy := cy) (H := H) (adS := adS))
  have k15 := pz_fs k14 (pz_ro14 (D := D) (cy := cy) (H := H) (adS := adS))
  have k16 := pz_fs k15 (pz_ro15 (D := D) (cy := cy) (H := H) (adS := adS))
  have k17 := pz_fs k16 (pz_ro16 (D := D) (cy := cy) (H := H) (adS := adS))
  have k18 := pz_fs k17 (pz_ro17 (D := D) (cy := cy) (H := H) (adS := adS))
  have k19 := pz_fs k18 (pz_ro18 (D := D) (cy := cy) (H := H) (adS := adS))
  have k20 := pz_fs k19 (pz_ro19 (D := D) (cy := cy) (H := H) (adS := adS))
  have k21 := pz_fs k20 (pz_ro20 (D := D) (cy := cy) (H := H) (adS := adS))
  have k22 := pz_fs k21 (pz_ro21 (D := D) (cy := cy) (H := H) (adS := adS))
  have k23 := pz_fs k22 (pz_ro22 (D := D) (cy := cy) (H := H) (adS := adS))
  have k24 := pz_fs k23 (pz_ro23 (D := D) (cy := cy) (H := H) (adS := adS))
  have k25 := pz_fs k24 (pz_ro24 (D := D) (cy := cy) (H := H) (adS := adS))
  have k26 := pz_fs k25 (pz_ro25 (D := D) (cy := cy) (H := H) (adS := adS))
  have k27 := pz_fs k26 (pz_ro26 (D := D) (cy := cy) (H := H) (adS := adS))
  have k28 := pz_fs k27 (pz_ro27 (D := D) (cy := cy) (H := H) (adS := adS))
  have k29 := pz_fs k28 (pz_ro28 (D := D) (cy := cy) (H := H) (adS := adS))
  have k30 := pz_fs k29 (pz_ro29 (D := D) (cy := cy) (H := H) (adS := adS))
  have k31 := pz_fs k30 (pz_ro30 (D := D) (cy := cy) (H := H) (adS := adS))
  have k32 := pz_fs k31 (pz_ro31 (D := D) (cy := cy) (H := H) (adS := adS))
  have k33 := pz_fs k32 (pz_ro32 (D := D) (cy := cy) (H := H) (adS := adS))
  have k34 := pz_fs k33 (pz_ro33 (D := D) (cy := cy) (H := H) (adS := adS))
  have k35 := pz_fs k34 (pz_ro34 (D := D) (cy := cy) (H := H) (adS := adS))
  have k36 := pz_fs k35 (pz_ro35 (D := D) (cy := cy) (H := H) (adS := adS))
  have k37 := pz_fs k36 (pz_ro36 (D := D) (cy := cy) (H := H) (adS := adS))
  have k38 := pz_fs k37 (pz_ro37 (D := D) (cy := cy) (H := H) (adS := adS))
  have k39 := pz_fs k38 (pz_ro38 (D := D) (cy := cy) (H := H) (adS := adS))
  have k40 := pz_fs k39 (pz_ro39 (D := D) (cy := cy) (H := H) (adS := adS))
  have k41 := pz_fs k40 (pz_ro40 (D := D) (cy := cy) (H := H) (adS := adS))
  have k42 := pz_fs k41 (pz_ro41 (D := D) (cy := cy) (H := H) (adS := adS))
  have k43 := pz_fs k42 (pz_ro42 (D := D) (cy := cy) (H := H) (adS := adS))
  have k44 := pz_fs k43 (pz_ro43 (D := D) (cy := cy) (H := H) (adS := adS))
  have k45 := pz_fs k44 (pz_ro44 (D := D) (cy := cy) (H := H) (adS := adS))
  have k46 := pz_fs k45 (pz_ro45 (D := D) (cy := cy) (H := H) (adS := adS))
  have k47 := pz_fs k46 (pz_ro46 (D := D) (cy := cy) (H := H) (adS := adS))
  have k48 := pz_fs k47 (pz_ro47 (D := D) (cy := cy) (H := H) (adS := adS))
  have k49 := pz_fs k48 (pz_ro48 (D := D) (cy := cy) (H := H) (adS := adS))
  have k50 := pz_fs k49 (pz_ro49 (D := D) (cy := cy) (H := H) (adS := adS))
  have k51 := pz_fs k50 (pz_ro50 (D := D) (cy := cy) (H := H) (adS := adS))
  have k52 := pz_fs k51 (pz_ro51 (D := D) (cy := cy) (H := H) (adS := adS))
  have k53 := pz_fs k52 (pz_ro52 (D := D) (cy := cy) (H := H) (adS := adS))
  have k54 := pz_fs k53 (pz_ro53 (D := D) (cy := cy) (H := H) (adS := adS))
  have k55 := pz_fs k54 (pz_ro54 (D := D) (cy := cy) (H := H) (adS := adS))
  have k56 := pz_fs k55 (pz_ro55 (D := D) (cy := cy) (H := H) (adS := adS))
  have k57 := pz_fs k56 (pz_ro56 (D := D) (cy := cy) (H := H) (adS := adS))
  have k58 := pz_fs k57 (pz_ro57 (D := D) (cy := cy) (H := H) (adS := adS))
  have k59 := pz_fs k58 (pz_ro58 (D := D) (cy := cy) (H := H) (adS := adS))
  have k60 := pz_fs k59 (pz_ro59 (D := D) (cy := cy) (H := H) (adS := adS))
  have k61 := pz_fs k60 (pz_ro60 (D := D) (cy := cy) (H := H) (adS := adS))
  have k62 := pz_fs k61 (pz_ro61 (D := D) (cy := cy) (H := H) (adS := adS))
  have k63 := pz_fs k62 (pz_ro62 (D := D) (cy := cy) (H := H) (adS := adS))
  have k64 := pz_fs k63 (pz_ro63 (D := D) (cy := cy) (H := H) (adS := adS))
  have k65 := pz_fs k64 (pz_ro64 (D := D) (cy := cy) (H := H) (adS := adS))
  have k66 := pz_fs k65 (pz_ro65 (D := D) (cy := cy) (H := H) (adS := adS))
  have k67 := pz_fs k66 (pz_ro66 (D := D) (cy := cy) (H := H) (adS := adS))
  have k68 := pz_fs k67 (pz_ro67 (D := D) (cy := cy) (H := H) (adS := adS))
  have k69 := pz_fs k68 (pz_ro68 (D := D) (cy := cy) (H := H) (adS := adS))
  have k70 := pz_fs k69 (pz_ro69 (D := D) (cy := cy) (H := H) (adS := adS))
  have k71 := pz_fs k70 (pz_ro70 (D := D) (cy := cy) (H := H) (adS := adS))
  have k72 := pz_fs k71 (pz_ro71 (D := D) (cy := cy) (H := H) (adS := adS))
  have k73 := pz_fs k72 (pz_ro72 (D := D) (cy := cy) (H := H) (adS := adS))
  have k74 := pz_fs k73 (pz_ro73 (D := D) (cy := cy) (H := H) (adS := adS))
  have k75 := pz_fs k74 (pz_ro74 (D := D) (cy := cy) (H := H) (adS := adS))
  have k76 := pz_fs k75 (pz_ro75 (D := D) (cy := cy) (H := H) (adS := adS))
  have k77 := pz_fs k76 (pz_ro76 (D := D) (cy := cy) (H := H) (adS := adS))
  have k78 := pz_fs k77 (pz_ro77 (D := D) (cy := cy) (H := H) (adS := adS))
  have k79 := pz_fs k78 (pz_ro78 (D := D) (cy := cy) (H := H) (adS := adS))
  have k80 := pz_fs k79 (pz_ro79 (D := D) (cy := cy) (H := H) (adS := adS))
  have k81 := pz_fs k80 (pz_ro80 (D := D) (cy := cy) (H := H) (adS := adS))
  have k82 := pz_fs k81 (pz_ro81 (D := D) (cy := cy) (H := H) (adS := adS))
  have k83 := pz_fs k82 (pz_ro82 (D := D) (cy := cy) (H := H) (adS := adS))
  have k84 := pz_fs k83 (pz_ro83 (D := D) (cy := cy) (H := H) (adS := adS))
  have k85 := pz_fs k84 (pz_ro84 (D := D) (cy := cy) (H := H) (adS := adS))
  have k86 := pz_fs k85 (pz_ro85 (D := D) (cy := cy) (H := H) (adS := adS))
  have k87 := pz_fs k86 (pz_ro86 (D := D) (cy := cy) (H := H) (adS := adS))
  have k88 := pz_fs k87 (pz_ro87 (D := D) (cy := cy) (H := H) (adS := adS))
  have k89 := pz_fs k88 (pz_ro88 (D := D) (cy := cy) (H := H) (adS := adS))
  have k90 := pz_fs k89 (pz_ro89 (D := D) (cy := cy) (H := H) (adS := adS))
  have k91 := pz_fs k90 (pz_ro90 (D := D) (cy := cy) (H := H) (adS := adS))
  have k92 := pz_fs k91 (pz_ro91 (D := D) (cy := cy) (H := H) (adS := adS))
  have k93 := pz_fs k92 (pz_ro92 (D := D) (cy := cy) (H := H) (adS := adS))
  have k94 := pz_fs k93 (pz_ro93 (D := D) (cy := cy) (H := H) (adS := adS))
  have k95 := pz_fs k94 (pz_ro94 (D := D) (cy := cy) (H := H) (adS := adS))
  have k96 := pz_fs k95 (pz_ro95 (D := D) (cy := cy) (H := H) (adS := adS))
  have k97 := pz_fs k96 (pz_ro96 (D := D) (cy := cy) (H := H) (adS := adS))
  have k98 := pz_fs k97 (pz_ro97 (D := D) (cy := cy) (H := H) (adS := adS))
  have k99 := pz_fs k98 (pz_ro98 (D := D) (cy := cy) (H := H) (adS := adS))
  have k100 := pz_fs k99 (pz_ro99 (D := D) (cy := cy) (H := H) (adS := adS))
  have k101 := pz_fs k100 (pz_ro100 (D := D) (cy := cy) (H := H) (adS := adS))
  have k102 := pz_fs k101 (pz_ro101 (D := D) (cy := cy) (H := H) (adS := adS))
  have k103 := pz_fs k102 (pz_ro102 (D := D) (cy := cy) (H := H) (adS := adS))
  have k104 := pz_fs k103 (pz_ro103 (D := D) (cy := cy) (H := H) (adS := adS))
  have k105 := pz_fs k104 (pz_ro104 (D := D) (cy := cy) (H := H) (adS := adS))
  have k106 := pz_fs k105 (pz_ro105 (D := D) (cy := cy) (H := H) (adS := adS))
  have k107 := pz_fs k106 (pz_ro106 (D := D) (cy := cy) (H := H) (adS := adS))
  have k108 := pz_fs k107 (pz_ro107 (D := D) (cy := cy) (H := H) (adS := adS))
  have k109 := pz_fs k108 (pz_ro108 (D := D) (cy := cy) (H := H) (adS := adS))
  have k110 := pz_fs k109 (pz_ro109 (D := D) (cy := cy) (H := H) (adS := adS))
  have k111 := pz_fs k110 (pz_ro110 (D := D) (cy := cy) (H := H) (adS := adS))
  have k112 := pz_fs k111 (pz_ro111 (D := D) (cy := cy) (H := H) (adS := adS))
  have k113 := pz_fs k112 (pz_ro112 (D := D) (cy := cy) (H := H) (adS := adS))
  have k114 := pz_fs k113 (pz_ro113 (D := D) (cy := cy) (H := H) (adS := adS))
  have k115 := pz_fs k114 (pz_ro114 (D := D) (cy := cy) (H := H) (adS := adS))
  have k116 := pz_fs k115 (pz_ro115 (D := D) (cy := cy) (H := H) (adS := adS))
  have k117 := pz_fs k116 (pz_ro116 (D := D) (cy := cy) (H := H) (adS := adS))
  have k118 := pz_fs k117 (pz_ro117 (D := D) (cy := cy) (H := H) (adS := adS))
  have k119 := pz_fs k118 (pz_ro118 (D := D) (cy := cy) (H := H) (adS := adS))
  have k120 := pz_fs k119 (pz_ro119 (D := D) (cy := cy) (H := H) (adS := adS))
  have k121 := pz_fs k120 (pz_ro120 (D := D) (cy := cy) (H := H) (adS := adS))
  have k122 := pz_fs k121 (pz_ro121 (D := D) (cy := cy) (H := H) (adS := adS))
  have k123 := pz_fs k122 (pz_ro122 (D := D) (cy := cy) (H := H) (adS := adS))
  have k124 := pz_fs k123 (pz_ro123 (D := D) (cy := cy) (H := H) (adS := adS))
  have k125 := pz_fs k124 (pz_ro124 (D := D) (cy := cy) (H := H) (adS := adS))
  have k126 := pz_fs k125 (pz_ro125 (D := D) (cy := cy) (H := H) (adS := adS))
  have k127 := pz_fs k126 (pz_ro126 (D := D) (cy := cy) (H := H) (adS := adS))
  have k128 := pz_fs k127 (pz_ro127 (D := D) (cy := cy) (H := H) (adS := adS))
  have k129 := pz_fs k128 (pz_ro128 (D := D) (cy := cy) (H := H) (adS := adS))
  have k130 := pz_fs k129 (pz_ro129 (D := D) (cy := cy) (H := H) (adS := adS))
  have k131 := pz_fs k130 (pz_ro130 (D := D) (cy := cy) (H := H) (adS := adS))
  have k132 := pz_fs k131 (pz_ro131 (D := D) (cy := cy) (H := H) (adS := adS))
  have k133 := pz_fs k132 (pz_ro132 (D := D) (cy := cy) (H := H) (adS := adS))
  have k134 := pz_fs k133 (pz_ro133 (D := D) (cy := cy) (H := H) (adS := adS))
  have k135 := pz_fs k134 (pz_ro134 (D := D) (cy := cy) (H := H) (adS := adS))
  have k136 := pz_fs k135 (pz_ro135 (D := D) (cy := cy) (H := H) (adS := adS))
  have k137 := pz_fs k136 (pz_ro136 (D := D) (cy := cy) (H := H) (adS := adS))
  have k138 := pz_fs k137 (pz_ro137 (D := D) (cy := cy) (H := H) (adS := adS))
  have k139 := pz_fs k138 (pz_ro138 (D := D) (cy := cy) (H := H) (adS := adS))
  have k140 := pz_fs k139 (pz_ro139 (D := D) (cy := cy) (H := H) (adS := adS))
  have k141 := pz_fs k140 (pz_ro140 (D := D) (cy := cy) (H := H) (adS := adS))
  have k142 := pz_fs k141 (pz_ro141 (D := D) (cy := cy) (H := H) (adS := adS))
  have k143 := pz_fs k142 (pz_ro142 (D := D) (cy := cy) (H := H) (adS := adS))
  have k144 := pz_fs k143 (pz_ro143 (D := D) (cy := cy) (H := H) (adS := adS))
  have k145 := pz_fs k144 (pz_ro144 (D := D) (cy := cy) (H := H) (adS := adS))
  have k146 := pz_fs k145 (pz_ro145 (D := D) (cy := cy) (H := H) (adS := adS))
  have k147 := pz_fs k146 (pz_ro146 (D := D) (cy := cy) (H := H) (adS := adS))
  have k148 := pz_fs k147 (pz_ro147 (D := D) (cy := cy) (H := H) (adS := adS))
  have k149 := pz_fs k148 (pz_ro148 (D := D) (cy := cy) (H := H) (adS := adS))
  have k150 := pz_fs k149 (pz_ro149 (D := D) (cy := cy) (H := H) (adS := adS))
  have k151 := pz_fs k150 (pz_ro150 (D := D) (cy := cy) (H := H) (adS := adS))
  have k152 := pz_fs k151 (pz_ro151 (D := D) (cy := cy) (H := H) (adS := adS))
  have k153 := pz_fs k152 (pz_ro152 (D := D) (cy := cy) (H := H) (adS := adS))
  have k154 := pz_fs k153 (pz_ro153 (D := D) (cy := cy) (H := H) (adS := adS))
  have k155 := pz_fs k154 (pz_ro154 (D := D) (cy := cy) (H := H) (adS := adS))
  have k156 := pz_fs k155 (pz_ro155 (D := D) (cy := cy) (H := H) (adS := adS))
  have k157 := pz_fs k156 (pz_ro156 (D := D) (cy := cy) (H := H) (adS := adS))
  have k158 := pz_fs k157 (pz_ro157 (D := D) (cy := cy) (H := H) (adS := adS))
  have k159 := pz_fs k158 (pz_ro158 (D := D) (cy := cy) (H := H) (adS := adS))
  have k160 := pz_fs k159 (pz_ro159 (D := D) (cy := cy) (H := H) (adS := adS))
  have k161 := pz_fs k160 (pz_ro160 (D := D) (cy := cy) (H := H) (adS := adS))
  have k162 := pz_fs k161 (pz_ro161 (D := D) (cy := cy) (H := H) (adS := adS))
  have k163 := pz_fs k162 (pz_ro162 (D := D) (cy := cy) (H := H) (adS := adS))
  have k164 := pz_fs k163 (pz_ro163 (D := D) (cy := cy) (H := H) (adS := adS))
  have k165 := pz_fs k164 (pz_ro164 (D := D) (cy := cy) (H := H) (adS := adS))
  have k166 := pz_fs k165 (pz_ro165 (D := D) (cy := cy) (H := H) (adS := adS))
  have k167 := pz_fs k166 (pz_ro166 (D := D) (cy := cy) (H := H) (adS := adS))
  have k168 := pz_fs k167 (pz_ro167 (D := D) (cy := cy) (H := H) (adS := adS))
  have k169 := pz_fs k168 (pz_ro168 (D := D) (cy := cy) (H := H) (adS := adS))
  have k170 := pz_fs k169 (pz_ro169 (D := D) (cy := cy) (H := H) (adS := adS))
  have k171 := pz_fs k170 (pz_ro170 (D := D) (cy := cy) (H := H) (adS := adS))
  have k172 := pz_fs k171 (pz_ro171 (D := D) (cy := cy) (H := H) (adS := adS))
  have k173 := pz_fs k172 (pz_ro172 (D := D) (cy := cy) (H := H) (adS := adS))
  have k174 := pz_fs k173 (pz_ro173 (D := D) (cy := cy) (H := H) (adS := adS))
  have k175 := pz_fs k174 (pz_ro174 (D := D) (cy := cy) (H := H) (adS := adS))
  have k176 := pz_fs k175 (pz_ro175 (D := D) (cy := cy) (H := H) (adS := adS))
  have k177 := pz_fs k176 (pz_ro176 (D := D) (cy := cy) (H := H) (adS := adS))
  have k178 := pz_fs k177 (pz_ro177 (D := D) (cy := cy) (H := H) (adS := adS))
  have k179 := pz_fs k178 (pz_ro178 (D := D) (cy := cy) (H := H) (adS := adS))
  have k180 := pz_fs k179 (pz_ro179 (D := D) (cy := cy) (H := H) (adS := adS))
  have k181 := pz_fs k180 (pz_ro180 (D := D) (cy := cy) (H := H) (adS := adS))
  have k182 := pz_fs k181 (pz_ro181 (D := D) (cy := cy) (H := H) (adS := adS))
  have k183 := pz_fs k182 (pz_ro182 (D := D) (cy := cy) (H := H) (adS := adS))
  have k184 := pz_fs k183 (pz_ro183 (D := D) (cy := cy) (H := H) (adS := adS))
  have k185 := pz_fs k184 (pz_ro184 (D := D) (cy := cy) (H := H) (adS := adS))
  have k186 := pz_fs k185 (pz_ro185 (D := D) (cy := cy) (H := H) (adS := adS))
  have k187 := pz_fs k186 (pz_ro186 (D := D) (cy := cy) (H := H) (adS := adS))
  have k188 := pz_fs k187 (pz_ro187 (D := D) (cy := cy) (H := H) (adS := adS))
  have k189 := pz_fs k188 (pz_ro188 (D := D) (cy := cy) (H := H) (adS := adS))
  have k190 := pz_fs k189 (pz_ro189 (D := D) (cy := cy) (H := H) (adS := adS))
  have k191 := pz_fs k190 (pz_ro190 (D := D) (cy := cy) (H := H) (adS := adS))
  have k192 := pz_fs k191 (pz_ro191 (D := D) (cy := cy) (H := H) (adS := adS))
  have k193 := pz_fs k192 (pz_ro192 (D := D) (cy := cy) (H := H) (adS := adS))
  have k194 := pz_fs k193 (pz_ro193 (D := D) (cy := cy) (H := H) (adS := adS))
  have k195 := pz_fs k194 (pz_ro194 (D := D) (cy := cy) (H := H) (adS := adS))
  have k196 := pz_fs k195 (pz_ro195 (D := D) (cy := cy) (H := H) (adS := adS))
  have k197 := pz_fs k196 (pz_ro196 (D := D) (cy := cy) (H := H) (adS := adS))
  have k198 := pz_fs k197 (pz_ro197 (D := D) (cy := cy) (H := H) (adS := adS))
  have k199 := pz_fs k198 (pz_ro198 (D := D) (cy := cy) (H := H) (adS := adS))
  have k200 := pz_fs k199 (pz_ro199 (D := D) (cy := cy) (H := H) (adS := adS))
  have k201 := pz_fs k200 (pz_ro200 (D := D) (cy := cy) (H := H) (adS := adS))
  have k202 := pz_fs k201 (pz_ro201 (D := D) (cy := cy) (H := H) (adS := adS))
  have k203 := pz_fs k202 (pz_ro202 (D := D) (cy := cy) (H := H) (adS := adS))
  have k204 := pz_fs k203 (pz_ro203 (D := D) (cy := cy) (H := H) (adS := adS))
  have k205 := pz_fs k204 (pz_ro204 (D := D) (cy := cy) (H := H) (adS := adS))
  have k206 := pz_fs k205 (pz_ro205 (D := D) (cy := cy) (H := H) (adS := adS))
  exact k206
theorem pz_asmP (hP : va_P D vwCl (pz_b11 cy h0 c1 g1 c2 g2 tx gtx pg dd gd kp gkp tp gtp tl gtl lk glk ph gph c3 g3 tx2 gtx2 pg2 ++ pz_b12 cy h1 gm) H) : va_P D vwCl (pz_ws (pz_ad (pz_adl h0 c1 g1 c2 g2 tx gtx pg dd gd kp gkp tp gtp tl gtl lk glk ph gph c3 g3 tx2 gtx2 pg2 h1 gm) adS) cy pz_M0) H := by
  intro k q hk
  have hl : k < 206 := by
    have := (List.getElem?_eq_some_iff.mp hk).1
    simpa [pz_ws] using this
  rw [pz_ws_get hl] at hk
  cases hk
  obtain ⟨e, h1, h2⟩ := pz_rows (D := D) (cy := cy) (H := H) (adS := adS) k hl
  exact h2 (hP _ _ h1)
theorem pz_asmD {A : Nat → Prop} (hD : va_D A (pz_b11 cy h0 c1 g1 c2 g2 tx gtx pg dd gd kp gkp tp gtp tl gtl lk glk ph gph c3 g3 tx2 gtx2 pg2 ++ pz_b12 cy h1 gm)) : (∀ i j : Nat, i < 206 → j < 206 → (pz_ad (pz_adl h0 c1 g1 c2 g2 tx gtx pg dd gd kp gkp tp gtp tl gtl lk glk ph gph c3 g3 tx2 gtx2 pg2 h1 gm) adS) i = (pz_ad (pz_adl h0 c1 g1 c2 g2 tx gtx pg dd gd kp gkp tp gtp tl gtl lk glk ph gph c3 g3 tx2 gtx2 pg2 h1 gm) adS) j → i = j) ∧ ∀ i : Nat, i < 206 → A ((pz_ad (pz_adl h0 c1 g1 c2 g2 tx gtx pg dd gd kp gkp tp gtp tl gtl lk glk ph gph c3 g3 tx2 gtx2 pg2 h1 gm) adS) i) := by
  refine ⟨fun i j hi hj he => ?_, fun i hi => ?_⟩
  · obtain ⟨e, h1, -⟩ := pz_rows (D := (fun _ => 0, fun _ _ => 0)) (cy := cy) (H := #[]) (adS := adS) i hi
    obtain ⟨e', h2, -⟩ := pz_rows (D := (fun _ => 0, fun _ _ => 0)) (cy := cy) (H := #[]) (adS := adS) j hj
    have h3 := hD.1 _ _ _ _ h1 h2 he
    rw [← pz_psx_inv i hi, ← pz_psx_inv j hj, h3]
  · obtain ⟨e, h1, -⟩ := pz_rows (D := (fun _ => 0, fun _ _ => 0)) (cy := cy) (H := #[]) (adS := adS) i hi
    exact hD.2 _ _ h1
end PZ16
end
section
/-! the texts and statics at the start -/
def pz_tm (i : Nat) : Term := Term.string (pz_ss.getD i ("", 0, "")).1 (pz_ss.getD i ("", 0, "")).2.1
def pz_x1 : List Nat := [35, 161, 170, 178, 188, 199, 213, 228, 243, 259, 276, 295, 315, 336, 357, 378, 402, 429, 455, 479, 505, 535, 563, 594, 625]
theorem pz_hg1 : ∀ i, i < 25 → Cond.exactly (pz_tm i) "java/lang/String" ∈ flatC (Jvm.Cond.and given_1 narrow_1) := by
  have key : ∀ i, i < 25 → (flatC (Jvm.Cond.and given_1 narrow_1))[pz_x1.getD i 0]? = some (Cond.exactly (pz_tm i) "java/lang/String") := by decide +kernel
  exact fun i hi => List.mem_of_getElem? (key i hi)
def pz_x2 : List Nat := [36, 162, 171, 179, 189, 200, 214, 229, 244, 260, 277, 296, 316, 337, 358, 379, 403, 430, 456, 480, 506, 536, 564, 595, 626]
theorem pz_hg2 : ∀ i, i < 25 → Cond.eq (.field (pz_tm i) "java/lang/String" "coder" "B") (.int 0) ∈ flatC (Jvm.Cond.and given_1 narrow_1) := by
  have key : ∀ i, i < 25 → (flatC (Jvm.Cond.and given_1 narrow_1))[pz_x2.getD i 0]? = some (Cond.eq (.field (pz_tm i) "java/lang/String" "coder" "B") (.int 0)) := by decide +kernel
  exact fun i hi => List.mem_of_getElem? (key i hi)
def pz_x3 : List Nat := [37, 163, 172, 180, 190, 201, 215, 230, 245, 261, 278, 297, 317, 338, 359, 380, 404, 431, 457, 481, 507, 537, 565, 596, 627]
theorem pz_hg3 : ∀ i, i < 25 → Cond.arrayOf (.field (pz_tm i) "java/lang/String" "value" "[B") .byte ∈ flatC (Jvm.Cond.and given_1 narrow_1) := by
  have key : ∀ i, i < 25 → (flatC (Jvm.Cond.and given_1 narrow_1))[pz_x3.getD i 0]? = some (Cond.arrayOf (.field (pz_tm i) "java/lang/String" "value" "[B") .byte) := by decide +kernel
  exact fun i hi => List.mem_of_getElem? (key i hi)
def pz_x4 : List Nat := [38, 164, 173, 181, 191, 202, 216, 231, 246, 262, 279, 298, 318, 339, 360, 381, 405, 432, 458, 482, 508, 538, 566, 597, 628]
theorem pz_hg4 : ∀ i, i < 25 → Cond.eq (.length (.field (pz_tm i) "java/lang/String" "value" "[B")) (.int (Int32.ofNat (pz_stl.getD i 0))) ∈ flatC (Jvm.Cond.and given_1 narrow_1) := by
  have key : ∀ i, i < 25 → (flatC (Jvm.Cond.and given_1 narrow_1))[pz_x4.getD i 0]? = some (Cond.eq (.length (.field (pz_tm i) "java/lang/String" "value" "[B")) (.int (Int32.ofNat (pz_stl.getD i 0)))) := by decide +kernel
  exact fun i hi => List.mem_of_getElem? (key i hi)
def pz_x5 : List (List Nat) := [[39, 40, 41, 42, 43, 44, 45, 46, 47, 48, 49, 50, 51, 52, 53, 54, 55, 56, 57, 58, 59, 60, 61, 62, 63, 64, 65, 66, 67, 68, 69, 70, 71, 72, 73, 74, 75, 76, 77, 78, 79, 80, 81, 82, 83, 84, 85, 86, 87, 88, 89, 90, 91, 92, 93, 94, 95, 96, 97, 98, 99, 100, 101, 102, 103, 104, 105, 106, 107, 108, 109, 110, 111, 112, 113, 114, 115, 116, 117, 118, 119, 120, 121, 122, 123, 124, 125, 126, 127, 128, 129, 130, 131, 132, 133, 134, 135, 136, 137, 138, 139, 140, 141, 142, 143, 144, 145, 146, 147, 148, 149, 150, 151, 152, 153, 154, 155, 156, 157, 158, 159, 160], [165, 166, 167, 168], [174, 175], [182, 183, 184], [192, 193, 194], [203, 204, 205, 206, 207], [217, 218, 219, 220, 221], [232, 233, 234, 235], [247, 248, 249, 250], [263, 264, 265, 266], [280, 281, 282, 283, 284], [299, 300, 301, 302, 303], [319, 320, 321, 322, 323], [340, 341, 342, 343], [361, 362, 363], [382, 383, 384, 385, 386], [406, 407, 408, 409, 410, 411, 412], [433, 434, 435, 436, 437], [459, 460], [483, 484, 485], [509, 510, 511, 512, 513, 514], [539, 540, 541], [567, 568, 569, 570, 571], [598, 599, 600, 601], [629, 630]]
theorem pz_hg5_0 : ∀ j, j < 122 → (flatC (Jvm.Cond.and given_1 narrow_1))[(pz_x5.getD 0 []).getD j 0]? = some (Cond.eq (.elem (.field (pz_tm 0) "java/lang/String" "value" "[B") (.int (Int32.ofNat j))) (.int ((pz_sb.getD 0 []).getD j 0))) := by decide +kernel
theorem pz_hg5_1 : ∀ j, j < 4 → (flatC (Jvm.Cond.and given_1 narrow_1))[(pz_x5.getD 1 []).getD j 0]? = some (Cond.eq (.elem (.field (pz_tm 1) "java/lang/String" "value" "[B") (.int (Int32.ofNat j))) (.int ((pz_sb.getD 1 []).getD j 0))) := by decide +kernel
theorem pz_hg5_2 : ∀ j, j < 2 → (flatC (Jvm.Cond.and given_1 narrow_1))[(pz_x5.getD 2 []).getD j 0]? = some (Cond.eq (.elem (.field (pz_tm 2) "java/lang/String" "value" "[B") (.int (Int32.ofNat j))) (.int ((pz_sb.getD 2 []).getD j 0))) := by decide +kernel
theorem pz_hg5_3 : ∀ j, j < 3 → (flatC (Jvm.Cond.and given_1 narrow_1))[(pz_x5.getD 3 []).getD j 0]? = some (Cond.eq (.elem (.field (pz_tm 3) "java/lang/String" "value" "[B") (.int (Int32.ofNat j))) (.int ((pz_sb.getD 3 []).getD j 0))) := by decide +kernel
theorem pz_hg5_4 : ∀ j, j < 3 → (flatC (Jvm.Cond.and given_1 narrow_1))[(pz_x5.getD 4 []).getD j 0]? = some (Cond.eq (.elem (.field (pz_tm 4) "java/lang/String" "value" "[B") (.int (Int32.ofNat j))) (.int ((pz_sb.getD 4 []).getD j 0))) := by decide +kernel
theorem pz_hg5_5 : ∀ j, j < 5 → (flatC (Jvm.Cond.and given_1 narrow_1))[(pz_x5.getD 5 []).getD j 0]? = some (Cond.eq (.elem (.field (pz_tm 5) "java/lang/String" "value" "[B") (.int (Int32.ofNat j))) (.int ((pz_sb.getD 5 []).getD j 0))) := by decide +kernel
theorem pz_hg5_6 : ∀ j, j < 5 → (flatC (Jvm.Cond.and given_1 narrow_1))[(pz_x5.getD 6 []).getD j 0]? = some (Cond.eq (.elem (.field (pz_tm 6) "java/lang/String" "value" "[B") (.int (Int32.ofNat j))) (.int ((pz_sb.getD 6 []).getD j 0))) := by decide +kernel
theorem pz_hg5_7 : ∀ j, j < 4 → (flatC (Jvm.Cond.and given_1 narrow_1))[(pz_x5.getD 7 []).getD j 0]? = some (Cond.eq (.elem (.field (pz_tm 7) "java/lang/String" "value" "[B") (.int (Int32.ofNat j))) (.int ((pz_sb.getD 7 []).getD j 0))) := by decide +kernel
theorem pz_hg5_8 : ∀ j, j < 4 → (flatC (Jvm.Cond.and given_1 narrow_1))[(pz_x5.getD 8 []).getD j 0]? = some (Cond.eq (.elem (.field (pz_tm 8) "java/lang/String" "value" "[B") (.int (Int32.ofNat j))) (.int ((pz_sb.getD 8 []).getD j 0))) := by decide +kernel
theorem pz_hg5_9 : ∀ j, j < 4 → (flatC (Jvm.Cond.and given_1 narrow_1))[(pz_x5.getD 9 []).getD j 0]? = some (Cond.eq (.elem (.field (pz_tm 9) "java/lang/String" "value" "[B") (.int (Int32.ofNat j))) (.int ((pz_sb.getD 9 []).getD j 0))) := by decide +kernel
theorem pz_hg5_10 : ∀ j, j < 5 → (flatC (Jvm.Cond.and given_1 narrow_1))[(pz_x5.getD 10 []).getD j 0]? = some (Cond.eq (.elem (.field (pz_tm 10) "java/lang/String" "value" "[B") (.int (Int32.ofNat j))) (.int ((pz_sb.getD 10 []).getD j 0))) := by decide +kernel
theorem pz_hg5_11 : ∀ j, j < 5 → (flatC (Jvm.Cond.and given_1 narrow_1))[(pz_x5.getD 11 []).getD j 0]? = some (Cond.eq (.elem (.field (pz_tm 11) "java/lang/String" "value" "[B") (.int (Int32.ofNat j))) (.int ((pz_sb.getD 11 []).getD j 0))) := by decide +kernel
theorem pz_hg5_12 : ∀ j, j < 5 → (flatC (Jvm.Cond.and given_1 narrow_1))[(pz_x5.getD 12 []).getD j 0]? = some (Cond.eq (.elem (.field (pz_tm 12) "java/lang/String" "value" "[B") (.int (Int32.ofNat j))) (.int ((pz_sb.getD 12 []).getD j 0))) := by decide +kernel
theorem pz_hg5_13 : ∀ j, j < 4 → (flatC (Jvm.Cond.and given_1 narrow_1))[(pz_x5.getD 13 []).getD j 0]? = some (Cond.eq (.elem (.field (pz_tm 13) "java/lang/String" "value" "[B") (.int (Int32.ofNat j))) (.int ((pz_sb.getD 13 []).getD j 0))) := by decide +kernel
theorem pz_hg5_14 : ∀ j, j < 3 → (flatC (Jvm.Cond.and given_1 narrow_1))[(pz_x5.getD 14 []).getD j 0]? = some (Cond.eq (.elem (.field (pz_tm 14) "java/lang/String" "value" "[B") (.int (Int32.ofNat j))) (.int ((pz_sb.getD 14 []).getD j 0))) := by decide +kernel
theorem pz_hg5_15 : ∀ j, j < 5 → (flatC (Jvm.Cond.and given_1 narrow_1))[(pz_x5.getD 15 []).getD j 0]? = some (Cond.eq (.elem (.field (pz_tm 15) "java/lang/String" "value" "[B") (.int (Int32.ofNat j))) (.int ((pz_sb.getD 15 []).getD j 0))) := by decide +kernel
theorem pz_hg5_16 : ∀ j, j < 7 → (flatC (Jvm.Cond.and given_1 narrow_1))[(pz_x5.getD 16 []).getD j 0]? = some (Cond.eq (.elem (.field (pz_tm 16) "java/lang/String" "value" "[B") (.int (Int32.ofNat j))) (.int ((pz_sb.getD 16 []).getD j 0))) := by decide +kernel
theorem pz_hg5_17 : ∀ j, j < 5 → (flatC (Jvm.Cond.and given_1 narrow_1))[(pz_x5.getD 17 []).getD j 0]? = some (Cond.eq (.elem (.field (pz_tm 17) "java/lang/String" "value" "[B") (.int (Int32.ofNat j))) (.int ((pz_sb.getD 17 []).getD j 0))) := by decide +kernel
theorem pz_hg5_18 : ∀ j, j < 2 → (flatC (Jvm.Cond.and given_1 narrow_1))[(pz_x5.getD 18 []).getD j 0]? = some (Cond.eq (.elem (.field (pz_tm 18) "java/lang/String" "value" "[B") (.int (Int32.ofNat j))) (.int ((pz_sb.getD 18 []).getD j 0))) := by decide +kernel
theorem pz_hg5_19 : ∀ j, j < 3 → (flatC (Jvm.Cond.and given_1 narrow_1))[(pz_x5.getD 19 []).getD j 0]? = some (Cond.eq (.elem (.field (pz_tm 19) "java/lang/String" "value" "[B") (.int (Int32.ofNat j))) (.int ((pz_sb.getD 19 []).getD j 0))) := by decide +kernel
theorem pz_hg5_20 : ∀ j, j < 6 → (flatC (Jvm.Cond.and given_1 narrow_1))[(pz_x5.getD 20 []).getD j 0]? = some (Cond.eq (.elem (.field (pz_tm 20) "java/lang/String" "value" "[B") (.int (Int32.ofNat j))) (.int ((pz_sb.getD 20 []).getD j 0))) := by decide +kernel
theorem pz_hg5_21 : ∀ j, j < 3 → (flatC (Jvm.Cond.and given_1 narrow_1))[(pz_x5.getD 21 []).getD j 0]? = some (Cond.eq (.elem (.field (pz_tm 21) "java/lang/String" "value" "[B") (.int (Int32.ofNat j))) (.int ((pz_sb.getD 21 []).getD j 0))) := by decide +kernel
theorem pz_hg5_22 : ∀ j, j < 5 → (flatC (Jvm.Cond.and given_1 narrow_1))[(pz_x5.getD 22 []).getD j 0]? = some (Cond.eq (.elem (.field (pz_tm 22) "java/lang/String" "value" "[B") (.int (Int32.ofNat j))) (.int ((pz_sb.getD 22 []).getD j 0))) := by decide +kernel
theorem pz_hg5_23 : ∀ j, j < 4 → (flatC (Jvm.Cond.and given_1 narrow_1))[(pz_x5.getD 23 []).getD j 0]? = some (Cond.eq (.elem (.field (pz_tm 23) "java/lang/String" "value" "[B") (.int (Int32.ofNat j))) (.int ((pz_sb.getD 23 []).getD j 0))) := by decide +kernel
theorem pz_hg5_24 : ∀ j, j < 2 → (flatC (Jvm.Cond.and given_1 narrow_1))[(pz_x5.getD 24 []).getD j 0]? = some (Cond.eq (.elem (.field (pz_tm 24) "java/lang/String" "value" "[B") (.int (Int32.ofNat j))) (.int ((pz_sb.getD 24 []).getD j 0))) := by decide +kernel
theorem pz_hg5 : ∀ i, i < 25 → ∀ j, j < pz_stl.getD i 0 → Cond.eq (.elem (.field (pz_tm i) "java/lang/String" "value" "[B") (.int (Int32.ofNat j))) (.int ((pz_sb.getD i []).getD j 0)) ∈ flatC (Jvm.Cond.and given_1 narrow_1) := by
  intro i hi j hj
  match i, hi with
  | 0, _ => exact List.mem_of_getElem? (pz_hg5_0 j hj)
  | 1, _ => exact List.mem_of_getElem? (pz_hg5_1 j hj)
  | 2, _ => exact List.mem_of_getElem? (pz_hg5_2 j hj)
  | 3, _ => exact List.mem_of_getElem? (pz_hg5_3 j hj)
  | 4, _ => exact List.mem_of_getElem? (pz_hg5_4 j hj)
  | 5, _ => exact List.mem_of_getElem? (pz_hg5_5 j hj)
  | 6, _ => exact List.mem_of_getElem? (pz_hg5_6 j hj)
  | 7, _ => exact List.mem_of_getElem? (pz_hg5_7 j hj)
  | 8, _ => exact List.mem_of_getElem? (pz_hg5_8 j hj)
  | 9, _ => exact List.mem_of_getElem? (pz_hg5_9 j hj)
  | 10, _ => exact List.mem_of_getElem? (pz_hg5_10 j hj)
  | 11, _ => exact List.mem_of_getElem? (pz_hg5_11 j hj)
  | 12, _ => exact List.mem_of_getElem? (pz_hg5_12 j hj)
  | 13, _ => exact List.mem_of_getElem? (pz_hg5_13 j hj)
  | 14, _ => exact List.mem_of_getElem? (pz_hg5_14 j hj)
  | 15, _ => exact List.mem_of_getElem? (pz_hg5_15 j hj)
  | 16, _ => exact List.mem_of_getElem? (pz_hg5_16 j hj)
  | 17, _ => exact List.mem_of_getElem? (pz_hg5_17 j hj)
  | 18, _ => exact List.mem_of_getElem? (pz_hg5_18 j hj)
  | 19, _ => exact List.mem_of_getElem? (pz_hg5_19 j hj)
  | 20, _ => exact List.mem_of_getElem? (pz_hg5_20 j hj)
  | 21, _ => exact List.mem_of_getElem? (pz_hg5_21 j hj)
  | 22, _ => exact List.mem_of_getElem? (pz_hg5_22 j hj)
  | 23, _ => exact List.mem_of_getElem? (pz_hg5_23 j hj)
  | 24, _ => exact List.mem_of_getElem? (pz_hg5_24 j hj)
  | n + 25, h => exact absurd h (by omega)
def pz_x6 : List (List Nat) := [[0, 169, 176, 185, 195, 208, 222, 236, 251, 267, 285, 304, 324, 344, 364, 387, 413, 438, 461, 486, 515, 542, 572, 602, 631], [169, 0, 177, 186, 196, 209, 223, 237, 252, 268, 286, 305, 325, 345, 365, 388, 414, 439, 462, 487, 516, 543, 573, 603, 632], [176, 177, 0, 187, 197, 210, 224, 238, 253, 269, 287, 306, 326, 346, 366, 389, 415, 440, 463, 488, 517, 544, 574, 604, 633], [185, 186, 187, 0, 198, 211, 225, 239, 254, 270, 288, 307, 327, 347, 367, 390, 416, 441, 464, 489, 518, 545, 575, 605, 634], [195, 196, 197, 198, 0, 212, 226, 240, 255, 271, 289, 308, 328, 348, 368, 391, 417, 442, 465, 490, 519, 546, 576, 606, 635], [208, 209, 210, 211, 212, 0, 227, 241, 256, 272, 290, 309, 329, 349, 369, 392, 418, 443, 466, 491, 520, 547, 577, 607, 636], [222, 223, 224, 225, 226, 227, 0, 242, 257, 273, 291, 310, 330, 350, 370, 393, 419, 444, 467, 492, 521, 548, 578, 608, 637], [236, 237, 238, 239, 240, 241, 242, 0, 258, 274, 292, 311, 331, 351, 371, 394, 420, 445, 468, 493, 522, 549, 579, 609, 638], [251, 252, 253, 254, 255, 256, 257, 258, 0, 275, 293, 312, 332, 352, 372, 395, 421, 446, 469, 494, 523, 550, 580, 610, 639], [267, 268, 269, 270, 271, 272, 273, 274, 275, 0, 294, 313, 333, 353, 373, 396, 422, 447, 470, 495, 524, 551, 581, 611, 640], [285, 286, 287, 288, 289, 290, 291, 292, 293, 294, 0, 314, 334, 354, 374, 397, 423, 448, 471, 496, 525, 552, 582, 612, 641], [304, 305, 306, 307, 308, 309, 310, 311, 312, 313, 314, 0, 335, 355, 375, 398, 424, 449, 472, 497, 526, 553, 583, 613, 642], [324, 325, 326, 327, 328, 329, 330, 331, 332, 333, 334, 335, 0, 356, 376, 399, 425, 450, 473, 498, 527, 554, 584, 614, 643], [344, 345, 346, 347, 348, 349, 350, 351, 352, 353, 354, 355, 356, 0, 377, 400, 426, 451, 474, 499, 528, 555, 585, 615, 644], [364, 365, 366, 367, 368, 369, 370, 371, 372, 373, 374, 375, 376, 377, 0, 401, 427, 452, 475, 500, 529, 556, 586, 616, 645], [387, 388, 389, 390, 391, 392, 393, 394, 395, 396, 397, 398, 399, 400, 401, 0, 428, 453, 476, 501, 530, 557, 587, 617, 646], [413, 414, 415, 416, 417, 418, 419, 420, 421, 422, 423, 424, 425, 426, 427, 428, 0, 454, 477, 502, 531, 558, 588, 618, 647], [438, 439, 440, 441, 442, 443, 444, 445, 446, 447, 448, 449, 450, 451, 452, 453, 454, 0, 478, 503, 532, 559, 589, 619, 648], [461, 462, 463, 464, 465, 466, 467, 468, 469, 470, 471, 472, 473, 474, 475, 476, 477, 478, 0, 504, 533, 560, 590, 620, 649], [486, 487, 488, 489, 490, 491, 492, 493, 494, 495, 496, 497, 498, 499, 500, 501, 502, 503, 504, 0, 534, 561, 591, 621, 650], [515, 516, 517, 518, 519, 520, 521, 522, 523, 524, 525, 526, 527, 528, 529, 530, 531, 532, 533, 534, 0, 562, 592, 622, 651], [542, 543, 544, 545, 546, 547, 548, 549, 550, 551, 552, 553, 554, 555, 556, 557, 558, 559, 560, 561, 562, 0, 593, 623, 652], [572, 573, 574, 575, 576, 577, 578, 579, 580, 581, 582, 583, 584, 585, 586, 587, 588, 589, 590, 591, 592, 593, 0, 624, 653], [602, 603, 604, 605, 606, 607, 608, 609, 610, 611, 612, 613, 614, 615, 616, 617, 618, 619, 620, 621, 622, 623, 624, 0, 654], [631, 632, 633, 634, 635, 636, 637, 638, 639, 640, 641, 642, 643, 644, 645, 646, 647, 648, 649, 650, 651, 652, 653, 654, 0]]
theorem pz_hg6_0 : ∀ j, j < 25 → 0 < j → (flatC (Jvm.Cond.and given_1 narrow_1))[(pz_x6.getD 0 []).getD j 0]? = some (Cond.not (Cond.eq (pz_tm 0) (pz_tm j))) := by decide +kernel
theorem pz_hg6_1 : ∀ j, j < 25 → 1 < j → (flatC (Jvm.Cond.and given_1 narrow_1))[(pz_x6.getD 1 []).getD j 0]? = some (Cond.not (Cond.eq (pz_tm 1) (pz_tm j))) := by decide +kernel
theorem pz_hg6_2 : ∀ j, j < 25 → 2 < j → (flatC (Jvm.Cond.and given_1 narrow_1))[(pz_x6.getD 2 []).getD j 0]? = some (Cond.not (Cond.eq (pz_tm 2) (pz_tm j))) := by decide +kernel
theorem pz_hg6_3 : ∀ j, j < 25 → 3 < j → (flatC (Jvm.Cond.and given_1 narrow_1))[(pz_x6.getD 3 []).getD j 0]? = some (Cond.not (Cond.eq (pz_tm 3) (pz_tm j))) := by decide +kernel
theorem pz_hg6_4 : ∀ j, j < 25 → 4 < j → (flatC (Jvm.Cond.and given_1 narrow_1))[(pz_x6.getD 4 []).getD j 0]? = some (Cond.not (Cond.eq (pz_tm 4) (pz_tm j))) := by decide +kernel
theorem pz_hg6_5 : ∀ j, j < 25 → 5 < j → (flatC (Jvm.Cond.and given_1 narrow_1))[(pz_x6.getD 5 []).getD j 0]? = some (Cond.not (Cond.eq (pz_tm 5) (pz_tm j))) := by decide +kernel
theorem pz_hg6_6 : ∀ j, j < 25 → 6 < j → (flatC (Jvm.Cond.and given_1 narrow_1))[(pz_x6.getD 6 []).getD j 0]? = some (Cond.not (Cond.eq (pz_tm 6) (pz_tm j))) := by decide +kernel
theorem pz_hg6_7 : ∀ j, j < 25 → 7 < j → (flatC (Jvm.Cond.and given_1 narrow_1))[(pz_x6.getD 7 []).getD j 0]? = some (Cond.not (Cond.eq (pz_tm 7) (pz_tm j))) := by decide +kernel
theorem pz_hg6_8 : ∀ j, j < 25 → 8 < j → (flatC (Jvm.Cond.and given_1 narrow_1))[(pz_x6.getD 8 []).getD j 0]? = some (Cond.not (Cond.eq (pz_tm 8) (pz_tm j))) := by decide +kernel
theorem pz_hg6_9 : ∀ j, j < 25 → 9 < j → (flatC (Jvm.Cond.and given_1 narrow_1))[(pz_x6.getD 9 []).getD j 0]? = some (Cond.not (Cond.eq (pz_tm 9) (pz_tm j))) := by decide +kernel
theorem pz_hg6_10 : ∀ j, j < 25 → 10 < j → (flatC (Jvm.Cond.and given_1 narrow_1))[(pz_x6.getD 10 []).getD j 0]? = some (Cond.not (Cond.eq (pz_tm 10) (pz_tm j))) := by decide +kernel
theorem pz_hg6_11 : ∀ j, j < 25 → 11 < j → (flatC (Jvm.Cond.and given_1 narrow_1))[(pz_x6.getD 11 []).getD j 0]? = some (Cond.not (Cond.eq (pz_tm 11) (pz_tm j))) := by decide +kernel
theorem pz_hg6_12 : ∀ j, j < 25 → 12 < j → (flatC (Jvm.Cond.and given_1 narrow_1))[(pz_x6.getD 12 []).getD j 0]? = some (Cond.not (Cond.eq (pz_tm 12) (pz_tm j))) := by decide +kernel
theorem pz_hg6_13 : ∀ j, j < 25 → 13 < j → (flatC (Jvm.Cond.and given_1 narrow_1))[(pz_x6.getD 13 []).getD j 0]? = some (Cond.not (Cond.eq (pz_tm 13) (pz_tm j))) := by decide +kernel
theorem pz_hg6_14 : ∀ j, j < 25 → 14 < j → (flatC (Jvm.Cond.and given_1 narrow_1))[(pz_x6.getD 14 []).getD j 0]? = some (Cond.not (Cond.eq (pz_tm 14) (pz_tm j))) := by decide +kernel
theorem pz_hg6_15 : ∀ j, j < 25 → 15 < j → (flatC (Jvm.Cond.and given_1 narrow_1))[(pz_x6.getD 15 []).getD j 0]? = some (Cond.not (Cond.eq (pz_tm 15) (pz_tm j))) := by decide +kernel
theorem pz_hg6_16 : ∀ j, j < 25 → 16 < j → (flatC (Jvm.Cond.and given_1 narrow_1))[(pz_x6.getD 16 []).getD j 0]? = some (Cond.not (Cond.eq (pz_tm 16) (pz_tm j))) := by decide +kernel
theorem pz_hg6_17 : ∀ j, j < 25 → 17 < j → (flatC (Jvm.Cond.and given_1 narrow_1))[(pz_x6.getD 17 []).getD j 0]? = some (Cond.not (Cond.eq (pz_tm 17) (pz_tm j))) := by decide +kernel
theorem pz_hg6_18 : ∀ j, j < 25 → 18 < j → (flatC (Jvm.Cond.and given_1 narrow_1))[(pz_x6.getD 18 []).getD j 0]? = some (Cond.not (Cond.eq (pz_tm 18) (pz_tm j))) := by decide +kernel
theorem pz_hg6_19 : ∀ j, j < 25 → 19 < j → (flatC (Jvm.Cond.and given_1 narrow_1))[(pz_x6.getD 19 []).getD j 0]? = some (Cond.not (Cond.eq (pz_tm 19) (pz_tm j))) := by decide +kernel
theorem pz_hg6_20 : ∀ j, j < 25 → 20 < j → (flatC (Jvm.Cond.and given_1 narrow_1))[(pz_x6.getD 20 []).getD j 0]? = some (Cond.not (Cond.eq (pz_tm 20) (pz_tm j))) := by decide +kernel
theorem pz_hg6_21 : ∀ j, j < 25 → 21 < j → (flatC (Jvm.Cond.and given_1 narrow_1))[(pz_x6.getD 21 []).getD j 0]? = some (Cond.not (Cond.eq (pz_tm 21) (pz_tm j))) := by decide +kernel
theorem pz_hg6_22 : ∀ j, j < 25 → 22 < j → (flatC (Jvm.Cond.and given_1 narrow_1))[(pz_x6.getD 22 []).getD j 0]? = some (Cond.not (Cond.eq (pz_tm 22) (pz_tm j))) := by decide +kernel
theorem pz_hg6_23 : ∀ j, j < 25 → 23 < j → (flatC (Jvm.Cond.and given_1 narrow_1))[(pz_x6.getD 23 []).getD j 0]? = some (Cond.not (Cond.eq (pz_tm 23) (pz_tm j))) := by decide +kernel
theorem pz_hg6_24 : ∀ j, j < 25 → 24 < j → (flatC (Jvm.Cond.and given_1 narrow_1))[(pz_x6.getD 24 []).getD j 0]? = some (Cond.not (Cond.eq (pz_tm 24) (pz_tm j))) := by decide +kernel
theorem pz_hg6a : ∀ i, i < 25 → ∀ j, j < 25 → i < j → Cond.not (Cond.eq (pz_tm i) (pz_tm j)) ∈ flatC (Jvm.Cond.and given_1 narrow_1) := by
  intro i hi j hj hij
  match i, hi with
  | 0, _ => exact List.mem_of_getElem? (pz_hg6_0 j hj hij)
  | 1, _ => exact List.mem_of_getElem? (pz_hg6_1 j hj hij)
  | 2, _ => exact List.mem_of_getElem? (pz_hg6_2 j hj hij)
  | 3, _ => exact List.mem_of_getElem? (pz_hg6_3 j hj hij)
  | 4, _ => exact List.mem_of_getElem? (pz_hg6_4 j hj hij)
  | 5, _ => exact List.mem_of_getElem? (pz_hg6_5 j hj hij)
  | 6, _ => exact List.mem_of_getElem? (pz_hg6_6 j hj hij)
  | 7, _ => exact List.mem_of_getElem? (pz_hg6_7 j hj hij)
  | 8, _ => exact List.mem_of_getElem? (pz_hg6_8 j hj hij)
  | 9, _ => exact List.mem_of_getElem? (pz_hg6_9 j hj hij)
  | 10, _ => exact List.mem_of_getElem? (pz_hg6_10 j hj hij)
  | 11, _ => exact List.mem_of_getElem? (pz_hg6_11 j hj hij)
  | 12, _ => exact List.mem_of_getElem? (pz_hg6_12 j hj hij)
  | 13, _ => exact List.mem_of_getElem? (pz_hg6_13 j hj hij)
  | 14, _ => exact List.mem_of_getElem? (pz_hg6_14 j hj hij)
  | 15, _ => exact List.mem_of_getElem? (pz_hg6_15 j hj hij)
  | 16, _ => exact List.mem_of_getElem? (pz_hg6_16 j hj hij)
  | 17, _ => exact List.mem_of_getElem? (pz_hg6_17 j hj hij)
  | 18, _ => exact List.mem_of_getElem? (pz_hg6_18 j hj hij)
  | 19, _ => exact List.mem_of_getElem? (pz_hg6_19 j hj hij)
  | 20, _ => exact List.mem_of_getElem? (pz_hg6_20 j hj hij)
  | 21, _ => exact List.mem_of_getElem? (pz_hg6_21 j hj hij)
  | 22, _ => exact List.mem_of_getElem? (pz_hg6_22 j hj hij)
  | 23, _ => exact List.mem_of_getElem? (pz_hg6_23 j hj hij)
  | 24, _ => exact List.mem_of_getElem? (pz_hg6_24 j hj hij)
  | n + 25, h => exact absurd h (by omega)
theorem pz_hg6 : ∀ i, i < 25 → ∀ j, j < 25 → i = j ∨ Cond.not (Cond.eq (pz_tm i) (pz_tm j)) ∈ flatC (Jvm.Cond.and given_1 narrow_1) ∨ Cond.not (Cond.eq (pz_tm j) (pz_tm i)) ∈ flatC (Jvm.Cond.and given_1 narrow_1) := by
  intro i hi j hj
  rcases Nat.lt_trichotomy i j with h | h | h
  · exact Or.inr (Or.inl (pz_hg6a i hi j hj h))
  · exact Or.inl h
  · exact Or.inr (Or.inr (pz_hg6a j hj i hi h))
theorem pz_hg7 : ∀ i, i < 25 → Cond.stringRef (pz_ss.getD i ("", 0, "")).1 (pz_ss.getD i ("", 0, "")).2.1 (pz_ss.getD i ("", 0, "")).2.2 ∈ lw_tbl := by decide +kernel
theorem pz_len25 : ∀ i, i < 25 → pz_stl.getD i 0 < 2 ^ 31 := by decide +kernel
theorem pz_start {s : State} {b : Nat} {A : Nat → Prop} (hts : ∀ w ∈ lw_tbl, w.before #[Value.ref b] s = true) (hgv : (Jvm.Cond.and given_1 narrow_1).before #[Value.ref b] s = true) (hA : ∀ a : Nat, a < s.heap.size → ¬ A a) :
    ∃ adK adV : Nat → Nat, ∀ ad : Nat → Nat, (∀ i, i < 25 → ad (206 + i) = adK i) → pz_S ad adV A s s.heap := by
  have hs := flat_of_before _ hgv
  obtain ⟨adK, adV, h1, h2⟩ := vk_Sof (args := #[Value.ref b]) (s := s) (N := 25) (tm := pz_tm) (len := pz_stl) (byt := pz_sb) (A := A) pz_len25 (fun i hi => hs _ (pz_hg1 i hi)) (fun i hi => hs _ (pz_hg2 i hi)) (fun i hi => hs _ (pz_hg3 i hi)) (fun i hi => hs _ (pz_hg4 i hi)) (fun i hi j hj => hs _ (pz_hg5 i hi j hj))
    (fun i j hi hj hij => by
      rcases pz_hg6 i hi j hj with h | h | h
      · exact absurd h hij
      · exact Or.inl (hs _ h)
      · exact Or.inr (hs _ h)) hA
  refine ⟨adK, adV, fun ad had => ⟨⟨fun i hi => ?_, fun i j hi hj he => ?_⟩, fun i q hq => ?_, ⟨va_Zof (hts _ (by decide +kernel)) (hts _ (by decide +kernel)) (va_eqt (hs (.eq (.static "java/lang/String" "COMPACT_STRINGS" "Z") (.int 1)) (by decide +kernel))) hA, va_Zqof (hts _ (by decide +kernel)) (hts _ (by decide +kernel)) (hs _ (by decide +kernel)) hA⟩, va_Nw.of rfl (hts (.methodLinkNest RX1 35 yX11_within "TwelveChain") (by decide +kernel))⟩⟩
  · show va_O _ (ad (206 + i)) _ _ _ ∧ va_OF _ _ _ _ (ad (206 + i)) _ _ _ ∧ va_OF _ _ _ _ (ad (206 + i)) _ _ _ ∧ _
    rw [had i hi]
    exact h1.1 i hi
  · have he : ad (206 + i) = ad (206 + j) := he
    rw [had i hi, had j hj] at he
    exact h1.2 i j hi hj he
  · have hi : i < 25 := (List.getElem?_eq_some_iff.mp hq).1
    rw [had i hi]
    have e : q = pz_ss.getD i ("", 0, "") := by rw [List.getD_eq_getElem?_getD, hq]; rfl
    subst e
    have w := hts _ (pz_hg7 i hi)
    exact vk_R.of w (h2 i hi)
end
section
/-! THE CLAIM OUT OF ONE WALK OF THE LAW'S BODY. Your part is whole_start (and what it stands on); all else here is the same for every law, but numbers. -/
def R_law : String := "TwelveChainLaw"
def lw_P (b : Addr) (xs : List Int32) (args : Array Value) (s : State) : Prop := args = #[.ref b] ∧ s.IntsAt b xs ∧ xs.length ≤ 3072 ∧ (Jvm.Cond.and given_1 narrow_1).before args s = true
def lw_Q (_ : Array Value) (s : State) (o : Outcome) (t : State) : Prop := o = .returned (some (.int 1)) ∧ Framed s o t [] 600000 7302250
def lw_Z (below : List Frame) (a : Array Value) (s : State) : State → Prop := fun t => ∃ o, t.status = .running ∧ Ended t below o ∧ lw_Q a s o t
/-- the law's own end, with 1 on the stack, nothing written that was there before, its room as the claim has it -/
theorem lw_ret {p : Program} {l : Launch} {e : Env} {s : State} {m : MethodId} {below : List Frame} {meth : Method} {c : Code} {b : Nat} (hx : p.tables.exec = Jvm.exec) (hb : c.code = code) (hr : meth.sig.returnType = ret) (hlocks : meth.locks = false) {pc : Nat} {H : Heap} {ls : Array Slot} (hdg : decode code pc = .ok (.ireturn, 1)) : W p l e room_1 s m #[Value.ref b] below meth c H [] 600000 7302250 (lw_Z below #[Value.ref b] s) (F0 m pc ls [.int 1]) := by
  intro T hT X
  obtain ⟨fs, hret, hrun, hended, hW, hframe⟩ := X.leave (v := some (.int 1)) (hlocks := hlocks) (fun h => by rw [hr] at h; cases h)
  have hmeth' : T.vm.method? m = some meth := X.method'
  refine ⟨T.setFrames fs, ?_, .returned (some (.int 1)), hrun, hended, rfl, ⟨_, rfl⟩, hW, hframe⟩
  jvm_step X.here [X.here.top, hx, hb, hdg, hmeth', hr, ret, narrow_b1]
  (try refine ⟨rfl, ?_⟩); (try refine ⟨rfl, ?_⟩)
  first | (intro acts; rw [hret _ acts rfl rfl rfl]) | rw [hret _ _ rfl rfl rfl]
  exact Steps.refl _
/-- what holds at the law's entry: the machine, the code, the tables' words (any of lw_tbl by 'hts w (by decide +kernel)'), the script of L ints xs at the cell b, what the Statement gives of the start (any of its parts by flat_of_before) -/
def lw_At (p : Program) (s : State) (m : MethodId) (meth : Method) (c : Code) (b L : Nat) (xs : Nat → Int32) : Prop :=
  p.tables.exec = Jvm.exec ∧ c.code = code ∧ meth.sig.returnType = ret ∧ c.maxLocals = 4 ∧ s.vm.findClass R_law = some m.cls ∧ (∀ w ∈ lw_tbl, w.before #[Value.ref b] s = true) ∧ va_X b L xs s s.heap ∧ b < s.heap.size ∧ meth.locks = false ∧ (Jvm.Cond.and given_1 narrow_1).before #[Value.ref b] s = true
end
