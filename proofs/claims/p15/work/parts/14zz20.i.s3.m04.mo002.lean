section
theorem pz_RZ_set {M M1 M2 : pz_M} {w i n v v' : Int} {C : Prop} (hC : C → (w = 0 ∧ 1 ≤ n ∧ n ≤ 999) ∨ (w = 1 ∧ -9999 ≤ n ∧ n ≤ 9999) ∨ (w = 2 ∧ -999 ≤ n ∧ n ≤ 999) ∨ (w = 3 ∧ 0 ≤ n ∧ n ≤ 9) ∨ (w = 4 ∧ 0 ≤ n ∧ n ≤ 1)) (hI : pz_ic M) (h : pz_RZ M) (q1 : (((0 ≤ i ∧ i < M 71 3) ∧ C) ∧ v = 1 ∧ M1 = pz_u (pz_u M (89 + i.toNat) w.toNat n) 3 2 0) ∨ (¬ ((0 ≤ i ∧ i < M 71 3) ∧ C) ∧ v = 0 ∧ M1 = M)) (q2 : (((0 ≤ i ∧ i < M1 60 88) ∧ C) ∧ v' = 1 ∧ M2 = pz_u (pz_u M1 60 (pz_bs w + i).toNat n) 1 4 0) ∨ (¬ ((0 ≤ i ∧ i < M1 60 88) ∧ C) ∧ v' = 0 ∧ M2 = M1)) : v = v' ∧ pz_RZ M2 := by
  obtain ⟨e, r⟩ := pz_RX_set (fun h => by have := hC h; omega) hI h.1 q1 q2
  refine ⟨e, r, ?_⟩
  obtain ⟨h1, ⟨h2, h3, h4⟩, h5, -, h8⟩ := id h.2
  have i1 := hI.1 71 (by first | decide | omega) (by first | decide | omega)
  have n9 := h2.1
  rcases q1 with ⟨⟨a1, a2⟩, -, a3⟩ | ⟨a1, -, a3⟩
  · have w60 : M1 60 = M 60 := funext fun j => by
      rw [a3, pz_una (by decide), pz_una (by first | decide | omega)]
    rw [w60] at q2
    rcases q2 with ⟨-, -, b3⟩ | ⟨b1, -, b3⟩
    · have c := hC a2
      obtain ⟨f, hf, hw, hb⟩ : ∃ f : Nat, f < 5 ∧ w.toNat = f ∧ (pz_bs w + i).toNat = sd_fo f + i.toNat := by
        have hw : w = 0 ∨ w = 1 ∨ w = 2 ∨ w = 3 ∨ w = 4 := by omega
        rcases hw with rfl | rfl | rfl | rfl | rfl
        · exact ⟨0, by decide, rfl, by show (4 + i).toNat = 4 + i.toNat; omega⟩
        · exact ⟨1, by decide, rfl, by show (16 + i).toNat = 16 + i.toNat; omega⟩
        · exact ⟨2, by decide, rfl, by show (28 + i).toNat = 28 + i.toNat; omega⟩
        · exact ⟨3, by decide, rfl, by show (93 + i).toNat = 93 + i.toNat; omega⟩
        · exact ⟨4, by decide, rfl, by show (40 + i).toNat = 40 + i.toNat; omega⟩
      have bf := sd_fo_b (f := f) (i := i.toNat) (by first | decide | omega) (by first | decide | omega)
      have bk : ∀ f, f < 8 → sd_fo f + 12 ≤ 88 ∨ 93 ≤ sd_fo f := by decide
      have bf2 := bk f (by first | decide | omega)
      have E : M2 60 = sd_u (M 60) (sd_fo f + i.toNat) n := by
        rw [b3, sd_uo (by decide), sd_um, w60, hb]
      rw [hw] at a3
      have ok : sd_okv (M 60) f i.toNat n := by
        unfold sd_okv
        omega
      have s1 : sd_se (pz_u M (pz_lb 71 + i.toNat) f n) 71 (sd_u (M 60) (sd_fo f + i.toNat) n) := sd_se_w (by first | decide | omega) h2 (by first | decide | omega) (by first | decide | omega) (by first | decide | omega)
      have wf := sd_wf_1 (f := f) (v := n) h4 (by first | decide | omega) (show ((i.toNat : Nat) : Int) < M 60 88 by omega) ok
      have o : ∀ b j : Nat, b ≠ 60 → ¬ (b = 1 ∧ j = 4) → M2 b j = M1 b j := fun b j y1 y2 => by
        rw [b3, pz_une y2, pz_una y1]
      have o1 : ∀ b j : Nat, b ≠ 3 → b < 89 ∨ 101 ≤ b → M1 b j = M b j := fun b j y1 y2 => by
        rw [a3, pz_una y1, pz_una (by first | decide | omega)]
      refine ⟨?_, ⟨?_, ?_, by rw [E]; exact wf⟩, sd_LQ_cg h5 (fun b j y => (o b j (by unfold pz_xcl at y; first | decide | omega) (by unfold pz_xcl at y; first | decide | omega)).trans (o1 b j (by unfold pz_xcl at y; first | decide | omega) (by unfold pz_xcl at y; first | decide | omega))) (fun j y => ?_), ⟨[], sd_ck_0 ?_, sd_mq_0 ?_⟩, sd_im_cg h8 (fun b j y => (o b j (by first | decide | omega) (by first | decide | omega)).trans (o1 b j (by first | decide | omega) (by first | decide | omega)))⟩
      · rw [o 71 0 (by first | decide | omega) (by first | decide | omega), o 72 0 (by first | decide | omega) (by first | decide | omega), o1 71 0 (by first | decide | omega) (by first | decide | omega), o1 72 0 (by first | decide | omega) (by first | decide | omega)]
        exact h1
      · rw [E]
        refine sd_se_cg s1 (fun b j y => ?_) (by rw [sd_un (by first | decide | omega)]; omega)
        rw [o b j (by unfold pz_lb at y; first | decide | omega) (by unfold pz_lb at y; first | decide | omega), a3, pz_una (by unfold pz_lb at y; first | decide | omega)]
        rfl
      · intro k hk
        rw [E, o 45 k (by first | decide | omega) (by first | decide | omega), o1 45 k (by first | decide | omega) (by first | decide | omega), sd_un (by first | decide | omega)]
        exact h3 k hk
      · rw [E]
        exact sd_un (by unfold pz_xv at y; first | decide | omega)
      · rw [o 3 2 (by first | decide | omega) (by first | decide | omega), a3]
        exact pz_uu
      · rw [b3]
        exact pz_uu
    · exact absurd ⟨by omega, a2⟩ b1
  · rcases q2 with ⟨⟨b1, b2⟩, -, b3⟩ | ⟨b1, -, b3⟩
    · rw [a3] at b1
      exact absurd ⟨by omega, b2⟩ a1
    · rw [b3, a3]
      exact h.2
/-! TEXT, IMAGE -/
end
