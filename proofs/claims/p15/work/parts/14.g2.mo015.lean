section
def pz_rsc (b j : Nat) : Prop := (j = 3 ∧ (b = 71 ∨ (73 ≤ b ∧ b < 80) ∨ (89 ≤ b ∧ b < 101) ∨ (115 ≤ b ∧ b < 127) ∨ (128 ≤ b ∧ b < 206))) ∨ ((b = 60 ∨ b = 61) ∧ (j = 88 ∨ (93 ≤ j ∧ j < 105))) ∨ (b = 0 ∧ j = 13) ∨ (b = 1 ∧ j = 5) ∨ b = 3
theorem pz_RS_cg {M M' : pz_M} (h : pz_RS M) (e : ∀ b j, pz_rsc b j → ¬ (b = 3 ∧ j = 2) → M' b j = M b j) (e2 : M' 3 2 = M 3 2 ∨ M' 3 2 = 0) : pz_RS M' := by
  obtain ⟨h1, h2, h3, h4, h5, h6⟩ := h
  refine ⟨?_, fun i hi => ?_, ?_, fun i hi => ?_, ?_, ?_⟩
  · rw [e 71 3 (by unfold pz_rsc; first | decide | omega) (by first | decide | omega), e 60 88 (by unfold pz_rsc; first | decide | omega) (by first | decide | omega)]; exact h1
  · rw [e (89 + i) 3 (by unfold pz_rsc; first | decide | omega) (by first | decide | omega), e 60 (93 + i) (by unfold pz_rsc; first | decide | omega) (by first | decide | omega)]; exact h2 i hi
  · rw [e 73 3 (by unfold pz_rsc; first | decide | omega) (by first | decide | omega), e 61 88 (by unfold pz_rsc; first | decide | omega) (by first | decide | omega)]; exact h3
  · rw [e (115 + i) 3 (by unfold pz_rsc; first | decide | omega) (by first | decide | omega), e 61 (93 + i) (by unfold pz_rsc; first | decide | omega) (by first | decide | omega)]; exact h4 i hi
  · rw [e 0 13 (by unfold pz_rsc; first | decide | omega) (by first | decide | omega), e 1 5 (by unfold pz_rsc; first | decide | omega) (by first | decide | omega)]; exact h5
  · rcases e2 with e2 | e2
    · refine pz_kep_cg (fun b j q => ?_) h6
      by_cases y : b = 3 ∧ j = 2
      · rw [y.1, y.2]
        exact e2
      · exact e b j (by unfold pz_rsc; first | decide | omega) y
    · exact ⟨by omega, fun t ht => absurd ht (by first | decide | omega)⟩
theorem pz_RT_feed {M M1 M2 : pz_M} {p q w s u v v' : Int} (hI : pz_ic M) (hR : pz_RV M) (h : (M 4 1 + 20 ≤ 400 ∧ v = M 4 1 + 20 ∧ M1 4 1 = M 4 1 + 20 ∧ pz_fb M M1 p q w s u) ∨ (¬ M 4 1 + 20 ≤ 400 ∧ v = -1 ∧ M1 = M)) (z : pq_pr pq_Pf M M1)
    (h' : (M1 1 16 + 20 ≤ 400 ∧ v' = M1 1 16 + 20 ∧ M2 1 16 = M1 1 16 + 20 ∧ pz_fm M1 M2 20 p q w s u) ∨ (¬ M1 1 16 + 20 ≤ 400 ∧ v' = -1 ∧ M2 = M1)) (z' : pz_rl pz_QF M1 M2) : v = v' ∧ pz_RV M2 := by
  have i4 := hI.2.2.2.2.1
  have a1 : M1 1 16 = M 1 16 := z.2 1 16 (by unfold pq_Pf; first | decide | omega)
  have a4 : M2 4 1 = M1 4 1 := z'.2 4 1 (by unfold pz_QF; first | decide | omega)
  have e : ∀ b j, ¬ pq_Pf b j → ¬ pz_QF b j → M2 b j = M b j := fun b j y y2 => (z'.2 b j y2).trans (z.2 b j y)
  have r2 : pz_RS M2 := pz_RS_cg hR.1 (fun b j y _ => e b j (by unfold pz_rsc at y; unfold pq_Pf; omega) (by unfold pz_rsc at y; unfold pz_QF; omega)) (Or.inl (e 3 2 (by unfold pq_Pf; first | decide | omega) (by unfold pz_QF; first | decide | omega)))
  obtain ⟨-, ⟨t1, t2⟩, f1, f2⟩ := id hR
  rcases h with ⟨b1, b2, b3, b4, b5⟩ | ⟨b1, b2, b3⟩
  · rcases h' with ⟨c1, c2, c3, c4, c5⟩ | ⟨c1, c2, c3⟩
    · refine ⟨by omega, r2, ⟨by omega, fun k hk => ?_⟩, ?_, ?_⟩
      · rw [z'.2 48 k (by unfold pz_QF; first | decide | omega)]
        rcases Int.lt_or_le (k : Int) (M 4 1) with y | y
        · rw [b4 k y, c4 k (by first | decide | omega), z.2 67 k (by unfold pq_Pf; first | decide | omega)]
          exact t2 k y
        · have w1 := b5 (k - (M 4 1).toNat) (by first | decide | omega)
          have w2 := c5 (k - (M 4 1).toNat) (by first | decide | omega)
          rw [show (M 4 1).toNat + (k - (M 4 1).toNat) = k by omega] at w1
          rw [show (M1 1 16).toNat + (k - (M 4 1).toNat) = k by omega] at w2
          have w3 := pz_by8 (pz_sr (pz_sel (k - (M 4 1).toNat) p q w s u) (24 - 8 * (((k - (M 4 1).toNat) % 4 : Nat) : Int)))
          rw [w1, w2]
          exact ⟨⟨w3.1, w3.2.1⟩, w3.2.2⟩
      · rw [e 5 3 (by unfold pq_Pf; first | decide | omega) (by unfold pz_QF; first | decide | omega), e 1 23 (by unfold pq_Pf; first | decide | omega) (by unfold pz_QF; first | decide | omega)]
        exact f1
      · rw [e 5 4 (by unfold pq_Pf; first | decide | omega) (by unfold pz_QF; first | decide | omega), e 1 25 (by unfold pq_Pf; first | decide | omega) (by unfold pz_QF; first | decide | omega)]
        exact f2
    · omega
  · rcases h' with ⟨c1, c2, c3, c4, c5⟩ | ⟨c1, c2, c3⟩
    · omega
    · rw [c3, b3]
      exact ⟨by omega, hR⟩
end
