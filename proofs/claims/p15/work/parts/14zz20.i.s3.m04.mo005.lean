section
theorem pz_RZ_book {M : pz_M} {i w v v' : Int} (hI : pz_ic M) (h : pz_RZ M) (q : v = if (0 ≤ i ∧ i < M 71 7) ∧ 0 ≤ w ∧ w ≤ 3 then M 45 (4 * i.toNat + w.toNat) else -1) (q' : v' = if (0 ≤ i ∧ i < M 60 3) ∧ 0 ≤ w ∧ w ≤ 3 then M 60 (241 + (4 * i.toNat + w.toNat)) else -1) : v = v' := by
  obtain ⟨h1, ⟨h2, h3, h4⟩, -⟩ := h.2
  have e := h2.2.2.2.2.1
  have b := h4.2.1
  by_cases c : (0 ≤ i ∧ i < M 60 3) ∧ 0 ≤ w ∧ w ≤ 3
  · rw [if_pos c] at q'
    rw [if_pos (by first | decide | omega)] at q
    rw [q, q']
    exact h3 _ (by first | decide | omega)
  · rw [if_neg c] at q'
    rw [if_neg (by first | decide | omega)] at q
    exact q.trans q'.symm
end
