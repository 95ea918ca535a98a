section
theorem pz_RT_text {M M1 M2 : pz_M} {k v v' : Int} (hI : pz_ic M) (hR : pz_RV M) (h : pq_te k (M 71 3) M M1 v ∧ M1 4 1 = 0 ∧ (∀ j : Nat, j ≠ 2 → M1 3 j = M 3 j) ∧ (M1 3 2 = M 3 2 ∨ M1 3 2 = 0)) (z : pq_pr pq_Pt M M1) (h' : pq_tx k M1 M2 v' ∧ M2 1 16 = 0) (z' : pz_rl pz_QT M1 M2) : v = v' ∧ pz_RV M2 := by
  obtain ⟨a1, a2, a3, -⟩ := pz_RT_cmp hI hR h.1 z h'.1
  have k2 : M2 3 2 = M1 3 2 := z'.2 3 2 (by unfold pz_QT; first | decide | omega)
  have r2 : pz_RS M2 := pz_RS_cg hR.1 (fun b j y y2 => (z'.2 b j (by unfold pz_rsc at y; unfold pz_QT; omega)).trans (z.2 b j (by unfold pz_rsc at y; unfold pq_Pt; omega))) (by rw [k2]; exact h.2.2.2)
  have f4 : M2 4 1 = M1 4 1 := z'.2 4 1 (by unfold pz_QT; first | decide | omega)
  have f53 : M2 5 3 = M1 5 3 := z'.2 5 3 (by unfold pz_QT; first | decide | omega)
  have f54 : M2 5 4 = M1 5 4 := z'.2 5 4 (by unfold pz_QT; first | decide | omega)
  have h41 := h.2.1
  have h16 := h'.2
  exact ⟨a1, r2, ⟨by omega, fun i hi => absurd hi (by first | decide | omega)⟩, by omega, by omega⟩
theorem pz_RT_fault {M : pz_M} {i v v' : Int} (hR : pz_RV M) (h : (i = 0 → v = M 5 3) ∧ (i = 1 → v = M 5 4) ∧ (¬ (i = 0 ∨ i = 1) → v = -1)) (h' : (i = 0 → v' = M 1 23) ∧ (i = 1 → v' = M 1 25) ∧ (¬ (i = 0 ∨ i = 1) → v' = -1)) : v = v' := by
  obtain ⟨f1, f2⟩ := hR.2.2
  omega
end
