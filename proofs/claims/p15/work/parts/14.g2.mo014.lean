section
theorem pz_xi_tp {c o : Nat} {M M1 : pz_M} {b j : Nat} (hc : c = 71 ∨ c = 73) (h : pz_xi c o M M1) (q : pz_tpc b j) : M1 b j = M b j := by
  by_cases q4 : b = 4
  · have j1 : j = 1 := by unfold pz_tpc at q; omega
    rw [q4, j1]
    exact h.2.2.1
  · unfold pz_tpc at q
    rw [h.2.1 b j (by unfold pz_mq0 pz_ko pz_mid; first | decide | omega) (by first | decide | omega) (by first | decide | omega)]
    exact pz_tf_o (by first | decide | omega) (by unfold pz_lb; first | decide | omega)
theorem pz_RT_image {M M1 M2 : pz_M} {t v v' : Int} (hR : pz_RV M) (h : (t = 0 ∧ M 0 13 = 0 ∧ v = 0 ∧ M1 = M) ∨ (t ≠ 0 ∧ v = 1 ∧ M1 0 13 = 1 ∧ pz_xi 73 71 M M1) ∨ (t = 0 ∧ M 0 13 ≠ 0 ∧ v = 1 ∧ M1 0 13 = M 0 13 ∧ M1 3 2 = 0 ∧ pz_xi 71 73 M M1))
    (h' : (t = 0 ∧ M1 1 5 = 0 ∧ v' = 0 ∧ M2 = M1) ∨ ((t ≠ 0 ∨ M1 1 5 ≠ 0) ∧ v' = 1 ∧ M2 1 5 = 1 ∧ ((t = 0 → ∀ k : Nat, (k : Int) < 1725 → M2 60 k = M1 61 k) ∧ (t = 0 → ∀ k, M2 61 k = M1 61 k) ∧ (t ≠ 0 → ∀ k : Nat, (k : Int) < 1725 → M2 61 k = M1 60 k) ∧ (t ≠ 0 → ∀ k, M2 60 k = M1 60 k)))) (hq : pz_rl pz_QI M1 M2) : v = v' ∧ pz_RV M2 := by
  obtain ⟨e, r⟩ := pz_RS_image hR.1 h h' (pz_QI_sq hq)
  refine ⟨e, pz_RT_of r hR (fun b j y => ?_)⟩
  rw [hq.2 b j (by unfold pz_tpc at y; unfold pz_QI; omega)]
  rcases h with ⟨-, -, -, h⟩ | ⟨-, -, -, h⟩ | ⟨-, -, -, -, -, h⟩
  · rw [h]
  · exact pz_xi_tp (Or.inr rfl) h y
  · exact pz_xi_tp (Or.inl rfl) h y
theorem pz_RT_end {M M1 M2 : pz_M} {n v v' : Int} (hI : pz_ic M) (hR : pz_RV M) (h : if 0 ≤ n ∧ n ≤ M 4 1 then v = 1 ∧ M1 4 1 = n else v = 0 ∧ M1 4 1 = M 4 1) (z : pz_sy M M1) (h' : if 0 ≤ n ∧ n ≤ M1 1 16 then v' = 1 ∧ M2 1 16 = n else v' = 0 ∧ M2 1 16 = M1 1 16) (z' : pz_sn M1 M2) : v = v' ∧ pz_RV M2 := by
  obtain ⟨r, ⟨t1, t2⟩, f1, f2⟩ := hR
  have e : ∀ b j, pz_tpc b j → ¬ (b = 4 ∧ j = 1) → ¬ (b = 1 ∧ j = 16) → M2 b j = M b j := fun b j q q1 q2 => (z'.2 b j (by unfold pz_tpc at q; unfold pz_mn pz_mid; omega)).trans (z.2 b j (by unfold pz_tpc at q; unfold pz_md pz_kx pz_mid; omega))
  have r2 : pz_RS M2 := pz_RS_sn (pz_RS_sx hI r z.sx) z'
  have a : M2 4 1 = M1 4 1 := z'.2 4 1 (by unfold pz_mn pz_mid; first | decide | omega)
  have a2 : M1 1 16 = M 1 16 := z.2 1 16 (by unfold pz_md pz_kx pz_mid; first | decide | omega)
  have len : M2 4 1 = M2 1 16 ∧ M2 4 1 ≤ M 4 1 ∧ v = v' := by
    clear e r r2 t2 z z' f1 f2 hI
    (split at h <;> split at h') <;> omega
  refine ⟨len.2.2, r2, ⟨len.1, fun k hk => ?_⟩, ?_, ?_⟩
  · rw [e 48 k (by unfold pz_tpc; first | decide | omega) (by first | decide | omega) (by first | decide | omega), e 67 k (by unfold pz_tpc; first | decide | omega) (by first | decide | omega) (by first | decide | omega)]
    exact t2 k (by first | decide | omega)
  · rw [e 5 3 (by unfold pz_tpc; first | decide | omega) (by first | decide | omega) (by first | decide | omega), e 1 23 (by unfold pz_tpc; first | decide | omega) (by first | decide | omega) (by first | decide | omega)]
    exact f1
  · rw [e 5 4 (by unfold pz_tpc; first | decide | omega) (by first | decide | omega) (by first | decide | omega), e 1 25 (by unfold pz_tpc; first | decide | omega) (by first | decide | omega) (by first | decide | omega)]
    exact f2
end
