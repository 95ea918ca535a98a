section
theorem pz_QI_sq {M M' : pz_M} (h : pz_rl pz_QI M M') : pz_sq M M' := ⟨h.1, fun b j q => h.2 b j (by unfold pz_QI; unfold pz_mid at q; omega), h.2 1 16 (by unfold pz_QI; first | decide | omega)⟩
def pz_tpc (b j : Nat) : Prop := (b = 4 ∧ j = 1) ∨ b = 48 ∨ (b = 5 ∧ (j = 3 ∨ j = 4)) ∨ (b = 1 ∧ (j = 16 ∨ j = 23 ∨ j = 25)) ∨ b = 67
def pz_TP (M : pz_M) : Prop := M 4 1 = M 1 16 ∧ ∀ k : Nat, (k : Int) < M 4 1 → (-128 ≤ M 48 k ∧ M 48 k ≤ 127) ∧ M 67 k = M 48 k % 256
def pz_FT (M : pz_M) : Prop := M 5 3 = M 1 23 ∧ M 5 4 = M 1 25
def pz_RV (M : pz_M) : Prop := pz_RS M ∧ pz_TP M ∧ pz_FT M
theorem pz_RT_of {M M2 : pz_M} (r : pz_RS M2) (h : pz_RV M) (e : ∀ b j, pz_tpc b j → M2 b j = M b j) : pz_RV M2 := by
  obtain ⟨-, ⟨t1, t2⟩, f1, f2⟩ := h
  refine ⟨r, ⟨?_, fun k hk => ?_⟩, ?_, ?_⟩
  · rw [e 4 1 (by unfold pz_tpc; first | decide | omega), e 1 16 (by unfold pz_tpc; first | decide | omega)]
    exact t1
  · rw [e 4 1 (by unfold pz_tpc; first | decide | omega)] at hk
    rw [e 48 k (by unfold pz_tpc; first | decide | omega), e 67 k (by unfold pz_tpc; first | decide | omega)]
    exact t2 k hk
  · rw [e 5 3 (by unfold pz_tpc; first | decide | omega), e 1 23 (by unfold pz_tpc; first | decide | omega)]
    exact f1
  · rw [e 5 4 (by unfold pz_tpc; first | decide | omega), e 1 25 (by unfold pz_tpc; first | decide | omega)]
    exact f2
theorem pz_RT_sW {M M' : pz_M} (hI : pz_ic M) (h : pz_RV M) (hs : pz_sW M M') : pz_RV M' :=
  pz_RT_of (pz_RS_sx hI h.1 hs.1) h (fun b j q => by
    by_cases q4 : b = 4
    · have j1 : j = 1 := by unfold pz_tpc at q; omega
      rw [q4, j1]
      exact hs.2
    · exact hs.1.2.1 b j (by unfold pz_tpc at q; unfold pz_fy pz_mid; omega))
theorem pz_RT_sk {M M' : pz_M} (h : pz_RV M) (hs : pz_sk M M') : pz_RV M' :=
  pz_RT_of (pz_RS_sn h.1 hs.1) h (fun b j q => by
    by_cases q4 : b = 1 ∧ j = 16
    · rw [q4.1, q4.2]
      exact hs.2
    · exact hs.1.2 b j (by unfold pz_tpc at q; unfold pz_mn pz_mid; omega))
theorem pz_RT_link {M M1 M2 : pz_M} {p q w s v v' : Int} {C : Prop} (hI : pz_ic M) (hR : pz_RV M) (h : ((M 71 3 < 12 ∧ C) ∧ v = M 71 3 ∧ M1 = pz_lkf p q w s M) ∨ (¬ (M 71 3 < 12 ∧ C) ∧ v = -1 ∧ M1 = M)) (h' : ((M1 60 88 < 12 ∧ C) ∧ v' = M1 60 88 ∧ M2 = pz_lkm p q w s M1) ∨ (¬ (M1 60 88 < 12 ∧ C) ∧ v' = -1 ∧ M2 = M1)) : v = v' ∧ pz_RV M2 := by
  obtain ⟨e, r⟩ := pz_RS_link hI hR.1 h h'
  refine ⟨e, pz_RT_of r hR (fun b j y => ?_)⟩
  unfold pz_tpc at y
  have e1 : M1 b j = M b j := by
    rcases h with ⟨-, -, h⟩ | ⟨-, -, h⟩
    · rw [h]
      exact pz_lkf_o (by first | decide | omega)
    · rw [h]
  rcases h' with ⟨-, -, h'⟩ | ⟨-, -, h'⟩
  · rw [h', pz_lkm_o (by first | decide | omega) (by first | decide | omega)]
    exact e1
  · rw [h']
    exact e1
theorem pz_RT_set {M M1 M2 : pz_M} {w i n v v' : Int} {C : Prop} (hC : C → 0 ≤ w ∧ w ≤ 4) (hI : pz_ic M) (hR : pz_RV M) (h : (((0 ≤ i ∧ i < M 71 3) ∧ C) ∧ v = 1 ∧ M1 = pz_u (pz_u M (89 + i.toNat) w.toNat n) 3 2 0) ∨ (¬ ((0 ≤ i ∧ i < M 71 3) ∧ C) ∧ v = 0 ∧ M1 = M)) (h' : (((0 ≤ i ∧ i < M1 60 88) ∧ C) ∧ v' = 1 ∧ M2 = pz_u (pz_u M1 60 (pz_bs w + i).toNat n) 1 4 0) ∨ (¬ ((0 ≤ i ∧ i < M1 60 88) ∧ C) ∧ v' = 0 ∧ M2 = M1)) : v = v' ∧ pz_RV M2 := by
  obtain ⟨e, r⟩ := pz_RS_set hC hI hR.1 h h'
  refine ⟨e, pz_RT_of r hR (fun b j y => ?_)⟩
  unfold pz_tpc at y
  have e1 : M1 b j = M b j := by
    rcases h with ⟨-, -, h⟩ | ⟨-, -, h⟩
    · rw [h, pz_una (by first | decide | omega), pz_una (by first | decide | omega)]
    · rw [h]
  rcases h' with ⟨-, -, h'⟩ | ⟨-, -, h'⟩
  · rw [h', pz_une (by first | decide | omega), pz_una (by first | decide | omega)]
    exact e1
  · rw [h']
    exact e1
end
