section
theorem pz_agr_c {c : Nat} {T X T1 X1 T2 X2 : Nat → Int} (h : pz_agr c T X T1 X1) (h' : pz_agr c T X T2 X2) : pz_agr c T1 X1 T2 X2 :=
  ⟨((h.2 c (Nat.le_refl _)).1).trans h.1, fun k hk => ⟨((h'.2 k hk).1).trans ((h.2 k hk).1).symm, fun t => by
    have t1 : T k = 100 := ((h.2 k hk).1).symm.trans t
    rw [(h'.2 k hk).2 t1, (h.2 k hk).2 t1]⟩⟩
theorem pz_TP_byt {M : pz_M} (hI : pz_ic M) (h : pz_TP M) : pz_byt (M 48) (M 67) (M 4 1).toNat := by
  have i4 := hI.2.2.2.2.1
  exact fun k hk => ⟨(h.2 k (by first | decide | omega)).1.1, (h.2 k (by first | decide | omega)).1.2, (h.2 k (by first | decide | omega)).2⟩
/-- what both have told -/
def pz_cmr (k : Int) (M M1 M2 : pz_M) : Prop := (∃ ls : List pz_lne, k = 0 ∧ (∃ T X : Nat → Int, pz_gl T X 0 0 (.ok ls)) ∧ pq_lt ls M1 ∧ (∀ b j : Nat, (13 ≤ b ∧ b ≤ 15) ∨ (20 ≤ b ∧ b ≤ 22) → M1 b j = M b j) ∧ pq_wlw ls (M2 60) ∧ ∀ j : Nat, ¬ pq_wf 0 j → M2 60 j = M1 60 j) ∨
  (∃ ls : List (List Int), (1 ≤ k ∧ k ≤ 3) ∧ pq_ok (M 71 3) k ls ∧ pq_rt k.toNat ls M1 ∧ (∀ b j : Nat, pq_xc b → b ≠ 12 + k.toNat → b ≠ 19 + k.toNat → M1 b j = M b j) ∧ pq_w3 k ls (M2 60) ∧ ∀ j : Nat, ¬ pq_wf k j → M2 60 j = M1 60 j) ∨ ((∀ b j : Nat, pq_xc b → M1 b j = M b j) ∧ ∀ j : Nat, M2 60 j = M1 60 j)
theorem pz_RT_cmp {M M1 M2 : pz_M} {k v v' : Int} (hI : pz_ic M) (hR : pz_RV M) (h : pq_te k (M 71 3) M M1 v) (z : pq_pr pq_Pt M M1) (h' : pq_tx k M1 M2 v') : v = v' ∧ M1 5 3 = M2 1 23 ∧ M1 5 4 = M2 1 25 ∧ pz_cmr k M M1 M2 := by
  have i4 := hI.2.2.2.2.1
  have by9 := pz_TP_byt hI hR.2.1
  have e67 : M1 67 = M 67 := funext fun j => z.2 67 j (by unfold pq_Pt; first | decide | omega)
  have e16 : M1 1 16 = M 4 1 := (z.2 1 16 (by unfold pq_Pt; first | decide | omega)).trans hR.2.1.1.symm
  have e88 : M1 60 88 = M 71 3 := (z.2 60 88 (by unfold pq_Pt; first | decide | omega)).trans hR.1.1.symm
  have tT : pq_TM M1 = pz_T (M 67) (M 4 1).toNat := by
    unfold pq_TM
    rw [e67, e16]
  have tX : pq_XM M1 = pz_XV (M 67) (M 4 1).toNat := by
    unfold pq_XM
    rw [e67, e16]
  have tP : ∀ j, pq_PM M1 j = (pz_tp (M 48) (M 4 1).toNat j : Int) := fun j => by
    unfold pq_PM
    rw [e67, e16, pz_tp_cg by9 j]
  have tb : pz_tb M1 := fun i hi => by
    rw [e67, (hR.2.1.2 i (by rw [← e16]; exact hi)).2]
    exact Int.emod_nonneg _ (by decide)
  have ag : ∀ c, pz_T (M 48) (M 4 1).toNat c = 101 → pz_agr c (pz_T (M 48) (M 4 1).toNat) (pz_XV (M 48) (M 4 1).toNat) (pq_TM M1) (pq_XM M1) := fun c hc => ⟨hc, fun i _ => by
    rw [tT, tX]
    exact ⟨(pz_T_cg by9 i).symm, fun y => (pz_X_cg by9 y).symm⟩⟩
  obtain ⟨x1, x2, x3⟩ := h' tb
  obtain ⟨h1, h2, h3⟩ := h
  by_cases k0 : k = 0
  · obtain ⟨c, T, X, a, b⟩ := h1 k0
    have A := pz_agr_c a (ag c a.1)
    rcases b with ⟨ls, b1, b2, b3, b4, b5, b6⟩ | ⟨f, j, b1, b2, b3, b4, b5⟩
    · have D := pz_gl_det A b1 (Nat.zero_le _)
      rcases x1 k0 with ⟨ls', y1, y2, y3, y4, y5, y6⟩ | ⟨f', j', y1, y2, y3, y4, -⟩
      · have d := Sum.inl.inj (D _ y1)
        subst d
        subst k0
        exact ⟨by omega, by omega, by omega, Or.inl ⟨_, rfl, ⟨_, _, b1⟩, b5, b6, y5, y6⟩⟩
      · have d := D _ y1
        cases d
    · have D := pz_gl_det A b1 (Nat.zero_le _)
      rcases x1 k0 with ⟨ls', y1, y2, y3, y4, -⟩ | ⟨f', j', y1, y2, y3, y4, y5⟩
      · have d := D _ y1
        cases d
      · obtain ⟨d, d2⟩ := Prod.mk.inj (Sum.inr.inj (D _ y1))
        subst d
        subst d2
        rw [tP] at y4
        exact ⟨by omega, by omega, by omega, Or.inr (Or.inr ⟨b5, y5⟩)⟩
  · by_cases k3 : 1 ≤ k ∧ k ≤ 3
    · obtain ⟨c, T, X, a, b⟩ := h2 k3
      have A := pz_agr_c a (ag c a.1)
      have D := pz_gw_det (k := k) (n := M 71 3) A 16 0 (Nat.zero_le _)
      rw [← e88] at D
      rcases b with ⟨ls, b1, b2, b0, b3, b4, b5, b6⟩ | ⟨f, j, b1, b2, b3, b4, b5⟩
      · have ok := pq_ok_of k3 b1
        rw [← e88] at b1
        rw [b1] at D
        rcases x2 k3 with ⟨ls', y1, y2, y3, y4, y5, y6⟩ | ⟨f', j', y1, y2, y3, y4, -⟩
        · rw [y1] at D
          have d := Sum.inl.inj D
          subst d
          exact ⟨by omega, by omega, by omega, Or.inr (Or.inl ⟨_, k3, ok, b5, b6, y5, y6⟩)⟩
        · rw [y1] at D
          cases D
      · rw [← e88] at b1
        rw [b1] at D
        rcases x2 k3 with ⟨ls', y1, y2, y3, y4, -⟩ | ⟨f', j', y1, y2, y3, y4, y5⟩
        · rw [y1] at D
          cases D
        · rw [y1] at D
          obtain ⟨d, d2⟩ := Prod.mk.inj (Sum.inr.inj D)
          subst d
          subst d2
          rw [tP] at y4
          exact ⟨by omega, by omega, by omega, Or.inr (Or.inr ⟨b5, y5⟩)⟩
    · have b := h3 (by first | decide | omega)
      have y := x3 (by first | decide | omega)
      exact ⟨b.1.trans y.1.symm, b.2.1.trans y.2.1.symm, b.2.2.1.trans y.2.2.1.symm, Or.inr (Or.inr ⟨b.2.2.2, y.2.2.2⟩)⟩
end
