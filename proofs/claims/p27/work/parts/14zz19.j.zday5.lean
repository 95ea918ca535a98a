/-! the class' picture of a state -/
def sd_q (M : pz_M) (c : Nat) (P : (Nat → Int) → Prop) : Prop := ∀ F : Nat → Int, sd_se M c F → sd_wf F → P F
theorem sd_at {M : pz_M} {c r : Nat} {F : Nat → Int} {i : Int} (_hc : 71 ≤ c ∧ c < 80) (h : sd_se M c F) (hw : sd_wf F) (h0 : 0 ≤ i) (h1 : i < F 88) (hr : r = pz_lnk c i) : M r 0 = F (4 + i.toNat) ∧ M r 1 = F (16 + i.toNat) ∧ M r 2 = F (28 + i.toNat) ∧ M r 3 = F (93 + i.toNat) ∧ M r 4 = F (40 + i.toNat) ∧ M r 5 = F (52 + i.toNat) ∧ M r 6 = F (64 + i.toNat) ∧ M r 7 = F (76 + i.toNat) := by
  have hn := hw.1
  rw [hr, pz_lk_i ⟨h0, by omega⟩]
  exact sd_se_l h (by omega)
theorem pz_lnk_c {c : Nat} {i : Int} : 89 + 13 * (c - 71) ≤ pz_lnk c i ∧ pz_lnk c i ≤ 89 + 13 * (c - 71) + 12 := by
  unfold pz_lnk pz_lb
  split <;> omega
def sd_lm (F : Nat → Int) (i : Nat) : Int := if (i : Int) = F 88 - 1 then 0 else max 0 (F (5 + i) - (F (16 + i) + if i = 0 then 0 else F (4 + i)))
theorem sd_lm_py {F : Nat → Int} {i : Nat} (hw : sd_wf F) (h1 : (i : Int) < F 88) : sd_lm F i = 0 ↔ sd_py F i := by
  obtain ⟨p0, p1, -⟩ := hw.2.2 i h1
  unfold sd_lm
  by_cases q : (i : Int) = F 88 - 1
  · rw [if_pos q]
    exact ⟨fun _ => Or.inl q, fun _ => rfl⟩
  · rw [if_neg q]
    by_cases z : i = 0
    · rw [if_pos z]
      refine ⟨fun y => Or.inr ?_, fun y => ?_⟩
      · rw [if_pos z, pz_wi (by omega) (by omega)]
        omega
      · have y := y.resolve_left q
        rw [if_pos z, pz_wi (by omega) (by omega)] at y
        omega
    · rw [if_neg z]
      refine ⟨fun y => Or.inr ?_, fun y => ?_⟩
      · rw [if_neg z, pz_wi (by omega) (by omega)]
        omega
      · have y := y.resolve_left q
        rw [if_neg z, pz_wi (by omega) (by omega)] at y
        omega
