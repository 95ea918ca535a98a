section
def pz_r0 (P : Nat → Nat → Prop) (M M' : pz_M) : Prop := ∀ b j : Nat, ¬ P b j → M' b j = M b j
theorem pz_r0.rf {P : Nat → Nat → Prop} {M : pz_M} : pz_r0 P M M := fun _ _ _ => rfl
theorem pz_r0_u {P : Nat → Nat → Prop} {M M' : pz_M} {a k : Nat} {v : Int} (hs : pz_r0 P M M') (hp : P a k) : pz_r0 P M (pz_u M' a k v) := by
  intro b j hb
  have q1 := pz_uv M' a k v b j
  rcases q1 with ⟨rfl, rfl, -⟩ | ⟨-, q1⟩
  · exact absurd hp hb
  · rw [q1]
    exact hs b j hb
def pz_W1 (b j : Nat) : Prop := b = 60 ∧ (j = 89 ∨ 841 ≤ j)
def pz_W2 (b j : Nat) : Prop := b = 60 ∨ b = 61
theorem pz_lw_of {M M' : pz_M} {a b : Nat} (h : pz_lw M b) (hw : M b 89 ≤ 16) (he : ∀ j, j < 1725 → M' a j = M b j) : pz_lw M' a := by
  intro i q1 q2
  rw [he 89 (by first | decide | omega)] at q2
  obtain ⟨h1, h2, h3, h4⟩ := h i q1 q2
  have l3 := h3.1
  rw [he (841 + i).toNat (by first | decide | omega), he (857 + i).toNat (by first | decide | omega), he (873 + i).toNat (by first | decide | omega)]
  have l4 : M b (857 + i).toNat ≤ M b (873 + i).toNat := by
    rcases h4 with h4 | h4
    · omega
    · have := h4.1
      omega
  refine ⟨h1, h2, pz_sg_cg h3 h1 (fun j _ q => he _ (by first | decide | omega)), ?_⟩
  rcases h4 with h4 | h4
  · exact Or.inl h4
  · exact Or.inr (pz_sg_cg h4 (by first | decide | omega) (fun j _ q => he _ (by first | decide | omega)))
theorem pz_iw_of {M M' : pz_M} {a b : Nat} (h : pz_iw M b) (he : ∀ j, j < 1725 → M' a j = M b j) : pz_iw M' a := by
  unfold pz_iw
  rw [he 88 (by first | decide | omega), he 89 (by first | decide | omega), he 90 (by first | decide | omega), he 92 (by first | decide | omega), he 3 (by first | decide | omega)]
  exact h
theorem pz_ix_of {M M' : pz_M} (h : pz_ix M) (h1 : ∀ j, j ≠ 4 → M' 1 j = M 1 j) (h4 : 0 ≤ M' 1 4 ∧ M' 1 4 ≤ 6) (h62 : ∀ j, M' 62 j = M 62 j) (h63 : M' 63 3 = M 63 3) : pz_ix M' := by
  obtain ⟨i1, i2, i3, i4, i5, i6, i7, i8, i9⟩ := h
  refine ⟨h4, ?_, ?_, ?_, ?_, ?_, ?_, ?_, fun j hj => ?_⟩
  · rw [h1 16 (by first | decide | omega)]; exact i2
  · rw [h63]; exact i3
  · rw [h1 17 (by first | decide | omega)]; exact i4
  · rw [h1 19 (by first | decide | omega)]; exact i5
  · rw [h1 13 (by first | decide | omega)]; exact i6
  · rw [h1 14 (by first | decide | omega)]; exact i7
  · rw [h1 15 (by first | decide | omega)]; exact i8
  · rw [h62]; exact i9 j hj
theorem pz_img {M N : pz_M} {x : Int} (hI : pz_im M) (hS : pz_r0 pz_W2 M N) (h4 : N 1 4 = M 1 4) (hg : (x = 0 → ∀ k : Nat, (k : Int) < (1725 : Int) → N 60 k = M 61 k) ∧ (x = 0 → ∀ k, N 61 k = M 61 k) ∧ (x ≠ 0 → ∀ k : Nat, (k : Int) < (1725 : Int) → N 61 k = M 60 k) ∧ (x ≠ 0 → ∀ k, N 60 k = M 60 k)) : pz_im N := by
  obtain ⟨i1, i2, i3, i4, i5⟩ := hI
  obtain ⟨g1, g2, g3, g4⟩ := hg
  have hx : pz_ix N := pz_ix_of i2 (fun j hj => hS 1 j (by unfold pz_W2; first | decide | omega)) (by rw [h4]; exact i2.1) (fun j => hS 62 j (by unfold pz_W2; first | decide | omega)) (hS 63 3 (by unfold pz_W2; first | decide | omega))
  by_cases hx0 : x = 0
  · have e60 : ∀ j, j < 1725 → N 60 j = M 61 j := fun j hj => g1 hx0 j (by first | decide | omega)
    have e61 : ∀ j, j < 1725 → N 61 j = M 61 j := fun j _ => g2 hx0 j
    exact ⟨pz_iw_of i4 e60, hx, pz_lw_of i5 i4.2.1.2 e60, pz_iw_of i4 e61, pz_lw_of i5 i4.2.1.2 e61⟩
  · have e60 : ∀ j, j < 1725 → N 60 j = M 60 j := fun j _ => g4 hx0 j
    have e61 : ∀ j, j < 1725 → N 61 j = M 60 j := fun j hj => g3 hx0 j (by first | decide | omega)
    exact ⟨pz_iw_of i1 e60, hx, pz_lw_of i3 i1.2.1.2 e60, pz_iw_of i1 e61, pz_lw_of i3 i1.2.1.2 e61⟩
end
