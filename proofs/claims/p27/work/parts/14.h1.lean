theorem pz_law1 {f g w : Nat → Int} {x : Int} {i1 i2 i3 i4 : Nat} {v1 v2 v3 v4 : Int} (hx : 0 ≤ x) (hx2 : x < 16) (h1 : (i1 : Int) = 841 + x) (h2 : (i2 : Int) = 857 + x) (h3 : (i3 : Int) = 873 + x) (h4 : (i4 : Int) = 889 + x)
    (U1 : ∀ j, w j = if j = i4 then v4 else if j = i3 then v3 else if j = i2 then v2 else if j = i1 then v1 else f j) (e1 : v1 = g (4 * x).toNat) (e2 : v2 = g (4 * x + 1).toNat) (e3 : v3 = g (4 * x + 2).toNat) (e4 : v4 = g (4 * x + 3).toNat)
    (IH : ∀ k : Nat, (k : Int) < x → f (841 + k) = g (4 * k) ∧ f (857 + k) = g (4 * k + 1) ∧ f (873 + k) = g (4 * k + 2) ∧ f (889 + k) = g (4 * k + 3)) :
    ∀ k : Nat, (k : Int) < x + 1 → w (841 + k) = g (4 * k) ∧ w (857 + k) = g (4 * k + 1) ∧ w (873 + k) = g (4 * k + 2) ∧ w (889 + k) = g (4 * k + 3) := by
  intro k hk
  rcases Int.lt_or_le (k : Int) x with h9 | h9
  · obtain ⟨a, b, c, d⟩ := IH k h9
    refine ⟨?_, ?_, ?_, ?_⟩
    · rw [U1, if_neg (by omega), if_neg (by omega), if_neg (by omega), if_neg (by omega)]; exact a
    · rw [U1, if_neg (by omega), if_neg (by omega), if_neg (by omega), if_neg (by omega)]; exact b
    · rw [U1, if_neg (by omega), if_neg (by omega), if_neg (by omega), if_neg (by omega)]; exact c
    · rw [U1, if_neg (by omega), if_neg (by omega), if_neg (by omega), if_neg (by omega)]; exact d
  · have hk9 : (k : Int) = x := by omega
    refine ⟨?_, ?_, ?_, ?_⟩
    · rw [U1, if_neg (by omega), if_neg (by omega), if_neg (by omega), if_pos (by omega), e1, show (4 * x).toNat = 4 * k by omega]
    · rw [U1, if_neg (by omega), if_neg (by omega), if_pos (by omega), e2, show (4 * x + 1).toNat = 4 * k + 1 by omega]
    · rw [U1, if_neg (by omega), if_pos (by omega), e3, show (4 * x + 2).toNat = 4 * k + 2 by omega]
    · rw [U1, if_pos (by omega), e4, show (4 * x + 3).toNat = 4 * k + 3 by omega]
theorem pz_law2 {f g h w : Nat → Int} {x n : Int} {i1 : Nat} {v1 : Int} (hx : 0 ≤ x) (h1 : (i1 : Int) = 905 + x) (hn : n ≤ 16) (U1 : ∀ j, w j = if j = i1 then v1 else f j) (e1 : v1 = h x.toNat)
    (IH : ∀ k : Nat, (k : Int) < n → f (841 + k) = g (4 * k) ∧ f (857 + k) = g (4 * k + 1) ∧ f (873 + k) = g (4 * k + 2) ∧ f (889 + k) = g (4 * k + 3)) (IH2 : ∀ k : Nat, (k : Int) < x → f (905 + k) = h k) :
    (∀ k : Nat, (k : Int) < n → w (841 + k) = g (4 * k) ∧ w (857 + k) = g (4 * k + 1) ∧ w (873 + k) = g (4 * k + 2) ∧ w (889 + k) = g (4 * k + 3)) ∧ (∀ k : Nat, (k : Int) < x + 1 → w (905 + k) = h k) := by
  refine ⟨fun k hk => ?_, fun k hk => ?_⟩
  · obtain ⟨a, b, c, d⟩ := IH k hk
    refine ⟨?_, ?_, ?_, ?_⟩
    · rw [U1, if_neg (by omega)]; exact a
    · rw [U1, if_neg (by omega)]; exact b
    · rw [U1, if_neg (by omega)]; exact c
    · rw [U1, if_neg (by omega)]; exact d
  · rcases Int.lt_or_le (k : Int) x with h9 | h9
    · rw [U1, if_neg (by omega)]
      exact IH2 k h9
    · rw [U1, if_pos (by omega), e1, show x.toNat = k by omega]
def pz_r0 (P : Nat → Nat → Prop) (M M' : pz_M) : Prop := ∀ b j : Nat, ¬ P b j → M' b j = M b j
theorem pz_r0.rf {P : Nat → Nat → Prop} {M : pz_M} : pz_r0 P M M := fun _ _ _ => rfl
theorem pz_r0_u {P : Nat → Nat → Prop} {M M' : pz_M} {a k : Nat} {v : Int} (hs : pz_r0 P M M') (hp : P a k) : pz_r0 P M (pz_u M' a k v) := by
  intro b j hb
  have q1 := pz_uv M' a k v b j
  rcases q1 with ⟨rfl, rfl, -⟩ | ⟨-, q1⟩
  · exact absurd hp hb
  · rw [q1]
    exact hs b j hb
def pz_W1 (b j : Nat) : Prop := b = 60 ∧ (j = 89 ∨ 841 ≤ j)
def pz_W2 (b j : Nat) : Prop := b = 60 ∨ b = 61
theorem pz_lw_of {M M' : pz_M} {a b : Nat} (h : pz_lw M b) (hw : M b 89 ≤ 16) (he : ∀ j, j < 1725 → M' a j = M b j) : pz_lw M' a := by
  intro i q1 q2
  rw [he 89 (by omega)] at q2
  obtain ⟨h1, h2, h3, h4⟩ := h i q1 q2
  have l3 := h3.1
  rw [he (841 + i).toNat (by omega), he (857 + i).toNat (by omega), he (873 + i).toNat (by omega)]
  have l4 : M b (857 + i).toNat ≤ M b (873 + i).toNat := by
    rcases h4 with h4 | h4
    · omega
    · have := h4.1
      omega
  refine ⟨h1, h2, pz_sg_cg h3 h1 (fun j _ q => he _ (by omega)), ?_⟩
  rcases h4 with h4 | h4
  · exact Or.inl h4
  · exact Or.inr (pz_sg_cg h4 (by omega) (fun j _ q => he _ (by omega)))
theorem pz_iw_of {M M' : pz_M} {a b : Nat} (h : pz_iw M b) (he : ∀ j, j < 1725 → M' a j = M b j) : pz_iw M' a := by
  unfold pz_iw
  rw [he 88 (by omega), he 89 (by omega), he 90 (by omega), he 92 (by omega), he 3 (by omega)]
  exact h
theorem pz_ix_of {M M' : pz_M} (h : pz_ix M) (h1 : ∀ j, j ≠ 4 → M' 1 j = M 1 j) (h4 : 0 ≤ M' 1 4 ∧ M' 1 4 ≤ 6) (h62 : ∀ j, M' 62 j = M 62 j) (h63 : M' 63 3 = M 63 3) : pz_ix M' := by
  obtain ⟨i1, i2, i3, i4, i5, i6, i7, i8, i9⟩ := h
  refine ⟨h4, ?_, ?_, ?_, ?_, ?_, ?_, ?_, fun j hj => ?_⟩
  · rw [h1 16 (by omega)]; exact i2
  · rw [h63]; exact i3
  · rw [h1 17 (by omega)]; exact i4
  · rw [h1 19 (by omega)]; exact i5
  · rw [h1 13 (by omega)]; exact i6
  · rw [h1 14 (by omega)]; exact i7
  · rw [h1 15 (by omega)]; exact i8
  · rw [h62]; exact i9 j hj
theorem pz_img {M N : pz_M} {x : Int} (hI : pz_im M) (hS : pz_r0 pz_W2 M N) (h4 : N 1 4 = M 1 4) (hg : (x = 0 → ∀ k : Nat, (k : Int) < (1725 : Int) → N 60 k = M 61 k) ∧ (x = 0 → ∀ k, N 61 k = M 61 k) ∧ (x ≠ 0 → ∀ k : Nat, (k : Int) < (1725 : Int) → N 61 k = M 60 k) ∧ (x ≠ 0 → ∀ k, N 60 k = M 60 k)) : pz_im N := by
  obtain ⟨i1, i2, i3, i4, i5⟩ := hI
  obtain ⟨g1, g2, g3, g4⟩ := hg
  have hx : pz_ix N := pz_ix_of i2 (fun j hj => hS 1 j (by unfold pz_W2; omega)) (by rw [h4]; exact i2.1) (fun j => hS 62 j (by unfold pz_W2; omega)) (hS 63 3 (by unfold pz_W2; omega))
  by_cases hx0 : x = 0
  · have e60 : ∀ j, j < 1725 → N 60 j = M 61 j := fun j hj => g1 hx0 j (by omega)
    have e61 : ∀ j, j < 1725 → N 61 j = M 61 j := fun j _ => g2 hx0 j
    exact ⟨pz_iw_of i4 e60, hx, pz_lw_of i5 i4.2.1.2 e60, pz_iw_of i4 e61, pz_lw_of i5 i4.2.1.2 e61⟩
  · have e60 : ∀ j, j < 1725 → N 60 j = M 60 j := fun j _ => g4 hx0 j
    have e61 : ∀ j, j < 1725 → N 61 j = M 60 j := fun j hj => g3 hx0 j (by omega)
    exact ⟨pz_iw_of i1 e60, hx, pz_lw_of i3 i1.2.1.2 e60, pz_iw_of i1 e61, pz_lw_of i3 i1.2.1.2 e61⟩
theorem pz_img1 {M N N' : pz_M} {x y v : Int} {k : Nat} (hk : (k : Int) = y) (hx : x ≠ 0) (e : N' = pz_u N 61 k v) (ev : v = N 60 k) (o : (x = 0 → ∀ k : Nat, (k : Int) < y → N 60 k = M 61 k) ∧ (x = 0 → ∀ k, N 61 k = M 61 k) ∧ (x ≠ 0 → ∀ k : Nat, (k : Int) < y → N 61 k = M 60 k) ∧ (x ≠ 0 → ∀ k, N 60 k = M 60 k)) : (x = 0 → ∀ k : Nat, (k : Int) < y + 1 → N' 60 k = M 61 k) ∧ (x = 0 → ∀ k, N' 61 k = M 61 k) ∧ (x ≠ 0 → ∀ k : Nat, (k : Int) < y + 1 → N' 61 k = M 60 k) ∧ (x ≠ 0 → ∀ k, N' 60 k = M 60 k) := by
  obtain ⟨o1, o2, o3, o4⟩ := o
  refine ⟨fun q => absurd q hx, fun q => absurd q hx, fun q j hj => ?_, fun q j => ?_⟩
  · rw [pz_u64 e j]
    by_cases h : j = k
    · rw [if_pos h, ev, h]
      exact o4 q k
    · rw [if_neg h]
      exact o3 q j (by omega)
  · rw [e, pz_una (by decide)]
    exact o4 q j
theorem pz_img2 {M N N' : pz_M} {x y v : Int} {k : Nat} (hk : (k : Int) = y) (hx : x = 0) (e : N' = pz_u N 60 k v) (ev : v = N 61 k) (o : (x = 0 → ∀ k : Nat, (k : Int) < y → N 60 k = M 61 k) ∧ (x = 0 → ∀ k, N 61 k = M 61 k) ∧ (x ≠ 0 → ∀ k : Nat, (k : Int) < y → N 61 k = M 60 k) ∧ (x ≠ 0 → ∀ k, N 60 k = M 60 k)) : (x = 0 → ∀ k : Nat, (k : Int) < y + 1 → N' 60 k = M 61 k) ∧ (x = 0 → ∀ k, N' 61 k = M 61 k) ∧ (x ≠ 0 → ∀ k : Nat, (k : Int) < y + 1 → N' 61 k = M 60 k) ∧ (x ≠ 0 → ∀ k, N' 60 k = M 60 k) := by
  obtain ⟨o1, o2, o3, o4⟩ := o
  refine ⟨fun q j hj => ?_, fun q j => ?_, fun q => absurd hx q, fun q => absurd hx q⟩
  · rw [pz_u64 e j]
    by_cases h : j = k
    · rw [if_pos h, ev, h]
      exact o2 q k
    · rw [if_neg h]
      exact o1 q j (by omega)
  · rw [e, pz_una (by decide)]
    exact o2 q j


