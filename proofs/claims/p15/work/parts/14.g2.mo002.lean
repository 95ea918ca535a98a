section
theorem v_X12_readsLaw {fr lo i : Nat} {own : String} (h1 : 40 + 1 ≤ fr) (h2 : 8 + (2 + 11) + 937 ≤ lo) (h3 : .methodLink own i yX12_readsLaw ∈ lw_tbl) : pz_cV fr lo own i k_X12_readsLaw :=
  pz_cVk (maxL := 2) (fr' := 40) (lo' := 937) 0 12 h_X12_readsLaw rfl ⟨(pz_nhc_RX12 yX12_readsLaw rfl).1, (pz_nhc_RX12 yX12_readsLaw rfl).2, pz_ds3⟩ ⟨pz_wq1306, pz_wq1305, pz_ws13, pz_wq13⟩ (Or.inl ⟨TX12, 28, rfl⟩) (fun a M _ h => by
    have h : (match (generalizing := false) a with | [.inr (.inr (12, th))] => pz_im M ∧ M 1 19 ≤ M 1 17 ∧ (M 1 18 ≠ 0 → M 1 19 + 1 ≤ M 1 17) | _ => False) := h
    split at h
    · exact ⟨_, _, rfl⟩
    · exact h.elim) h1 h2 h3
end
section
theorem pz_law1 {f g w : Nat → Int} {x : Int} {i1 i2 i3 i4 : Nat} {v1 v2 v3 v4 : Int} (hx : 0 ≤ x) (hx2 : x < 16) (h1 : (i1 : Int) = 841 + x) (h2 : (i2 : Int) = 857 + x) (h3 : (i3 : Int) = 873 + x) (h4 : (i4 : Int) = 889 + x)
    (U1 : ∀ j, w j = if j = i4 then v4 else if j = i3 then v3 else if j = i2 then v2 else if j = i1 then v1 else f j) (e1 : v1 = g (4 * x).toNat) (e2 : v2 = g (4 * x + 1).toNat) (e3 : v3 = g (4 * x + 2).toNat) (e4 : v4 = g (4 * x + 3).toNat)
    (IH : ∀ k : Nat, (k : Int) < x → f (841 + k) = g (4 * k) ∧ f (857 + k) = g (4 * k + 1) ∧ f (873 + k) = g (4 * k + 2) ∧ f (889 + k) = g (4 * k + 3)) :
    ∀ k : Nat, (k : Int) < x + 1 → w (841 + k) = g (4 * k) ∧ w (857 + k) = g (4 * k + 1) ∧ w (873 + k) = g (4 * k + 2) ∧ w (889 + k) = g (4 * k + 3) := by
  intro k hk
  rcases Int.lt_or_le (k : Int) x with h9 | h9
  · obtain ⟨a, b, c, d⟩ := IH k h9
    refine ⟨?_, ?_, ?_, ?_⟩
    · rw [U1, if_neg (by first | decide | omega), if_neg (by first | decide | omega), if_neg (by first | decide | omega), if_neg (by first | decide | omega)]; exact a
    · rw [U1, if_neg (by first | decide | omega), if_neg (by first | decide | omega), if_neg (by first | decide | omega), if_neg (by first | decide | omega)]; exact b
    · rw [U1, if_neg (by first | decide | omega), if_neg (by first | decide | omega), if_neg (by first | decide | omega), if_neg (by first | decide | omega)]; exact c
    · rw [U1, if_neg (by first | decide | omega), if_neg (by first | decide | omega), if_neg (by first | decide | omega), if_neg (by first | decide | omega)]; exact d
  · have hk9 : (k : Int) = x := by omega
    refine ⟨?_, ?_, ?_, ?_⟩
    · rw [U1, if_neg (by first | decide | omega), if_neg (by first | decide | omega), if_neg (by first | decide | omega), if_pos (by first | decide | omega), e1, show (4 * x).toNat = 4 * k by omega]
    · rw [U1, if_neg (by first | decide | omega), if_neg (by first | decide | omega), if_pos (by first | decide | omega), e2, show (4 * x + 1).toNat = 4 * k + 1 by omega]
    · rw [U1, if_neg (by first | decide | omega), if_pos (by first | decide | omega), e3, show (4 * x + 2).toNat = 4 * k + 2 by omega]
    · rw [U1, if_pos (by first | decide | omega), e4, show (4 * x + 3).toNat = 4 * k + 3 by omega]
theorem pz_law2 {f g h w : Nat → Int} {x n : Int} {i1 : Nat} {v1 : Int} (hx : 0 ≤ x) (h1 : (i1 : Int) = 905 + x) (hn : n ≤ 16) (U1 : ∀ j, w j = if j = i1 then v1 else f j) (e1 : v1 = h x.toNat)
    (IH : ∀ k : Nat, (k : Int) < n → f (841 + k) = g (4 * k) ∧ f (857 + k) = g (4 * k + 1) ∧ f (873 + k) = g (4 * k + 2) ∧ f (889 + k) = g (4 * k + 3)) (IH2 : ∀ k : Nat, (k : Int) < x → f (905 + k) = h k) :
    (∀ k : Nat, (k : Int) < n → w (841 + k) = g (4 * k) ∧ w (857 + k) = g (4 * k + 1) ∧ w (873 + k) = g (4 * k + 2) ∧ w (889 + k) = g (4 * k + 3)) ∧ (∀ k : Nat, (k : Int) < x + 1 → w (905 + k) = h k) := by
  refine ⟨fun k hk => ?_, fun k hk => ?_⟩
  · obtain ⟨a, b, c, d⟩ := IH k hk
    refine ⟨?_, ?_, ?_, ?_⟩
    · rw [U1, if_neg (by first | decide | omega)]; exact a
    · rw [U1, if_neg (by first | decide | omega)]; exact b
    · rw [U1, if_neg (by first | decide | omega)]; exact c
    · rw [U1, if_neg (by first | decide | omega)]; exact d
  · rcases Int.lt_or_le (k : Int) x with h9 | h9
    · rw [U1, if_neg (by first | decide | omega)]
      exact IH2 k h9
    · rw [U1, if_pos (by first | decide | omega), e1, show x.toNat = k by omega]
end
