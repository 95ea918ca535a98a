section
theorem pz_g6_mono {T X : Nat → Int} {P Q : Nat → Nat → Nat → pz_res → Prop} (h : ∀ K d i r, P K d i r → Q K d i r) {d i : Nat} {r : pz_res} (q : pz_g6 T X P d i r) : pz_g6 T X Q d i r := by
  unfold pz_g6 at q ⊢
  rcases q with ⟨j, k, p0, p⟩ | ⟨j, o, r, p0, p1, p⟩
  · exact Or.inl (⟨j, k, h _ _ _ _ p0, p⟩)
  · exact Or.inr (⟨j, o, r, h _ _ _ _ p0, h _ _ _ _ p1, p⟩)
theorem pz_g7_mono {T X : Nat → Int} {P Q : Nat → Nat → Nat → pz_res → Prop} (h : ∀ K d i r, P K d i r → Q K d i r) {d i : Nat} {r : pz_res} (q : pz_g7 T X P d i r) : pz_g7 T X Q d i r := by
  unfold pz_g7 at q ⊢
  rcases q with ⟨p0, p⟩ | ⟨j, k, p0, p1, p⟩ | ⟨j, o, r, p0, p1, p2, p⟩
  · exact Or.inl (⟨p0, p⟩)
  · exact Or.inr (Or.inl (⟨j, k, p0, h _ _ _ _ p1, p⟩))
  · exact Or.inr (Or.inr (⟨j, o, r, p0, h _ _ _ _ p1, h _ _ _ _ p2, p⟩))
theorem pz_g8_mono {T X : Nat → Int} {P Q : Nat → Nat → Nat → pz_res → Prop} (h : ∀ K d i r, P K d i r → Q K d i r) {d i : Nat} {r : pz_res} (q : pz_g8 T X P d i r) : pz_g8 T X Q d i r := by
  unfold pz_g8 at q ⊢
  rcases q with ⟨j, k, p0, p⟩ | ⟨j, o, r, p0, p1, p⟩
  · exact Or.inl (⟨j, k, h _ _ _ _ p0, p⟩)
  · exact Or.inr (⟨j, o, r, h _ _ _ _ p0, h _ _ _ _ p1, p⟩)
def pz_grF (T X : Nat → Int) (P : Nat → Nat → Nat → pz_res → Prop) (K d i : Nat) (r : pz_res) : Prop :=
  (K = 0 ∧ pz_g0 T X P d i r) ∨ (K = 1 ∧ pz_g1 T X P d i r) ∨ (K = 2 ∧ pz_g2 T X P d i r) ∨ (K = 3 ∧ pz_g3 T X P d i r) ∨ (K = 4 ∧ pz_g4 T X P d i r) ∨ (K = 5 ∧ pz_g5 T X P d i r) ∨ (K = 6 ∧ pz_g6 T X P d i r) ∨ (K = 7 ∧ pz_g7 T X P d i r) ∨ (K = 8 ∧ pz_g8 T X P d i r)
theorem pz_grF_mono {T X : Nat → Int} {P Q : Nat → Nat → Nat → pz_res → Prop} (h : ∀ K d i r, P K d i r → Q K d i r) {K d i : Nat} {r : pz_res} (q : pz_grF T X P K d i r) : pz_grF T X Q K d i r := by
  unfold pz_grF at q ⊢
  rcases q with ⟨p, q⟩ | ⟨p, q⟩ | ⟨p, q⟩ | ⟨p, q⟩ | ⟨p, q⟩ | ⟨p, q⟩ | ⟨p, q⟩ | ⟨p, q⟩ | ⟨p, q⟩
  · exact Or.inl (⟨p, pz_g0_mono h q⟩)
  · exact Or.inr (Or.inl (⟨p, pz_g1_mono h q⟩))
  · exact Or.inr (Or.inr (Or.inl (⟨p, pz_g2_mono h q⟩)))
  · exact Or.inr (Or.inr (Or.inr (Or.inl (⟨p, pz_g3_mono h q⟩))))
  · exact Or.inr (Or.inr (Or.inr (Or.inr (Or.inl (⟨p, pz_g4_mono h q⟩)))))
  · exact Or.inr (Or.inr (Or.inr (Or.inr (Or.inr (Or.inl (⟨p, pz_g5_mono h q⟩))))))
  · exact Or.inr (Or.inr (Or.inr (Or.inr (Or.inr (Or.inr (Or.inl (⟨p, pz_g6_mono h q⟩)))))))
  · exact Or.inr (Or.inr (Or.inr (Or.inr (Or.inr (Or.inr (Or.inr (Or.inl (⟨p, pz_g7_mono h q⟩))))))))
  · exact Or.inr (Or.inr (Or.inr (Or.inr (Or.inr (Or.inr (Or.inr (Or.inr (⟨p, pz_g8_mono h q⟩))))))))
/-- kinds: 0 behind a unit, 1 a product, 2 behind a product, 3 a sum, 4 one test, 5 behind a test, 6 tests joined by and, 7 behind those, 8 by or -/
def pz_gr (T X : Nat → Int) (K d i : Nat) (r : pz_res) : Prop := ∀ P : Nat → Nat → Nat → pz_res → Prop, (∀ K d i r, pz_grF T X P K d i r → P K d i r) → P K d i r
theorem pz_gr_roll {T X : Nat → Int} {K d i : Nat} {r : pz_res} (h : pz_grF T X (pz_gr T X) K d i r) : pz_gr T X K d i r := fun P hP => hP _ _ _ _ (pz_grF_mono (fun _ _ _ _ q => q P hP) h)
end
