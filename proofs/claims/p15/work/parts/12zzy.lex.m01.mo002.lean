section
theorem pz_g1_mono {T X : Nat → Int} {P Q : Nat → Nat → Nat → pz_res → Prop} (h : ∀ K d i r, P K d i r → Q K d i r) {d i : Nat} {r : pz_res} (q : pz_g1 T X P d i r) : pz_g1 T X Q d i r := by
  unfold pz_g1 at q ⊢
  rcases q with ⟨j, k, p0, p⟩ | ⟨j, o, r, p0, p1, p⟩
  · exact Or.inl (⟨j, k, p0, p⟩)
  · exact Or.inr (⟨j, o, r, p0, h _ _ _ _ p1, p⟩)
theorem pz_g2_mono {T X : Nat → Int} {P Q : Nat → Nat → Nat → pz_res → Prop} (h : ∀ K d i r, P K d i r → Q K d i r) {d i : Nat} {r : pz_res} (q : pz_g2 T X P d i r) : pz_g2 T X Q d i r := by
  unfold pz_g2 at q ⊢
  rcases q with ⟨p0, p1, p⟩ | ⟨j, k, p0, p1, p⟩ | ⟨j, o, r, p0, p1, p2, p⟩
  · exact Or.inl (⟨p0, p1, p⟩)
  · exact Or.inr (Or.inl (⟨j, k, p0, h _ _ _ _ p1, p⟩))
  · exact Or.inr (Or.inr (⟨j, o, r, p0, h _ _ _ _ p1, h _ _ _ _ p2, p⟩))
theorem pz_g3_mono {T X : Nat → Int} {P Q : Nat → Nat → Nat → pz_res → Prop} (h : ∀ K d i r, P K d i r → Q K d i r) {d i : Nat} {r : pz_res} (q : pz_g3 T X P d i r) : pz_g3 T X Q d i r := by
  unfold pz_g3 at q ⊢
  rcases q with ⟨j, k, p0, p⟩ | ⟨j, o, r, p0, p1, p⟩
  · exact Or.inl (⟨j, k, h _ _ _ _ p0, p⟩)
  · exact Or.inr (⟨j, o, r, h _ _ _ _ p0, h _ _ _ _ p1, p⟩)
theorem pz_g4_mono {T X : Nat → Int} {P Q : Nat → Nat → Nat → pz_res → Prop} (h : ∀ K d i r, P K d i r → Q K d i r) {d i : Nat} {r : pz_res} (q : pz_g4 T X P d i r) : pz_g4 T X Q d i r := by
  unfold pz_g4 at q ⊢
  rcases q with ⟨p0, p1, p⟩ | ⟨j, k, p0, p1, p2, p⟩ | ⟨j, o, p0, p1, p2, p⟩ | ⟨j, k, p0, p1, p2, p⟩ | ⟨j, o, p0, p1, p2, p3, p⟩ | ⟨j, o, p0, p1, p2, p3, p⟩ | ⟨j, k, p0, p1, p2, p⟩ | ⟨j, o, p0, p1, p2, p3, p⟩ | ⟨j, l, o, k, p0, p1, p2, p3, p4, p⟩ | ⟨j, l, o, o', p0, p1, p2, p3, p4, p⟩
  · exact Or.inl (⟨p0, p1, p⟩)
  · exact Or.inr (Or.inl (⟨j, k, p0, p1, h _ _ _ _ p2, p⟩))
  · exact Or.inr (Or.inr (Or.inl (⟨j, o, p0, p1, h _ _ _ _ p2, p⟩)))
  · exact Or.inr (Or.inr (Or.inr (Or.inl (⟨j, k, p0, p1, h _ _ _ _ p2, p⟩))))
  · exact Or.inr (Or.inr (Or.inr (Or.inr (Or.inl (⟨j, o, p0, p1, h _ _ _ _ p2, p3, p⟩)))))
  · exact Or.inr (Or.inr (Or.inr (Or.inr (Or.inr (Or.inl (⟨j, o, p0, p1, h _ _ _ _ p2, p3, p⟩))))))
  · exact Or.inr (Or.inr (Or.inr (Or.inr (Or.inr (Or.inr (Or.inl (⟨j, k, p0, p1, h _ _ _ _ p2, p⟩)))))))
  · exact Or.inr (Or.inr (Or.inr (Or.inr (Or.inr (Or.inr (Or.inr (Or.inl (⟨j, o, p0, p1, h _ _ _ _ p2, p3, p⟩))))))))
  · exact Or.inr (Or.inr (Or.inr (Or.inr (Or.inr (Or.inr (Or.inr (Or.inr (Or.inl (⟨j, l, o, k, p0, p1, h _ _ _ _ p2, p3, h _ _ _ _ p4, p⟩)))))))))
  · exact Or.inr (Or.inr (Or.inr (Or.inr (Or.inr (Or.inr (Or.inr (Or.inr (Or.inr (⟨j, l, o, o', p0, p1, h _ _ _ _ p2, p3, h _ _ _ _ p4, p⟩)))))))))
theorem pz_g5_mono {T X : Nat → Int} {P Q : Nat → Nat → Nat → pz_res → Prop} (h : ∀ K d i r, P K d i r → Q K d i r) {d i : Nat} {r : pz_res} (q : pz_g5 T X P d i r) : pz_g5 T X Q d i r := by
  unfold pz_g5 at q ⊢
  rcases q with ⟨p0, p⟩ | ⟨j, k, p0, p1, p⟩ | ⟨j, o, r, p0, p1, p2, p⟩
  · exact Or.inl (⟨p0, p⟩)
  · exact Or.inr (Or.inl (⟨j, k, p0, h _ _ _ _ p1, p⟩))
  · exact Or.inr (Or.inr (⟨j, o, r, p0, h _ _ _ _ p1, h _ _ _ _ p2, p⟩))
end
