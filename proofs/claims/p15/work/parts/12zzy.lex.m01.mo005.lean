section
theorem pz_gr_i6 {T X : Nat → Int} {d i : Nat} {r : pz_res} (h : pz_gr T X 6 d i r) : pz_g6 T X (pz_gr T X) d i r := by
  have q := pz_gr_inv h
  unfold pz_grF at q
  rcases q with ⟨p, q⟩ | ⟨p, q⟩ | ⟨p, q⟩ | ⟨p, q⟩ | ⟨p, q⟩ | ⟨p, q⟩ | ⟨p, q⟩ | ⟨p, q⟩ | ⟨p, q⟩
  · exact absurd p (by decide)
  · exact absurd p (by decide)
  · exact absurd p (by decide)
  · exact absurd p (by decide)
  · exact absurd p (by decide)
  · exact absurd p (by decide)
  · exact q
  · exact absurd p (by decide)
  · exact absurd p (by decide)
theorem pz_gr_i7 {T X : Nat → Int} {d i : Nat} {r : pz_res} (h : pz_gr T X 7 d i r) : pz_g7 T X (pz_gr T X) d i r := by
  have q := pz_gr_inv h
  unfold pz_grF at q
  rcases q with ⟨p, q⟩ | ⟨p, q⟩ | ⟨p, q⟩ | ⟨p, q⟩ | ⟨p, q⟩ | ⟨p, q⟩ | ⟨p, q⟩ | ⟨p, q⟩ | ⟨p, q⟩
  · exact absurd p (by decide)
  · exact absurd p (by decide)
  · exact absurd p (by decide)
  · exact absurd p (by decide)
  · exact absurd p (by decide)
  · exact absurd p (by decide)
  · exact absurd p (by decide)
  · exact q
  · exact absurd p (by decide)
theorem pz_gr_i8 {T X : Nat → Int} {d i : Nat} {r : pz_res} (h : pz_gr T X 8 d i r) : pz_g8 T X (pz_gr T X) d i r := by
  have q := pz_gr_inv h
  unfold pz_grF at q
  rcases q with ⟨p, q⟩ | ⟨p, q⟩ | ⟨p, q⟩ | ⟨p, q⟩ | ⟨p, q⟩ | ⟨p, q⟩ | ⟨p, q⟩ | ⟨p, q⟩ | ⟨p, q⟩
  · exact absurd p (by decide)
  · exact absurd p (by decide)
  · exact absurd p (by decide)
  · exact absurd p (by decide)
  · exact absurd p (by decide)
  · exact absurd p (by decide)
  · exact absurd p (by decide)
  · exact absurd p (by decide)
  · exact q
theorem pz_gr.pt0 {T X : Nat → Int} {d i : Nat} : T i ≠ 42 → T i ≠ 47 → pz_gr T X 0 d i (.ok i []) := fun p0 p1 => pz_gr_roll (Or.inl (⟨rfl, Or.inl (⟨p0, p1, rfl⟩)⟩))
theorem pz_gr.ptm {T X : Nat → Int} {d i : Nat} {j : Nat} {o : List (Int × Int)} {r : pz_res} : T i = 42 → pz_uf T X (i + 1) = .ok j o → pz_gr T X 0 d j r → pz_gr T X 0 d i (r.app (o ++ [(25, 0)])) := fun p0 p1 p2 => pz_gr_roll (Or.inl (⟨rfl, Or.inr (Or.inl (⟨j, o, r, p0, p1, p2, rfl⟩))⟩))
theorem pz_gr.ptmb {T X : Nat → Int} {d i : Nat} {j : Nat} {k : Int} : T i = 42 → pz_uf T X (i + 1) = .bad k j → pz_gr T X 0 d i (.bad k j) := fun p0 p1 => pz_gr_roll (Or.inl (⟨rfl, Or.inr (Or.inr (Or.inl (⟨j, k, p0, p1, rfl⟩)))⟩))
theorem pz_gr.ptn {T X : Nat → Int} {d i : Nat} : T i = 47 → T (i + 1) ≠ 100 → pz_gr T X 0 d i (.bad 1 (i + 1)) := fun p0 p1 => pz_gr_roll (Or.inl (⟨rfl, Or.inr (Or.inr (Or.inr (Or.inl (⟨p0, p1, rfl⟩))))⟩))
theorem pz_gr.ptz {T X : Nat → Int} {d i : Nat} : T i = 47 → T (i + 1) = 100 → X (i + 1) = 0 → pz_gr T X 0 d i (.bad 2 (i + 1)) := fun p0 p1 p2 => pz_gr_roll (Or.inl (⟨rfl, Or.inr (Or.inr (Or.inr (Or.inr (Or.inl (⟨p0, p1, p2, rfl⟩)))))⟩))
theorem pz_gr.ptd {T X : Nat → Int} {d i : Nat} {r : pz_res} : T i = 47 → T (i + 1) = 100 → X (i + 1) ≠ 0 → pz_gr T X 0 d (i + 2) r → pz_gr T X 0 d i (r.app [(26, X (i + 1))]) := fun p0 p1 p2 p3 => pz_gr_roll (Or.inl (⟨rfl, Or.inr (Or.inr (Or.inr (Or.inr (Or.inr (⟨r, p0, p1, p2, p3, rfl⟩)))))⟩))
theorem pz_gr.pdb {T X : Nat → Int} {d i : Nat} {j : Nat} {k : Int} : pz_uf T X i = .bad k j → pz_gr T X 1 d i (.bad k j) := fun p0 => pz_gr_roll (Or.inr (Or.inl (⟨rfl, Or.inl (⟨j, k, p0, rfl⟩)⟩)))
end
