section
theorem pz_gr_inv {T X : Nat → Int} {K d i : Nat} {r : pz_res} (h : pz_gr T X K d i r) : pz_grF T X (pz_gr T X) K d i r := h (pz_grF T X (pz_gr T X)) (fun _ _ _ _ q => pz_grF_mono (fun _ _ _ _ => pz_gr_roll) q)
theorem pz_gr_i0 {T X : Nat → Int} {d i : Nat} {r : pz_res} (h : pz_gr T X 0 d i r) : pz_g0 T X (pz_gr T X) d i r := by
  have q := pz_gr_inv h
  unfold pz_grF at q
  rcases q with ⟨p, q⟩ | ⟨p, q⟩ | ⟨p, q⟩ | ⟨p, q⟩ | ⟨p, q⟩ | ⟨p, q⟩ | ⟨p, q⟩ | ⟨p, q⟩ | ⟨p, q⟩
  · exact q
  · exact absurd p (by decide)
  · exact absurd p (by decide)
  · exact absurd p (by decide)
  · exact absurd p (by decide)
  · exact absurd p (by decide)
  · exact absurd p (by decide)
  · exact absurd p (by decide)
  · exact absurd p (by decide)
theorem pz_gr_i1 {T X : Nat → Int} {d i : Nat} {r : pz_res} (h : pz_gr T X 1 d i r) : pz_g1 T X (pz_gr T X) d i r := by
  have q := pz_gr_inv h
  unfold pz_grF at q
  rcases q with ⟨p, q⟩ | ⟨p, q⟩ | ⟨p, q⟩ | ⟨p, q⟩ | ⟨p, q⟩ | ⟨p, q⟩ | ⟨p, q⟩ | ⟨p, q⟩ | ⟨p, q⟩
  · exact absurd p (by decide)
  · exact q
  · exact absurd p (by decide)
  · exact absurd p (by decide)
  · exact absurd p (by decide)
  · exact absurd p (by decide)
  · exact absurd p (by decide)
  · exact absurd p (by decide)
  · exact absurd p (by decide)
theorem pz_gr_i2 {T X : Nat → Int} {d i : Nat} {r : pz_res} (h : pz_gr T X 2 d i r) : pz_g2 T X (pz_gr T X) d i r := by
  have q := pz_gr_inv h
  unfold pz_grF at q
  rcases q with ⟨p, q⟩ | ⟨p, q⟩ | ⟨p, q⟩ | ⟨p, q⟩ | ⟨p, q⟩ | ⟨p, q⟩ | ⟨p, q⟩ | ⟨p, q⟩ | ⟨p, q⟩
  · exact absurd p (by decide)
  · exact absurd p (by decide)
  · exact q
  · exact absurd p (by decide)
  · exact absurd p (by decide)
  · exact absurd p (by decide)
  · exact absurd p (by decide)
  · exact absurd p (by decide)
  · exact absurd p (by decide)
theorem pz_gr_i3 {T X : Nat → Int} {d i : Nat} {r : pz_res} (h : pz_gr T X 3 d i r) : pz_g3 T X (pz_gr T X) d i r := by
  have q := pz_gr_inv h
  unfold pz_grF at q
  rcases q with ⟨p, q⟩ | ⟨p, q⟩ | ⟨p, q⟩ | ⟨p, q⟩ | ⟨p, q⟩ | ⟨p, q⟩ | ⟨p, q⟩ | ⟨p, q⟩ | ⟨p, q⟩
  · exact absurd p (by decide)
  · exact absurd p (by decide)
  · exact absurd p (by decide)
  · exact q
  · exact absurd p (by decide)
  · exact absurd p (by decide)
  · exact absurd p (by decide)
  · exact absurd p (by decide)
  · exact absurd p (by decide)
theorem pz_gr_i4 {T X : Nat → Int} {d i : Nat} {r : pz_res} (h : pz_gr T X 4 d i r) : pz_g4 T X (pz_gr T X) d i r := by
  have q := pz_gr_inv h
  unfold pz_grF at q
  rcases q with ⟨p, q⟩ | ⟨p, q⟩ | ⟨p, q⟩ | ⟨p, q⟩ | ⟨p, q⟩ | ⟨p, q⟩ | ⟨p, q⟩ | ⟨p, q⟩ | ⟨p, q⟩
  · exact absurd p (by decide)
  · exact absurd p (by decide)
  · exact absurd p (by decide)
  · exact absurd p (by decide)
  · exact q
  · exact absurd p (by decide)
  · exact absurd p (by decide)
  · exact absurd p (by decide)
  · exact absurd p (by decide)
theorem pz_gr_i5 {T X : Nat → Int} {d i : Nat} {r : pz_res} (h : pz_gr T X 5 d i r) : pz_g5 T X (pz_gr T X) d i r := by
  have q := pz_gr_inv h
  unfold pz_grF at q
  rcases q with ⟨p, q⟩ | ⟨p, q⟩ | ⟨p, q⟩ | ⟨p, q⟩ | ⟨p, q⟩ | ⟨p, q⟩ | ⟨p, q⟩ | ⟨p, q⟩ | ⟨p, q⟩
  · exact absurd p (by decide)
  · exact absurd p (by decide)
  · exact absurd p (by decide)
  · exact absurd p (by decide)
  · exact absurd p (by decide)
  · exact q
  · exact absurd p (by decide)
  · exact absurd p (by decide)
  · exact absurd p (by decide)
end
