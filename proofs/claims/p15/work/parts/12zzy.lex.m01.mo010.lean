section
theorem pz_gr_lt {T X : Nat → Int} {K d i : Nat} {r : pz_res} (h : pz_gr T X K d i r) : ∀ j o, r = .ok j o → i ≤ j ∧ (K = 1 ∨ K = 3 ∨ K = 4 ∨ K = 6 ∨ K = 8 → i < j) := by
  have U : ∀ i j o, pz_uf T X i = .ok j o → i < j := by
    intro i j o z
    unfold pz_uf at z
    split at z
    · cases z; exact Nat.lt_succ_self _
    · split at z
      · cases z; exact Nat.lt_succ_self _
      · cases z
  refine h (fun K d i r => ∀ j o, r = .ok j o → i ≤ j ∧ (K = 1 ∨ K = 3 ∨ K = 4 ∨ K = 6 ∨ K = 8 → i < j)) (fun K d i r hF => ?_)
  intro j9 o9 h9
  unfold pz_grF at hF
  rcases hF with ⟨rfl, q⟩ | ⟨rfl, q⟩ | ⟨rfl, q⟩ | ⟨rfl, q⟩ | ⟨rfl, q⟩ | ⟨rfl, q⟩ | ⟨rfl, q⟩ | ⟨rfl, q⟩ | ⟨rfl, q⟩
  · unfold pz_g0 at q
    rcases q with ⟨p0, p1, pe⟩ | ⟨j, o, r, p0, p1, p2, pe⟩ | ⟨j, k, p0, p1, pe⟩ | ⟨p0, p1, pe⟩ | ⟨p0, p1, p2, pe⟩ | ⟨r, p0, p1, p2, p3, pe⟩ <;> grind [pz_app_ok]
  · unfold pz_g1 at q
    rcases q with ⟨j, k, p0, pe⟩ | ⟨j, o, r, p0, p1, pe⟩ <;> grind [pz_app_ok]
  · unfold pz_g2 at q
    rcases q with ⟨p0, p1, pe⟩ | ⟨j, k, p0, p1, pe⟩ | ⟨j, o, r, p0, p1, p2, pe⟩ <;> grind [pz_app_ok]
  · unfold pz_g3 at q
    rcases q with ⟨j, k, p0, pe⟩ | ⟨j, o, r, p0, p1, pe⟩ <;> grind [pz_app_ok]
  · unfold pz_g4 at q
    rcases q with ⟨p0, p1, pe⟩ | ⟨j, k, p0, p1, p2, pe⟩ | ⟨j, o, p0, p1, p2, pe⟩ | ⟨j, k, p0, p1, p2, pe⟩ | ⟨j, o, p0, p1, p2, p3, pe⟩ | ⟨j, o, p0, p1, p2, p3, pe⟩ | ⟨j, k, p0, p1, p2, pe⟩ | ⟨j, o, p0, p1, p2, p3, pe⟩ | ⟨j, l, o, k, p0, p1, p2, p3, p4, pe⟩ | ⟨j, l, o, o', p0, p1, p2, p3, p4, pe⟩ <;> grind [pz_app_ok]
  · unfold pz_g5 at q
    rcases q with ⟨p0, pe⟩ | ⟨j, k, p0, p1, pe⟩ | ⟨j, o, r, p0, p1, p2, pe⟩ <;> grind [pz_app_ok]
  · unfold pz_g6 at q
    rcases q with ⟨j, k, p0, pe⟩ | ⟨j, o, r, p0, p1, pe⟩ <;> grind [pz_app_ok]
  · unfold pz_g7 at q
    rcases q with ⟨p0, pe⟩ | ⟨j, k, p0, p1, pe⟩ | ⟨j, o, r, p0, p1, p2, pe⟩ <;> grind [pz_app_ok]
  · unfold pz_g8 at q
    rcases q with ⟨j, k, p0, pe⟩ | ⟨j, o, r, p0, p1, pe⟩ <;> grind [pz_app_ok]
theorem pz_gr_le {c : Nat} {T X : Nat → Int} (hc : T c = 101) {K d i : Nat} {r : pz_res} (h : pz_gr T X K d i r) : i ≤ c → (∀ j o, r = .ok j o → j ≤ c) ∧ (∀ k j, r = .bad k j → j ≤ c) := by
  have L : ∀ i, i ≤ c → T i ≠ 101 → i + 1 ≤ c := fun i hi ht => by
    rcases Nat.lt_or_ge i c with q | q
    · exact q
    · rw [show i = c by omega] at ht
      exact absurd hc ht
  have U : ∀ i, i ≤ c → (∀ j o, pz_uf T X i = .ok j o → j ≤ c) ∧ (∀ k j, pz_uf T X i = .bad k j → j ≤ c) := fun i hi => by
    have l := L i hi
    unfold pz_uf
    split
    · exact ⟨fun j o z => (by cases z; exact l (by first | decide | omega)), fun k j z => (by cases z)⟩
    · split
      · exact ⟨fun j o z => (by cases z; exact l (by first | decide | omega)), fun k j z => (by cases z)⟩
      · exact ⟨fun j o z => (by cases z), fun k j z => (by cases z; exact hi)⟩
  refine h (fun K d i r => i ≤ c → (∀ j o, r = .ok j o → j ≤ c) ∧ (∀ k j, r = .bad k j → j ≤ c)) (fun K d i r hF => ?_)
  intro hi
  have l := L i hi
  unfold pz_grF at hF
  rcases hF with ⟨rfl, q⟩ | ⟨rfl, q⟩ | ⟨rfl, q⟩ | ⟨rfl, q⟩ | ⟨rfl, q⟩ | ⟨rfl, q⟩ | ⟨rfl, q⟩ | ⟨rfl, q⟩ | ⟨rfl, q⟩
  · unfold pz_g0 at q
    rcases q with ⟨p0, p1, pe⟩ | ⟨j, o, r, p0, p1, p2, pe⟩ | ⟨j, k, p0, p1, pe⟩ | ⟨p0, p1, pe⟩ | ⟨p0, p1, p2, pe⟩ | ⟨r, p0, p1, p2, p3, pe⟩ <;> grind [pz_app_ok, pz_app_bad]
  · unfold pz_g1 at q
    rcases q with ⟨j, k, p0, pe⟩ | ⟨j, o, r, p0, p1, pe⟩ <;> grind [pz_app_ok, pz_app_bad]
  · unfold pz_g2 at q
    rcases q with ⟨p0, p1, pe⟩ | ⟨j, k, p0, p1, pe⟩ | ⟨j, o, r, p0, p1, p2, pe⟩ <;> grind [pz_app_ok, pz_app_bad]
  · unfold pz_g3 at q
    rcases q with ⟨j, k, p0, pe⟩ | ⟨j, o, r, p0, p1, pe⟩ <;> grind [pz_app_ok, pz_app_bad]
  · unfold pz_g4 at q
    rcases q with ⟨p0, p1, pe⟩ | ⟨j, k, p0, p1, p2, pe⟩ | ⟨j, o, p0, p1, p2, pe⟩ | ⟨j, k, p0, p1, p2, pe⟩ | ⟨j, o, p0, p1, p2, p3, pe⟩ | ⟨j, o, p0, p1, p2, p3, pe⟩ | ⟨j, k, p0, p1, p2, pe⟩ | ⟨j, o, p0, p1, p2, p3, pe⟩ | ⟨j, l, o, k, p0, p1, p2, p3, p4, pe⟩ | ⟨j, l, o, o', p0, p1, p2, p3, p4, pe⟩ <;> grind [pz_app_ok, pz_app_bad]
  · unfold pz_g5 at q
    rcases q with ⟨p0, pe⟩ | ⟨j, k, p0, p1, pe⟩ | ⟨j, o, r, p0, p1, p2, pe⟩ <;> grind [pz_app_ok, pz_app_bad]
  · unfold pz_g6 at q
    rcases q with ⟨j, k, p0, pe⟩ | ⟨j, o, r, p0, p1, pe⟩ <;> grind [pz_app_ok, pz_app_bad]
  · unfold pz_g7 at q
    rcases q with ⟨p0, pe⟩ | ⟨j, k, p0, p1, pe⟩ | ⟨j, o, r, p0, p1, p2, pe⟩ <;> grind [pz_app_ok, pz_app_bad]
  · unfold pz_g8 at q
    rcases q with ⟨j, k, p0, pe⟩ | ⟨j, o, r, p0, p1, pe⟩ <;> grind [pz_app_ok, pz_app_bad]
/-! the lines of THE LAW -/
end
