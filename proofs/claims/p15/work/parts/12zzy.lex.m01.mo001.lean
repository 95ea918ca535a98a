section
def pz_g4 (T X : Nat → Int) (P : Nat → Nat → Nat → pz_res → Prop) (d i : Nat) (r : pz_res) : Prop :=
  ((T i = 7 ∨ T i = 40) ∧ 8 ≤ d ∧ r = .bad 3 i) ∨
  (∃ j : Nat, ∃ k : Int, T i = 7 ∧ d < 8 ∧ P 4 (d + 1) (i + 1) (.bad k j) ∧ r = .bad k j) ∨
  (∃ j : Nat, ∃ o : List (Int × Int), T i = 7 ∧ d < 8 ∧ P 4 (d + 1) (i + 1) (.ok j o) ∧ r = .ok j (o ++ [(30, 0)])) ∨
  (∃ j : Nat, ∃ k : Int, T i = 40 ∧ d < 8 ∧ P 8 (d + 1) (i + 1) (.bad k j) ∧ r = .bad k j) ∨
  (∃ j : Nat, ∃ o : List (Int × Int), T i = 40 ∧ d < 8 ∧ P 8 (d + 1) (i + 1) (.ok j o) ∧ T j ≠ 41 ∧ r = .bad 1 j) ∨
  (∃ j : Nat, ∃ o : List (Int × Int), T i = 40 ∧ d < 8 ∧ P 8 (d + 1) (i + 1) (.ok j o) ∧ T j = 41 ∧ r = .ok (j + 1) o) ∨
  (∃ j : Nat, ∃ k : Int, T i ≠ 7 ∧ T i ≠ 40 ∧ P 3 0 i (.bad k j) ∧ r = .bad k j) ∨
  (∃ j : Nat, ∃ o : List (Int × Int), T i ≠ 7 ∧ T i ≠ 40 ∧ P 3 0 i (.ok j o) ∧ ¬ (60 ≤ T j ∧ T j ≤ 62) ∧ r = .bad 1 j) ∨
  (∃ j : Nat, ∃ l : Nat, ∃ o : List (Int × Int), ∃ k : Int, T i ≠ 7 ∧ T i ≠ 40 ∧ P 3 0 i (.ok j o) ∧ (60 ≤ T j ∧ T j ≤ 62) ∧ P 3 0 (j + 1) (.bad k l) ∧ r = .bad k l) ∨
  (∃ j : Nat, ∃ l : Nat, ∃ o : List (Int × Int), ∃ o' : List (Int × Int), T i ≠ 7 ∧ T i ≠ 40 ∧ P 3 0 i (.ok j o) ∧ (60 ≤ T j ∧ T j ≤ 62) ∧ P 3 0 (j + 1) (.ok l o') ∧ r = .ok l (o ++ o' ++ [(pz_op (T j), 0)]))
def pz_g5 (T X : Nat → Int) (P : Nat → Nat → Nat → pz_res → Prop) (d i : Nat) (r : pz_res) : Prop :=
  (T i ≠ 6 ∧ r = .ok i []) ∨
  (∃ j : Nat, ∃ k : Int, T i = 6 ∧ P 4 d (i + 1) (.bad k j) ∧ r = .bad k j) ∨
  (∃ j : Nat, ∃ o : List (Int × Int), ∃ r9 : pz_res, T i = 6 ∧ P 4 d (i + 1) (.ok j o) ∧ P 5 d j r9 ∧ r = r9.app (o ++ [(31, 0)]))
def pz_g6 (T X : Nat → Int) (P : Nat → Nat → Nat → pz_res → Prop) (d i : Nat) (r : pz_res) : Prop :=
  (∃ j : Nat, ∃ k : Int, P 4 d i (.bad k j) ∧ r = .bad k j) ∨
  (∃ j : Nat, ∃ o : List (Int × Int), ∃ r9 : pz_res, P 4 d i (.ok j o) ∧ P 5 d j r9 ∧ r = r9.app o)
def pz_g7 (T X : Nat → Int) (P : Nat → Nat → Nat → pz_res → Prop) (d i : Nat) (r : pz_res) : Prop :=
  (T i ≠ 5 ∧ r = .ok i []) ∨
  (∃ j : Nat, ∃ k : Int, T i = 5 ∧ P 6 d (i + 1) (.bad k j) ∧ r = .bad k j) ∨
  (∃ j : Nat, ∃ o : List (Int × Int), ∃ r9 : pz_res, T i = 5 ∧ P 6 d (i + 1) (.ok j o) ∧ P 7 d j r9 ∧ r = r9.app (o ++ [(32, 0)]))
def pz_g8 (T X : Nat → Int) (P : Nat → Nat → Nat → pz_res → Prop) (d i : Nat) (r : pz_res) : Prop :=
  (∃ j : Nat, ∃ k : Int, P 6 d i (.bad k j) ∧ r = .bad k j) ∨
  (∃ j : Nat, ∃ o : List (Int × Int), ∃ r9 : pz_res, P 6 d i (.ok j o) ∧ P 7 d j r9 ∧ r = r9.app o)
theorem pz_g0_mono {T X : Nat → Int} {P Q : Nat → Nat → Nat → pz_res → Prop} (h : ∀ K d i r, P K d i r → Q K d i r) {d i : Nat} {r : pz_res} (q : pz_g0 T X P d i r) : pz_g0 T X Q d i r := by
  unfold pz_g0 at q ⊢
  rcases q with ⟨p0, p1, p⟩ | ⟨j, o, r, p0, p1, p2, p⟩ | ⟨j, k, p0, p1, p⟩ | ⟨p0, p1, p⟩ | ⟨p0, p1, p2, p⟩ | ⟨r, p0, p1, p2, p3, p⟩
  · exact Or.inl (⟨p0, p1, p⟩)
  · exact Or.inr (Or.inl (⟨j, o, r, p0, p1, h _ _ _ _ p2, p⟩))
  · exact Or.inr (Or.inr (Or.inl (⟨j, k, p0, p1, p⟩)))
  · exact Or.inr (Or.inr (Or.inr (Or.inl (⟨p0, p1, p⟩))))
  · exact Or.inr (Or.inr (Or.inr (Or.inr (Or.inl (⟨p0, p1, p2, p⟩)))))
  · exact Or.inr (Or.inr (Or.inr (Or.inr (Or.inr (⟨r, p0, p1, p2, h _ _ _ _ p3, p⟩)))))
end
