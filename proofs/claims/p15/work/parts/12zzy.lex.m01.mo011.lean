section
abbrev pz_lne : Type := Int × (List (Int × Int) × List (Int × Int))
abbrev pz_lres : Type := List pz_lne ⊕ (Int × Nat)
abbrev pz_lres.ok (ls : List pz_lne) : pz_lres := Sum.inl ls
abbrev pz_lres.bad (k : Int) (j : Nat) : pz_lres := Sum.inr (k, j)
def pz_lres.pre (ls : List pz_lne) (r : pz_lres) : pz_lres := match r with
  | .inl l => .inl (ls ++ l)
  | .inr q => .inr q
theorem pz_lpre_nil {r : pz_lres} : r.pre [] = r := by
  rcases r with l | q <;> rfl
theorem pz_lpre_pre {r : pz_lres} {a b : List pz_lne} : (r.pre b).pre a = r.pre (a ++ b) := by
  rcases r with l | q
  · show pz_lres.ok (a ++ (b ++ l)) = .ok ((a ++ b) ++ l)
    rw [List.append_assoc]
  · rfl
def pz_glF (T X : Nat → Int) (P : Nat → Nat → pz_lres → Prop) (n i : Nat) (r : pz_lres) : Prop :=
  (T i = 101 ∧ r = .ok []) ∨
  (T i ≠ 101 ∧ (¬ (0 ≤ T i ∧ T i ≤ 3)) ∧ r = .bad 1 i) ∨
  ((0 ≤ T i ∧ T i ≤ 3) ∧ 16 ≤ n ∧ r = .bad 3 i) ∨
  (∃ j : Nat, ∃ k : Int, (0 ≤ T i ∧ T i ≤ 3) ∧ n < 16 ∧ pz_gr T X 3 0 (i + 1) (.bad k j) ∧ r = .bad k j) ∨
  (∃ j : Nat, ∃ o : List (Int × Int), (0 ≤ T i ∧ T i ≤ 3) ∧ n < 16 ∧ pz_gr T X 3 0 (i + 1) (.ok j o) ∧ T j ≠ 4 ∧ T j ≠ 59 ∧ r = .bad 1 j) ∨
  (∃ j : Nat, ∃ o : List (Int × Int), ∃ r9 : pz_lres, (0 ≤ T i ∧ T i ≤ 3) ∧ n < 16 ∧ pz_gr T X 3 0 (i + 1) (.ok j o) ∧ T j = 59 ∧ P (n + 1) (j + 1) r9 ∧ r = r9.pre [(T i, o, [])]) ∨
  (∃ j : Nat, ∃ l : Nat, ∃ o : List (Int × Int), ∃ k : Int, (0 ≤ T i ∧ T i ≤ 3) ∧ n < 16 ∧ pz_gr T X 3 0 (i + 1) (.ok j o) ∧ T j = 4 ∧ pz_gr T X 8 0 (j + 1) (.bad k l) ∧ r = .bad k l) ∨
  (∃ j : Nat, ∃ l : Nat, ∃ o : List (Int × Int), ∃ p : List (Int × Int), (0 ≤ T i ∧ T i ≤ 3) ∧ n < 16 ∧ pz_gr T X 3 0 (i + 1) (.ok j o) ∧ T j = 4 ∧ pz_gr T X 8 0 (j + 1) (.ok l p) ∧ T l ≠ 59 ∧ r = .bad 1 l) ∨
  (∃ j : Nat, ∃ l : Nat, ∃ o : List (Int × Int), ∃ p : List (Int × Int), ∃ r9 : pz_lres, (0 ≤ T i ∧ T i ≤ 3) ∧ n < 16 ∧ pz_gr T X 3 0 (i + 1) (.ok j o) ∧ T j = 4 ∧ pz_gr T X 8 0 (j + 1) (.ok l p) ∧ T l = 59 ∧ P (n + 1) (l + 1) r9 ∧ r = r9.pre [(T i, o, p)])
theorem pz_glF_mono {T X : Nat → Int} {P Q : Nat → Nat → pz_lres → Prop} (h : ∀ n i r, P n i r → Q n i r) {n i : Nat} {r : pz_lres} (q : pz_glF T X P n i r) : pz_glF T X Q n i r := by
  unfold pz_glF at q ⊢
  rcases q with ⟨p0, pe⟩ | ⟨p0, p1, pe⟩ | ⟨p0, p1, pe⟩ | ⟨j, k, p0, p1, p2, pe⟩ | ⟨j, o, p0, p1, p2, p3, p4, pe⟩ | ⟨j, o, r, p0, p1, p2, p3, p4, pe⟩ | ⟨j, l, o, k, p0, p1, p2, p3, p4, pe⟩ | ⟨j, l, o, p, p0, p1, p2, p3, p4, p5, pe⟩ | ⟨j, l, o, p, r, p0, p1, p2, p3, p4, p5, p6, pe⟩
  · exact Or.inl (⟨p0, pe⟩)
  · exact Or.inr (Or.inl (⟨p0, p1, pe⟩))
  · exact Or.inr (Or.inr (Or.inl (⟨p0, p1, pe⟩)))
  · exact Or.inr (Or.inr (Or.inr (Or.inl (⟨j, k, p0, p1, p2, pe⟩))))
  · exact Or.inr (Or.inr (Or.inr (Or.inr (Or.inl (⟨j, o, p0, p1, p2, p3, p4, pe⟩)))))
  · exact Or.inr (Or.inr (Or.inr (Or.inr (Or.inr (Or.inl (⟨j, o, r, p0, p1, p2, p3, h _ _ _ p4, pe⟩))))))
  · exact Or.inr (Or.inr (Or.inr (Or.inr (Or.inr (Or.inr (Or.inl (⟨j, l, o, k, p0, p1, p2, p3, p4, pe⟩)))))))
  · exact Or.inr (Or.inr (Or.inr (Or.inr (Or.inr (Or.inr (Or.inr (Or.inl (⟨j, l, o, p, p0, p1, p2, p3, p4, p5, pe⟩))))))))
  · exact Or.inr (Or.inr (Or.inr (Or.inr (Or.inr (Or.inr (Or.inr (Or.inr (⟨j, l, o, p, r, p0, p1, p2, p3, p4, p5, h _ _ _ p6, pe⟩))))))))
end
