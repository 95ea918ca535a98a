section
/-! the rules of the TEXTS, over tokens T with numbers X: what is read up to where, or which fault where -/
abbrev pz_res : Type := (Nat × List (Int × Int)) ⊕ (Int × Nat)
abbrev pz_res.ok (j : Nat) (o : List (Int × Int)) : pz_res := Sum.inl (j, o)
abbrev pz_res.bad (k : Int) (j : Nat) : pz_res := Sum.inr (k, j)
def pz_res.app (o : List (Int × Int)) (r : pz_res) : pz_res := match r with
  | .inl (j, p) => .inl (j, o ++ p)
  | .inr (k, j) => .inr (k, j)
theorem pz_app_nil {r : pz_res} : r.app [] = r := by
  rcases r with ⟨j, o⟩ | ⟨k, j⟩ <;> rfl
theorem pz_app_app {r : pz_res} {o o' : List (Int × Int)} : (r.app o').app o = r.app (o ++ o') := by
  rcases r with ⟨j, p⟩ | ⟨k, j⟩
  · show pz_res.ok j (o ++ (o' ++ p)) = .ok j ((o ++ o') ++ p)
    rw [List.append_assoc]
  · rfl
theorem pz_app_bad {r : pz_res} {o : List (Int × Int)} {k : Int} {j : Nat} (h : r.app o = .bad k j) : r = .bad k j := by
  rcases r with ⟨l, p⟩ | ⟨l, m⟩
  · exact absurd h (by intro z; cases z)
  · exact h
theorem pz_app_ok {r : pz_res} {o p : List (Int × Int)} {j : Nat} (h : r.app o = .ok j p) : ∃ p', r = .ok j p' ∧ p = o ++ p' := by
  rcases r with ⟨l, q⟩ | ⟨l, m⟩
  · cases h
    exact ⟨q, rfl, rfl⟩
  · exact absurd h (by intro z; cases z)
/-- a number or a name -/
def pz_uf (T X : Nat → Int) (i : Nat) : pz_res := if T i = 100 then .ok (i + 1) [(0, X i)] else if 8 ≤ T i ∧ T i ≤ 16 then .ok (i + 1) [(T i - 7, 0)] else .bad 1 i
/-- what a sign does -/
def pz_op (t : Int) : Int := if t = 43 then 23 else if t = 45 then 24 else if t = 60 then 27 else if t = 61 then 28 else 29
def pz_g0 (T X : Nat → Int) (P : Nat → Nat → Nat → pz_res → Prop) (d i : Nat) (r : pz_res) : Prop :=
  (T i ≠ 42 ∧ T i ≠ 47 ∧ r = .ok i []) ∨
  (∃ j : Nat, ∃ o : List (Int × Int), ∃ r9 : pz_res, T i = 42 ∧ pz_uf T X (i + 1) = .ok j o ∧ P 0 d j r9 ∧ r = r9.app (o ++ [(25, 0)])) ∨
  (∃ j : Nat, ∃ k : Int, T i = 42 ∧ pz_uf T X (i + 1) = .bad k j ∧ r = .bad k j) ∨
  (T i = 47 ∧ T (i + 1) ≠ 100 ∧ r = .bad 1 (i + 1)) ∨
  (T i = 47 ∧ T (i + 1) = 100 ∧ X (i + 1) = 0 ∧ r = .bad 2 (i + 1)) ∨
  (∃ r9 : pz_res, T i = 47 ∧ T (i + 1) = 100 ∧ X (i + 1) ≠ 0 ∧ P 0 d (i + 2) r9 ∧ r = r9.app [(26, X (i + 1))])
def pz_g1 (T X : Nat → Int) (P : Nat → Nat → Nat → pz_res → Prop) (d i : Nat) (r : pz_res) : Prop :=
  (∃ j : Nat, ∃ k : Int, pz_uf T X i = .bad k j ∧ r = .bad k j) ∨
  (∃ j : Nat, ∃ o : List (Int × Int), ∃ r9 : pz_res, pz_uf T X i = .ok j o ∧ P 0 d j r9 ∧ r = r9.app o)
def pz_g2 (T X : Nat → Int) (P : Nat → Nat → Nat → pz_res → Prop) (d i : Nat) (r : pz_res) : Prop :=
  (T i ≠ 43 ∧ T i ≠ 45 ∧ r = .ok i []) ∨
  (∃ j : Nat, ∃ k : Int, (T i = 43 ∨ T i = 45) ∧ P 1 d (i + 1) (.bad k j) ∧ r = .bad k j) ∨
  (∃ j : Nat, ∃ o : List (Int × Int), ∃ r9 : pz_res, (T i = 43 ∨ T i = 45) ∧ P 1 d (i + 1) (.ok j o) ∧ P 2 d j r9 ∧ r = r9.app (o ++ [(pz_op (T i), 0)]))
def pz_g3 (T X : Nat → Int) (P : Nat → Nat → Nat → pz_res → Prop) (d i : Nat) (r : pz_res) : Prop :=
  (∃ j : Nat, ∃ k : Int, P 1 d i (.bad k j) ∧ r = .bad k j) ∨
  (∃ j : Nat, ∃ o : List (Int × Int), ∃ r9 : pz_res, P 1 d i (.ok j o) ∧ P 2 d j r9 ∧ r = r9.app o)
end
