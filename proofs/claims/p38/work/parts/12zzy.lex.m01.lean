section
/-! the rules of the TEXTS, over tokens T with numbers X: what is read up to where, or which fault where -/
abbrev pz_res : Type := (Nat × List (Int × Int)) ⊕ (Int × Nat)
abbrev pz_res.ok (j : Nat) (o : List (Int × Int)) : pz_res := Sum.inl (j, o)
abbrev pz_res.bad (k : Int) (j : Nat) : pz_res := Sum.inr (k, j)
def pz_res.app (o : List (Int × Int)) (r : pz_res) : pz_res := match r with
  | .inl (j, p) => .inl (j, o ++ p)
  | .inr (k, j) => .inr (k, j)
theorem pz_app_nil {r : pz_res} : r.app [] = r := by
  rcases r with ⟨j, o⟩ | ⟨k, j⟩ <;> rfl
theorem pz_app_app {r : pz_res} {o o' : List (Int × Int)} : (r.app o').app o = r.app (o ++ o') := by
  rcases r with ⟨j, p⟩ | ⟨k, j⟩
  · show pz_res.ok j (o ++ (o' ++ p)) = .ok j ((o ++ o') ++ p)
    rw [List.append_assoc]
  · rfl
theorem pz_app_bad {r : pz_res} {o : List (Int × Int)} {k : Int} {j : Nat} (h : r.app o = .bad k j) : r = .bad k j := by
  rcases r with ⟨l, p⟩ | ⟨l, m⟩
  · exact absurd h (by intro z; cases z)
  · exact h
theorem pz_app_ok {r : pz_res} {o p : List (Int × Int)} {j : Nat} (h : r.app o = .ok j p) : ∃ p', r = .ok j p' ∧ p = o ++ p' := by
  rcases r with ⟨l, q⟩ | ⟨l, m⟩
  · cases h
    exact ⟨q, rfl, rfl⟩
  · exact absurd h (by intro z; cases z)
/-- a number or a name -/
def pz_uf (T X : Nat → Int) (i : Nat) : pz_res := if T i = 100 then .ok (i + 1) [(0, X i)] else if 8 ≤ T i ∧ T i ≤ 16 then .ok (i + 1) [(T i - 7, 0)] else .bad 1 i
/-- what a sign does -/
def pz_op (t : Int) : Int := if t = 43 then 23 else if t = 45 then 24 else if t = 60 then 27 else if t = 61 then 28 else 29
def pz_g0 (T X : Nat → Int) (P : Nat → Nat → Nat → pz_res → Prop) (d i : Nat) (r : pz_res) : Prop :=
  (T i ≠ 42 ∧ T i ≠ 47 ∧ r = .ok i []) ∨
  (∃ j : Nat, ∃ o : List (Int × Int), ∃ r9 : pz_res, T i = 42 ∧ pz_uf T X (i + 1) = .ok j o ∧ P 0 d j r9 ∧ r = r9.app (o ++ [(25, 0)])) ∨
  (∃ j : Nat, ∃ k : Int, T i = 42 ∧ pz_uf T X (i + 1) = .bad k j ∧ r = .bad k j) ∨
  (T i = 47 ∧ T (i + 1) ≠ 100 ∧ r = .bad 1 (i + 1)) ∨
  (T i = 47 ∧ T (i + 1) = 100 ∧ X (i + 1) = 0 ∧ r = .bad 2 (i + 1)) ∨
  (∃ r9 : pz_res, T i = 47 ∧ T (i + 1) = 100 ∧ X (i + 1) ≠ 0 ∧ P 0 d (i + 2) r9 ∧ r = r9.app [(26, X (i + 1))])
def pz_g1 (T X : Nat → Int) (P : Nat → Nat → Nat → pz_res → Prop) (d i : Nat) (r : pz_res) : Prop :=
  (∃ j : Nat, ∃ k : Int, pz_uf T X i = .bad k j ∧ r = .bad k j) ∨
  (∃ j : Nat, ∃ o : List (Int × Int), ∃ r9 : pz_res, pz_uf T X i = .ok j o ∧ P 0 d j r9 ∧ r = r9.app o)
def pz_g2 (T X : Nat → Int) (P : Nat → Nat → Nat → pz_res → Prop) (d i : Nat) (r : pz_res) : Prop :=
  (T i ≠ 43 ∧ T i ≠ 45 ∧ r = .ok i []) ∨
  (∃ j : Nat, ∃ k : Int, (T i = 43 ∨ T i = 45) ∧ P 1 d (i + 1) (.bad k j) ∧ r = .bad k j) ∨
  (∃ j : Nat, ∃ o : List (Int × Int), ∃ r9 : pz_res, (T i = 43 ∨ T i = 45) ∧ P 1 d (i + 1) (.ok j o) ∧ P 2 d j r9 ∧ r = r9.app (o ++ [(pz_op (T i), 0)]))
def pz_g3 (T X : Nat → Int) (P : Nat → Nat → Nat → pz_res → Prop) (d i : Nat) (r : pz_res) : Prop :=
  (∃ j : Nat, ∃ k : Int, P 1 d i (.bad k j) ∧ r = .bad k j) ∨
  (∃ j : Nat, ∃ o : List (Int × Int), ∃ r9 : pz_res, P 1 d i (.ok j o) ∧ P 2 d j r9 ∧ r = r9.app o)
def pz_g4 (T X : Nat → Int) (P : Nat → Nat → Nat → pz_res → Prop) (d i : Nat) (r : pz_res) : Prop :=
  ((T i = 7 ∨ T i = 40) ∧ 8 ≤ d ∧ r = .bad 3 i) ∨
  (∃ j : Nat, ∃ k : Int, T i = 7 ∧ d < 8 ∧ P 4 (d + 1) (i + 1) (.bad k j) ∧ r = .bad k j) ∨
  (∃ j : Nat, ∃ o : List (Int × Int), T i = 7 ∧ d < 8 ∧ P 4 (d + 1) (i + 1) (.ok j o) ∧ r = .ok j (o ++ [(30, 0)])) ∨
  (∃ j : Nat, ∃ k : Int, T i = 40 ∧ d < 8 ∧ P 8 (d + 1) (i + 1) (.bad k j) ∧ r = .bad k j) ∨
  (∃ j : Nat, ∃ o : List (Int × Int), T i = 40 ∧ d < 8 ∧ P 8 (d + 1) (i + 1) (.ok j o) ∧ T j ≠ 41 ∧ r = .bad 1 j) ∨
  (∃ j : Nat, ∃ o : List (Int × Int), T i = 40 ∧ d < 8 ∧ P 8 (d + 1) (i + 1) (.ok j o) ∧ T j = 41 ∧ r = .ok (j + 1) o) ∨
  (∃ j : Nat, ∃ k : Int, T i ≠ 7 ∧ T i ≠ 40 ∧ P 3 0 i (.bad k j) ∧ r = .bad k j) ∨
  (∃ j : Nat, ∃ o : List (Int × Int), T i ≠ 7 ∧ T i ≠ 40 ∧ P 3 0 i (.ok j o) ∧ ¬ (60 ≤ T j ∧ T j ≤ 62) ∧ r = .bad 1 j) ∨
  (∃ j : Nat, ∃ l : Nat, ∃ o : List (Int × Int), ∃ k : Int, T i ≠ 7 ∧ T i ≠ 40 ∧ P 3 0 i (.ok j o) ∧ (60 ≤ T j ∧ T j ≤ 62) ∧ P 3 0 (j + 1) (.bad k l) ∧ r = .bad k l) ∨
  (∃ j : Nat, ∃ l : Nat, ∃ o : List (Int × Int), ∃ o' : List (Int × Int), T i ≠ 7 ∧ T i ≠ 40 ∧ P 3 0 i (.ok j o) ∧ (60 ≤ T j ∧ T j ≤ 62) ∧ P 3 0 (j + 1) (.ok l o') ∧ r = .ok l (o ++ o' ++ [(pz_op (T j), 0)]))
def pz_g5 (T X : Nat → Int) (P : Nat → Nat → Nat → pz_res → Prop) (d i : Nat) (r : pz_res) : Prop :=
  (T i ≠ 6 ∧ r = .ok i []) ∨
  (∃ j : Nat, ∃ k : Int, T i = 6 ∧ P 4 d (i + 1) (.bad k j) ∧ r = .bad k j) ∨
  (∃ j : Nat, ∃ o : List (Int × Int), ∃ r9 : pz_res, T i = 6 ∧ P 4 d (i + 1) (.ok j o) ∧ P 5 d j r9 ∧ r = r9.app (o ++ [(31, 0)]))
def pz_g6 (T X : Nat → Int) (P : Nat → Nat → Nat → pz_res → Prop) (d i : Nat) (r : pz_res) : Prop :=
  (∃ j : Nat, ∃ k : Int, P 4 d i (.bad k j) ∧ r = .bad k j) ∨
  (∃ j : Nat, ∃ o : List (Int × Int), ∃ r9 : pz_res, P 4 d i (.ok j o) ∧ P 5 d j r9 ∧ r = r9.app o)
def pz_g7 (T X : Nat → Int) (P : Nat → Nat → Nat → pz_res → Prop) (d i : Nat) (r : pz_res) : Prop :=
  (T i ≠ 5 ∧ r = .ok i []) ∨
  (∃ j : Nat, ∃ k : Int, T i = 5 ∧ P 6 d (i + 1) (.bad k j) ∧ r = .bad k j) ∨
  (∃ j : Nat, ∃ o : List (Int × Int), ∃ r9 : pz_res, T i = 5 ∧ P 6 d (i + 1) (.ok j o) ∧ P 7 d j r9 ∧ r = r9.app (o ++ [(32, 0)]))
def pz_g8 (T X : Nat → Int) (P : Nat → Nat → Nat → pz_res → Prop) (d i : Nat) (r : pz_res) : Prop :=
  (∃ j : Nat, ∃ k : Int, P 6 d i (.bad k j) ∧ r = .bad k j) ∨
  (∃ j : Nat, ∃ o : List (Int × Int), ∃ r9 : pz_res, P 6 d i (.ok j o) ∧ P 7 d j r9 ∧ r = r9.app o)
theorem pz_g0_mono {T X : Nat → Int} {P Q : Nat → Nat → Nat → pz_res → Prop} (h : ∀ K d i r, P K d i r → Q K d i r) {d i : Nat} {r : pz_res} (q : pz_g0 T X P d i r) : pz_g0 T X Q d i r := by
  unfold pz_g0 at q ⊢
  rcases q with ⟨p0, p1, p⟩ | ⟨j, o, r, p0, p1, p2, p⟩ | ⟨j, k, p0, p1, p⟩ | ⟨p0, p1, p⟩ | ⟨p0, p1, p2, p⟩ | ⟨r, p0, p1, p2, p3, p⟩
  · exact Or.inl (⟨p0, p1, p⟩)
  · exact Or.inr (Or.inl (⟨j, o, r, p0, p1, h _ _ _ _ p2, p⟩))
  · exact Or.inr (Or.inr (Or.inl (⟨j, k, p0, p1, p⟩)))
  · exact Or.inr (Or.inr (Or.inr (Or.inl (⟨p0, p1, p⟩))))
  · exact Or.inr (Or.inr (Or.inr (Or.inr (Or.inl (⟨p0, p1, p2, p⟩)))))
  · exact Or.inr (Or.inr (Or.inr (Or.inr (Or.inr (⟨r, p0, p1, p2, h _ _ _ _ p3, p⟩)))))
theorem pz_g1_mono {T X : Nat → Int} {P Q : Nat → Nat → Nat → pz_res → Prop} (h : ∀ K d i r, P K d i r → Q K d i r) {d i : Nat} {r : pz_res} (q : pz_g1 T X P d i r) : pz_g1 T X Q d i r := by
  unfold pz_g1 at q ⊢
  rcases q with ⟨j, k, p0, p⟩ | ⟨j, o, r, p0, p1, p⟩
  · exact Or.inl (⟨j, k, p0, p⟩)
  · exact Or.inr (⟨j, o, r, p0, h _ _ _ _ p1, p⟩)
theorem pz_g2_mono {T X : Nat → Int} {P Q : Nat → Nat → Nat → pz_res → Prop} (h : ∀ K d i r, P K d i r → Q K d i r) {d i : Nat} {r : pz_res} (q : pz_g2 T X P d i r) : pz_g2 T X Q d i r := by
  unfold pz_g2 at q ⊢
  rcases q with ⟨p0, p1, p⟩ | ⟨j, k, p0, p1, p⟩ | ⟨j, o, r, p0, p1, p2, p⟩
  · exact Or.inl (⟨p0, p1, p⟩)
  · exact Or.inr (Or.inl (⟨j, k, p0, h _ _ _ _ p1, p⟩))
  · exact Or.inr (Or.inr (⟨j, o, r, p0, h _ _ _ _ p1, h _ _ _ _ p2, p⟩))
theorem pz_g3_mono {T X : Nat → Int} {P Q : Nat → Nat → Nat → pz_res → Prop} (h : ∀ K d i r, P K d i r → Q K d i r) {d i : Nat} {r : pz_res} (q : pz_g3 T X P d i r) : pz_g3 T X Q d i r := by
  unfold pz_g3 at q ⊢
  rcases q with ⟨j, k, p0, p⟩ | ⟨j, o, r, p0, p1, p⟩
  · exact Or.inl (⟨j, k, h _ _ _ _ p0, p⟩)
  · exact Or.inr (⟨j, o, r, h _ _ _ _ p0, h _ _ _ _ p1, p⟩)
theorem pz_g4_mono {T X : Nat → Int} {P Q : Nat → Nat → Nat → pz_res → Prop} (h : ∀ K d i r, P K d i r → Q K d i r) {d i : Nat} {r : pz_res} (q : pz_g4 T X P d i r) : pz_g4 T X Q d i r := by
  unfold pz_g4 at q ⊢
  rcases q with ⟨p0, p1, p⟩ | ⟨j, k, p0, p1, p2, p⟩ | ⟨j, o, p0, p1, p2, p⟩ | ⟨j, k, p0, p1, p2, p⟩ | ⟨j, o, p0, p1, p2, p3, p⟩ | ⟨j, o, p0, p1, p2, p3, p⟩ | ⟨j, k, p0, p1, p2, p⟩ | ⟨j, o, p0, p1, p2, p3, p⟩ | ⟨j, l, o, k, p0, p1, p2, p3, p4, p⟩ | ⟨j, l, o, o', p0, p1, p2, p3, p4, p⟩
  · exact Or.inl (⟨p0, p1, p⟩)
  · exact Or.inr (Or.inl (⟨j, k, p0, p1, h _ _ _ _ p2, p⟩))
  · exact Or.inr (Or.inr (Or.inl (⟨j, o, p0, p1, h _ _ _ _ p2, p⟩)))
  · exact Or.inr (Or.inr (Or.inr (Or.inl (⟨j, k, p0, p1, h _ _ _ _ p2, p⟩))))
  · exact Or.inr (Or.inr (Or.inr (Or.inr (Or.inl (⟨j, o, p0, p1, h _ _ _ _ p2, p3, p⟩)))))
  · exact Or.inr (Or.inr (Or.inr (Or.inr (Or.inr (Or.inl (⟨j, o, p0, p1, h _ _ _ _ p2, p3, p⟩))))))
  · exact Or.inr (Or.inr (Or.inr (Or.inr (Or.inr (Or.inr (Or.inl (⟨j, k, p0, p1, h _ _ _ _ p2, p⟩)))))))
  · exact Or.inr (Or.inr (Or.inr (Or.inr (Or.inr (Or.inr (Or.inr (Or.inl (⟨j, o, p0, p1, h _ _ _ _ p2, p3, p⟩))))))))
  · exact Or.inr (Or.inr (Or.inr (Or.inr (Or.inr (Or.inr (Or.inr (Or.inr (Or.inl (⟨j, l, o, k, p0, p1, h _ _ _ _ p2, p3, h _ _ _ _ p4, p⟩)))))))))
  · exact Or.inr (Or.inr (Or.inr (Or.inr (Or.inr (Or.inr (Or.inr (Or.inr (Or.inr (⟨j, l, o, o', p0, p1, h _ _ _ _ p2, p3, h _ _ _ _ p4, p⟩)))))))))
theorem pz_g5_mono {T X : Nat → Int} {P Q : Nat → Nat → Nat → pz_res → Prop} (h : ∀ K d i r, P K d i r → Q K d i r) {d i : Nat} {r : pz_res} (q : pz_g5 T X P d i r) : pz_g5 T X Q d i r := by
  unfold pz_g5 at q ⊢
  rcases q with ⟨p0, p⟩ | ⟨j, k, p0, p1, p⟩ | ⟨j, o, r, p0, p1, p2, p⟩
  · exact Or.inl (⟨p0, p⟩)
  · exact Or.inr (Or.inl (⟨j, k, p0, h _ _ _ _ p1, p⟩))
  · exact Or.inr (Or.inr (⟨j, o, r, p0, h _ _ _ _ p1, h _ _ _ _ p2, p⟩))
theorem pz_g6_mono {T X : Nat → Int} {P Q : Nat → Nat → Nat → pz_res → Prop} (h : ∀ K d i r, P K d i r → Q K d i r) {d i : Nat} {r : pz_res} (q : pz_g6 T X P d i r) : pz_g6 T X Q d i r := by
  unfold pz_g6 at q ⊢
  rcases q with ⟨j, k, p0, p⟩ | ⟨j, o, r, p0, p1, p⟩
  · exact Or.inl (⟨j, k, h _ _ _ _ p0, p⟩)
  · exact Or.inr (⟨j, o, r, h _ _ _ _ p0, h _ _ _ _ p1, p⟩)
theorem pz_g7_mono {T X : Nat → Int} {P Q : Nat → Nat → Nat → pz_res → Prop} (h : ∀ K d i r, P K d i r → Q K d i r) {d i : Nat} {r : pz_res} (q : pz_g7 T X P d i r) : pz_g7 T X Q d i r := by
  unfold pz_g7 at q ⊢
  rcases q with ⟨p0, p⟩ | ⟨j, k, p0, p1, p⟩ | ⟨j, o, r, p0, p1, p2, p⟩
  · exact Or.inl (⟨p0, p⟩)
  · exact Or.inr (Or.inl (⟨j, k, p0, h _ _ _ _ p1, p⟩))
  · exact Or.inr (Or.inr (⟨j, o, r, p0, h _ _ _ _ p1, h _ _ _ _ p2, p⟩))
theorem pz_g8_mono {T X : Nat → Int} {P Q : Nat → Nat → Nat → pz_res → Prop} (h : ∀ K d i r, P K d i r → Q K d i r) {d i : Nat} {r : pz_res} (q : pz_g8 T X P d i r) : pz_g8 T X Q d i r := by
  unfold pz_g8 at q ⊢
  rcases q with ⟨j, k, p0, p⟩ | ⟨j, o, r, p0, p1, p⟩
  · exact Or.inl (⟨j, k, h _ _ _ _ p0, p⟩)
  · exact Or.inr (⟨j, o, r, h _ _ _ _ p0, h _ _ _ _ p1, p⟩)
def pz_grF (T X : Nat → Int) (P : Nat → Nat → Nat → pz_res → Prop) (K d i : Nat) (r : pz_res) : Prop :=
  (K = 0 ∧ pz_g0 T X P d i r) ∨ (K = 1 ∧ pz_g1 T X P d i r) ∨ (K = 2 ∧ pz_g2 T X P d i r) ∨ (K = 3 ∧ pz_g3 T X P d i r) ∨ (K = 4 ∧ pz_g4 T X P d i r) ∨ (K = 5 ∧ pz_g5 T X P d i r) ∨ (K = 6 ∧ pz_g6 T X P d i r) ∨ (K = 7 ∧ pz_g7 T X P d i r) ∨ (K = 8 ∧ pz_g8 T X P d i r)
theorem pz_grF_mono {T X : Nat → Int} {P Q : Nat → Nat → Nat → pz_res → Prop} (h : ∀ K d i r, P K d i r → Q K d i r) {K d i : Nat} {r : pz_res} (q : pz_grF T X P K d i r) : pz_grF T X Q K d i r := by
  unfold pz_grF at q ⊢
  rcases q with ⟨p, q⟩ | ⟨p, q⟩ | ⟨p, q⟩ | ⟨p, q⟩ | ⟨p, q⟩ | ⟨p, q⟩ | ⟨p, q⟩ | ⟨p, q⟩ | ⟨p, q⟩
  · exact Or.inl (⟨p, pz_g0_mono h q⟩)
  · exact Or.inr (Or.inl (⟨p, pz_g1_mono h q⟩))
  · exact Or.inr (Or.inr (Or.inl (⟨p, pz_g2_mono h q⟩)))
  · exact Or.inr (Or.inr (Or.inr (Or.inl (⟨p, pz_g3_mono h q⟩))))
  · exact Or.inr (Or.inr (Or.inr (Or.inr (Or.inl (⟨p, pz_g4_mono h q⟩)))))
  · exact Or.inr (Or.inr (Or.inr (Or.inr (Or.inr (Or.inl (⟨p, pz_g5_mono h q⟩))))))
  · exact Or.inr (Or.inr (Or.inr (Or.inr (Or.inr (Or.inr (Or.inl (⟨p, pz_g6_mono h q⟩)))))))
  · exact Or.inr (Or.inr (Or.inr (Or.inr (Or.inr (Or.inr (Or.inr (Or.inl (⟨p, pz_g7_mono h q⟩))))))))
  · exact Or.inr (Or.inr (Or.inr (Or.inr (Or.inr (Or.inr (Or.inr (Or.inr (⟨p, pz_g8_mono h q⟩))))))))
/-- kinds: 0 behind a unit, 1 a product, 2 behind a product, 3 a sum, 4 one test, 5 behind a test, 6 tests joined by and, 7 behind those, 8 by or -/
def pz_gr (T X : Nat → Int) (K d i : Nat) (r : pz_res) : Prop := ∀ P : Nat → Nat → Nat → pz_res → Prop, (∀ K d i r, pz_grF T X P K d i r → P K d i r) → P K d i r
theorem pz_gr_roll {T X : Nat → Int} {K d i : Nat} {r : pz_res} (h : pz_grF T X (pz_gr T X) K d i r) : pz_gr T X K d i r := fun P hP => hP _ _ _ _ (pz_grF_mono (fun _ _ _ _ q => q P hP) h)
theorem pz_gr_inv {T X : Nat → Int} {K d i : Nat} {r : pz_res} (h : pz_gr T X K d i r) : pz_grF T X (pz_gr T X) K d i r := h (pz_grF T X (pz_gr T X)) (fun _ _ _ _ q => pz_grF_mono (fun _ _ _ _ => pz_gr_roll) q)
theorem pz_gr_i0 {T X : Nat → Int} {d i : Nat} {r : pz_res} (h : pz_gr T X 0 d i r) : pz_g0 T X (pz_gr T X) d i r := by
  have q := pz_gr_inv h
  unfold pz_grF at q
  rcases q with ⟨p, q⟩ | ⟨p, q⟩ | ⟨p, q⟩ | ⟨p, q⟩ | ⟨p, q⟩ | ⟨p, q⟩ | ⟨p, q⟩ | ⟨p, q⟩ | ⟨p, q⟩
  · exact q
  · exact absurd p (by decide)
  · exact absurd p (by decide)
  · exact absurd p (by decide)
  · exact absurd p (by decide)
  · exact absurd p (by decide)
  · exact absurd p (by decide)
  · exact absurd p (by decide)
  · exact absurd p (by decide)
theorem pz_gr_i1 {T X : Nat → Int} {d i : Nat} {r : pz_res} (h : pz_gr T X 1 d i r) : pz_g1 T X (pz_gr T X) d i r := by
  have q := pz_gr_inv h
  unfold pz_grF at q
  rcases q with ⟨p, q⟩ | ⟨p, q⟩ | ⟨p, q⟩ | ⟨p, q⟩ | ⟨p, q⟩ | ⟨p, q⟩ | ⟨p, q⟩ | ⟨p, q⟩ | ⟨p, q⟩
  · exact absurd p (by decide)
  · exact q
  · exact absurd p (by decide)
  · exact absurd p (by decide)
  · exact absurd p (by decide)
  · exact absurd p (by decide)
  · exact absurd p (by decide)
  · exact absurd p (by decide)
  · exact absurd p (by decide)
theorem pz_gr_i2 {T X : Nat → Int} {d i : Nat} {r : pz_res} (h : pz_gr T X 2 d i r) : pz_g2 T X (pz_gr T X) d i r := by
  have q := pz_gr_inv h
  unfold pz_grF at q
  rcases q with ⟨p, q⟩ | ⟨p, q⟩ | ⟨p, q⟩ | ⟨p, q⟩ | ⟨p, q⟩ | ⟨p, q⟩ | ⟨p, q⟩ | ⟨p, q⟩ | ⟨p, q⟩
  · exact absurd p (by decide)
  · exact absurd p (by decide)
  · exact q
  · exact absurd p (by decide)
  · exact absurd p (by decide)
  · exact absurd p (by decide)
  · exact absurd p (by decide)
  · exact absurd p (by decide)
  · exact absurd p (by decide)
theorem pz_gr_i3 {T X : Nat → Int} {d i : Nat} {r : pz_res} (h : pz_gr T X 3 d i r) : pz_g3 T X (pz_gr T X) d i r := by
  have q := pz_gr_inv h
  unfold pz_grF at q
  rcases q with ⟨p, q⟩ | ⟨p, q⟩ | ⟨p, q⟩ | ⟨p, q⟩ | ⟨p, q⟩ | ⟨p, q⟩ | ⟨p, q⟩ | ⟨p, q⟩ | ⟨p, q⟩
  · exact absurd p (by decide)
  · exact absurd p (by decide)
  · exact absurd p (by decide)
  · exact q
  · exact absurd p (by decide)
  · exact absurd p (by decide)
  · exact absurd p (by decide)
  · exact absurd p (by decide)
  · exact absurd p (by decide)
theorem pz_gr_i4 {T X : Nat → Int} {d i : Nat} {r : pz_res} (h : pz_gr T X 4 d i r) : pz_g4 T X (pz_gr T X) d i r := by
  have q := pz_gr_inv h
  unfold pz_grF at q
  rcases q with ⟨p, q⟩ | ⟨p, q⟩ | ⟨p, q⟩ | ⟨p, q⟩ | ⟨p, q⟩ | ⟨p, q⟩ | ⟨p, q⟩ | ⟨p, q⟩ | ⟨p, q⟩
  · exact absurd p (by decide)
  · exact absurd p (by decide)
  · exact absurd p (by decide)
  · exact absurd p (by decide)
  · exact q
  · exact absurd p (by decide)
  · exact absurd p (by decide)
  · exact absurd p (by decide)
  · exact absurd p (by decide)
theorem pz_gr_i5 {T X : Nat → Int} {d i : Nat} {r : pz_res} (h : pz_gr T X 5 d i r) : pz_g5 T X (pz_gr T X) d i r := by
  have q := pz_gr_inv h
  unfold pz_grF at q
  rcases q with ⟨p, q⟩ | ⟨p, q⟩ | ⟨p, q⟩ | ⟨p, q⟩ | ⟨p, q⟩ | ⟨p, q⟩ | ⟨p, q⟩ | ⟨p, q⟩ | ⟨p, q⟩
  · exact absurd p (by decide)
  · exact absurd p (by decide)
  · exact absurd p (by decide)
  · exact absurd p (by decide)
  · exact absurd p (by decide)
  · exact q
  · exact absurd p (by decide)
  · exact absurd p (by decide)
  · exact absurd p (by decide)
theorem pz_gr_i6 {T X : Nat → Int} {d i : Nat} {r : pz_res} (h : pz_gr T X 6 d i r) : pz_g6 T X (pz_gr T X) d i r := by
  have q := pz_gr_inv h
  unfold pz_grF at q
  rcases q with ⟨p, q⟩ | ⟨p, q⟩ | ⟨p, q⟩ | ⟨p, q⟩ | ⟨p, q⟩ | ⟨p, q⟩ | ⟨p, q⟩ | ⟨p, q⟩ | ⟨p, q⟩
  · exact absurd p (by decide)
  · exact absurd p (by decide)
  · exact absurd p (by decide)
  · exact absurd p (by decide)
  · exact absurd p (by decide)
  · exact absurd p (by decide)
  · exact q
  · exact absurd p (by decide)
  · exact absurd p (by decide)
theorem pz_gr_i7 {T X : Nat → Int} {d i : Nat} {r : pz_res} (h : pz_gr T X 7 d i r) : pz_g7 T X (pz_gr T X) d i r := by
  have q := pz_gr_inv h
  unfold pz_grF at q
  rcases q with ⟨p, q⟩ | ⟨p, q⟩ | ⟨p, q⟩ | ⟨p, q⟩ | ⟨p, q⟩ | ⟨p, q⟩ | ⟨p, q⟩ | ⟨p, q⟩ | ⟨p, q⟩
  · exact absurd p (by decide)
  · exact absurd p (by decide)
  · exact absurd p (by decide)
  · exact absurd p (by decide)
  · exact absurd p (by decide)
  · exact absurd p (by decide)
  · exact absurd p (by decide)
  · exact q
  · exact absurd p (by decide)
theorem pz_gr_i8 {T X : Nat → Int} {d i : Nat} {r : pz_res} (h : pz_gr T X 8 d i r) : pz_g8 T X (pz_gr T X) d i r := by
  have q := pz_gr_inv h
  unfold pz_grF at q
  rcases q with ⟨p, q⟩ | ⟨p, q⟩ | ⟨p, q⟩ | ⟨p, q⟩ | ⟨p, q⟩ | ⟨p, q⟩ | ⟨p, q⟩ | ⟨p, q⟩ | ⟨p, q⟩
  · exact absurd p (by decide)
  · exact absurd p (by decide)
  · exact absurd p (by decide)
  · exact absurd p (by decide)
  · exact absurd p (by decide)
  · exact absurd p (by decide)
  · exact absurd p (by decide)
  · exact absurd p (by decide)
  · exact q
theorem pz_gr.pt0 {T X : Nat → Int} {d i : Nat} : T i ≠ 42 → T i ≠ 47 → pz_gr T X 0 d i (.ok i []) := fun p0 p1 => pz_gr_roll (Or.inl (⟨rfl, Or.inl (⟨p0, p1, rfl⟩)⟩))
theorem pz_gr.ptm {T X : Nat → Int} {d i : Nat} {j : Nat} {o : List (Int × Int)} {r : pz_res} : T i = 42 → pz_uf T X (i + 1) = .ok j o → pz_gr T X 0 d j r → pz_gr T X 0 d i (r.app (o ++ [(25, 0)])) := fun p0 p1 p2 => pz_gr_roll (Or.inl (⟨rfl, Or.inr (Or.inl (⟨j, o, r, p0, p1, p2, rfl⟩))⟩))
theorem pz_gr.ptmb {T X : Nat → Int} {d i : Nat} {j : Nat} {k : Int} : T i = 42 → pz_uf T X (i + 1) = .bad k j → pz_gr T X 0 d i (.bad k j) := fun p0 p1 => pz_gr_roll (Or.inl (⟨rfl, Or.inr (Or.inr (Or.inl (⟨j, k, p0, p1, rfl⟩)))⟩))
theorem pz_gr.ptn {T X : Nat → Int} {d i : Nat} : T i = 47 → T (i + 1) ≠ 100 → pz_gr T X 0 d i (.bad 1 (i + 1)) := fun p0 p1 => pz_gr_roll (Or.inl (⟨rfl, Or.inr (Or.inr (Or.inr (Or.inl (⟨p0, p1, rfl⟩))))⟩))
theorem pz_gr.ptz {T X : Nat → Int} {d i : Nat} : T i = 47 → T (i + 1) = 100 → X (i + 1) = 0 → pz_gr T X 0 d i (.bad 2 (i + 1)) := fun p0 p1 p2 => pz_gr_roll (Or.inl (⟨rfl, Or.inr (Or.inr (Or.inr (Or.inr (Or.inl (⟨p0, p1, p2, rfl⟩)))))⟩))
theorem pz_gr.ptd {T X : Nat → Int} {d i : Nat} {r : pz_res} : T i = 47 → T (i + 1) = 100 → X (i + 1) ≠ 0 → pz_gr T X 0 d (i + 2) r → pz_gr T X 0 d i (r.app [(26, X (i + 1))]) := fun p0 p1 p2 p3 => pz_gr_roll (Or.inl (⟨rfl, Or.inr (Or.inr (Or.inr (Or.inr (Or.inr (⟨r, p0, p1, p2, p3, rfl⟩)))))⟩))
theorem pz_gr.pdb {T X : Nat → Int} {d i : Nat} {j : Nat} {k : Int} : pz_uf T X i = .bad k j → pz_gr T X 1 d i (.bad k j) := fun p0 => pz_gr_roll (Or.inr (Or.inl (⟨rfl, Or.inl (⟨j, k, p0, rfl⟩)⟩)))
theorem pz_gr.pdu {T X : Nat → Int} {d i : Nat} {j : Nat} {o : List (Int × Int)} {r : pz_res} : pz_uf T X i = .ok j o → pz_gr T X 0 d j r → pz_gr T X 1 d i (r.app o) := fun p0 p1 => pz_gr_roll (Or.inr (Or.inl (⟨rfl, Or.inr (⟨j, o, r, p0, p1, rfl⟩)⟩)))
theorem pz_gr.st0 {T X : Nat → Int} {d i : Nat} : T i ≠ 43 → T i ≠ 45 → pz_gr T X 2 d i (.ok i []) := fun p0 p1 => pz_gr_roll (Or.inr (Or.inr (Or.inl (⟨rfl, Or.inl (⟨p0, p1, rfl⟩)⟩))))
theorem pz_gr.stb {T X : Nat → Int} {d i : Nat} {j : Nat} {k : Int} : T i = 43 ∨ T i = 45 → pz_gr T X 1 d (i + 1) (.bad k j) → pz_gr T X 2 d i (.bad k j) := fun p0 p1 => pz_gr_roll (Or.inr (Or.inr (Or.inl (⟨rfl, Or.inr (Or.inl (⟨j, k, p0, p1, rfl⟩))⟩))))
theorem pz_gr.sts {T X : Nat → Int} {d i : Nat} {j : Nat} {o : List (Int × Int)} {r : pz_res} : T i = 43 ∨ T i = 45 → pz_gr T X 1 d (i + 1) (.ok j o) → pz_gr T X 2 d j r → pz_gr T X 2 d i (r.app (o ++ [(pz_op (T i), 0)])) := fun p0 p1 p2 => pz_gr_roll (Or.inr (Or.inr (Or.inl (⟨rfl, Or.inr (Or.inr (⟨j, o, r, p0, p1, p2, rfl⟩))⟩))))
theorem pz_gr.smb {T X : Nat → Int} {d i : Nat} {j : Nat} {k : Int} : pz_gr T X 1 d i (.bad k j) → pz_gr T X 3 d i (.bad k j) := fun p0 => pz_gr_roll (Or.inr (Or.inr (Or.inr (Or.inl (⟨rfl, Or.inl (⟨j, k, p0, rfl⟩)⟩)))))
theorem pz_gr.sms {T X : Nat → Int} {d i : Nat} {j : Nat} {o : List (Int × Int)} {r : pz_res} : pz_gr T X 1 d i (.ok j o) → pz_gr T X 2 d j r → pz_gr T X 3 d i (r.app o) := fun p0 p1 => pz_gr_roll (Or.inr (Or.inr (Or.inr (Or.inl (⟨rfl, Or.inr (⟨j, o, r, p0, p1, rfl⟩)⟩)))))
theorem pz_gr.onx {T X : Nat → Int} {d i : Nat} : T i = 7 ∨ T i = 40 → 8 ≤ d → pz_gr T X 4 d i (.bad 3 i) := fun p0 p1 => pz_gr_roll (Or.inr (Or.inr (Or.inr (Or.inr (Or.inl (⟨rfl, Or.inl (⟨p0, p1, rfl⟩)⟩))))))
theorem pz_gr.onnb {T X : Nat → Int} {d i : Nat} {j : Nat} {k : Int} : T i = 7 → d < 8 → pz_gr T X 4 (d + 1) (i + 1) (.bad k j) → pz_gr T X 4 d i (.bad k j) := fun p0 p1 p2 => pz_gr_roll (Or.inr (Or.inr (Or.inr (Or.inr (Or.inl (⟨rfl, Or.inr (Or.inl (⟨j, k, p0, p1, p2, rfl⟩))⟩))))))
theorem pz_gr.onn {T X : Nat → Int} {d i : Nat} {j : Nat} {o : List (Int × Int)} : T i = 7 → d < 8 → pz_gr T X 4 (d + 1) (i + 1) (.ok j o) → pz_gr T X 4 d i (.ok j (o ++ [(30, 0)])) := fun p0 p1 p2 => pz_gr_roll (Or.inr (Or.inr (Or.inr (Or.inr (Or.inl (⟨rfl, Or.inr (Or.inr (Or.inl (⟨j, o, p0, p1, p2, rfl⟩)))⟩))))))
theorem pz_gr.onpb {T X : Nat → Int} {d i : Nat} {j : Nat} {k : Int} : T i = 40 → d < 8 → pz_gr T X 8 (d + 1) (i + 1) (.bad k j) → pz_gr T X 4 d i (.bad k j) := fun p0 p1 p2 => pz_gr_roll (Or.inr (Or.inr (Or.inr (Or.inr (Or.inl (⟨rfl, Or.inr (Or.inr (Or.inr (Or.inl (⟨j, k, p0, p1, p2, rfl⟩))))⟩))))))
theorem pz_gr.onpc {T X : Nat → Int} {d i : Nat} {j : Nat} {o : List (Int × Int)} : T i = 40 → d < 8 → pz_gr T X 8 (d + 1) (i + 1) (.ok j o) → T j ≠ 41 → pz_gr T X 4 d i (.bad 1 j) := fun p0 p1 p2 p3 => pz_gr_roll (Or.inr (Or.inr (Or.inr (Or.inr (Or.inl (⟨rfl, Or.inr (Or.inr (Or.inr (Or.inr (Or.inl (⟨j, o, p0, p1, p2, p3, rfl⟩)))))⟩))))))
theorem pz_gr.onp {T X : Nat → Int} {d i : Nat} {j : Nat} {o : List (Int × Int)} : T i = 40 → d < 8 → pz_gr T X 8 (d + 1) (i + 1) (.ok j o) → T j = 41 → pz_gr T X 4 d i (.ok (j + 1) o) := fun p0 p1 p2 p3 => pz_gr_roll (Or.inr (Or.inr (Or.inr (Or.inr (Or.inl (⟨rfl, Or.inr (Or.inr (Or.inr (Or.inr (Or.inr (Or.inl (⟨j, o, p0, p1, p2, p3, rfl⟩))))))⟩))))))
theorem pz_gr.ons {T X : Nat → Int} {d i : Nat} {j : Nat} {k : Int} : T i ≠ 7 → T i ≠ 40 → pz_gr T X 3 0 i (.bad k j) → pz_gr T X 4 d i (.bad k j) := fun p0 p1 p2 => pz_gr_roll (Or.inr (Or.inr (Or.inr (Or.inr (Or.inl (⟨rfl, Or.inr (Or.inr (Or.inr (Or.inr (Or.inr (Or.inr (Or.inl (⟨j, k, p0, p1, p2, rfl⟩)))))))⟩))))))
theorem pz_gr.onr {T X : Nat → Int} {d i : Nat} {j : Nat} {o : List (Int × Int)} : T i ≠ 7 → T i ≠ 40 → pz_gr T X 3 0 i (.ok j o) → ¬ (60 ≤ T j ∧ T j ≤ 62) → pz_gr T X 4 d i (.bad 1 j) := fun p0 p1 p2 p3 => pz_gr_roll (Or.inr (Or.inr (Or.inr (Or.inr (Or.inl (⟨rfl, Or.inr (Or.inr (Or.inr (Or.inr (Or.inr (Or.inr (Or.inr (Or.inl (⟨j, o, p0, p1, p2, p3, rfl⟩))))))))⟩))))))
theorem pz_gr.ont {T X : Nat → Int} {d i : Nat} {j : Nat} {l : Nat} {o : List (Int × Int)} {k : Int} : T i ≠ 7 → T i ≠ 40 → pz_gr T X 3 0 i (.ok j o) → (60 ≤ T j ∧ T j ≤ 62) → pz_gr T X 3 0 (j + 1) (.bad k l) → pz_gr T X 4 d i (.bad k l) := fun p0 p1 p2 p3 p4 => pz_gr_roll (Or.inr (Or.inr (Or.inr (Or.inr (Or.inl (⟨rfl, Or.inr (Or.inr (Or.inr (Or.inr (Or.inr (Or.inr (Or.inr (Or.inr (Or.inl (⟨j, l, o, k, p0, p1, p2, p3, p4, rfl⟩)))))))))⟩))))))
theorem pz_gr.onq {T X : Nat → Int} {d i : Nat} {j : Nat} {l : Nat} {o : List (Int × Int)} {o' : List (Int × Int)} : T i ≠ 7 → T i ≠ 40 → pz_gr T X 3 0 i (.ok j o) → (60 ≤ T j ∧ T j ≤ 62) → pz_gr T X 3 0 (j + 1) (.ok l o') → pz_gr T X 4 d i (.ok l (o ++ o' ++ [(pz_op (T j), 0)])) := fun p0 p1 p2 p3 p4 => pz_gr_roll (Or.inr (Or.inr (Or.inr (Or.inr (Or.inl (⟨rfl, Or.inr (Or.inr (Or.inr (Or.inr (Or.inr (Or.inr (Or.inr (Or.inr (Or.inr (⟨j, l, o, o', p0, p1, p2, p3, p4, rfl⟩)))))))))⟩))))))
theorem pz_gr.et0 {T X : Nat → Int} {d i : Nat} : T i ≠ 6 → pz_gr T X 5 d i (.ok i []) := fun p0 => pz_gr_roll (Or.inr (Or.inr (Or.inr (Or.inr (Or.inr (Or.inl (⟨rfl, Or.inl (⟨p0, rfl⟩)⟩)))))))
theorem pz_gr.etb {T X : Nat → Int} {d i : Nat} {j : Nat} {k : Int} : T i = 6 → pz_gr T X 4 d (i + 1) (.bad k j) → pz_gr T X 5 d i (.bad k j) := fun p0 p1 => pz_gr_roll (Or.inr (Or.inr (Or.inr (Or.inr (Or.inr (Or.inl (⟨rfl, Or.inr (Or.inl (⟨j, k, p0, p1, rfl⟩))⟩)))))))
theorem pz_gr.ets {T X : Nat → Int} {d i : Nat} {j : Nat} {o : List (Int × Int)} {r : pz_res} : T i = 6 → pz_gr T X 4 d (i + 1) (.ok j o) → pz_gr T X 5 d j r → pz_gr T X 5 d i (r.app (o ++ [(31, 0)])) := fun p0 p1 p2 => pz_gr_roll (Or.inr (Or.inr (Or.inr (Or.inr (Or.inr (Or.inl (⟨rfl, Or.inr (Or.inr (⟨j, o, r, p0, p1, p2, rfl⟩))⟩)))))))
theorem pz_gr.evb {T X : Nat → Int} {d i : Nat} {j : Nat} {k : Int} : pz_gr T X 4 d i (.bad k j) → pz_gr T X 6 d i (.bad k j) := fun p0 => pz_gr_roll (Or.inr (Or.inr (Or.inr (Or.inr (Or.inr (Or.inr (Or.inl (⟨rfl, Or.inl (⟨j, k, p0, rfl⟩)⟩))))))))
theorem pz_gr.evs {T X : Nat → Int} {d i : Nat} {j : Nat} {o : List (Int × Int)} {r : pz_res} : pz_gr T X 4 d i (.ok j o) → pz_gr T X 5 d j r → pz_gr T X 6 d i (r.app o) := fun p0 p1 => pz_gr_roll (Or.inr (Or.inr (Or.inr (Or.inr (Or.inr (Or.inr (Or.inl (⟨rfl, Or.inr (⟨j, o, r, p0, p1, rfl⟩)⟩))))))))
theorem pz_gr.at0 {T X : Nat → Int} {d i : Nat} : T i ≠ 5 → pz_gr T X 7 d i (.ok i []) := fun p0 => pz_gr_roll (Or.inr (Or.inr (Or.inr (Or.inr (Or.inr (Or.inr (Or.inr (Or.inl (⟨rfl, Or.inl (⟨p0, rfl⟩)⟩)))))))))
theorem pz_gr.atb {T X : Nat → Int} {d i : Nat} {j : Nat} {k : Int} : T i = 5 → pz_gr T X 6 d (i + 1) (.bad k j) → pz_gr T X 7 d i (.bad k j) := fun p0 p1 => pz_gr_roll (Or.inr (Or.inr (Or.inr (Or.inr (Or.inr (Or.inr (Or.inr (Or.inl (⟨rfl, Or.inr (Or.inl (⟨j, k, p0, p1, rfl⟩))⟩)))))))))
theorem pz_gr.ats {T X : Nat → Int} {d i : Nat} {j : Nat} {o : List (Int × Int)} {r : pz_res} : T i = 5 → pz_gr T X 6 d (i + 1) (.ok j o) → pz_gr T X 7 d j r → pz_gr T X 7 d i (r.app (o ++ [(32, 0)])) := fun p0 p1 p2 => pz_gr_roll (Or.inr (Or.inr (Or.inr (Or.inr (Or.inr (Or.inr (Or.inr (Or.inl (⟨rfl, Or.inr (Or.inr (⟨j, o, r, p0, p1, p2, rfl⟩))⟩)))))))))
theorem pz_gr.anb {T X : Nat → Int} {d i : Nat} {j : Nat} {k : Int} : pz_gr T X 6 d i (.bad k j) → pz_gr T X 8 d i (.bad k j) := fun p0 => pz_gr_roll (Or.inr (Or.inr (Or.inr (Or.inr (Or.inr (Or.inr (Or.inr (Or.inr (⟨rfl, Or.inl (⟨j, k, p0, rfl⟩)⟩)))))))))
theorem pz_gr.ans {T X : Nat → Int} {d i : Nat} {j : Nat} {o : List (Int × Int)} {r : pz_res} : pz_gr T X 6 d i (.ok j o) → pz_gr T X 7 d j r → pz_gr T X 8 d i (r.app o) := fun p0 p1 => pz_gr_roll (Or.inr (Or.inr (Or.inr (Or.inr (Or.inr (Or.inr (Or.inr (Or.inr (⟨rfl, Or.inr (⟨j, o, r, p0, p1, rfl⟩)⟩)))))))))
/-- two streams that are one up to the end c -/
def pz_agr (c : Nat) (T X T' X' : Nat → Int) : Prop := T c = 101 ∧ ∀ k, k ≤ c → T' k = T k ∧ (T k = 100 → X' k = X k)
theorem pz_agr_lt {c i : Nat} {T X T' X' : Nat → Int} (h : pz_agr c T X T' X') (hi : i ≤ c) (ht : T i ≠ 101) : i + 1 ≤ c := by
  rcases Nat.lt_or_ge i c with q | q
  · exact q
  · have e : i = c := by omega
    rw [e] at ht
    exact absurd h.1 ht
theorem pz_uf_ag {c i : Nat} {T X T' X' : Nat → Int} (h : pz_agr c T X T' X') (hi : i ≤ c) : pz_uf T' X' i = pz_uf T X i ∧ (∀ j o, pz_uf T X i = .ok j o → j ≤ c) := by
  obtain ⟨a, b⟩ := h.2 i hi
  unfold pz_uf
  rw [a]
  refine ⟨?_, fun j o z => ?_⟩
  · by_cases q : T i = 100
    · rw [if_pos q, if_pos q, b q]
    · rw [if_neg q, if_neg q]
  · by_cases q : T i = 100
    · rw [if_pos q] at z
      cases z
      exact pz_agr_lt h hi (by omega)
    · rw [if_neg q] at z
      by_cases q2 : 8 ≤ T i ∧ T i ≤ 16
      · rw [if_pos q2] at z
        cases z
        exact pz_agr_lt h hi (by omega)
      · rw [if_neg q2] at z
        cases z
theorem pz_agr_t {c i : Nat} {T X T' X' : Nat → Int} (h : pz_agr c T X T' X') (hi : i ≤ c) : T' i = T i := (h.2 i hi).1
theorem pz_agr_x {c i : Nat} {T X T' X' : Nat → Int} (h : pz_agr c T X T' X') (hi : i ≤ c) (ht : T i = 100) : X' i = X i := (h.2 i hi).2 ht
theorem pz_gr_det {c : Nat} {T X T' X' : Nat → Int} (hA : pz_agr c T X T' X') {K d i : Nat} {r : pz_res} (h : pz_gr T X K d i r) : i ≤ c → ∀ r', pz_gr T' X' K d i r' → r' = r ∧ ∀ j o, r = .ok j o → j ≤ c := by
  refine h (fun K d i r => i ≤ c → ∀ r', pz_gr T' X' K d i r' → r' = r ∧ ∀ j o, r = .ok j o → j ≤ c) (fun K d i r hF => ?_)
  intro hi r' h'
  have t := pz_agr_t hA hi
  have x := fun y => pz_agr_x hA hi y
  have l := fun y => pz_agr_lt hA hi y
  have u := pz_uf_ag hA hi
  unfold pz_grF at hF
  rcases hF with ⟨rfl, q⟩ | ⟨rfl, q⟩ | ⟨rfl, q⟩ | ⟨rfl, q⟩ | ⟨rfl, q⟩ | ⟨rfl, q⟩ | ⟨rfl, q⟩ | ⟨rfl, q⟩ | ⟨rfl, q⟩
  · have h' := pz_gr_i0 h'
    unfold pz_g0 at q h'
    rcases q with ⟨p0, p1, pe⟩ | ⟨j, o, r, p0, p1, p2, pe⟩ | ⟨j, k, p0, p1, pe⟩ | ⟨p0, p1, pe⟩ | ⟨p0, p1, p2, pe⟩ | ⟨r, p0, p1, p2, p3, pe⟩ <;> rcases h' with ⟨s0, s1, se⟩ | ⟨js, os, rs, s0, s1, s2, se⟩ | ⟨js, ks, s0, s1, se⟩ | ⟨s0, s1, se⟩ | ⟨s0, s1, s2, se⟩ | ⟨rs, s0, s1, s2, s3, se⟩ <;> first | omega | grind [pz_agr_t, pz_agr_x, pz_agr_lt, pz_uf_ag, pz_app_ok]
  · have h' := pz_gr_i1 h'
    unfold pz_g1 at q h'
    rcases q with ⟨j, k, p0, pe⟩ | ⟨j, o, r, p0, p1, pe⟩ <;> rcases h' with ⟨js, ks, s0, se⟩ | ⟨js, os, rs, s0, s1, se⟩ <;> first | omega | grind [pz_agr_t, pz_agr_x, pz_agr_lt, pz_uf_ag, pz_app_ok]
  · have h' := pz_gr_i2 h'
    unfold pz_g2 at q h'
    rcases q with ⟨p0, p1, pe⟩ | ⟨j, k, p0, p1, pe⟩ | ⟨j, o, r, p0, p1, p2, pe⟩ <;> rcases h' with ⟨s0, s1, se⟩ | ⟨js, ks, s0, s1, se⟩ | ⟨js, os, rs, s0, s1, s2, se⟩ <;> first | omega | grind [pz_agr_t, pz_agr_x, pz_agr_lt, pz_uf_ag, pz_app_ok]
  · have h' := pz_gr_i3 h'
    unfold pz_g3 at q h'
    rcases q with ⟨j, k, p0, pe⟩ | ⟨j, o, r, p0, p1, pe⟩ <;> rcases h' with ⟨js, ks, s0, se⟩ | ⟨js, os, rs, s0, s1, se⟩ <;> first | omega | grind [pz_agr_t, pz_agr_x, pz_agr_lt, pz_uf_ag, pz_app_ok]
  · have h' := pz_gr_i4 h'
    unfold pz_g4 at q h'
    rcases q with ⟨p0, p1, pe⟩ | ⟨j, k, p0, p1, p2, pe⟩ | ⟨j, o, p0, p1, p2, pe⟩ | ⟨j, k, p0, p1, p2, pe⟩ | ⟨j, o, p0, p1, p2, p3, pe⟩ | ⟨j, o, p0, p1, p2, p3, pe⟩ | ⟨j, k, p0, p1, p2, pe⟩ | ⟨j, o, p0, p1, p2, p3, pe⟩ | ⟨j, l, o, k, p0, p1, p2, p3, p4, pe⟩ | ⟨j, l, o, o', p0, p1, p2, p3, p4, pe⟩ <;> rcases h' with ⟨s0, s1, se⟩ | ⟨js, ks, s0, s1, s2, se⟩ | ⟨js, os, s0, s1, s2, se⟩ | ⟨js, ks, s0, s1, s2, se⟩ | ⟨js, os, s0, s1, s2, s3, se⟩ | ⟨js, os, s0, s1, s2, s3, se⟩ | ⟨js, ks, s0, s1, s2, se⟩ | ⟨js, os, s0, s1, s2, s3, se⟩ | ⟨js, ls, os, ks, s0, s1, s2, s3, s4, se⟩ | ⟨js, ls, os, o's, s0, s1, s2, s3, s4, se⟩ <;> first | omega | grind [pz_agr_t, pz_agr_x, pz_agr_lt, pz_uf_ag, pz_app_ok]
  · have h' := pz_gr_i5 h'
    unfold pz_g5 at q h'
    rcases q with ⟨p0, pe⟩ | ⟨j, k, p0, p1, pe⟩ | ⟨j, o, r, p0, p1, p2, pe⟩ <;> rcases h' with ⟨s0, se⟩ | ⟨js, ks, s0, s1, se⟩ | ⟨js, os, rs, s0, s1, s2, se⟩ <;> first | omega | grind [pz_agr_t, pz_agr_x, pz_agr_lt, pz_uf_ag, pz_app_ok]
  · have h' := pz_gr_i6 h'
    unfold pz_g6 at q h'
    rcases q with ⟨j, k, p0, pe⟩ | ⟨j, o, r, p0, p1, pe⟩ <;> rcases h' with ⟨js, ks, s0, se⟩ | ⟨js, os, rs, s0, s1, se⟩ <;> first | omega | grind [pz_agr_t, pz_agr_x, pz_agr_lt, pz_uf_ag, pz_app_ok]
  · have h' := pz_gr_i7 h'
    unfold pz_g7 at q h'
    rcases q with ⟨p0, pe⟩ | ⟨j, k, p0, p1, pe⟩ | ⟨j, o, r, p0, p1, p2, pe⟩ <;> rcases h' with ⟨s0, se⟩ | ⟨js, ks, s0, s1, se⟩ | ⟨js, os, rs, s0, s1, s2, se⟩ <;> first | omega | grind [pz_agr_t, pz_agr_x, pz_agr_lt, pz_uf_ag, pz_app_ok]
  · have h' := pz_gr_i8 h'
    unfold pz_g8 at q h'
    rcases q with ⟨j, k, p0, pe⟩ | ⟨j, o, r, p0, p1, pe⟩ <;> rcases h' with ⟨js, ks, s0, se⟩ | ⟨js, os, rs, s0, s1, se⟩ <;> first | omega | grind [pz_agr_t, pz_agr_x, pz_agr_lt, pz_uf_ag, pz_app_ok]
/-- the class' code of a law's steps -/
def pz_fl1 (q : Int × Int) : List Int := if q.1 = 0 then [q.2] else if q.1 < 10 then [-(q.1 + 8)] else if q.1 = 26 then [q.2, -48] else [if q.1 = 23 then -44 else if q.1 = 24 then -46 else if q.1 = 25 then -43 else if q.1 = 27 then -61 else if q.1 = 28 then -62 else if q.1 = 29 then -63 else if q.1 = 30 then -8 else if q.1 = 31 then -7 else -6]
def pz_fl : List (Int × Int) → List Int
  | [] => []
  | q :: o => pz_fl1 q ++ pz_fl o
theorem pz_fl_app {o p : List (Int × Int)} : pz_fl (o ++ p) = pz_fl o ++ pz_fl p := by
  induction o with
  | nil => rfl
  | cons q o ih =>
    show pz_fl1 q ++ pz_fl (o ++ p) = (pz_fl1 q ++ pz_fl o) ++ pz_fl p
    rw [ih, List.append_assoc]
theorem pz_fl_one {q : Int × Int} : pz_fl [q] = pz_fl1 q := List.append_nil _
theorem pz_fl1_le {q : Int × Int} : (pz_fl1 q).length ≤ if q.1 = 26 then 2 else 1 := by
  unfold pz_fl1
  repeat' split
  all_goals first | (show (1 : Nat) ≤ 2; omega) | exact Nat.le_refl _ | omega
theorem pz_op_ne {t : Int} : pz_op t ≠ 26 := by
  unfold pz_op
  repeat' split
  all_goals omega
/-- no more pieces than tokens -/
theorem pz_gr_len {T X : Nat → Int} {K d i : Nat} {r : pz_res} (h : pz_gr T X K d i r) : ∀ j o, r = .ok j o → i + (pz_fl o).length ≤ j := by
  have U : ∀ i j o, pz_uf T X i = .ok j o → i + (pz_fl o).length ≤ j := by
    intro i j o z
    unfold pz_uf at z
    split at z
    · cases z; exact Nat.le_refl _
    · split at z
      · cases z
        rw [pz_fl_one]
        have := pz_fl1_le (q := (T i - 7, 0))
        split at this
        · rename_i y
          have y : T i - 7 = 26 := y
          omega
        · omega
      · cases z
  have L : ∀ (q : Int × Int), q.1 ≠ 26 → (pz_fl [q]).length ≤ 1 := fun q hq => by
    rw [pz_fl_one]
    have := pz_fl1_le (q := q)
    rw [if_neg hq] at this
    exact this
  have L2 : ∀ (x : Int), (pz_fl [(26, x)]).length = 2 := fun x => rfl
  refine h (fun K d i r => ∀ j o, r = .ok j o → i + (pz_fl o).length ≤ j) (fun K d i r hF => ?_)
  intro j9 o9 h9
  unfold pz_grF at hF
  rcases hF with ⟨rfl, q⟩ | ⟨rfl, q⟩ | ⟨rfl, q⟩ | ⟨rfl, q⟩ | ⟨rfl, q⟩ | ⟨rfl, q⟩ | ⟨rfl, q⟩ | ⟨rfl, q⟩ | ⟨rfl, q⟩
  · unfold pz_g0 at q
    rcases q with ⟨p0, p1, pe⟩ | ⟨j, o, r, p0, p1, p2, pe⟩ | ⟨j, k, p0, p1, pe⟩ | ⟨p0, p1, pe⟩ | ⟨p0, p1, p2, pe⟩ | ⟨r, p0, p1, p2, p3, pe⟩ <;> grind [pz_app_ok, pz_fl_app, pz_op_ne, List.length_append, pz_fl]
  · unfold pz_g1 at q
    rcases q with ⟨j, k, p0, pe⟩ | ⟨j, o, r, p0, p1, pe⟩ <;> grind [pz_app_ok, pz_fl_app, pz_op_ne, List.length_append, pz_fl]
  · unfold pz_g2 at q
    rcases q with ⟨p0, p1, pe⟩ | ⟨j, k, p0, p1, pe⟩ | ⟨j, o, r, p0, p1, p2, pe⟩ <;> grind [pz_app_ok, pz_fl_app, pz_op_ne, List.length_append, pz_fl]
  · unfold pz_g3 at q
    rcases q with ⟨j, k, p0, pe⟩ | ⟨j, o, r, p0, p1, pe⟩ <;> grind [pz_app_ok, pz_fl_app, pz_op_ne, List.length_append, pz_fl]
  · unfold pz_g4 at q
    rcases q with ⟨p0, p1, pe⟩ | ⟨j, k, p0, p1, p2, pe⟩ | ⟨j, o, p0, p1, p2, pe⟩ | ⟨j, k, p0, p1, p2, pe⟩ | ⟨j, o, p0, p1, p2, p3, pe⟩ | ⟨j, o, p0, p1, p2, p3, pe⟩ | ⟨j, k, p0, p1, p2, pe⟩ | ⟨j, o, p0, p1, p2, p3, pe⟩ | ⟨j, l, o, k, p0, p1, p2, p3, p4, pe⟩ | ⟨j, l, o, o', p0, p1, p2, p3, p4, pe⟩ <;> grind [pz_app_ok, pz_fl_app, pz_op_ne, List.length_append, pz_fl]
  · unfold pz_g5 at q
    rcases q with ⟨p0, pe⟩ | ⟨j, k, p0, p1, pe⟩ | ⟨j, o, r, p0, p1, p2, pe⟩ <;> grind [pz_app_ok, pz_fl_app, pz_op_ne, List.length_append, pz_fl]
  · unfold pz_g6 at q
    rcases q with ⟨j, k, p0, pe⟩ | ⟨j, o, r, p0, p1, pe⟩ <;> grind [pz_app_ok, pz_fl_app, pz_op_ne, List.length_append, pz_fl]
  · unfold pz_g7 at q
    rcases q with ⟨p0, pe⟩ | ⟨j, k, p0, p1, pe⟩ | ⟨j, o, r, p0, p1, p2, pe⟩ <;> grind [pz_app_ok, pz_fl_app, pz_op_ne, List.length_append, pz_fl]
  · unfold pz_g8 at q
    rcases q with ⟨j, k, p0, pe⟩ | ⟨j, o, r, p0, p1, pe⟩ <;> grind [pz_app_ok, pz_fl_app, pz_op_ne, List.length_append, pz_fl]
theorem pz_gr_lt {T X : Nat → Int} {K d i : Nat} {r : pz_res} (h : pz_gr T X K d i r) : ∀ j o, r = .ok j o → i ≤ j ∧ (K = 1 ∨ K = 3 ∨ K = 4 ∨ K = 6 ∨ K = 8 → i < j) := by
  have U : ∀ i j o, pz_uf T X i = .ok j o → i < j := by
    intro i j o z
    unfold pz_uf at z
    split at z
    · cases z; exact Nat.lt_succ_self _
    · split at z
      · cases z; exact Nat.lt_succ_self _
      · cases z
  refine h (fun K d i r => ∀ j o, r = .ok j o → i ≤ j ∧ (K = 1 ∨ K = 3 ∨ K = 4 ∨ K = 6 ∨ K = 8 → i < j)) (fun K d i r hF => ?_)
  intro j9 o9 h9
  unfold pz_grF at hF
  rcases hF with ⟨rfl, q⟩ | ⟨rfl, q⟩ | ⟨rfl, q⟩ | ⟨rfl, q⟩ | ⟨rfl, q⟩ | ⟨rfl, q⟩ | ⟨rfl, q⟩ | ⟨rfl, q⟩ | ⟨rfl, q⟩
  · unfold pz_g0 at q
    rcases q with ⟨p0, p1, pe⟩ | ⟨j, o, r, p0, p1, p2, pe⟩ | ⟨j, k, p0, p1, pe⟩ | ⟨p0, p1, pe⟩ | ⟨p0, p1, p2, pe⟩ | ⟨r, p0, p1, p2, p3, pe⟩ <;> grind [pz_app_ok]
  · unfold pz_g1 at q
    rcases q with ⟨j, k, p0, pe⟩ | ⟨j, o, r, p0, p1, pe⟩ <;> grind [pz_app_ok]
  · unfold pz_g2 at q
    rcases q with ⟨p0, p1, pe⟩ | ⟨j, k, p0, p1, pe⟩ | ⟨j, o, r, p0, p1, p2, pe⟩ <;> grind [pz_app_ok]
  · unfold pz_g3 at q
    rcases q with ⟨j, k, p0, pe⟩ | ⟨j, o, r, p0, p1, pe⟩ <;> grind [pz_app_ok]
  · unfold pz_g4 at q
    rcases q with ⟨p0, p1, pe⟩ | ⟨j, k, p0, p1, p2, pe⟩ | ⟨j, o, p0, p1, p2, pe⟩ | ⟨j, k, p0, p1, p2, pe⟩ | ⟨j, o, p0, p1, p2, p3, pe⟩ | ⟨j, o, p0, p1, p2, p3, pe⟩ | ⟨j, k, p0, p1, p2, pe⟩ | ⟨j, o, p0, p1, p2, p3, pe⟩ | ⟨j, l, o, k, p0, p1, p2, p3, p4, pe⟩ | ⟨j, l, o, o', p0, p1, p2, p3, p4, pe⟩ <;> grind [pz_app_ok]
  · unfold pz_g5 at q
    rcases q with ⟨p0, pe⟩ | ⟨j, k, p0, p1, pe⟩ | ⟨j, o, r, p0, p1, p2, pe⟩ <;> grind [pz_app_ok]
  · unfold pz_g6 at q
    rcases q with ⟨j, k, p0, pe⟩ | ⟨j, o, r, p0, p1, pe⟩ <;> grind [pz_app_ok]
  · unfold pz_g7 at q
    rcases q with ⟨p0, pe⟩ | ⟨j, k, p0, p1, pe⟩ | ⟨j, o, r, p0, p1, p2, pe⟩ <;> grind [pz_app_ok]
  · unfold pz_g8 at q
    rcases q with ⟨j, k, p0, pe⟩ | ⟨j, o, r, p0, p1, pe⟩ <;> grind [pz_app_ok]
theorem pz_gr_le {c : Nat} {T X : Nat → Int} (hc : T c = 101) {K d i : Nat} {r : pz_res} (h : pz_gr T X K d i r) : i ≤ c → (∀ j o, r = .ok j o → j ≤ c) ∧ (∀ k j, r = .bad k j → j ≤ c) := by
  have L : ∀ i, i ≤ c → T i ≠ 101 → i + 1 ≤ c := fun i hi ht => by
    rcases Nat.lt_or_ge i c with q | q
    · exact q
    · rw [show i = c by omega] at ht
      exact absurd hc ht
  have U : ∀ i, i ≤ c → (∀ j o, pz_uf T X i = .ok j o → j ≤ c) ∧ (∀ k j, pz_uf T X i = .bad k j → j ≤ c) := fun i hi => by
    have l := L i hi
    unfold pz_uf
    split
    · exact ⟨fun j o z => (by cases z; exact l (by omega)), fun k j z => (by cases z)⟩
    · split
      · exact ⟨fun j o z => (by cases z; exact l (by omega)), fun k j z => (by cases z)⟩
      · exact ⟨fun j o z => (by cases z), fun k j z => (by cases z; exact hi)⟩
  refine h (fun K d i r => i ≤ c → (∀ j o, r = .ok j o → j ≤ c) ∧ (∀ k j, r = .bad k j → j ≤ c)) (fun K d i r hF => ?_)
  intro hi
  have l := L i hi
  unfold pz_grF at hF
  rcases hF with ⟨rfl, q⟩ | ⟨rfl, q⟩ | ⟨rfl, q⟩ | ⟨rfl, q⟩ | ⟨rfl, q⟩ | ⟨rfl, q⟩ | ⟨rfl, q⟩ | ⟨rfl, q⟩ | ⟨rfl, q⟩
  · unfold pz_g0 at q
    rcases q with ⟨p0, p1, pe⟩ | ⟨j, o, r, p0, p1, p2, pe⟩ | ⟨j, k, p0, p1, pe⟩ | ⟨p0, p1, pe⟩ | ⟨p0, p1, p2, pe⟩ | ⟨r, p0, p1, p2, p3, pe⟩ <;> grind [pz_app_ok, pz_app_bad]
  · unfold pz_g1 at q
    rcases q with ⟨j, k, p0, pe⟩ | ⟨j, o, r, p0, p1, pe⟩ <;> grind [pz_app_ok, pz_app_bad]
  · unfold pz_g2 at q
    rcases q with ⟨p0, p1, pe⟩ | ⟨j, k, p0, p1, pe⟩ | ⟨j, o, r, p0, p1, p2, pe⟩ <;> grind [pz_app_ok, pz_app_bad]
  · unfold pz_g3 at q
    rcases q with ⟨j, k, p0, pe⟩ | ⟨j, o, r, p0, p1, pe⟩ <;> grind [pz_app_ok, pz_app_bad]
  · unfold pz_g4 at q
    rcases q with ⟨p0, p1, pe⟩ | ⟨j, k, p0, p1, p2, pe⟩ | ⟨j, o, p0, p1, p2, pe⟩ | ⟨j, k, p0, p1, p2, pe⟩ | ⟨j, o, p0, p1, p2, p3, pe⟩ | ⟨j, o, p0, p1, p2, p3, pe⟩ | ⟨j, k, p0, p1, p2, pe⟩ | ⟨j, o, p0, p1, p2, p3, pe⟩ | ⟨j, l, o, k, p0, p1, p2, p3, p4, pe⟩ | ⟨j, l, o, o', p0, p1, p2, p3, p4, pe⟩ <;> grind [pz_app_ok, pz_app_bad]
  · unfold pz_g5 at q
    rcases q with ⟨p0, pe⟩ | ⟨j, k, p0, p1, pe⟩ | ⟨j, o, r, p0, p1, p2, pe⟩ <;> grind [pz_app_ok, pz_app_bad]
  · unfold pz_g6 at q
    rcases q with ⟨j, k, p0, pe⟩ | ⟨j, o, r, p0, p1, pe⟩ <;> grind [pz_app_ok, pz_app_bad]
  · unfold pz_g7 at q
    rcases q with ⟨p0, pe⟩ | ⟨j, k, p0, p1, pe⟩ | ⟨j, o, r, p0, p1, p2, pe⟩ <;> grind [pz_app_ok, pz_app_bad]
  · unfold pz_g8 at q
    rcases q with ⟨j, k, p0, pe⟩ | ⟨j, o, r, p0, p1, pe⟩ <;> grind [pz_app_ok, pz_app_bad]
/-! the lines of THE LAW -/
abbrev pz_lne : Type := Int × (List (Int × Int) × List (Int × Int))
abbrev pz_lres : Type := List pz_lne ⊕ (Int × Nat)
abbrev pz_lres.ok (ls : List pz_lne) : pz_lres := Sum.inl ls
abbrev pz_lres.bad (k : Int) (j : Nat) : pz_lres := Sum.inr (k, j)
def pz_lres.pre (ls : List pz_lne) (r : pz_lres) : pz_lres := match r with
  | .inl l => .inl (ls ++ l)
  | .inr q => .inr q
theorem pz_lpre_nil {r : pz_lres} : r.pre [] = r := by
  rcases r with l | q <;> rfl
theorem pz_lpre_pre {r : pz_lres} {a b : List pz_lne} : (r.pre b).pre a = r.pre (a ++ b) := by
  rcases r with l | q
  · show pz_lres.ok (a ++ (b ++ l)) = .ok ((a ++ b) ++ l)
    rw [List.append_assoc]
  · rfl
def pz_glF (T X : Nat → Int) (P : Nat → Nat → pz_lres → Prop) (n i : Nat) (r : pz_lres) : Prop :=
  (T i = 101 ∧ r = .ok []) ∨
  (T i ≠ 101 ∧ (¬ (0 ≤ T i ∧ T i ≤ 3)) ∧ r = .bad 1 i) ∨
  ((0 ≤ T i ∧ T i ≤ 3) ∧ 16 ≤ n ∧ r = .bad 3 i) ∨
  (∃ j : Nat, ∃ k : Int, (0 ≤ T i ∧ T i ≤ 3) ∧ n < 16 ∧ pz_gr T X 3 0 (i + 1) (.bad k j) ∧ r = .bad k j) ∨
  (∃ j : Nat, ∃ o : List (Int × Int), (0 ≤ T i ∧ T i ≤ 3) ∧ n < 16 ∧ pz_gr T X 3 0 (i + 1) (.ok j o) ∧ T j ≠ 4 ∧ T j ≠ 59 ∧ r = .bad 1 j) ∨
  (∃ j : Nat, ∃ o : List (Int × Int), ∃ r9 : pz_lres, (0 ≤ T i ∧ T i ≤ 3) ∧ n < 16 ∧ pz_gr T X 3 0 (i + 1) (.ok j o) ∧ T j = 59 ∧ P (n + 1) (j + 1) r9 ∧ r = r9.pre [(T i, o, [])]) ∨
  (∃ j : Nat, ∃ l : Nat, ∃ o : List (Int × Int), ∃ k : Int, (0 ≤ T i ∧ T i ≤ 3) ∧ n < 16 ∧ pz_gr T X 3 0 (i + 1) (.ok j o) ∧ T j = 4 ∧ pz_gr T X 8 0 (j + 1) (.bad k l) ∧ r = .bad k l) ∨
  (∃ j : Nat, ∃ l : Nat, ∃ o : List (Int × Int), ∃ p : List (Int × Int), (0 ≤ T i ∧ T i ≤ 3) ∧ n < 16 ∧ pz_gr T X 3 0 (i + 1) (.ok j o) ∧ T j = 4 ∧ pz_gr T X 8 0 (j + 1) (.ok l p) ∧ T l ≠ 59 ∧ r = .bad 1 l) ∨
  (∃ j : Nat, ∃ l : Nat, ∃ o : List (Int × Int), ∃ p : List (Int × Int), ∃ r9 : pz_lres, (0 ≤ T i ∧ T i ≤ 3) ∧ n < 16 ∧ pz_gr T X 3 0 (i + 1) (.ok j o) ∧ T j = 4 ∧ pz_gr T X 8 0 (j + 1) (.ok l p) ∧ T l = 59 ∧ P (n + 1) (l + 1) r9 ∧ r = r9.pre [(T i, o, p)])
theorem pz_glF_mono {T X : Nat → Int} {P Q : Nat → Nat → pz_lres → Prop} (h : ∀ n i r, P n i r → Q n i r) {n i : Nat} {r : pz_lres} (q : pz_glF T X P n i r) : pz_glF T X Q n i r := by
  unfold pz_glF at q ⊢
  rcases q with ⟨p0, pe⟩ | ⟨p0, p1, pe⟩ | ⟨p0, p1, pe⟩ | ⟨j, k, p0, p1, p2, pe⟩ | ⟨j, o, p0, p1, p2, p3, p4, pe⟩ | ⟨j, o, r, p0, p1, p2, p3, p4, pe⟩ | ⟨j, l, o, k, p0, p1, p2, p3, p4, pe⟩ | ⟨j, l, o, p, p0, p1, p2, p3, p4, p5, pe⟩ | ⟨j, l, o, p, r, p0, p1, p2, p3, p4, p5, p6, pe⟩
  · exact Or.inl (⟨p0, pe⟩)
  · exact Or.inr (Or.inl (⟨p0, p1, pe⟩))
  · exact Or.inr (Or.inr (Or.inl (⟨p0, p1, pe⟩)))
  · exact Or.inr (Or.inr (Or.inr (Or.inl (⟨j, k, p0, p1, p2, pe⟩))))
  · exact Or.inr (Or.inr (Or.inr (Or.inr (Or.inl (⟨j, o, p0, p1, p2, p3, p4, pe⟩)))))
  · exact Or.inr (Or.inr (Or.inr (Or.inr (Or.inr (Or.inl (⟨j, o, r, p0, p1, p2, p3, h _ _ _ p4, pe⟩))))))
  · exact Or.inr (Or.inr (Or.inr (Or.inr (Or.inr (Or.inr (Or.inl (⟨j, l, o, k, p0, p1, p2, p3, p4, pe⟩)))))))
  · exact Or.inr (Or.inr (Or.inr (Or.inr (Or.inr (Or.inr (Or.inr (Or.inl (⟨j, l, o, p, p0, p1, p2, p3, p4, p5, pe⟩))))))))
  · exact Or.inr (Or.inr (Or.inr (Or.inr (Or.inr (Or.inr (Or.inr (Or.inr (⟨j, l, o, p, r, p0, p1, p2, p3, p4, p5, h _ _ _ p6, pe⟩))))))))
def pz_gl (T X : Nat → Int) (n i : Nat) (r : pz_lres) : Prop := ∀ P : Nat → Nat → pz_lres → Prop, (∀ n i r, pz_glF T X P n i r → P n i r) → P n i r
theorem pz_gl_roll {T X : Nat → Int} {n i : Nat} {r : pz_lres} (h : pz_glF T X (pz_gl T X) n i r) : pz_gl T X n i r := fun P hP => hP _ _ _ (pz_glF_mono (fun _ _ _ q => q P hP) h)
theorem pz_gl_inv {T X : Nat → Int} {n i : Nat} {r : pz_lres} (h : pz_gl T X n i r) : pz_glF T X (pz_gl T X) n i r := h (pz_glF T X (pz_gl T X)) (fun _ _ _ q => pz_glF_mono (fun _ _ _ => pz_gl_roll) q)
theorem pz_gl.z {T X : Nat → Int} {n i : Nat} : T i = 101 → pz_gl T X n i (.ok []) := fun p0 => pz_gl_roll (Or.inl (⟨p0, rfl⟩))
theorem pz_gl.w {T X : Nat → Int} {n i : Nat} : T i ≠ 101 → (¬ (0 ≤ T i ∧ T i ≤ 3)) → pz_gl T X n i (.bad 1 i) := fun p0 p1 => pz_gl_roll (Or.inr (Or.inl (⟨p0, p1, rfl⟩)))
theorem pz_gl.m {T X : Nat → Int} {n i : Nat} : (0 ≤ T i ∧ T i ≤ 3) → 16 ≤ n → pz_gl T X n i (.bad 3 i) := fun p0 p1 => pz_gl_roll (Or.inr (Or.inr (Or.inl (⟨p0, p1, rfl⟩))))
theorem pz_gl.sb {T X : Nat → Int} {n i : Nat} {j : Nat} {k : Int} : (0 ≤ T i ∧ T i ≤ 3) → n < 16 → pz_gr T X 3 0 (i + 1) (.bad k j) → pz_gl T X n i (.bad k j) := fun p0 p1 p2 => pz_gl_roll (Or.inr (Or.inr (Or.inr (Or.inl (⟨j, k, p0, p1, p2, rfl⟩)))))
theorem pz_gl.n1 {T X : Nat → Int} {n i : Nat} {j : Nat} {o : List (Int × Int)} : (0 ≤ T i ∧ T i ≤ 3) → n < 16 → pz_gr T X 3 0 (i + 1) (.ok j o) → T j ≠ 4 → T j ≠ 59 → pz_gl T X n i (.bad 1 j) := fun p0 p1 p2 p3 p4 => pz_gl_roll (Or.inr (Or.inr (Or.inr (Or.inr (Or.inl (⟨j, o, p0, p1, p2, p3, p4, rfl⟩))))))
theorem pz_gl.s1 {T X : Nat → Int} {n i : Nat} {j : Nat} {o : List (Int × Int)} {r : pz_lres} : (0 ≤ T i ∧ T i ≤ 3) → n < 16 → pz_gr T X 3 0 (i + 1) (.ok j o) → T j = 59 → pz_gl T X (n + 1) (j + 1) r → pz_gl T X n i (r.pre [(T i, o, [])]) := fun p0 p1 p2 p3 p4 => pz_gl_roll (Or.inr (Or.inr (Or.inr (Or.inr (Or.inr (Or.inl (⟨j, o, r, p0, p1, p2, p3, p4, rfl⟩)))))))
theorem pz_gl.wb {T X : Nat → Int} {n i : Nat} {j : Nat} {l : Nat} {o : List (Int × Int)} {k : Int} : (0 ≤ T i ∧ T i ≤ 3) → n < 16 → pz_gr T X 3 0 (i + 1) (.ok j o) → T j = 4 → pz_gr T X 8 0 (j + 1) (.bad k l) → pz_gl T X n i (.bad k l) := fun p0 p1 p2 p3 p4 => pz_gl_roll (Or.inr (Or.inr (Or.inr (Or.inr (Or.inr (Or.inr (Or.inl (⟨j, l, o, k, p0, p1, p2, p3, p4, rfl⟩))))))))
theorem pz_gl.n2 {T X : Nat → Int} {n i : Nat} {j : Nat} {l : Nat} {o : List (Int × Int)} {p : List (Int × Int)} : (0 ≤ T i ∧ T i ≤ 3) → n < 16 → pz_gr T X 3 0 (i + 1) (.ok j o) → T j = 4 → pz_gr T X 8 0 (j + 1) (.ok l p) → T l ≠ 59 → pz_gl T X n i (.bad 1 l) := fun p0 p1 p2 p3 p4 p5 => pz_gl_roll (Or.inr (Or.inr (Or.inr (Or.inr (Or.inr (Or.inr (Or.inr (Or.inl (⟨j, l, o, p, p0, p1, p2, p3, p4, p5, rfl⟩)))))))))
theorem pz_gl.s2 {T X : Nat → Int} {n i : Nat} {j : Nat} {l : Nat} {o : List (Int × Int)} {p : List (Int × Int)} {r : pz_lres} : (0 ≤ T i ∧ T i ≤ 3) → n < 16 → pz_gr T X 3 0 (i + 1) (.ok j o) → T j = 4 → pz_gr T X 8 0 (j + 1) (.ok l p) → T l = 59 → pz_gl T X (n + 1) (l + 1) r → pz_gl T X n i (r.pre [(T i, o, p)]) := fun p0 p1 p2 p3 p4 p5 p6 => pz_gl_roll (Or.inr (Or.inr (Or.inr (Or.inr (Or.inr (Or.inr (Or.inr (Or.inr (⟨j, l, o, p, r, p0, p1, p2, p3, p4, p5, p6, rfl⟩)))))))))
theorem pz_gl_det {c : Nat} {T X T' X' : Nat → Int} (hA : pz_agr c T X T' X') {n i : Nat} {r : pz_lres} (h : pz_gl T X n i r) : i ≤ c → ∀ r', pz_gl T' X' n i r' → r' = r := by
  have D : ∀ {K d i : Nat} {r : pz_res}, pz_gr T X K d i r → i ≤ c → ∀ r', pz_gr T' X' K d i r' → r' = r ∧ ∀ j o, r = .ok j o → j ≤ c := fun h => pz_gr_det hA h
  refine h (fun n i r => i ≤ c → ∀ r', pz_gl T' X' n i r' → r' = r) (fun n i r hF => ?_)
  intro hi r' h'
  have h' := pz_gl_inv h'
  unfold pz_glF at hF h'
  have t := pz_agr_t hA hi
  rcases hF with ⟨p0, pe⟩ | ⟨p0, p1, pe⟩ | ⟨p0, p1, pe⟩ | ⟨j, k, p0, p1, p2, pe⟩ | ⟨j, o, p0, p1, p2, p3, p4, pe⟩ | ⟨j, o, r, p0, p1, p2, p3, p4, pe⟩ | ⟨j, l, o, k, p0, p1, p2, p3, p4, pe⟩ | ⟨j, l, o, p, p0, p1, p2, p3, p4, p5, pe⟩ | ⟨j, l, o, p, r, p0, p1, p2, p3, p4, p5, p6, pe⟩ <;> rcases h' with ⟨s0, se⟩ | ⟨s0, s1, se⟩ | ⟨s0, s1, se⟩ | ⟨js, ks, s0, s1, s2, se⟩ | ⟨js, os, s0, s1, s2, s3, s4, se⟩ | ⟨js, os, rs, s0, s1, s2, s3, s4, se⟩ | ⟨js, ls, os, ks, s0, s1, s2, s3, s4, se⟩ | ⟨js, ls, os, ps, s0, s1, s2, s3, s4, s5, se⟩ | ⟨js, ls, os, ps, rs, s0, s1, s2, s3, s4, s5, s6, se⟩ <;> first | omega | grind [pz_agr_t, pz_agr_lt]
theorem pz_lpre_bad {r : pz_lres} {ls : List pz_lne} {k : Int} {j : Nat} (h : r.pre ls = .bad k j) : r = .bad k j := by
  rcases r with l | ⟨k2, j2⟩
  · exact absurd h (by intro z; cases z)
  · exact h
theorem pz_gl_le {c : Nat} {T X : Nat → Int} (hc : T c = 101) {n i : Nat} {r : pz_lres} (h : pz_gl T X n i r) : i ≤ c → ∀ k j, r = .bad k j → j ≤ c := by
  have L : ∀ i, i ≤ c → T i ≠ 101 → i + 1 ≤ c := fun i hi ht => by
    rcases Nat.lt_or_ge i c with q | q
    · exact q
    · rw [show i = c by omega] at ht
      exact absurd hc ht
  have D : ∀ {K d i : Nat} {r : pz_res}, pz_gr T X K d i r → i ≤ c → (∀ j o, r = .ok j o → j ≤ c) ∧ (∀ k j, r = .bad k j → j ≤ c) := fun h => pz_gr_le hc h
  refine h (fun n i r => i ≤ c → ∀ k j, r = .bad k j → j ≤ c) (fun n i r hF => ?_)
  intro hi k9 j9 h9
  have l := L i hi
  unfold pz_glF at hF
  rcases hF with ⟨p0, pe⟩ | ⟨p0, p1, pe⟩ | ⟨p0, p1, pe⟩ | ⟨j, k, p0, p1, p2, pe⟩ | ⟨j, o, p0, p1, p2, p3, p4, pe⟩ | ⟨j, o, r, p0, p1, p2, p3, p4, pe⟩ | ⟨j, l, o, k, p0, p1, p2, p3, p4, pe⟩ | ⟨j, l, o, p, p0, p1, p2, p3, p4, p5, pe⟩ | ⟨j, l, o, p, r, p0, p1, p2, p3, p4, p5, p6, pe⟩ <;> grind [pz_lpre_bad]
/-- all steps of some lines -/
def pz_catl : List pz_lne → List (Int × Int)
  | [] => []
  | q :: t => (q.2.1 ++ q.2.2) ++ pz_catl t
theorem pz_catl_app {a b : List pz_lne} : pz_catl (a ++ b) = pz_catl a ++ pz_catl b := by
  induction a with
  | nil => rfl
  | cons q a ih =>
    show (q.2.1 ++ q.2.2) ++ pz_catl (a ++ b) = ((q.2.1 ++ q.2.2) ++ pz_catl a) ++ pz_catl b
    rw [ih]
    simp only [List.append_assoc]
theorem pz_catl_one {q : pz_lne} : pz_catl [q] = q.2.1 ++ q.2.2 := List.append_nil _
end
