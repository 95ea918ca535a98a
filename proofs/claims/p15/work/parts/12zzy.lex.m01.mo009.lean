section
def pz_fl : List (Int × Int) → List Int
  | [] => []
  | q :: o => pz_fl1 q ++ pz_fl o
theorem pz_fl_app {o p : List (Int × Int)} : pz_fl (o ++ p) = pz_fl o ++ pz_fl p := by
  induction o with
  | nil => rfl
  | cons q o ih =>
    show pz_fl1 q ++ pz_fl (o ++ p) = (pz_fl1 q ++ pz_fl o) ++ pz_fl p
    rw [ih, List.append_assoc]
theorem pz_fl_one {q : Int × Int} : pz_fl [q] = pz_fl1 q := List.append_nil _
theorem pz_fl1_le {q : Int × Int} : (pz_fl1 q).length ≤ if q.1 = 26 then 2 else 1 := by
  unfold pz_fl1
  repeat' split
  all_goals first | (show (1 : Nat) ≤ 2; omega) | exact Nat.le_refl _ | omega
theorem pz_op_ne {t : Int} : pz_op t ≠ 26 := by
  unfold pz_op
  repeat' split
  all_goals omega
/-- no more pieces than tokens -/
theorem pz_gr_len {T X : Nat → Int} {K d i : Nat} {r : pz_res} (h : pz_gr T X K d i r) : ∀ j o, r = .ok j o → i + (pz_fl o).length ≤ j := by
  have U : ∀ i j o, pz_uf T X i = .ok j o → i + (pz_fl o).length ≤ j := by
    intro i j o z
    unfold pz_uf at z
    split at z
    · cases z; exact Nat.le_refl _
    · split at z
      · cases z
        rw [pz_fl_one]
        have := pz_fl1_le (q := (T i - 7, 0))
        split at this
        · rename_i y
          have y : T i - 7 = 26 := y
          omega
        · omega
      · cases z
  have L : ∀ (q : Int × Int), q.1 ≠ 26 → (pz_fl [q]).length ≤ 1 := fun q hq => by
    rw [pz_fl_one]
    have := pz_fl1_le (q := q)
    rw [if_neg hq] at this
    exact this
  have L2 : ∀ (x : Int), (pz_fl [(26, x)]).length = 2 := fun x => rfl
  refine h (fun K d i r => ∀ j o, r = .ok j o → i + (pz_fl o).length ≤ j) (fun K d i r hF => ?_)
  intro j9 o9 h9
  unfold pz_grF at hF
  rcases hF with ⟨rfl, q⟩ | ⟨rfl, q⟩ | ⟨rfl, q⟩ | ⟨rfl, q⟩ | ⟨rfl, q⟩ | ⟨rfl, q⟩ | ⟨rfl, q⟩ | ⟨rfl, q⟩ | ⟨rfl, q⟩
  · unfold pz_g0 at q
    rcases q with ⟨p0, p1, pe⟩ | ⟨j, o, r, p0, p1, p2, pe⟩ | ⟨j, k, p0, p1, pe⟩ | ⟨p0, p1, pe⟩ | ⟨p0, p1, p2, pe⟩ | ⟨r, p0, p1, p2, p3, pe⟩ <;> grind [pz_app_ok, pz_fl_app, pz_op_ne, List.length_append, pz_fl]
  · unfold pz_g1 at q
    rcases q with ⟨j, k, p0, pe⟩ | ⟨j, o, r, p0, p1, pe⟩ <;> grind [pz_app_ok, pz_fl_app, pz_op_ne, List.length_append, pz_fl]
  · unfold pz_g2 at q
    rcases q with ⟨p0, p1, pe⟩ | ⟨j, k, p0, p1, pe⟩ | ⟨j, o, r, p0, p1, p2, pe⟩ <;> grind [pz_app_ok, pz_fl_app, pz_op_ne, List.length_append, pz_fl]
  · unfold pz_g3 at q
    rcases q with ⟨j, k, p0, pe⟩ | ⟨j, o, r, p0, p1, pe⟩ <;> grind [pz_app_ok, pz_fl_app, pz_op_ne, List.length_append, pz_fl]
  · unfold pz_g4 at q
    rcases q with ⟨p0, p1, pe⟩ | ⟨j, k, p0, p1, p2, pe⟩ | ⟨j, o, p0, p1, p2, pe⟩ | ⟨j, k, p0, p1, p2, pe⟩ | ⟨j, o, p0, p1, p2, p3, pe⟩ | ⟨j, o, p0, p1, p2, p3, pe⟩ | ⟨j, k, p0, p1, p2, pe⟩ | ⟨j, o, p0, p1, p2, p3, pe⟩ | ⟨j, l, o, k, p0, p1, p2, p3, p4, pe⟩ | ⟨j, l, o, o', p0, p1, p2, p3, p4, pe⟩ <;> grind [pz_app_ok, pz_fl_app, pz_op_ne, List.length_append, pz_fl]
  · unfold pz_g5 at q
    rcases q with ⟨p0, pe⟩ | ⟨j, k, p0, p1, pe⟩ | ⟨j, o, r, p0, p1, p2, pe⟩ <;> grind [pz_app_ok, pz_fl_app, pz_op_ne, List.length_append, pz_fl]
  · unfold pz_g6 at q
    rcases q with ⟨j, k, p0, pe⟩ | ⟨j, o, r, p0, p1, pe⟩ <;> grind [pz_app_ok, pz_fl_app, pz_op_ne, List.length_append, pz_fl]
  · unfold pz_g7 at q
    rcases q with ⟨p0, pe⟩ | ⟨j, k, p0, p1, pe⟩ | ⟨j, o, r, p0, p1, p2, pe⟩ <;> grind [pz_app_ok, pz_fl_app, pz_op_ne, List.length_append, pz_fl]
  · unfold pz_g8 at q
    rcases q with ⟨j, k, p0, pe⟩ | ⟨j, o, r, p0, p1, pe⟩ <;> grind [pz_app_ok, pz_fl_app, pz_op_ne, List.length_append, pz_fl]
end
