section
theorem pz_gw_ok {k n : Int} {T X : Nat → Int} (hk : k = 1 ∨ k = 2 ∨ k = 3) : ∀ (f i : Nat) (ls : List (List Int)), pz_gw (pz_fw k) (pz_row k n T X) T f i = .inl ls → ls.length ≤ f ∧ ∀ l ∈ ls, pq_rol k n l := by
  intro f
  induction f with
  | zero =>
    intro i ls h
    have h : (if T i = 101 then (Sum.inl [] : pz_rws) else if T i = pz_fw k then .inr (3, i) else .inr (1, i)) = .inl ls := h
    by_cases a : T i = 101
    · rw [if_pos a] at h
      have e := Sum.inl.inj h
      subst e
      exact ⟨Nat.le_refl _, fun l hl => absurd hl List.not_mem_nil⟩
    · rw [if_neg a] at h
      split at h <;> cases h
  | succ f ih =>
    intro i ls h
    have h : (if T i = 101 then (Sum.inl [] : pz_rws) else if T i = pz_fw k then pz_gs T (pz_row k n T X (i + 1)) (pz_gw (pz_fw k) (pz_row k n T X) T f) else .inr (1, i)) = .inl ls := h
    by_cases a : T i = 101
    · rw [if_pos a] at h
      have e := Sum.inl.inj h
      subst e
      exact ⟨Nat.zero_le _, fun l hl => absurd hl List.not_mem_nil⟩
    · rw [if_neg a] at h
      by_cases b : T i = pz_fw k
      · rw [if_pos b] at h
        generalize er : pz_row k n T X (i + 1) = r at h
        rcases r with ⟨j, l⟩ | q
        · have h : (if T j = 59 then pz_pres [l] (pz_gw (pz_fw k) (pz_row k n T X) T f (j + 1)) else .inr (1, j)) = .inl ls := h
          by_cases c : T j = 59
          · rw [if_pos c] at h
            generalize eg : pz_gw (pz_fw k) (pz_row k n T X) T f (j + 1) = g at h
            rcases g with g | g
            · have e : [l] ++ g = ls := Sum.inl.inj h
              subst e
              obtain ⟨i1, i2⟩ := ih _ _ eg
              refine ⟨?_, fun x hx => ?_⟩
              · show g.length + 1 ≤ f + 1
                omega
              · rcases List.mem_cons.mp hx with hx | hx
                · rw [hx]
                  exact pz_row_ok hk er
                · exact i2 x hx
            · cases h
          · rw [if_neg c] at h
            cases h
        · cases h
      · rw [if_neg b] at h
        cases h
theorem pz_gdE {α : Type} {l : List α} {d : α} {k : Nat} (h : k < l.length) : l.getD k d = l[k] := by
  rw [List.getD_eq_getElem?_getD, List.getElem?_eq_getElem h]
  rfl
theorem pq_ok_of {k n : Int} {T X : Nat → Int} {ls : List (List Int)} (hk : 1 ≤ k ∧ k ≤ 3) (h : pz_gw (pz_fw k) (pz_row k n T X) T 16 0 = .inl ls) : pq_ok n k ls := by
  obtain ⟨a, b⟩ := pz_gw_ok (by first | decide | omega) 16 0 ls h
  refine ⟨a, fun r hr => b _ ?_⟩
  rw [pz_gdE hr]
  exact List.getElem_mem hr
theorem pq_ok_le {k n n' : Int} {ls : List (List Int)} (h : pq_ok n k ls) (hn : n ≤ n') : pq_ok n' k ls := ⟨h.1, fun r hr => by
  have := h.2 r hr
  unfold pq_rol pq_rok at this ⊢
  omega⟩
theorem pz_fl_le {o : List (Int × Int)} : o.length ≤ (pz_fl o).length := by
  induction o with
  | nil => exact Nat.le_refl _
  | cons q o ih =>
    show o.length + 1 ≤ (pz_fl1 q ++ pz_fl o).length
    rw [List.length_append]
    have : 1 ≤ (pz_fl1 q).length := by
      unfold pz_fl1
      repeat' split
      all_goals exact Nat.le_of_ble_eq_true rfl
    omega
end
section
/-! the law's relation: the shape, the TAPE, what was wrong -/
end
