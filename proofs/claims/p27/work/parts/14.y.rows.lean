/-! what the rows of a TEXT are -/
def pq_rok (k n a b c d e : Int) : Prop := (k = 1 → (0 ≤ a ∧ a ≤ 999) ∧ (18 ≤ b ∧ b ≤ 21) ∧ (0 ≤ c ∧ c < n) ∧ (0 ≤ d ∧ d < n) ∧ (0 ≤ e ∧ e ≤ 99) ∧ (b = 18 ∨ b = 20 → 1 ≤ e)) ∧ (k = 2 → (0 ≤ a ∧ a < n) ∧ (0 ≤ b ∧ b < c ∧ c ≤ 240)) ∧ (k = 3 → (0 ≤ a ∧ a ≤ 999) ∧ (0 ≤ b ∧ b < n))
def pq_rol (k n : Int) (l : List Int) : Prop := pq_rok k n (l.getD 0 0) (l.getD 1 0) (l.getD 2 0) (l.getD 3 0) (l.getD 4 0)
def pq_ok (n k : Int) (ls : List (List Int)) : Prop := ls.length ≤ 16 ∧ ∀ r, r < ls.length → pq_rol k n (ls.getD r [])
theorem pz_nu_i {T X : Nat → Int} {lo hi : Int} {i : Nat} {f : Int → pz_rw} {r : Nat × List Int} (h : pz_nu T X lo hi i f = .inl r) : T i = 100 ∧ lo ≤ X i ∧ X i ≤ hi ∧ f (X i) = .inl r := by
  unfold pz_nu at h
  by_cases a : T i = 100
  · rw [if_pos a] at h
    by_cases b : lo ≤ X i ∧ X i ≤ hi
    · rw [if_pos b] at h
      exact ⟨a, b.1, b.2, h⟩
    · rw [if_neg b] at h
      cases h
  · rw [if_neg a] at h
    cases h
theorem pz_nd_i {T : Nat → Int} {t : Int} {i : Nat} {f : pz_rw} {r : Nat × List Int} (h : pz_nd T t i f = .inl r) : T i = t ∧ f = .inl r := by
  unfold pz_nd at h
  by_cases a : T i = t
  · rw [if_pos a] at h
    exact ⟨a, h⟩
  · rw [if_neg a] at h
    cases h
theorem pz_rq_ok {T X : Nat → Int} {i j : Nat} {n d w l m : Int} {r : List Int} (hd : 0 ≤ d ∧ d ≤ 999) (hw : 18 ≤ w ∧ w ≤ 21) (hl : 0 ≤ l ∧ l < n) (hm : 0 ≤ m ∧ m < n) (h : pz_rq T X i d w l m = .inl (j, r)) : pq_rol 1 n r := by
  unfold pz_rq at h
  by_cases c : w = 18 ∨ w = 20
  · rw [if_pos c] at h
    obtain ⟨-, h1, h2, h3⟩ := pz_nu_i h
    have e := (Prod.mk.inj (Sum.inl.inj h3)).2
    subst e
    exact ⟨fun _ => ⟨hd, hw, hl, hm, ⟨by show (0 : Int) ≤ X i; omega, by show X i ≤ 99; omega⟩, fun _ => h1⟩, fun y => absurd y (by decide), fun y => absurd y (by decide)⟩
  · rw [if_neg c] at h
    have e := (Prod.mk.inj (Sum.inl.inj h)).2
    subst e
    exact ⟨fun _ => ⟨hd, hw, hl, hm, ⟨by show (0 : Int) ≤ 0; omega, by show (0 : Int) ≤ 99; omega⟩, fun y => absurd y c⟩, fun y => absurd y (by decide), fun y => absurd y (by decide)⟩
theorem pz_row_ok {k n : Int} {T X : Nat → Int} {i j : Nat} {r : List Int} (hk : k = 1 ∨ k = 2 ∨ k = 3) (h : pz_row k n T X i = .inl (j, r)) : pq_rol k n r := by
  unfold pz_row at h
  rcases hk with rfl | rfl | rfl
  · rw [if_pos rfl] at h
    unfold pz_rp at h
    obtain ⟨-, a1, a2, h⟩ := pz_nu_i h
    by_cases c : 18 ≤ T (i + 1) ∧ T (i + 1) ≤ 21
    · have h := (if_pos c).symm.trans h
      obtain ⟨-, b1, b2, h⟩ := pz_nu_i h
      by_cases e : T (i + 1) = 20
      · have h := (if_pos e).symm.trans h
        by_cases g : T (i + 3) = 100 ∧ X (i + 3) = X (i + 2)
        · have h := (if_pos g).symm.trans h
          cases h
        · have h := (if_neg g).symm.trans h
          obtain ⟨-, d1, d2, h⟩ := pz_nu_i h
          exact pz_rq_ok ⟨a1, a2⟩ c ⟨b1, by omega⟩ ⟨d1, by omega⟩ h
      · have h := (if_neg e).symm.trans h
        exact pz_rq_ok ⟨a1, a2⟩ c ⟨b1, by omega⟩ ⟨by omega, by omega⟩ h
    · have h := (if_neg c).symm.trans h
      cases h
  · rw [if_neg (by decide), if_pos rfl] at h
    unfold pz_rh at h
    obtain ⟨-, a1, a2, h⟩ := pz_nu_i h
    obtain ⟨-, h⟩ := pz_nd_i h
    obtain ⟨-, b1, b2, h⟩ := pz_nu_i h
    obtain ⟨-, h⟩ := pz_nd_i h
    obtain ⟨-, c1, c2, h⟩ := pz_nu_i h
    have e := (Prod.mk.inj (Sum.inl.inj h)).2
    subst e
    exact ⟨fun y => absurd y (by decide), fun _ => ⟨⟨a1, by show X (i + 0) < n; omega⟩, b1, by show X (i + 2) < X (i + 4); omega, c2⟩, fun y => absurd y (by decide)⟩
  · rw [if_neg (by decide), if_neg (by decide)] at h
    unfold pz_rd at h
    obtain ⟨-, a1, a2, h⟩ := pz_nu_i h
    obtain ⟨-, h⟩ := pz_nd_i h
    obtain ⟨-, b1, b2, h⟩ := pz_nu_i h
    have e := (Prod.mk.inj (Sum.inl.inj h)).2
    subst e
    exact ⟨fun y => absurd y (by decide), fun y => absurd y (by decide), fun _ => ⟨⟨a1, a2⟩, b1, by show X (i + 2) < n; omega⟩⟩
theorem pz_gw_ok {k n : Int} {T X : Nat → Int} (hk : k = 1 ∨ k = 2 ∨ k = 3) : ∀ (f i : Nat) (ls : List (List Int)), pz_gw (pz_fw k) (pz_row k n T X) T f i = .inl ls → ls.length ≤ f ∧ ∀ l ∈ ls, pq_rol k n l := by
  intro f
  induction f with
  | zero =>
    intro i ls h
    have h : (if T i = 101 then (Sum.inl [] : pz_rws) else if T i = pz_fw k then .inr (3, i) else .inr (1, i)) = .inl ls := h
    by_cases a : T i = 101
    · rw [if_pos a] at h
      have e := Sum.inl.inj h
      subst e
      exact ⟨Nat.le_refl _, fun l hl => absurd hl List.not_mem_nil⟩
    · rw [if_neg a] at h
      split at h <;> cases h
  | succ f ih =>
    intro i ls h
    have h : (if T i = 101 then (Sum.inl [] : pz_rws) else if T i = pz_fw k then pz_gs T (pz_row k n T X (i + 1)) (pz_gw (pz_fw k) (pz_row k n T X) T f) else .inr (1, i)) = .inl ls := h
    by_cases a : T i = 101
    · rw [if_pos a] at h
      have e := Sum.inl.inj h
      subst e
      exact ⟨Nat.zero_le _, fun l hl => absurd hl List.not_mem_nil⟩
    · rw [if_neg a] at h
      by_cases b : T i = pz_fw k
      · rw [if_pos b] at h
        generalize er : pz_row k n T X (i + 1) = r at h
        rcases r with ⟨j, l⟩ | q
        · have h : (if T j = 59 then pz_pres [l] (pz_gw (pz_fw k) (pz_row k n T X) T f (j + 1)) else .inr (1, j)) = .inl ls := h
          by_cases c : T j = 59
          · rw [if_pos c] at h
            generalize eg : pz_gw (pz_fw k) (pz_row k n T X) T f (j + 1) = g at h
            rcases g with g | g
            · have e : [l] ++ g = ls := Sum.inl.inj h
              subst e
              obtain ⟨i1, i2⟩ := ih _ _ eg
              refine ⟨?_, fun x hx => ?_⟩
              · show g.length + 1 ≤ f + 1
                omega
              · rcases List.mem_cons.mp hx with hx | hx
                · rw [hx]
                  exact pz_row_ok hk er
                · exact i2 x hx
            · cases h
          · rw [if_neg c] at h
            cases h
        · cases h
      · rw [if_neg b] at h
        cases h
theorem pz_gdE {α : Type} {l : List α} {d : α} {k : Nat} (h : k < l.length) : l.getD k d = l[k] := by
  rw [List.getD_eq_getElem?_getD, List.getElem?_eq_getElem h]
  rfl
theorem pq_ok_of {k n : Int} {T X : Nat → Int} {ls : List (List Int)} (hk : 1 ≤ k ∧ k ≤ 3) (h : pz_gw (pz_fw k) (pz_row k n T X) T 16 0 = .inl ls) : pq_ok n k ls := by
  obtain ⟨a, b⟩ := pz_gw_ok (by omega) 16 0 ls h
  refine ⟨a, fun r hr => b _ ?_⟩
  rw [pz_gdE hr]
  exact List.getElem_mem hr
theorem pq_ok_le {k n n' : Int} {ls : List (List Int)} (h : pq_ok n k ls) (hn : n ≤ n') : pq_ok n' k ls := ⟨h.1, fun r hr => by
  have := h.2 r hr
  unfold pq_rol pq_rok at this ⊢
  omega⟩
theorem pz_fl_le {o : List (Int × Int)} : o.length ≤ (pz_fl o).length := by
  induction o with
  | nil => exact Nat.le_refl _
  | cons q o ih =>
    show o.length + 1 ≤ (pz_fl1 q ++ pz_fl o).length
    rw [List.length_append]
    have : 1 ≤ (pz_fl1 q).length := by
      unfold pz_fl1
      repeat' split
      all_goals exact Nat.le_of_ble_eq_true rfl
    omega
