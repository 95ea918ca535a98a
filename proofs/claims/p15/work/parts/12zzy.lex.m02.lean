section
/-! the rows of the other TEXTS: what a row is up to where, or which fault where -/
abbrev pz_rw : Type := (Nat × List Int) ⊕ (Int × Nat)
abbrev pz_rws : Type := List (List Int) ⊕ (Int × Nat)
def pz_nd (T : Nat → Int) (t : Int) (i : Nat) (f : pz_rw) : pz_rw := if T i = t then f else .inr (1, i)
def pz_nu (T X : Nat → Int) (lo hi : Int) (i : Nat) (f : Int → pz_rw) : pz_rw := if T i = 100 then (if lo ≤ X i ∧ X i ≤ hi then f (X i) else .inr (2, i)) else .inr (1, i)
theorem pz_nd_y {T : Nat → Int} {t : Int} {i : Nat} {f : pz_rw} (h : T i = t) : pz_nd T t i f = f := if_pos h
theorem pz_nd_n {T : Nat → Int} {t : Int} {i : Nat} {f : pz_rw} (h : T i ≠ t) : pz_nd T t i f = .inr (1, i) := if_neg h
theorem pz_nu_y {T X : Nat → Int} {lo hi : Int} {i : Nat} {f : Int → pz_rw} (h : T i = 100) (h2 : lo ≤ X i ∧ X i ≤ hi) : pz_nu T X lo hi i f = f (X i) := by
  unfold pz_nu
  rw [if_pos h, if_pos h2]
theorem pz_nu_1 {T X : Nat → Int} {lo hi : Int} {i : Nat} {f : Int → pz_rw} (h : T i ≠ 100) : pz_nu T X lo hi i f = .inr (1, i) := if_neg h
theorem pz_nu_2 {T X : Nat → Int} {lo hi : Int} {i : Nat} {f : Int → pz_rw} (h : T i = 100) (h2 : ¬ (lo ≤ X i ∧ X i ≤ hi)) : pz_nu T X lo hi i f = .inr (2, i) := by
  unfold pz_nu
  rw [if_pos h, if_neg h2]
/-- a line of A PLAN from its DAY on; of PHONES from its LINK on; of RECORDS from its DAY on -/
def pz_rq (T X : Nat → Int) (i : Nat) (d w l m : Int) : pz_rw := if w = 18 ∨ w = 20 then pz_nu T X 1 99 i (fun q => .inl (i + 1, [d, w, l, m, q])) else .inl (i, [d, w, l, m, 0])
def pz_rp (n : Int) (T X : Nat → Int) (i : Nat) : pz_rw :=
  pz_nu T X 0 999 (i + 0) (fun d => if 18 ≤ T (i + 1) ∧ T (i + 1) ≤ 21 then pz_nu T X 0 (n - 1) (i + 2) (fun l =>
    if T (i + 1) = 20 then (if T (i + 3) = 100 ∧ X (i + 3) = l then .inr (2, i + 3) else pz_nu T X 0 (n - 1) (i + 3) (fun m => pz_rq T X (i + 4) d (T (i + 1)) l m)) else pz_rq T X (i + 3) d (T (i + 1)) l 0) else .inr (1, i + 1))
def pz_rh (n : Int) (T X : Nat → Int) (i : Nat) : pz_rw :=
  pz_nu T X 0 (n - 1) (i + 0) (fun l => pz_nd T 22 (i + 1) (pz_nu T X 0 240 (i + 2) (fun f => pz_nd T 23 (i + 3) (pz_nu T X (f + 1) 240 (i + 4) (fun t => .inl (i + 5, [l, f, t, 0, 0]))))))
def pz_rd (n : Int) (T X : Nat → Int) (i : Nat) : pz_rw :=
  pz_nu T X 0 999 (i + 0) (fun d => pz_nd T 8 (i + 1) (pz_nu T X 0 (n - 1) (i + 2) (fun l => .inl (i + 3, [d, l, 0, 0, 0]))))
def pz_row (k n : Int) (T X : Nat → Int) (i : Nat) : pz_rw := if k = 1 then pz_rp n T X i else if k = 2 then pz_rh n T X i else pz_rd n T X i
/-- the word that a line begins with -/
def pz_fw (k : Int) : Int := if k = 1 then 17 else if k = 2 then 8 else 13
def pz_pres (ls : List (List Int)) (r : pz_rws) : pz_rws := match r with
  | .inl l => .inl (ls ++ l)
  | .inr q => .inr q
theorem pz_pres_nil {r : pz_rws} : pz_pres [] r = r := by
  rcases r with l | q <;> rfl
theorem pz_pres_pres {a b : List (List Int)} {r : pz_rws} : pz_pres a (pz_pres b r) = pz_pres (a ++ b) r := by
  rcases r with l | q
  · show pz_pres a (.inl (b ++ l)) = .inl ((a ++ b) ++ l)
    rw [List.append_assoc]
    rfl
  · rfl
/-- what a row gives, and what comes behind its ; -/
def pz_gs (T : Nat → Int) (r : pz_rw) (g : Nat → pz_rws) : pz_rws := match r with
  | .inl (j, l) => if T j = 59 then pz_pres [l] (g (j + 1)) else .inr (1, j)
  | .inr q => .inr q
def pz_gw (w : Int) (row : Nat → pz_rw) (T : Nat → Int) : Nat → Nat → pz_rws
  | 0, i => if T i = 101 then .inl [] else if T i = w then .inr (3, i) else .inr (1, i)
  | f + 1, i => if T i = 101 then .inl [] else if T i = w then pz_gs T (row (i + 1)) (pz_gw w row T f) else .inr (1, i)
theorem pz_gw_z {w : Int} {row : Nat → pz_rw} {T : Nat → Int} {f i : Nat} (h : T i = 101) : pz_gw w row T f i = .inl [] := by
  cases f with
  | zero => exact if_pos h
  | succ f => exact if_pos h
theorem pz_gw_w {w : Int} {row : Nat → pz_rw} {T : Nat → Int} {f i : Nat} (h : T i ≠ 101) (h2 : T i ≠ w) : pz_gw w row T f i = .inr (1, i) := by
  cases f with
  | zero =>
    show (if T i = 101 then _ else if T i = w then _ else _) = _
    rw [if_neg h, if_neg h2]
  | succ f =>
    show (if T i = 101 then _ else if T i = w then _ else _) = _
    rw [if_neg h, if_neg h2]
theorem pz_gw_m {w : Int} {row : Nat → pz_rw} {T : Nat → Int} {f i : Nat} (hf : f = 0) (h : T i ≠ 101) (h2 : T i = w) : pz_gw w row T f i = .inr (3, i) := by
  subst hf
  show (if T i = 101 then _ else if T i = w then _ else _) = _
  rw [if_neg h, if_pos h2]
theorem pz_gw_s {w : Int} {row : Nat → pz_rw} {T : Nat → Int} {f g i : Nat} (hf : f = g + 1) (h : T i ≠ 101) (h2 : T i = w) : pz_gw w row T f i = pz_gs T (row (i + 1)) (pz_gw w row T g) := by
  subst hf
  show (if T i = 101 then _ else if T i = w then _ else _) = _
  rw [if_neg h, if_pos h2]
/-! two streams that are one up to the end give one answer -/
theorem pz_nu_det {c i : Nat} {T X T' X' : Nat → Int} {lo hi : Int} {f f' : Int → pz_rw} (hA : pz_agr c T X T' X') (hi9 : i ≤ c) (h : i + 1 ≤ c → ∀ x, f' x = f x) : pz_nu T' X' lo hi i f' = pz_nu T X lo hi i f := by
  have t := pz_agr_t hA hi9
  unfold pz_nu
  rw [t]
  by_cases q : T i = 100
  · rw [if_pos q, if_pos q, pz_agr_x hA hi9 q, h (pz_agr_lt hA hi9 (by first | decide | omega))]
  · rw [if_neg q, if_neg q]
theorem pz_nd_det {c i : Nat} {T X T' X' : Nat → Int} {t : Int} {f f' : pz_rw} (hA : pz_agr c T X T' X') (hi9 : i ≤ c) (ht : t ≠ 101) (h : i + 1 ≤ c → f' = f) : pz_nd T' t i f' = pz_nd T t i f := by
  have e := pz_agr_t hA hi9
  unfold pz_nd
  rw [e]
  by_cases q : T i = t
  · rw [if_pos q, if_pos q, h (pz_agr_lt hA hi9 (by first | decide | omega))]
  · rw [if_neg q, if_neg q]
theorem pz_rq_det {c i : Nat} {T X T' X' : Nat → Int} {d w l m : Int} (hA : pz_agr c T X T' X') (hi9 : i ≤ c) : pz_rq T' X' i d w l m = pz_rq T X i d w l m := by
  unfold pz_rq
  by_cases q : w = 18 ∨ w = 20
  · rw [if_pos q, if_pos q]
    exact pz_nu_det hA hi9 (fun _ _ => rfl)
  · rw [if_neg q, if_neg q]
theorem pz_row_det {c i : Nat} {T X T' X' : Nat → Int} {k n : Int} (hA : pz_agr c T X T' X') (hi9 : i ≤ c) : pz_row k n T' X' i = pz_row k n T X i := by
  have hp : pz_rp n T' X' i = pz_rp n T X i := by
    unfold pz_rp
    refine pz_nu_det hA hi9 (fun h1 d => ?_)
    have t1 := pz_agr_t hA h1
    rw [t1]
    by_cases q : 18 ≤ T (i + 1) ∧ T (i + 1) ≤ 21
    · rw [if_pos q, if_pos q]
      have h2 : i + 2 ≤ c := pz_agr_lt hA h1 (by first | decide | omega)
      refine pz_nu_det hA h2 (fun h3 l => ?_)
      have t3 := pz_agr_t hA h3
      by_cases q2 : T (i + 1) = 20
      · rw [if_pos q2, if_pos q2]
        have e : (T' (i + 3) = 100 ∧ X' (i + 3) = l) ↔ (T (i + 3) = 100 ∧ X (i + 3) = l) := by
          refine ⟨fun z => ?_, fun z => ?_⟩
          · have a : T (i + 3) = 100 := t3.symm.trans z.1
            exact ⟨a, (pz_agr_x hA h3 a).symm.trans z.2⟩
          · exact ⟨t3.trans z.1, (pz_agr_x hA h3 z.1).trans z.2⟩
        by_cases q3 : T (i + 3) = 100 ∧ X (i + 3) = l
        · rw [if_pos q3, if_pos (e.mpr q3)]
        · rw [if_neg q3, if_neg (fun z => q3 (e.mp z))]
          exact pz_nu_det hA h3 (fun h4 m => pz_rq_det hA h4)
      · rw [if_neg q2, if_neg q2]
        exact pz_rq_det hA h3
    · rw [if_neg q, if_neg q]
  have hh : pz_rh n T' X' i = pz_rh n T X i := by
    unfold pz_rh
    refine pz_nu_det hA hi9 (fun h1 l => pz_nd_det hA h1 (by decide) (fun h2 => pz_nu_det hA h2 (fun h3 f => pz_nd_det hA h3 (by decide) (fun h4 => pz_nu_det hA h4 (fun _ _ => rfl)))))
  have hd : pz_rd n T' X' i = pz_rd n T X i := by
    unfold pz_rd
    exact pz_nu_det hA hi9 (fun h1 d => pz_nd_det hA h1 (by decide) (fun h2 => pz_nu_det hA h2 (fun _ _ => rfl)))
  unfold pz_row
  rw [hp, hh, hd]
/-- no place behind the end -/
def pz_rle (c : Nat) (r : pz_rw) : Prop := match r with
  | .inl (j, _) => j ≤ c
  | .inr (_, j) => j ≤ c
theorem pz_nu_le {c i : Nat} {T X : Nat → Int} {lo hi : Int} {f : Int → pz_rw} (hc : T c = 101) (h0 : i ≤ c) (h : i + 1 ≤ c → ∀ x, pz_rle c (f x)) : pz_rle c (pz_nu T X lo hi i f) := by
  unfold pz_nu
  by_cases q : T i = 100
  · rw [if_pos q]
    by_cases q2 : lo ≤ X i ∧ X i ≤ hi
    · rw [if_pos q2]
      refine h ?_ _
      rcases Nat.lt_or_ge i c with z | z
      · exact z
      · rw [show i = c by omega, hc] at q
        omega
    · rw [if_neg q2]
      exact h0
  · rw [if_neg q]
    exact h0
theorem pz_nd_le {c i : Nat} {T : Nat → Int} {t : Int} {f : pz_rw} (hc : T c = 101) (ht : t ≠ 101) (h0 : i ≤ c) (h : i + 1 ≤ c → pz_rle c f) : pz_rle c (pz_nd T t i f) := by
  unfold pz_nd
  by_cases q : T i = t
  · rw [if_pos q]
    refine h ?_
    rcases Nat.lt_or_ge i c with z | z
    · exact z
    · rw [show i = c by omega, hc] at q
      exact absurd q.symm ht
  · rw [if_neg q]
    exact h0
theorem pz_rq_le {c i : Nat} {T X : Nat → Int} {d w l m : Int} (hc : T c = 101) (h0 : i ≤ c) : pz_rle c (pz_rq T X i d w l m) := by
  unfold pz_rq
  by_cases q : w = 18 ∨ w = 20
  · rw [if_pos q]
    exact pz_nu_le hc h0 (fun h1 _ => h1)
  · rw [if_neg q]
    exact h0
theorem pz_row_le {c i : Nat} {T X : Nat → Int} {k n : Int} (hc : T c = 101) (h0 : i ≤ c) : pz_rle c (pz_row k n T X i) := by
  unfold pz_row
  by_cases q : k = 1
  · rw [if_pos q]
    unfold pz_rp
    refine pz_nu_le hc h0 (fun h1 d => ?_)
    by_cases q : 18 ≤ T (i + 1) ∧ T (i + 1) ≤ 21
    · rw [if_pos q]
      have h2 : i + 2 ≤ c := by
        rcases Nat.lt_or_ge (i + 1) c with z | z
        · exact z
        · rw [show i + 1 = c by omega, hc] at q
          omega
      refine pz_nu_le hc h2 (fun h3 l => ?_)
      by_cases q2 : T (i + 1) = 20
      · rw [if_pos q2]
        by_cases q3 : T (i + 3) = 100 ∧ X (i + 3) = l
        · rw [if_pos q3]
          exact h3
        · rw [if_neg q3]
          exact pz_nu_le hc h3 (fun h4 m => pz_rq_le hc h4)
      · rw [if_neg q2]
        exact pz_rq_le hc h3
    · rw [if_neg q]
      exact h1
  · rw [if_neg q]
    by_cases q : k = 2
    · rw [if_pos q]
      unfold pz_rh
      exact pz_nu_le hc h0 (fun h1 l => pz_nd_le hc (by decide) h1 (fun h2 => pz_nu_le hc h2 (fun h3 f => pz_nd_le hc (by decide) h3 (fun h4 => pz_nu_le hc h4 (fun h5 _ => h5)))))
    · rw [if_neg q]
      unfold pz_rd
      exact pz_nu_le hc h0 (fun h1 d => pz_nd_le hc (by decide) h1 (fun h2 => pz_nu_le hc h2 (fun h3 _ => h3)))
theorem pz_fw_ne {k : Int} : pz_fw k ≠ 101 := by
  unfold pz_fw
  repeat' split
  all_goals omega
theorem pz_gw_det {c : Nat} {T X T' X' : Nat → Int} {k n : Int} (hA : pz_agr c T X T' X') : ∀ f i, i ≤ c → pz_gw (pz_fw k) (pz_row k n T' X') T' f i = pz_gw (pz_fw k) (pz_row k n T X) T f i := by
  intro f
  induction f with
  | zero =>
    intro i hi
    show (if T' i = 101 then _ else if T' i = pz_fw k then _ else _) = (if T i = 101 then _ else if T i = pz_fw k then _ else _)
    rw [pz_agr_t hA hi]
  | succ f ih =>
    intro i hi
    show (if T' i = 101 then _ else if T' i = pz_fw k then _ else _) = (if T i = 101 then _ else if T i = pz_fw k then _ else _)
    rw [pz_agr_t hA hi]
    by_cases q : T i = 101
    · rw [if_pos q, if_pos q]
    · rw [if_neg q, if_neg q]
      by_cases q2 : T i = pz_fw k
      · rw [if_pos q2, if_pos q2]
        have h1 := pz_agr_lt hA hi q
        rw [pz_row_det hA h1]
        have l := pz_row_le (X := X) (k := k) (n := n) hA.1 h1
        cases h : pz_row k n T X (i + 1) with
        | inl a =>
          obtain ⟨j, r⟩ := a
          rw [h] at l
          have l : j ≤ c := l
          show (if T' j = 59 then _ else _) = (if T j = 59 then _ else _)
          rw [pz_agr_t hA l]
          by_cases q3 : T j = 59
          · rw [if_pos q3, if_pos q3, ih (j + 1) (pz_agr_lt hA l (by first | decide | omega))]
          · rw [if_neg q3, if_neg q3]
        | inr a => rfl
      · rw [if_neg q2, if_neg q2]
theorem pz_gw_le {c : Nat} {T X : Nat → Int} {k n : Int} (hc : T c = 101) : ∀ f i, i ≤ c → ∀ z j, pz_gw (pz_fw k) (pz_row k n T X) T f i = .inr (z, j) → j ≤ c := by
  intro f
  induction f with
  | zero =>
    intro i hi z j h
    have h : (if T i = 101 then (Sum.inl [] : pz_rws) else if T i = pz_fw k then .inr (3, i) else .inr (1, i)) = .inr (z, j) := h
    split at h
    · cases h
    · split at h
      · cases h; exact hi
      · cases h; exact hi
  | succ f ih =>
    intro i hi z j h
    have h : (if T i = 101 then (Sum.inl [] : pz_rws) else if T i = pz_fw k then pz_gs T (pz_row k n T X (i + 1)) (pz_gw (pz_fw k) (pz_row k n T X) T f) else .inr (1, i)) = .inr (z, j) := h
    split at h
    · cases h
    · rename_i q
      have h1 : i + 1 ≤ c := by
        rcases Nat.lt_or_ge i c with y | y
        · exact y
        · rw [show i = c by omega] at q
          exact absurd hc q
      split at h
      · have l := pz_row_le (X := X) (k := k) (n := n) hc h1
        cases h9 : pz_row k n T X (i + 1) with
        | inl a =>
          obtain ⟨m, r⟩ := a
          rw [h9] at l h
          have l : m ≤ c := l
          have h : (if T m = 59 then pz_pres [r] (pz_gw (pz_fw k) (pz_row k n T X) T f (m + 1)) else .inr (1, m)) = .inr (z, j) := h
          split at h
          · rename_i q3
            have h2 : m + 1 ≤ c := by
              rcases Nat.lt_or_ge m c with y | y
              · exact y
              · rw [show m = c by omega, hc] at q3
                omega
            cases h8 : pz_gw (pz_fw k) (pz_row k n T X) T f (m + 1) with
            | inl a => rw [h8] at h; cases h
            | inr a =>
              rw [h8] at h
              obtain ⟨z2, j2⟩ := a
              cases h
              exact ih (m + 1) h2 _ _ h8
          · cases h; exact l
        | inr a =>
          obtain ⟨z2, j2⟩ := a
          rw [h9] at l h
          cases h
          exact l
      · cases h; exact hi
end
