/-! what THE LAW tells -/
def pv_hold (most x : Int) : Int := max 0 (min most x)
def pv_tell (F : Int → Int) (w without most : Int) : List pz_lne → Int
  | [] => pv_hold most without
  | q :: r => if q.1 = w ∧ (q.2.2 = [] ∨ pv F q.2.2 = 1) then pv_hold most (pv F q.2.1) else pv_tell F w without most r
theorem pv_s_cg {F G : Int → Int} {q : Int × Int} {st : List Int} (h : ∀ k, 1 ≤ k → k < 10 → F k = G k) (h0 : 0 ≤ q.1) : pv_s F q st = pv_s G q st := by
  unfold pv_s
  by_cases a : q.1 = 0
  · rw [if_pos a, if_pos a]
  · rw [if_neg a, if_neg a]
    by_cases b : q.1 < 10
    · rw [if_pos b, if_pos b, h q.1 (by omega) b]
    · rw [if_neg b, if_neg b]
theorem pv_ok_0 {o : List (Int × Int)} : ∀ h, pv_ok o h → ∀ q ∈ o, 0 ≤ q.1 := by
  induction o with
  | nil => intro h _ q hq; exact absurd hq List.not_mem_nil
  | cons a o ih =>
    intro h w q hq
    rcases w with ⟨x, -, -, y⟩ | ⟨x, -, -, y⟩ | ⟨x, -, -, -, y⟩ | ⟨x, -, y⟩ | ⟨x, -, y⟩ <;> rcases List.mem_cons.mp hq with e | e
    · rw [e]; omega
    · exact ih _ y q e
    · rw [e]; omega
    · exact ih _ y q e
    · rw [e]; omega
    · exact ih _ y q e
    · rw [e]; omega
    · exact ih _ y q e
    · rw [e]; unfold pv_2 at x; omega
    · exact ih _ y q e
theorem pv_e_cg {F G : Int → Int} {o : List (Int × Int)} (h : ∀ k, 1 ≤ k → k < 10 → F k = G k) (h0 : ∀ q ∈ o, 0 ≤ q.1) : ∀ st, pv_e F o st = pv_e G o st := by
  induction o with
  | nil => intro st; rfl
  | cons q o ih =>
    intro st
    show pv_e F o (pv_s F q st) = pv_e G o (pv_s G q st)
    rw [pv_s_cg h (h0 q List.mem_cons_self), ih (fun q hq => h0 q (List.mem_cons_of_mem _ hq))]
theorem pv_cg {F G : Int → Int} {o : List (Int × Int)} (h : ∀ k, 1 ≤ k → k < 10 → F k = G k) (h0 : pv_ok o 0) : pv F o = pv G o := by
  unfold pv
  rw [pv_e_cg h (pv_ok_0 0 h0)]
theorem pv_ok_e {b : Nat} {o : List (Int × Int)} (h : pv_gv b o) (hb : b ≤ 60) : pv_ok o 0 := by
  have := h [] 0 (by omega) trivial
  rw [List.append_nil] at this
  exact this
theorem pv_ln_e {q : pz_lne} (h : pv_ln q) : pv_ok q.2.1 0 := pv_ok_e h.2.1.1 (by omega)
theorem pv_ln_b {q : pz_lne} (h : pv_ln q) : pv_ok q.2.2 0 := by
  rcases h.2.2 with e | e
  · rw [e]; trivial
  · exact pv_ok_e e.1 (by omega)
theorem pv_ln_01 {q : pz_lne} {F : Int → Int} (h : pv_ln q) (hb : q.2.2 ≠ []) : pv F q.2.2 = 0 ∨ pv F q.2.2 = 1 := by
  rcases h.2.2 with e | e
  · exact absurd e hb
  · obtain ⟨z, z1, z2⟩ := e.2 F
    unfold pv
    rw [z2]
    exact z1 trivial
theorem pv_tell_cg {F G : Int → Int} {w x m : Int} {ls : List pz_lne} (h : ∀ k, 1 ≤ k → k < 10 → F k = G k) (hl : ∀ q ∈ ls, pv_ln q) : pv_tell F w x m ls = pv_tell G w x m ls := by
  induction ls with
  | nil => rfl
  | cons q r ih =>
    have l := hl q List.mem_cons_self
    show (if q.1 = w ∧ (q.2.2 = [] ∨ pv F q.2.2 = 1) then pv_hold m (pv F q.2.1) else pv_tell F w x m r) = (if q.1 = w ∧ (q.2.2 = [] ∨ pv G q.2.2 = 1) then pv_hold m (pv G q.2.1) else pv_tell G w x m r)
    rw [pv_cg h (pv_ln_e l), pv_cg h (pv_ln_b l), ih (fun q hq => hl q (List.mem_cons_of_mem _ hq))]
theorem pv_hold_b {m x : Int} (h : 0 ≤ m) : 0 ≤ pv_hold m x ∧ pv_hold m x ≤ m := by
  unfold pv_hold
  omega
theorem pv_tell_b {F : Int → Int} {w x m : Int} {ls : List pz_lne} (h : 0 ≤ m) : 0 ≤ pv_tell F w x m ls ∧ pv_tell F w x m ls ≤ m := by
  induction ls with
  | nil => exact pv_hold_b h
  | cons q r ih =>
    have e : pv_tell F w x m (q :: r) = if q.1 = w ∧ (q.2.2 = [] ∨ pv F q.2.2 = 1) then pv_hold m (pv F q.2.1) else pv_tell F w x m r := rfl
    rw [e]
    split
    · exact pv_hold_b h
    · exact ih
theorem pv_tell_n {F : Int → Int} {w x m v : Int} {ls : List pz_lne} {k : Nat} (hk : k < ls.length) (hn : ¬ ((ls.getD k (0, [], [])).1 = w ∧ ((ls.getD k (0, [], [])).2.2 = [] ∨ pv F (ls.getD k (0, [], [])).2.2 = 1))) (h : pv_tell F w x m (ls.drop k) = v) : pv_tell F w x m (ls.drop (k + 1)) = v := by
  rw [← h, List.drop_eq_getElem_cons hk, ← pz_gdE hk]
  exact (if_neg hn).symm
theorem pv_tell_y {F : Int → Int} {w x m v : Int} {ls : List pz_lne} {k : Nat} (hk : k < ls.length) (hn : (ls.getD k (0, [], [])).1 = w ∧ ((ls.getD k (0, [], [])).2.2 = [] ∨ pv F (ls.getD k (0, [], [])).2.2 = 1)) (h : pv_tell F w x m (ls.drop k) = v) : v = pv_hold m (pv F (ls.getD k (0, [], [])).2.1) := by
  rw [← h, List.drop_eq_getElem_cons hk, ← pz_gdE hk]
  exact if_pos hn
theorem pv_mem {ls : List pz_lne} {k : Nat} (hk : k < ls.length) (hl : ∀ q ∈ ls, pv_ln q) : pv_ln (ls.getD k (0, [], [])) := by
  rw [pz_gdE hk]
  exact hl _ (List.getElem_mem hk)
/-! where a line lies among all steps -/
theorem pz_catl_cut {ls : List pz_lne} {k : Nat} (hk : k < ls.length) : pz_catl ls = pz_catl (ls.take k) ++ ((ls.getD k (0, [], [])).2.1 ++ (ls.getD k (0, [], [])).2.2) ++ pz_catl (ls.drop (k + 1)) := by
  have e : ls = ls.take k ++ (ls.getD k (0, [], []) :: ls.drop (k + 1)) := by
    rw [pz_gdE hk, ← List.drop_eq_getElem_cons hk, List.take_append_drop]
  have e2 : pz_catl ls = pz_catl (ls.take k ++ ([ls.getD k (0, [], [])] ++ ls.drop (k + 1))) := congrArg pz_catl e
  rw [e2, pz_catl_app, pz_catl_app, pz_catl_one]
  exact (List.append_assoc _ _ _).symm
theorem pz_take_s {ls : List pz_lne} : ∀ k, k < ls.length → ls.take (k + 1) = ls.take k ++ [ls.getD k (0, [], [])] := by
  induction ls with
  | nil => intro k hk; exact absurd hk (Nat.not_lt_zero _)
  | cons a l ih =>
    intro k hk
    rcases k with _ | k
    · rfl
    · have e := ih k (Nat.lt_of_succ_lt_succ hk)
      show a :: l.take (k + 1) = a :: (l.take k ++ [l.getD k (0, [], [])])
      rw [e]
theorem pc_at_of {f : Nat → Int} {a b c : List Int} {n : Nat} (h : ∀ k : Nat, k < n → f k = (a ++ (b ++ c)).getD k 0) (hn : n = (a ++ (b ++ c)).length) : pc_at f a.length b := by
  intro k hk
  rw [List.length_append, List.length_append] at hn
  rw [h _ (by omega), List.getD_eq_getElem?_getD, List.getElem?_append_right (by omega), Nat.add_sub_cancel_left, List.getElem?_append_left hk, ← List.getD_eq_getElem?_getD]
/-- the class: from where to where a line's E and B lie -/
theorem pq_l1_cut {ls : List pz_lne} {k t : Nat} {M : pz_M} (h : pq_ltx t ls M) (hk : k < ls.length) : M (27 + 6 * t) k = (ls.getD k (0, [], [])).1 ∧ 0 ≤ M (28 + 6 * t) k ∧ pc_at (M (31 + 6 * t)) (M (28 + 6 * t) k).toNat (pz_fl (ls.getD k (0, [], [])).2.1) ∧ M (28 + 6 * t) k + ((pz_fl (ls.getD k (0, [], [])).2.1).length : Int) = M (29 + 6 * t) k ∧
    pc_at (M (31 + 6 * t)) (M (29 + 6 * t) k).toNat (pz_fl (ls.getD k (0, [], [])).2.2) ∧ M (29 + 6 * t) k + ((pz_fl (ls.getD k (0, [], [])).2.2).length : Int) = M (30 + 6 * t) k ∧ M (30 + 6 * t) k ≤ M (10 + t) 1 := by
  obtain ⟨h1, h2, h3, h4⟩ := h
  obtain ⟨a, b, c, d⟩ := h4 k hk
  have cut := pz_catl_cut hk
  rw [pz_take_s k hk, pz_catl_app, pz_catl_one] at d
  generalize ls.getD k (0, [], []) = q at *
  generalize pz_catl (ls.take k) = x at *
  generalize pz_catl (ls.drop (k + 1)) = y at *
  have e1 : pz_fl (pz_catl ls) = pz_fl x ++ (pz_fl q.2.1 ++ (pz_fl q.2.2 ++ pz_fl y)) := by
    rw [cut, pz_fl_app, pz_fl_app, pz_fl_app, List.append_assoc, List.append_assoc]
  have e2 : pz_fl (pz_catl ls) = (pz_fl x ++ pz_fl q.2.1) ++ (pz_fl q.2.2 ++ pz_fl y) := by
    rw [e1, List.append_assoc]
  rw [pz_fl_app, List.length_append] at c
  rw [pz_fl_app, pz_fl_app, List.length_append, List.length_append] at d
  have n : M (10 + t) 1 = ((pz_fl x).length + ((pz_fl q.2.1).length + ((pz_fl q.2.2).length + (pz_fl y).length)) : Nat) := by
    rw [h2, e1, List.length_append, List.length_append, List.length_append]
  refine ⟨a, by omega, ?_, by omega, ?_, by omega, by omega⟩
  · rw [b, Int.toNat_natCast]
    exact pc_at_of (n := (pz_fl (pz_catl ls)).length) (fun k hk => by rw [h3 k hk, e1]) (by rw [e1])
  · rw [c, Int.toNat_natCast, ← List.length_append]
    exact pc_at_of (n := (pz_fl (pz_catl ls)).length) (fun k hk => by rw [h3 k hk, e2]) (by rw [e2])
theorem pz_fl_nil {o : List (Int × Int)} : (pz_fl o).length = 0 ↔ o = [] := by
  constructor
  · intro h
    have := pz_fl_le (o := o)
    exact List.eq_nil_of_length_eq_zero (by omega)
  · intro h
    rw [h]
    rfl
theorem pv_at_of {f : Nat → Int} {a b c : List (Int × Int)} (h : pq_st (a ++ (b ++ c)) (fun j => f (905 + j))) : pv_at f a.length b := by
  intro k hk
  have x := h (a.length + k) (by rw [List.length_append, List.length_append]; omega)
  have e : (a ++ (b ++ c)).getD (a.length + k) (0, 0) = b.getD k (0, 0) := by
    rw [List.getD_eq_getElem?_getD, List.getElem?_append_right (by omega), Nat.add_sub_cancel_left, List.getElem?_append_left hk, ← List.getD_eq_getElem?_getD]
  rw [e] at x
  exact x
/-- the model: the same -/
theorem pq_l2_cut {ls : List pz_lne} {k : Nat} {f : Nat → Int} (h : pq_wlw ls f) (hk : k < ls.length) : f (889 + k) = (ls.getD k (0, [], [])).1 + 20 ∧ 0 ≤ f (841 + k) ∧ pv_at f (f (841 + k)).toNat (ls.getD k (0, [], [])).2.1 ∧ f (841 + k) + ((ls.getD k (0, [], [])).2.1.length : Int) = f (857 + k) ∧ pv_at f (f (857 + k)).toNat (ls.getD k (0, [], [])).2.2 ∧ f (857 + k) + ((ls.getD k (0, [], [])).2.2.length : Int) = f (873 + k) := by
  obtain ⟨h1, h2, h3⟩ := h
  obtain ⟨b, c, d, a⟩ := h2 k hk
  have cut := pz_catl_cut hk
  rw [pz_take_s k hk, pz_catl_app, pz_catl_one] at d
  generalize ls.getD k (0, [], []) = q at *
  generalize pz_catl (ls.take k) = x at *
  generalize pz_catl (ls.drop (k + 1)) = y at *
  rw [List.length_append] at c
  rw [List.length_append, List.length_append] at d
  have e1 : pz_catl ls = x ++ (q.2.1 ++ (q.2.2 ++ y)) := by rw [cut, List.append_assoc, List.append_assoc]
  have e2 : pz_catl ls = (x ++ q.2.1) ++ (q.2.2 ++ y) := by rw [e1, List.append_assoc]
  refine ⟨a, by omega, ?_, by omega, ?_, by omega⟩
  · rw [b, Int.toNat_natCast]
    exact pv_at_of (by rw [← e1]; exact h3)
  · rw [c, show ((x.length + q.2.1.length : Nat) : Int).toNat = (x ++ q.2.1).length by rw [List.length_append]; exact Int.toNat_natCast _]
    exact pv_at_of (by rw [← e2]; exact h3)
