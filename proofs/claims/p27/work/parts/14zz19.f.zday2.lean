/-! what the class lacks is what w lacks -/
theorem sd_lo_n {F : Nat → Int} : ∀ k j, sd_lo F k < j → j ≤ k → F (64 + j) ≠ 1 := by
  intro k
  induction k with
  | zero => intro j h1 h2; have : sd_lo F 0 = 0 := rfl; omega
  | succ k ih =>
    intro j h1 h2
    have e : sd_lo F (k + 1) = if F (64 + (k + 1)) = 1 then k + 1 else sd_lo F k := rfl
    rw [e] at h1
    by_cases q : F (64 + (k + 1)) = 1
    · rw [if_pos q] at h1
      omega
    · rw [if_neg q] at h1
      by_cases z : j = k + 1
      · rw [z]; exact q
      · exact ih j h1 (by omega)
theorem sd_w1 {a x : Int} (ha : 0 ≤ a ∧ a ≤ 100) (hx : x = 0 ∨ x = 1) : pz_w (a + pz_w (1 - x)) = a + (if x = 1 then 0 else 1) := by
  rw [pz_wi (z := 1 - x) (by omega) (by omega), pz_wi (by omega) (by omega)]
  rcases hx with rfl | rfl
  · rw [if_neg (by decide)]; omega
  · rw [if_pos rfl]; omega
theorem sd_ldn {F rd br : Nat → Int} : ∀ (k : Nat) (a : Int), (∀ j, j < k → rd j = F (40 + j) ∧ br j = F (64 + j) ∧ (F (40 + j) = 0 ∨ F (40 + j) = 1) ∧ (F (64 + j) = 0 ∨ F (64 + j) = 1)) → 0 ≤ a → a + (k : Int) ≤ 50 → pv_ldn rd br k a = a + sd_nr F (sd_lo F (k - 1)) (k - sd_lo F (k - 1)) := by
  intro k
  induction k with
  | zero =>
    intro a _ _ _
    show a = a + sd_nr F (sd_lo F (0 - 1)) (0 - sd_lo F (0 - 1))
    rw [Nat.zero_sub, Nat.zero_sub]
    show a = a + 0
    omega
  | succ k ih =>
    intro a h h0 h1
    obtain ⟨r1, r2, r3, r4⟩ := h k (Nat.lt_succ_self _)
    have w := sd_w1 (a := a) (x := rd k) (by omega) (by rw [r1]; exact r3)
    show (if br k ≠ 0 then pz_w (a + pz_w (1 - rd k)) else pv_ldn rd br k (pz_w (a + pz_w (1 - rd k)))) = _
    rw [w, r1, r2, Nat.add_sub_cancel]
    have one : sd_nr F k 1 = (if F (40 + k) = 1 then 0 else 1) := Int.add_zero _
    by_cases q : F (64 + k) = 1
    · rw [if_pos (by omega)]
      have e : sd_lo F k = k := by
        rcases k with _ | k
        · rfl
        · exact if_pos q
      rw [e, show k + 1 - k = 1 by omega, one]
    · rw [if_neg (by omega), ih _ (fun j hj => h j (by omega)) (by split <;> omega) (by split <;> omega)]
      have e : sd_lo F k = sd_lo F (k - 1) := by
        rcases k with _ | k
        · rfl
        · exact if_neg q
      have l := sd_lo_le (F := F) (k - 1)
      rw [e, show k + 1 - sd_lo F (k - 1) = (k - sd_lo F (k - 1)) + 1 by omega, sd_nr_app, show sd_lo F (k - 1) + (k - sd_lo F (k - 1)) = k by omega, one]
      omega
theorem sd_lup {F rd br : Nat → Int} {n : Nat} (hn : n ≤ 12) (h : ∀ j, j < n → rd j = F (40 + j) ∧ br j = F (64 + j) ∧ (F (40 + j) = 0 ∨ F (40 + j) = 1) ∧ (F (64 + j) = 0 ∨ F (64 + j) = 1)) : ∀ (f k : Nat) (a : Int), k < n → n ≤ k + f → 0 ≤ a → a + ((n - k : Nat) : Int) ≤ 50 →
    ∃ e, k ≤ e ∧ e < n ∧ (∀ j, k ≤ j → j < e → sd_bb F j = false) ∧ (e + 1 < n → sd_bb F e = true) ∧ pv_lup rd br (n : Int) f k a = a + sd_nr F k (e + 1 - k) := by
  intro f
  induction f with
  | zero => intro k a h1 h2; omega
  | succ f ih =>
    intro k a h1 h2 h3 h4
    obtain ⟨r1, r2, r3, r4⟩ := h k h1
    have w := sd_w1 (a := a) (x := rd k) (by omega) (by rw [r1]; exact r3)
    have one : sd_nr F k 1 = (if F (40 + k) = 1 then 0 else 1) := Int.add_zero _
    have e : pv_lup rd br (n : Int) (f + 1) k a = if (k : Int) < (n : Int) then (if br k ≠ 0 then pz_w (a + pz_w (1 - rd k)) else pv_lup rd br (n : Int) f (k + 1) (pz_w (a + pz_w (1 - rd k)))) else a := rfl
    rw [e, if_pos (by omega), w, r1, r2]
    by_cases q : F (64 + k) = 1
    · refine ⟨k, Nat.le_refl _, h1, fun j a b => absurd b (by omega), fun _ => decide_eq_true q, ?_⟩
      rw [if_pos (by omega), show k + 1 - k = 1 by omega, one]
    · rw [if_neg (by omega)]
      by_cases z : k + 1 < n
      · obtain ⟨e, e1, e2, e3, e4, e5⟩ := ih (k + 1) (a + (if F (40 + k) = 1 then 0 else 1)) z (by omega) (by split <;> omega) (by split <;> omega)
        refine ⟨e, by omega, e2, fun j j1 j2 => ?_, e4, ?_⟩
        · by_cases y : j = k
          · rw [y]; exact decide_eq_false q
          · exact e3 j (by omega) j2
        · rw [e5, show e + 1 - k = 1 + (e + 1 - (k + 1)) by omega, sd_nr_app, one]
          omega
      · refine ⟨k, Nat.le_refl _, h1, fun j a b => absurd b (by omega), fun y => absurd y z, ?_⟩
        rw [show k + 1 - k = 1 by omega, one]
        rcases f with _ | f
        · rfl
        · exact if_neg (by omega)
theorem sd_lc {M : pz_M} {c : Nat} {F : Nat → Int} {i : Int} (h : sd_se M c F) (hw : sd_wf F) (h0 : 0 ≤ i) (h1 : i < F 88) : pv_lc M c i = sd_lk F i.toNat := by
  obtain ⟨w1, w2, w3⟩ := hw
  have hn : M c 3 = ((F 88).toNat : Int) := by rw [h.1]; omega
  have key : ∀ j, j < (F 88).toNat → pv_rd M c j = F (40 + j) ∧ pv_br M c j = F (64 + j) ∧ (F (40 + j) = 0 ∨ F (40 + j) = 1) ∧ (F (64 + j) = 0 ∨ F (64 + j) = 1) := fun j hj => by
    obtain ⟨-, -, -, -, a, -, b, -⟩ := sd_se_l h (show (j : Int) < F 88 by omega)
    obtain ⟨-, -, -, -, x, -, y⟩ := w3 j (by omega)
    exact ⟨a, b, x, y.imp id (fun z => z.1)⟩
  have one : ∀ k, sd_nr F k 1 = (if F (40 + k) = 1 then 0 else 1) := fun k => Int.add_zero _
  obtain ⟨r1, -, r3, r4⟩ := key i.toNat (by omega)
  have s1 : pz_w (1 - pv_rd M c i.toNat) = sd_nr F i.toNat 1 := by
    rw [one, r1, pz_wi (by omega) (by omega)]
    rcases r3 with z | z
    · rw [if_neg (by omega)]; omega
    · rw [if_pos z]; omega
  have b1 := sd_nr_b (F := F) 1 i.toNat
  have dn := sd_ldn (F := F) (rd := pv_rd M c) (br := pv_br M c) i.toNat (sd_nr F i.toNat 1) (fun j hj => key j (by omega)) b1.1 (by omega)
  have l := sd_lo_le (F := F) (i.toNat - 1)
  have ln := sd_lo_n (F := F) (i.toNat - 1)
  have e0 : pv_lc M c i = pv_lup (pv_rd M c) (pv_br M c) (M c 3) (11 - i).toNat (i.toNat + 1) (pv_ldn (pv_rd M c) (pv_br M c) i.toNat (pz_w (1 - pv_rd M c i.toNat))) := if_pos ⟨h0, by rw [h.1]; exact h1, by omega⟩
  have j1 : sd_nr F (sd_lo F (i.toNat - 1)) (i.toNat - sd_lo F (i.toNat - 1)) + sd_nr F i.toNat 1 = sd_nr F (sd_lo F (i.toNat - 1)) (i.toNat + 1 - sd_lo F (i.toNat - 1)) := by
    rw [show i.toNat + 1 - sd_lo F (i.toNat - 1) = (i.toNat - sd_lo F (i.toNat - 1)) + 1 by omega, sd_nr_app, show sd_lo F (i.toNat - 1) + (i.toNat - sd_lo F (i.toNat - 1)) = i.toNat by omega]
  have b2 := sd_nr_b (F := F) (i.toNat - sd_lo F (i.toNat - 1)) (sd_lo F (i.toNat - 1))
  -- where it ends
  have fin : ∀ e, i.toNat ≤ e → e < (F 88).toNat → (i.toNat + 1 < (F 88).toNat → i.toNat < e) → (∀ j, i.toNat < j → j < e → sd_bb F j = false) → (e + 1 < (F 88).toNat → sd_bb F e = true) → e = sd_to F i.toNat := fun e e1 e2 e3 e4 e5 => by
    unfold sd_to sd_from
    by_cases q : F (64 + i.toNat) = 1 ∨ i.toNat = 0
    · rw [if_pos q]
      exact sd_end_u (by omega) e1 e2 e3 e4 e5
    · rw [if_neg q]
      refine sd_end_u (by omega) (by omega) e2 (fun _ => by omega) (fun k k1 k2 => ?_) e5
      by_cases z : i.toNat < k
      · exact e4 k z k2
      · by_cases y : k = i.toNat
        · rw [y]
          exact decide_eq_false (fun x => q (Or.inl x))
        · exact decide_eq_false (ln k k1 (by omega))
  rw [e0, s1, dn, hn]
  unfold sd_lk sd_from
  by_cases z : i.toNat + 1 < (F 88).toNat
  · obtain ⟨e, e1, e2, e3, e4, e5⟩ := sd_lup (F := F) (rd := pv_rd M c) (br := pv_br M c) (n := (F 88).toNat) (by omega) key (11 - i).toNat (i.toNat + 1) (sd_nr F i.toNat 1 + sd_nr F (sd_lo F (i.toNat - 1)) (i.toNat - sd_lo F (i.toNat - 1))) z (by omega) (by omega) (by omega)
    rw [e5, ← fin e (by omega) e2 (fun _ => by omega) (fun j a b => e3 j (by omega) b) e4, show e + 1 - sd_lo F (i.toNat - 1) = (i.toNat + 1 - sd_lo F (i.toNat - 1)) + (e + 1 - (i.toNat + 1)) by omega, sd_nr_app, show sd_lo F (i.toNat - 1) + (i.toNat + 1 - sd_lo F (i.toNat - 1)) = i.toNat + 1 by omega, ← j1]
    omega
  · rw [← fin i.toNat (Nat.le_refl _) (by omega) (fun y => absurd y z) (fun j a b => absurd b (by omega)) (fun y => absurd y z), ← j1]
    have x : ∀ f a, pv_lup (pv_rd M c) (pv_br M c) (((F 88).toNat : Nat) : Int) f (i.toNat + 1) a = a := fun f a => by
      rcases f with _ | f
      · rfl
      · exact if_neg (by omega)
    rw [x]
    omega
/-! the names of THE LAW -/
def sd_fn (F : Nat → Int) (i : Nat) (q : Int) : Int := if q = 1 then (i : Int) else if q = 2 then F (4 + i) else if q = 3 then F (16 + i) else if q = 4 then F (28 + i) else if q = 5 then F (93 + i) else if q = 6 then F 0 else if q = 7 then F 88 else if q = 8 then F (64 + i) else sd_lk F i
def sd_rd (ls : List pz_lne) (F : Nat → Int) (i : Nat) : Int := pv_tell (sd_fn F i) 0 (pz_w (300 - pz_w (30 * F (93 + i)))) 1000 ls
def sd_le (ls : List pz_lne) (F : Nat → Int) (i : Nat) : Int := pv_tell (sd_fn F i) 1 0 1000 ls
def sd_gv (ls : List pz_lne) (F : Nat → Int) (i : Nat) : Int := pv_tell (sd_fn F i) 2 (if F (28 + i) < 0 then 0 else F (28 + i) / 4) 999 ls
def sd_co (ls : List pz_lne) (F : Nat → Int) (i : Nat) : Int := pv_tell (sd_fn F i) 3 3 99 ls
theorem sd_fn_e {M : pz_M} {c : Nat} {F : Nat → Int} {i : Int} (h : sd_se M c F) (hw : sd_wf F) (h0 : 0 ≤ i) (h1 : i < F 88) : ∀ q : Int, 1 ≤ q → q < 10 → pv_fn M c (q + 7) i = sd_fn F i.toNat q := by
  intro q q1 q2
  have hn := hw.1
  have lk : pz_lnk c i = pz_lb c + i.toNat := pz_lk_i ⟨h0, by omega⟩
  obtain ⟨a0, a1, a2, a3, -, -, a6, -⟩ := sd_se_l h (show (i.toNat : Int) < F 88 by omega)
  have lc := sd_lc h hw h0 h1
  unfold pv_fn sd_fn
  have q : q = 1 ∨ q = 2 ∨ q = 3 ∨ q = 4 ∨ q = 5 ∨ q = 6 ∨ q = 7 ∨ q = 8 ∨ q = 9 := by omega
  rcases q with rfl | rfl | rfl | rfl | rfl | rfl | rfl | rfl | rfl
  · rw [if_pos (by decide), if_pos rfl]; omega
  · rw [if_neg (by decide), if_pos (by decide), if_neg (by decide), if_pos rfl, lk]; exact a0
  · rw [if_neg (by decide), if_neg (by decide), if_pos (by decide), if_neg (by decide), if_neg (by decide), if_pos rfl, lk]; exact a1
  · rw [if_neg (by decide), if_neg (by decide), if_neg (by decide), if_pos (by decide), if_neg (by decide), if_neg (by decide), if_neg (by decide), if_pos rfl, lk]; exact a2
  · rw [if_neg (by decide), if_neg (by decide), if_neg (by decide), if_neg (by decide), if_pos (by decide), if_neg (by decide), if_neg (by decide), if_neg (by decide), if_neg (by decide), if_pos rfl, lk]; exact a3
  · rw [if_neg (by decide), if_neg (by decide), if_neg (by decide), if_neg (by decide), if_neg (by decide), if_pos (by decide), if_neg (by decide), if_neg (by decide), if_neg (by decide), if_neg (by decide), if_neg (by decide), if_pos rfl]; exact h.2.1
  · rw [if_neg (by decide), if_neg (by decide), if_neg (by decide), if_neg (by decide), if_neg (by decide), if_neg (by decide), if_pos (by decide), if_neg (by decide), if_neg (by decide), if_neg (by decide), if_neg (by decide), if_neg (by decide), if_neg (by decide), if_pos rfl]; exact h.1
  · rw [if_neg (by decide), if_neg (by decide), if_neg (by decide), if_neg (by decide), if_neg (by decide), if_neg (by decide), if_neg (by decide), if_pos (by decide), if_neg (by decide), if_neg (by decide), if_neg (by decide), if_neg (by decide), if_neg (by decide), if_neg (by decide), if_neg (by decide), if_pos rfl, lk]; exact a6
  · rw [if_neg (by decide), if_neg (by decide), if_neg (by decide), if_neg (by decide), if_neg (by decide), if_neg (by decide), if_neg (by decide), if_neg (by decide), if_pos (by decide), if_neg (by decide), if_neg (by decide), if_neg (by decide), if_neg (by decide), if_neg (by decide), if_neg (by decide), if_neg (by decide), if_neg (by decide)]; exact lc
