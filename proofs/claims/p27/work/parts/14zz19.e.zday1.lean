/-! a day, told once: F is a state as w lays it -/
def sd_u (F : Nat → Int) (k : Nat) (v : Int) : Nat → Int := fun j => if j = k then v else F j
theorem sd_uu {F : Nat → Int} {k : Nat} {v : Int} : sd_u F k v k = v := if_pos rfl
theorem sd_ue {F : Nat → Int} {k j : Nat} {v : Int} (h : j = k) : sd_u F k v j = v := if_pos h
theorem sd_un {F : Nat → Int} {k j : Nat} {v : Int} (h : j ≠ k) : sd_u F k v j = F j := if_neg h
theorem sd_um {M : pz_M} {k : Nat} {v : Int} : (pz_u M 60 k v) 60 = sd_u (M 60) k v := by
  funext j
  show (if 60 = 60 ∧ j = k then v else M 60 j) = if j = k then v else M 60 j
  by_cases h : j = k
  · rw [if_pos ⟨rfl, h⟩, if_pos h]
  · rw [if_neg (fun z => h z.2), if_neg h]
theorem sd_uo {M : pz_M} {a k : Nat} {v : Int} (h : (60 : Nat) ≠ a) : (pz_u M a k v) 60 = M 60 := funext fun _ => pz_una h
/-- what a state is -/
def sd_lw (F : Nat → Int) (i : Nat) : Prop := (1 ≤ F (4 + i) ∧ F (4 + i) ≤ 999) ∧ (-9999 ≤ F (16 + i) ∧ F (16 + i) ≤ 9999) ∧ (-999 ≤ F (28 + i) ∧ F (28 + i) ≤ 999) ∧ (0 ≤ F (93 + i) ∧ F (93 + i) ≤ 9) ∧ (F (40 + i) = 0 ∨ F (40 + i) = 1) ∧ (F (52 + i) = 0 ∨ F (52 + i) = 1) ∧ (F (64 + i) = 0 ∨ (F (64 + i) = 1 ∧ 1 ≤ i ∧ (i : Int) + 1 < F 88))
def sd_wf (F : Nat → Int) : Prop := (0 ≤ F 88 ∧ F 88 ≤ 12) ∧ (0 ≤ F 3 ∧ F 3 ≤ 150) ∧ ∀ i : Nat, (i : Int) < F 88 → sd_lw F i
/-- where w has a field of the class' LINKS -/
def sd_fo (f : Nat) : Nat := [4, 16, 28, 93, 40, 52, 64, 76].getD f 0
/-- the class' chain c is F -/
def sd_se (M : pz_M) (c : Nat) (F : Nat → Int) : Prop := M c 3 = F 88 ∧ M c 4 = F 0 ∧ M c 5 = F 1 ∧ M c 6 = F 2 ∧ M c 7 = F 3 ∧ ∀ i f : Nat, (i : Int) < F 88 → f < 8 → M (pz_lb c + i) f = F (sd_fo f + i)
/-- THE BOOK -/
def sd_pg (M : pz_M) (F : Nat → Int) : Prop := ∀ k : Nat, k < 600 → M 45 k = F (241 + k)
theorem sd_se_l {M : pz_M} {c : Nat} {F : Nat → Int} (h : sd_se M c F) {i : Nat} (hi : (i : Int) < F 88) : M (pz_lb c + i) 0 = F (4 + i) ∧ M (pz_lb c + i) 1 = F (16 + i) ∧ M (pz_lb c + i) 2 = F (28 + i) ∧ M (pz_lb c + i) 3 = F (93 + i) ∧ M (pz_lb c + i) 4 = F (40 + i) ∧ M (pz_lb c + i) 5 = F (52 + i) ∧ M (pz_lb c + i) 6 = F (64 + i) ∧ M (pz_lb c + i) 7 = F (76 + i) :=
  ⟨h.2.2.2.2.2 i 0 hi (by decide), h.2.2.2.2.2 i 1 hi (by decide), h.2.2.2.2.2 i 2 hi (by decide), h.2.2.2.2.2 i 3 hi (by decide), h.2.2.2.2.2 i 4 hi (by decide), h.2.2.2.2.2 i 5 hi (by decide), h.2.2.2.2.2 i 6 hi (by decide), h.2.2.2.2.2 i 7 hi (by decide)⟩
theorem sd_se_cg {M N : pz_M} {c : Nat} {F : Nat → Int} (h : sd_se M c F) (e : ∀ b j : Nat, b = c ∨ (pz_lb c ≤ b ∧ b < pz_lb c + 12) → N b j = M b j) (h12 : F 88 ≤ 12) : sd_se N c F := by
  obtain ⟨h1, h2, h3, h4, h5, h6⟩ := h
  refine ⟨(e c 3 (Or.inl rfl)).trans h1, (e c 4 (Or.inl rfl)).trans h2, (e c 5 (Or.inl rfl)).trans h3, (e c 6 (Or.inl rfl)).trans h4, (e c 7 (Or.inl rfl)).trans h5, fun i f hi hf => ?_⟩
  rw [e _ f (Or.inr ⟨by omega, by omega⟩)]
  exact h6 i f hi hf
/-- the same state, another one to look at -/
theorem sd_se_f {M : pz_M} {c : Nat} {F G : Nat → Int} (h : sd_se M c F) (e : ∀ k : Nat, k ≤ 88 ∨ (93 ≤ k ∧ k < 105) → G k = F k) (h12 : F 88 ≤ 12) : sd_se M c G := by
  obtain ⟨h1, h2, h3, h4, h5, h6⟩ := h
  have e88 := e 88 (by omega)
  refine ⟨h1.trans e88.symm, h2.trans (e 0 (by omega)).symm, h3.trans (e 1 (by omega)).symm, h4.trans (e 2 (by omega)).symm, h5.trans (e 3 (by omega)).symm, fun i f hi hf => ?_⟩
  rw [e88] at hi
  rw [h6 i f hi hf]
  refine (e _ ?_).symm
  have hf : f = 0 ∨ f = 1 ∨ f = 2 ∨ f = 3 ∨ f = 4 ∨ f = 5 ∨ f = 6 ∨ f = 7 := by omega
  rcases hf with rfl | rfl | rfl | rfl | rfl | rfl | rfl | rfl
  · show 4 + i ≤ 88 ∨ (93 ≤ 4 + i ∧ 4 + i < 105); omega
  · show 16 + i ≤ 88 ∨ (93 ≤ 16 + i ∧ 16 + i < 105); omega
  · show 28 + i ≤ 88 ∨ (93 ≤ 28 + i ∧ 28 + i < 105); omega
  · show 93 + i ≤ 88 ∨ (93 ≤ 93 + i ∧ 93 + i < 105); omega
  · show 40 + i ≤ 88 ∨ (93 ≤ 40 + i ∧ 40 + i < 105); omega
  · show 52 + i ≤ 88 ∨ (93 ≤ 52 + i ∧ 52 + i < 105); omega
  · show 64 + i ≤ 88 ∨ (93 ≤ 64 + i ∧ 64 + i < 105); omega
  · show 76 + i ≤ 88 ∨ (93 ≤ 76 + i ∧ 76 + i < 105); omega
/-- a field of a LINK is written -/
theorem sd_fo_ne {f g i j : Nat} (hf : f < 8) (hg : g < 8) (hi : i < 12) (hj : j < 12) (h : f ≠ g ∨ i ≠ j) : sd_fo f + i ≠ sd_fo g + j := by
  have key : ∀ f, f < 8 → ∀ g, g < 8 → f ≠ g → sd_fo f + 12 ≤ sd_fo g ∨ sd_fo g + 12 ≤ sd_fo f := by decide
  by_cases q : f = g
  · subst q; omega
  · have := key f hf g hg q
    omega
theorem sd_fo_b {f i : Nat} (hf : f < 8) (hi : i < 12) : 4 ≤ sd_fo f + i ∧ sd_fo f + i < 105 ∧ sd_fo f + i ≠ 88 := by
  have key : ∀ f, f < 8 → 4 ≤ sd_fo f ∧ (sd_fo f + 12 ≤ 88 ∨ 89 ≤ sd_fo f) ∧ sd_fo f + 12 ≤ 105 := by decide
  have := key f hf
  omega
theorem sd_se_w {M : pz_M} {c i f : Nat} {F : Nat → Int} {v : Int} (hc : 71 ≤ c ∧ c < 80) (h : sd_se M c F) (h12 : F 88 ≤ 12) (hi : (i : Int) < F 88) (hf : f < 8) : sd_se (pz_u M (pz_lb c + i) f v) c (sd_u F (sd_fo f + i) v) := by
  obtain ⟨h1, h2, h3, h4, h5, h6⟩ := h
  have lb : pz_lb c ≠ c ∧ 89 ≤ pz_lb c := by unfold pz_lb; omega
  have b := sd_fo_b hf (show i < 12 by omega)
  have n : ∀ k : Nat, k < 4 ∨ k = 88 → sd_u F (sd_fo f + i) v k = F k := fun k hk => sd_un (by omega)
  have m : ∀ j : Nat, pz_u M (pz_lb c + i) f v c j = M c j := fun j => pz_una (by unfold pz_lb; omega)
  refine ⟨by rw [m, n 88 (by omega)]; exact h1, by rw [m, n 0 (by omega)]; exact h2, by rw [m, n 1 (by omega)]; exact h3, by rw [m, n 2 (by omega)]; exact h4, by rw [m, n 3 (by omega)]; exact h5, fun j g hj hg => ?_⟩
  rw [n 88 (by omega)] at hj
  by_cases q : f = g ∧ i = j
  · obtain ⟨rfl, rfl⟩ := q
    rw [pz_uu, sd_uu]
  · rw [sd_un (Ne.symm (sd_fo_ne hf hg (by omega) (by omega) (by omega))), ← h6 j g hj hg]
    exact if_neg (by omega)
/-- a field of the chain itself -/
theorem sd_se_c {M : pz_M} {c k f : Nat} {F : Nat → Int} {v : Int} (hc : 71 ≤ c ∧ c < 80) (h : sd_se M c F) (h12 : F 88 ≤ 12) (hk : k < 4 ∧ f = k + 4) : sd_se (pz_u M c f v) c (sd_u F k v) := by
  obtain ⟨h1, h2, h3, h4, h5, h6⟩ := h
  obtain ⟨hk, rfl⟩ := hk
  have a : ∀ j : Nat, j < 8 → 3 ≤ j → M c j = F (if j = 3 then 88 else j - 4) → pz_u M c (k + 4) v c j = sd_u F k v (if j = 3 then 88 else j - 4) := fun j j1 j2 hj => by
    by_cases q : j = k + 4
    · rw [q, pz_uu, if_neg (by omega), sd_ue (by omega)]
    · rw [pz_unk q, hj, sd_un (by split <;> omega)]
  refine ⟨a 3 (by omega) (by omega) h1, a 4 (by omega) (by omega) h2, a 5 (by omega) (by omega) h3, a 6 (by omega) (by omega) h4, a 7 (by omega) (by omega) h5, fun i g hi hg => ?_⟩
  rw [sd_un (show (88 : Nat) ≠ k by omega)] at hi
  have b := sd_fo_b hg (show i < 12 by omega)
  rw [pz_una (by unfold pz_lb; omega), sd_un (by omega)]
  exact h6 i g hi hg
/-! how many a LINK lacks -/
/-- from k downwards the first BRIDGED one, or 0 -/
def sd_lo (F : Nat → Int) : Nat → Nat
  | 0 => 0
  | k + 1 => if F (64 + (k + 1)) = 1 then k + 1 else sd_lo F k
theorem sd_lo_le {F : Nat → Int} : ∀ k, sd_lo F k ≤ k := by
  intro k
  induction k with
  | zero => exact Nat.le_refl _
  | succ k ih =>
    show (if F (64 + (k + 1)) = 1 then k + 1 else sd_lo F k) ≤ k + 1
    split <;> omega
/-- from t upwards the first one in b, n - 1 if there is none below it -/
def sd_hi (b : Nat → Bool) (n : Nat) : Nat → Nat → Nat
  | 0, t => t
  | f + 1, t => if t + 1 < n ∧ b t = false then sd_hi b n f (t + 1) else t
def sd_end (b : Nat → Bool) (n i : Nat) : Nat := min (sd_hi b n (n - (i + 1)) (i + 1)) (n - 1)
def sd_bb (F : Nat → Int) : Nat → Bool := fun k => decide (F (64 + k) = 1)
theorem sd_hi_u {b : Nat → Bool} {n : Nat} : ∀ f t, n ≤ t + f → t ≤ sd_hi b n f t ∧ (sd_hi b n f t = t ∨ sd_hi b n f t < n) ∧ (∀ k, t ≤ k → k < sd_hi b n f t → b k = false) ∧ (sd_hi b n f t + 1 < n → b (sd_hi b n f t) = true) := by
  intro f
  induction f with
  | zero => intro t h; exact ⟨Nat.le_refl _, Or.inl rfl, fun k a c => absurd c (by show ¬ k < t; omega), fun z => absurd z (by show ¬ t + 1 < n; omega)⟩
  | succ f ih =>
    intro t h
    have e : sd_hi b n (f + 1) t = if t + 1 < n ∧ b t = false then sd_hi b n f (t + 1) else t := rfl
    rw [e]
    by_cases q : t + 1 < n ∧ b t = false
    · rw [if_pos q]
      obtain ⟨a, c, d, g⟩ := ih (t + 1) (by omega)
      refine ⟨by omega, by omega, fun k k1 k2 => ?_, g⟩
      by_cases z : k = t
      · rw [z]; exact q.2
      · exact d k (by omega) k2
    · rw [if_neg q]
      refine ⟨Nat.le_refl _, Or.inl rfl, fun k a c => absurd c (by omega), fun z => ?_⟩
      cases y : b t with
      | false => exact absurd ⟨z, y⟩ q
      | true => rfl
theorem sd_end_s {b : Nat → Bool} {n i : Nat} (hi : i < n) : i ≤ sd_end b n i ∧ sd_end b n i < n ∧ (i + 1 < n → i < sd_end b n i) ∧ (∀ k, i < k → k < sd_end b n i → b k = false) ∧ (sd_end b n i + 1 < n → b (sd_end b n i) = true) := by
  obtain ⟨a, c, d, e⟩ := sd_hi_u (b := b) (n := n) (n - (i + 1)) (i + 1) (by omega)
  unfold sd_end
  refine ⟨by omega, by omega, by omega, fun k k1 k2 => d k (by omega) (by omega), fun z => ?_⟩
  have m : min (sd_hi b n (n - (i + 1)) (i + 1)) (n - 1) = sd_hi b n (n - (i + 1)) (i + 1) := by omega
  rw [m] at z ⊢
  exact e z
/-- it is the only one such -/
theorem sd_end_u {b : Nat → Bool} {n i e : Nat} (hi : i < n) (h1 : i ≤ e) (h2 : e < n) (h3 : i + 1 < n → i < e) (h4 : ∀ k, i < k → k < e → b k = false) (h5 : e + 1 < n → b e = true) : e = sd_end b n i := by
  obtain ⟨a1, a2, a3, a4, a5⟩ := sd_end_s (b := b) hi
  rcases Nat.lt_trichotomy e (sd_end b n i) with q | q | q
  · have x := h5 (by omega)
    rw [a4 e (by omega) q] at x
    cases x
  · exact q
  · have x := a5 (by omega)
    rw [h4 _ (by omega) q] at x
    cases x
/-- how many are not READY, m of them from k on -/
def sd_nr (F : Nat → Int) : Nat → Nat → Int
  | _, 0 => 0
  | k, m + 1 => (if F (40 + k) = 1 then 0 else 1) + sd_nr F (k + 1) m
theorem sd_nr_b {F : Nat → Int} : ∀ m k, 0 ≤ sd_nr F k m ∧ sd_nr F k m ≤ (m : Int) := by
  intro m
  induction m with
  | zero => intro k; exact ⟨Int.le_refl _, Int.le_refl _⟩
  | succ m ih =>
    intro k
    have := ih (k + 1)
    show 0 ≤ (if F (40 + k) = 1 then 0 else 1) + sd_nr F (k + 1) m ∧ (if F (40 + k) = 1 then 0 else 1) + sd_nr F (k + 1) m ≤ _
    split <;> omega
theorem sd_nr_app {F : Nat → Int} : ∀ a k b, sd_nr F k (a + b) = sd_nr F k a + sd_nr F (k + a) b := by
  intro a
  induction a with
  | zero =>
    intro k b
    rw [Nat.zero_add, Nat.add_zero]
    show _ = 0 + _
    omega
  | succ a ih =>
    intro k b
    rw [show a + 1 + b = (a + b) + 1 by omega]
    show (if F (40 + k) = 1 then 0 else 1) + sd_nr F (k + 1) (a + b) = ((if F (40 + k) = 1 then 0 else 1) + sd_nr F (k + 1) a) + _
    rw [ih (k + 1) b, show k + 1 + a = k + (a + 1) by omega]
    omega
def sd_from (F : Nat → Int) (i : Nat) : Nat := sd_lo F (i - 1)
def sd_to (F : Nat → Int) (i : Nat) : Nat := sd_end (sd_bb F) (F 88).toNat (if F (64 + i) = 1 ∨ i = 0 then i else sd_from F i)
def sd_lk (F : Nat → Int) (i : Nat) : Int := sd_nr F (sd_from F i) (sd_to F i + 1 - sd_from F i)
