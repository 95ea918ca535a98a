/-! SIGNS: who can sign from a minute on, so that all of a set have signed by another one -/
def sg_rm (s : Nat → Bool) (i : Nat) : Nat → Bool := fun k => s k && !decide (k = i)
theorem sg_rm_t {s : Nat → Bool} {i k : Nat} : sg_rm s i k = true ↔ s k = true ∧ k ≠ i := by
  show (s k && !decide (k = i)) = true ↔ _
  by_cases q : k = i
  · rw [decide_eq_true q, Bool.not_true, Bool.and_false]
    exact ⟨fun z => absurd z (by decide), fun z => absurd q z.2⟩
  · rw [decide_eq_false q, Bool.not_false, Bool.and_true]
    exact ⟨fun z => ⟨z, q⟩, fun z => z.1⟩
theorem sg_rm_c {s : Nat → Bool} {i j : Nat} : sg_rm (sg_rm s i) j = sg_rm (sg_rm s j) i := funext fun k => by
  show ((s k && !decide (k = i)) && !decide (k = j)) = ((s k && !decide (k = j)) && !decide (k = i))
  exact Bool.and_right_comm _ _ _
/-- the minute at which one has signed who begins at t at the earliest -/
def sg_d (f : Nat → Int) (t : Int) (i : Nat) : Int := max t (f i) + 10
theorem sg_d_b {f : Nat → Int} {t : Int} {i : Nat} : t + 10 ≤ sg_d f t i ∧ f i + 10 ≤ sg_d f t i ∧ (sg_d f t i = t + 10 ∨ sg_d f t i = f i + 10) := by
  unfold sg_d
  omega
theorem sg_d_m {f : Nat → Int} {t u : Int} {i : Nat} (h : t ≤ u) : sg_d f t i ≤ sg_d f u i := by
  have a := sg_d_b (f := f) (t := t) (i := i)
  have b := sg_d_b (f := f) (t := u) (i := i)
  omega
/-- a row of LINKS, one after another -/
def sg_ok (f g : Nat → Int) (B : Int) : Int → (Nat → Bool) → List Nat → Prop
  | t, s, [] => (∀ k, s k = false) ∧ t ≤ B
  | t, s, i :: l => s i = true ∧ sg_d f t i ≤ g i ∧ sg_ok f g B (sg_d f t i) (sg_rm s i) l
def sg_fe (f g : Nat → Int) (B t : Int) (s : Nat → Bool) : Prop := ∃ l, sg_ok f g B t s l
theorem sg_ok_m {f g : Nat → Int} {B : Int} : ∀ (l : List Nat) (t u : Int) (s : Nat → Bool), u ≤ t → sg_ok f g B t s l → sg_ok f g B u s l := by
  intro l
  induction l with
  | nil => exact fun t u s h z => ⟨z.1, Int.le_trans h z.2⟩
  | cons i l ih =>
    intro t u s h z
    obtain ⟨z1, z2, z3⟩ := z
    exact ⟨z1, Int.le_trans (sg_d_m h) z2, ih _ _ _ (sg_d_m h) z3⟩
theorem sg_fe_m {f g : Nat → Int} {B t u : Int} {s : Nat → Bool} (h : u ≤ t) (z : sg_fe f g B t s) : sg_fe f g B u s := by
  obtain ⟨l, z⟩ := z
  exact ⟨l, sg_ok_m l t u s h z⟩
/-- the first one -/
theorem sg_fe_f {f g : Nat → Int} {B t : Int} {s : Nat → Bool} : sg_fe f g B t s ↔ ((∀ k, s k = false) ∧ t ≤ B) ∨ ∃ i, s i = true ∧ sg_d f t i ≤ g i ∧ sg_fe f g B (sg_d f t i) (sg_rm s i) := by
  constructor
  · rintro ⟨l, z⟩
    cases l with
    | nil => exact Or.inl z
    | cons i l =>
      obtain ⟨z1, z2, z3⟩ := z
      exact Or.inr ⟨i, z1, z2, l, z3⟩
  · rintro (z | ⟨i, z1, z2, l, z3⟩)
    · exact ⟨[], z⟩
    · exact ⟨i :: l, z1, z2, z3⟩
theorem sg_ok_s {f g : Nat → Int} {B : Int} {i : Nat} : ∀ (l : List Nat) (t : Int) (s : Nat → Bool), sg_ok f g B t s (l ++ [i]) ↔ s i = true ∧ ∃ e, sg_ok f g e t (sg_rm s i) l ∧ sg_d f e i ≤ g i ∧ sg_d f e i ≤ B := by
  intro l
  induction l with
  | nil =>
    intro t s
    constructor
    · rintro ⟨z1, z2, z3, z4⟩
      exact ⟨z1, t, ⟨z3, Int.le_refl _⟩, z2, z4⟩
    · rintro ⟨z1, e, ⟨z2, z3⟩, z4, z5⟩
      exact ⟨z1, Int.le_trans (sg_d_m z3) z4, z2, Int.le_trans (sg_d_m z3) z5⟩
  | cons j l ih =>
    intro t s
    constructor
    · rintro ⟨z1, z2, z3⟩
      obtain ⟨y1, e, y2, y3, y4⟩ := (ih _ _).mp z3
      have y1 := sg_rm_t.mp y1
      exact ⟨y1.1, e, ⟨sg_rm_t.mpr ⟨z1, fun q => y1.2 q.symm⟩, z2, by rw [sg_rm_c]; exact y2⟩, y3, y4⟩
    · rintro ⟨z1, e, ⟨y1, y2, y3⟩, z3, z4⟩
      have y1 := sg_rm_t.mp y1
      exact ⟨y1.1, y2, (ih _ _).mpr ⟨sg_rm_t.mpr ⟨z1, fun q => y1.2 q.symm⟩, e, by rw [sg_rm_c]; exact y3, z3, z4⟩⟩
/-- the last one -/
theorem sg_fe_l {f g : Nat → Int} {B t : Int} {s : Nat → Bool} : sg_fe f g B t s ↔ ((∀ k, s k = false) ∧ t ≤ B) ∨ ∃ i, s i = true ∧ ∃ e, sg_fe f g e t (sg_rm s i) ∧ sg_d f e i ≤ g i ∧ sg_d f e i ≤ B := by
  constructor
  · rintro ⟨l, z⟩
    rcases List.eq_nil_or_concat l with q | ⟨m, i, q⟩
    · rw [q] at z
      exact Or.inl z
    · rw [q, List.concat_eq_append] at z
      obtain ⟨z1, e, z2, z3, z4⟩ := (sg_ok_s m t s).mp z
      exact Or.inr ⟨i, z1, e, ⟨m, z2⟩, z3, z4⟩
  · rintro (z | ⟨i, z1, e, ⟨m, z2⟩, z3, z4⟩)
    · exact ⟨[], z⟩
    · exact ⟨m ++ [i], (sg_ok_s m t s).mpr ⟨z1, e, z2, z3, z4⟩⟩
/-- the earliest minute for a set (none: -1) -/
def sg_ea (f g : Nat → Int) (t : Int) (s : Nat → Bool) (v : Int) : Prop := -1 ≤ v ∧ ∀ B, sg_fe f g B t s ↔ v ≠ -1 ∧ v ≤ B
/-- the latest minute to begin with a set (none: -1) -/
def sg_la (f g : Nat → Int) (B : Int) (s : Nat → Bool) (v : Int) : Prop := -1 ≤ v ∧ ∀ t, 0 ≤ t → (sg_fe f g B t s ↔ v ≠ -1 ∧ t ≤ v)
theorem sg_ea_u {f g : Nat → Int} {t v w : Int} {s : Nat → Bool} (h : sg_ea f g t s v) (k : sg_ea f g t s w) : v = w := by
  obtain ⟨h1, h2⟩ := h
  obtain ⟨k1, k2⟩ := k
  by_cases a : v = -1
  · by_cases b : w = -1
    · omega
    · exact absurd a ((h2 w).mp ((k2 w).mpr ⟨b, Int.le_refl _⟩)).1
  · have x := (k2 v).mp ((h2 v).mpr ⟨a, Int.le_refl _⟩)
    have y := (h2 w).mp ((k2 w).mpr ⟨x.1, Int.le_refl _⟩)
    have x2 := x.2
    have y2 := y.2
    omega
theorem sg_ea_0 {f g : Nat → Int} {t : Int} {s : Nat → Bool} (ht : 0 ≤ t) (h : ∀ k, s k = false) : sg_ea f g t s t := by
  refine ⟨by omega, fun B => ?_⟩
  rw [sg_fe_l]
  constructor
  · rintro (⟨-, z⟩ | ⟨i, z, -⟩)
    · exact ⟨by omega, z⟩
    · rw [h i] at z
      cases z
  · rintro ⟨-, z⟩
    exact Or.inl ⟨h, z⟩
theorem sg_la_0 {f g : Nat → Int} {B : Int} {s : Nat → Bool} (hB : 0 ≤ B) (h : ∀ k, s k = false) : sg_la f g B s B := by
  refine ⟨by omega, fun t _ => ?_⟩
  rw [sg_fe_f]
  constructor
  · rintro (⟨-, z⟩ | ⟨i, z, -⟩)
    · exact ⟨by omega, z⟩
    · rw [h i] at z
      cases z
  · rintro ⟨-, z⟩
    exact Or.inl ⟨h, z⟩
/-- the least of some numbers (none: -1); the greatest of some -/
def sg_mn (D : Nat → Prop) (w : Nat → Int) (x b : Int) : Prop := (b = -1 ∧ ∀ i : Nat, (i : Int) < x → ¬ D i) ∨ ((∃ i : Nat, (i : Int) < x ∧ D i ∧ b = w i) ∧ ∀ i : Nat, (i : Int) < x → D i → b ≤ w i)
def sg_mx (D : Nat → Prop) (w : Nat → Int) (x b : Int) : Prop := (b = -1 ∧ ∀ i : Nat, (i : Int) < x → ¬ D i) ∨ ((∃ i : Nat, (i : Int) < x ∧ D i ∧ b = w i) ∧ ∀ i : Nat, (i : Int) < x → D i → w i ≤ b)
theorem sg_mn_0 {D : Nat → Prop} {w : Nat → Int} : sg_mn D w 0 (-1) := Or.inl ⟨rfl, fun i h => absurd h (by omega)⟩
theorem sg_mx_0 {D : Nat → Prop} {w : Nat → Int} : sg_mx D w 0 (-1) := Or.inl ⟨rfl, fun i h => absurd h (by omega)⟩
theorem sg_mn_n {D : Nat → Prop} {w : Nat → Int} {x y b : Int} (h : sg_mn D w x b) (hx : 0 ≤ x) (hy : y = x + 1) (hn : ¬ D x.toNat) : sg_mn D w y b := by
  have c : ∀ i : Nat, (i : Int) < y → D i → (i : Int) < x := fun i hi hd => by
    by_cases q : i = x.toNat
    · rw [q] at hd
      exact absurd hd hn
    · omega
  rcases h with ⟨h1, h2⟩ | ⟨⟨i, h1, h2, h3⟩, h4⟩
  · exact Or.inl ⟨h1, fun i hi hd => h2 i (c i hi hd) hd⟩
  · exact Or.inr ⟨⟨i, by omega, h2, h3⟩, fun i hi hd => h4 i (c i hi hd) hd⟩
theorem sg_mx_n {D : Nat → Prop} {w : Nat → Int} {x y b : Int} (h : sg_mx D w x b) (hx : 0 ≤ x) (hy : y = x + 1) (hn : ¬ D x.toNat) : sg_mx D w y b := by
  have c : ∀ i : Nat, (i : Int) < y → D i → (i : Int) < x := fun i hi hd => by
    by_cases q : i = x.toNat
    · rw [q] at hd
      exact absurd hd hn
    · omega
  rcases h with ⟨h1, h2⟩ | ⟨⟨i, h1, h2, h3⟩, h4⟩
  · exact Or.inl ⟨h1, fun i hi hd => h2 i (c i hi hd) hd⟩
  · exact Or.inr ⟨⟨i, by omega, h2, h3⟩, fun i hi hd => h4 i (c i hi hd) hd⟩
theorem sg_mn_y {D : Nat → Prop} {w : Nat → Int} {x y b b' : Int} (h : sg_mn D w x b) (hx : 0 ≤ x) (hy : y = x + 1) (hd : D x.toNat) (h0 : ∀ i : Nat, (i : Int) < y → D i → 0 ≤ w i) (hb : (b' = w x.toNat ∧ (b = -1 ∨ w x.toNat ≤ b)) ∨ (b' = b ∧ b ≠ -1 ∧ b ≤ w x.toNat)) : sg_mn D w y b' := by
  rcases h with ⟨h1, h2⟩ | ⟨⟨i, h1, h2, h3⟩, h4⟩
  · have e : b' = w x.toNat := by omega
    exact Or.inr ⟨⟨x.toNat, by omega, hd, e⟩, fun i hi di => by
      by_cases q : i = x.toNat
      · rw [q]
        omega
      · exact absurd di (h2 i (by omega))⟩
  · have p := h0 i (by omega) h2
    rcases hb with ⟨e, z⟩ | ⟨e, z1, z2⟩
    · refine Or.inr ⟨⟨x.toNat, by omega, hd, e⟩, fun k hk dk => ?_⟩
      by_cases q : k = x.toNat
      · rw [q]
        omega
      · have r := h4 k (by omega) dk
        omega
    · refine Or.inr ⟨⟨i, by omega, h2, by omega⟩, fun k hk dk => ?_⟩
      by_cases q : k = x.toNat
      · rw [q]
        omega
      · have r := h4 k (by omega) dk
        omega
theorem sg_mx_y {D : Nat → Prop} {w : Nat → Int} {x y b b' : Int} (h : sg_mx D w x b) (hx : 0 ≤ x) (hy : y = x + 1) (hd : D x.toNat) (h0 : 0 ≤ w x.toNat) (hb : b' = max b (w x.toNat)) : sg_mx D w y b' := by
  have hb : (b ≤ b' ∧ w x.toNat ≤ b') ∧ (b' = b ∨ b' = w x.toNat) := by omega
  rcases h with ⟨h1, h2⟩ | ⟨⟨i, h1, h2, h3⟩, h4⟩
  · exact Or.inr ⟨⟨x.toNat, by omega, hd, by omega⟩, fun i hi di => by
      by_cases q : i = x.toNat
      · rw [q]
        omega
      · exact absurd di (h2 i (by omega))⟩
  · have u : ∀ k : Nat, (k : Int) < y → D k → w k ≤ b' := fun k hk dk => by
      by_cases q : k = x.toNat
      · rw [q]
        omega
      · have r := h4 k (by omega) dk
        omega
    rcases hb.2 with e | e
    · exact Or.inr ⟨⟨i, by omega, h2, by omega⟩, u⟩
    · exact Or.inr ⟨⟨x.toNat, by omega, hd, e⟩, u⟩
/-- who can be the last one; who can be the first one -/
def sg_D (f g : Nat → Int) (s : Nat → Bool) (V : Nat → Int) (i : Nat) : Prop := s i = true ∧ V i ≠ -1 ∧ sg_d f (V i) i ≤ g i
def sg_b (g : Nat → Int) (v : Int) (i : Nat) : Int := min v (g i) - 10
def sg_G (f g : Nat → Int) (s : Nat → Bool) (V : Nat → Int) (i : Nat) : Prop := s i = true ∧ V i ≠ -1 ∧ f i ≤ sg_b g (V i) i
theorem sg_b_d {f g : Nat → Int} {t v : Int} {i : Nat} : (sg_d f t i ≤ g i ∧ sg_d f t i ≤ v) ↔ t ≤ sg_b g v i ∧ f i ≤ sg_b g v i := by
  have a := sg_d_b (f := f) (t := t) (i := i)
  unfold sg_b
  omega
theorem sg_ea_s {f g V : Nat → Int} {t n best : Int} {s : Nat → Bool} (hf : ∀ i, s i = true → 0 ≤ f i) (hn : ∀ i : Nat, s i = true → (i : Int) < n) (ne : ∃ k, s k = true) (hV : ∀ i, s i = true → sg_ea f g t (sg_rm s i) (V i)) (hb : sg_mn (sg_D f g s V) (fun i => sg_d f (V i) i) n best) : sg_ea f g t s best := by
  refine ⟨?_, fun B => ?_⟩
  · rcases hb with ⟨z, -⟩ | ⟨⟨i, -, z1, z3⟩, -⟩
    · omega
    · have a := hf i z1.1
      have b := sg_d_b (f := f) (t := V i) (i := i)
      have z3 : best = sg_d f (V i) i := z3
      omega
  rw [sg_fe_l]
  constructor
  · rintro (⟨z, -⟩ | ⟨i, z1, e, z2, z3, z4⟩)
    · obtain ⟨k, hk⟩ := ne
      rw [z k] at hk
      cases hk
    · obtain ⟨y1, y2⟩ := ((hV i z1).2 e).mp z2
      have m := sg_d_m (f := f) (i := i) y2
      have d : sg_D f g s V i := ⟨z1, y1, by omega⟩
      rcases hb with ⟨-, b⟩ | ⟨⟨j, -, j2, j3⟩, b⟩
      · exact absurd d (b i (hn i z1))
      · have q : best ≤ sg_d f (V i) i := b i (hn i z1) d
        have pj := hf j j2.1
        have bj := sg_d_b (f := f) (t := V j) (i := j)
        have j3 : best = sg_d f (V j) j := j3
        exact ⟨by omega, by omega⟩
  · rintro ⟨z1, z2⟩
    rcases hb with ⟨b, -⟩ | ⟨⟨j, -, j2, j3⟩, -⟩
    · exact absurd b z1
    · have j3 : best = sg_d f (V j) j := j3
      exact Or.inr ⟨j, j2.1, V j, ((hV j j2.1).2 (V j)).mpr ⟨j2.2.1, Int.le_refl _⟩, j2.2.2, by omega⟩
theorem sg_la_s {f g V : Nat → Int} {B n best : Int} {s : Nat → Bool} (hf : ∀ i, s i = true → 0 ≤ f i) (hn : ∀ i : Nat, s i = true → (i : Int) < n) (ne : ∃ k, s k = true) (hV : ∀ i, s i = true → sg_la f g B (sg_rm s i) (V i)) (hb : sg_mx (sg_G f g s V) (fun i => sg_b g (V i) i) n best) : sg_la f g B s best := by
  refine ⟨?_, fun t ht => ?_⟩
  · rcases hb with ⟨z, -⟩ | ⟨⟨i, -, z1, z3⟩, -⟩
    · omega
    · have a := hf i z1.1
      have b := z1.2.2
      have z3 : best = sg_b g (V i) i := z3
      omega
  rw [sg_fe_f]
  constructor
  · rintro (⟨z, -⟩ | ⟨i, z1, z2, z3⟩)
    · obtain ⟨k, hk⟩ := ne
      rw [z k] at hk
      cases hk
    · have p := hf i z1
      have bi := sg_d_b (f := f) (t := t) (i := i)
      obtain ⟨y1, y2⟩ := ((hV i z1).2 _ (by omega)).mp z3
      have u := sg_b_d.mp ⟨z2, y2⟩
      have d : sg_G f g s V i := ⟨z1, y1, u.2⟩
      rcases hb with ⟨-, b⟩ | ⟨⟨j, -, j2, j3⟩, b⟩
      · exact absurd d (b i (hn i z1))
      · have q : sg_b g (V i) i ≤ best := b i (hn i z1) d
        exact ⟨by omega, Int.le_trans u.1 q⟩
  · rintro ⟨z1, z2⟩
    rcases hb with ⟨b, -⟩ | ⟨⟨j, -, j2, j3⟩, -⟩
    · exact absurd b z1
    · have j3 : best = sg_b g (V j) j := j3
      have pj := hf j j2.1
      have bj := sg_d_b (f := f) (t := t) (i := j)
      have u := (sg_b_d (f := f) (t := t)).mpr ⟨by omega, j2.2.2⟩
      exact Or.inr ⟨j, j2.1, u.1, ((hV j j2.1).2 _ (by omega)).mpr ⟨j2.2.1, u.2⟩⟩
/-! sets as numbers -/
def sg_bt (k : Nat) : Nat → Bool := fun i => k.testBit i
def sg_rx (k i : Nat) : Nat := k ^^^ 2 ^ i
theorem sg_rx_b {k i : Nat} (h : sg_bt k i = true) : sg_bt (sg_rx k i) = sg_rm (sg_bt k) i := funext fun j => by
  show (k ^^^ 2 ^ i).testBit j = (k.testBit j && !decide (j = i))
  rw [Nat.testBit_xor, Nat.testBit_two_pow]
  by_cases q : i = j
  · subst q
    have h : k.testBit i = true := h
    rw [h, decide_eq_true rfl]
    rfl
  · rw [decide_eq_false q, decide_eq_false (fun z => q z.symm)]
    cases k.testBit j <;> rfl
theorem sg_sub_le {a b : Nat} (h : ∀ j, a.testBit j = true → b.testBit j = true) : a ≤ b := by
  have e : a = b &&& a := Nat.eq_of_testBit_eq fun j => by
    rw [Nat.testBit_and]
    cases q : a.testBit j with
    | false => rw [Bool.and_false]
    | true => rw [h j q, Bool.and_true]
  rw [e]
  exact Nat.and_le_left
theorem sg_rx_l {k i : Nat} (h : sg_bt k i = true) : sg_rx k i < k := by
  have b := sg_rx_b h
  have l : sg_rx k i ≤ k := sg_sub_le (fun j hj => (sg_rm_t.mp ((congrFun b j).symm.trans hj)).1)
  have ne : sg_rx k i ≠ k := fun z => by
    rw [z] at b
    exact (sg_rm_t.mp ((congrFun b i).symm.trans h)).2 rfl
  omega
theorem sg_bt_0 : ∀ i, sg_bt 0 i = false := fun i => Nat.zero_testBit i
theorem sg_bt_ne {k : Nat} (h : 0 < k) : ∃ i, sg_bt k i = true := by
  by_cases z : ∃ i, sg_bt k i = true
  · exact z
  · have e : k = 0 := Nat.eq_of_testBit_eq fun j => by
      rw [Nat.zero_testBit]
      cases r : k.testBit j with
      | false => rfl
      | true => exact absurd ⟨j, r⟩ z
    omega
theorem sg_bt_n {k i n : Nat} (h : k < 2 ^ n) (hi : sg_bt k i = true) : i < n := by
  by_cases q : i < n
  · exact q
  · have z : k.testBit i = false := Nat.testBit_lt_two_pow (Nat.lt_of_lt_of_le h (Nat.pow_le_pow_right (by decide) (by omega)))
    have hi : k.testBit i = true := hi
    rw [z] at hi
    cases hi
theorem sg_zs {x : Int} (h0 : 0 ≤ x) (h1 : x < 4096) : pz_zs x (sg_bt x.toNat) := ⟨x.toNat, by omega, by omega, fun _ => rfl⟩
theorem sg_zs_b {x : Int} {h : Nat → Bool} (z : pz_zs x h) : sg_bt x.toNat = h := by
  obtain ⟨s, rfl, s1, s2⟩ := z
  exact funext fun k => by
    show ((s : Int).toNat).testBit k = h k
    rw [Int.toNat_natCast]
    exact s2 k
theorem sg_xi {x i y v : Int} (hx : 0 ≤ x ∧ x < 4096) (hi : 0 ≤ i ∧ i ≤ 11) (hy : y = (Int32.ofInt 1 <<< (Int32.ofInt i &&& 31)).toInt) (hv : v = (Int32.ofInt x ^^^ Int32.ofInt y).toInt) : v.toNat = sg_rx x.toNat i.toNat ∧ 0 ≤ v ∧ v < 4096 := by
  have z := pz_sb_xor (sg_zs hx.1 hx.2) (pz_sb_1 hi.1 hi.2)
  rw [← hy, ← hv] at z
  obtain ⟨s, s1, s2, s3⟩ := z
  refine ⟨?_, by omega, by omega⟩
  rw [s1, Int.toNat_natCast]
  exact Nat.eq_of_testBit_eq fun k => by
    rw [s3]
    show Bool.xor (x.toNat.testBit k) (decide (i.toNat = k)) = (x.toNat ^^^ 2 ^ i.toNat).testBit k
    rw [Nat.testBit_xor, Nat.testBit_two_pow]
/-- all of the first n -/
def sg_S (n : Nat) : Nat → Bool := fun k => decide (k < n)
theorem sg_bt_S {n : Nat} : sg_bt (2 ^ n - 1) = sg_S n := funext fun k => Nat.testBit_two_pow_sub_one _ _
theorem sg_S_t {n k : Nat} : sg_S n k = true ↔ k < n := ⟨fun h => of_decide_eq_true h, fun h => decide_eq_true h⟩
/-- how many at most, over all sets -/
def sg_most (f g : Nat → Int) (n : Nat) (K : Int) : Prop := (∃ k : Nat, k < 2 ^ n ∧ (∃ B, sg_fe f g B 0 (sg_bt k)) ∧ K = pz_cnt (sg_bt k) 12) ∧ ∀ k : Nat, k < 2 ^ n → (∃ B, sg_fe f g B 0 (sg_bt k)) → pz_cnt (sg_bt k) 12 ≤ K
theorem sg_most_u {f g : Nat → Int} {n : Nat} {K L : Int} (h : sg_most f g n K) (h' : sg_most f g n L) : K = L := by
  obtain ⟨⟨k, k1, k2, k3⟩, k4⟩ := h
  obtain ⟨⟨l, l1, l2, l3⟩, l4⟩ := h'
  have a := k4 l l1 l2
  have b := l4 k k1 k2
  omega
/-! the order: of several with it the first, LINK by LINK -/
def sg_nq (f g : Nat → Int) (E t : Int) (s : Nat → Bool) (i : Nat) : Prop := s i = true ∧ sg_d f t i ≤ g i ∧ sg_fe f g E (sg_d f t i) (sg_rm s i)
def sg_nx (f g : Nat → Int) (E t : Int) (s : Nat → Bool) (i : Nat) : Prop := sg_nq f g E t s i ∧ ∀ j, j < i → ¬ sg_nq f g E t s j
theorem sg_nx_u {f g : Nat → Int} {E t : Int} {s : Nat → Bool} {i j : Nat} (h : sg_nx f g E t s i) (h' : sg_nx f g E t s j) : i = j := by
  rcases Nat.lt_trichotomy i j with q | q | q
  · exact absurd h.1 (h'.2 i q)
  · exact q
  · exact absurd h'.1 (h.2 j q)
def sg_tm (f : Nat → Int) (o : Nat → Nat) : Nat → Int
  | 0 => 0
  | p + 1 => sg_d f (sg_tm f o p) (o p)
def sg_rs (n : Nat) (o : Nat → Nat) : Nat → (Nat → Bool)
  | 0 => sg_S n
  | p + 1 => sg_rm (sg_rs n o p) (o p)
def sg_oq (f g : Nat → Int) (n : Nat) (E : Int) (o : Nat → Nat) (p : Nat) : Prop := ∀ q, q < p → sg_nx f g E (sg_tm f o q) (sg_rs n o q) (o q)
theorem sg_tm_cg {f : Nat → Int} {o o' : Nat → Nat} : ∀ p, (∀ q, q < p → o q = o' q) → sg_tm f o p = sg_tm f o' p := by
  intro p
  induction p with
  | zero => exact fun _ => rfl
  | succ p ih =>
    intro h
    show sg_d f (sg_tm f o p) (o p) = sg_d f (sg_tm f o' p) (o' p)
    rw [ih (fun q hq => h q (by omega)), h p (by omega)]
theorem sg_rs_cg {n : Nat} {o o' : Nat → Nat} : ∀ p, (∀ q, q < p → o q = o' q) → sg_rs n o p = sg_rs n o' p := by
  intro p
  induction p with
  | zero => exact fun _ => rfl
  | succ p ih =>
    intro h
    show sg_rm (sg_rs n o p) (o p) = sg_rm (sg_rs n o' p) (o' p)
    rw [ih (fun q hq => h q (by omega)), h p (by omega)]
theorem sg_oq_cg {f g : Nat → Int} {n : Nat} {E : Int} {o o' : Nat → Nat} {p : Nat} (h : sg_oq f g n E o p) (e : ∀ q, q < p → o q = o' q) : sg_oq f g n E o' p := fun q hq => by
  rw [← sg_tm_cg q (fun r hr => e r (by omega)), ← sg_rs_cg q (fun r hr => e r (by omega)), ← e q hq]
  exact h q hq
theorem sg_oq_u {f g : Nat → Int} {n : Nat} {E : Int} {o o' : Nat → Nat} {p p' : Nat} (h : sg_oq f g n E o p) (h' : sg_oq f g n E o' p') : ∀ q, q < p → q < p' → o q = o' q := by
  intro q
  induction q using Nat.strongRecOn with
  | ind q ih =>
    intro hq hq'
    have e : ∀ r, r < q → o r = o' r := fun r hr => ih r hr (by omega) (by omega)
    have a := h q hq
    rw [sg_tm_cg q e, sg_rs_cg q e] at a
    exact sg_nx_u a (h' q hq')
theorem sg_oq_s {f g : Nat → Int} {n : Nat} {E : Int} {o : Nat → Nat} {p : Nat} (h : sg_oq f g n E o p) (z : sg_nx f g E (sg_tm f o p) (sg_rs n o p) (o p)) : sg_oq f g n E o (p + 1) := fun q hq => by
  by_cases y : q = p
  · rw [y]
    exact z
  · exact h q (by omega)
theorem sg_rs_t {n : Nat} {o : Nat → Nat} {k : Nat} : ∀ p, sg_rs n o p k = true → k < n := by
  intro p
  induction p with
  | zero => exact fun h => sg_S_t.mp h
  | succ p ih => exact fun h => ih (sg_rm_t.mp h).1
theorem sg_cnt_rm {s : Nat → Bool} {i : Nat} (h : s i = true) : ∀ m, pz_cnt (sg_rm s i) m = pz_cnt s m - (if i < m then 1 else 0) := by
  intro m
  induction m with
  | zero => rfl
  | succ m ih =>
    show pz_cnt (sg_rm s i) m + (if sg_rm s i m = true then 1 else 0) = pz_cnt s m + (if s m = true then 1 else 0) - _
    rw [ih]
    by_cases q : m = i
    · rw [if_neg (fun z => (sg_rm_t.mp z).2 q), if_neg (show ¬ i < m by omega), if_pos (show s m = true by rw [q]; exact h), if_pos (show i < m + 1 by omega)]
      omega
    · by_cases r : s m = true
      · rw [if_pos (sg_rm_t.mpr ⟨r, q⟩), if_pos r]
        by_cases l : i < m
        · rw [if_pos l, if_pos (show i < m + 1 by omega)]
          omega
        · rw [if_neg l, if_neg (show ¬ i < m + 1 by omega)]
          omega
      · rw [if_neg (fun z => r (sg_rm_t.mp z).1), if_neg r]
        by_cases l : i < m
        · rw [if_pos l, if_pos (show i < m + 1 by omega)]
          omega
        · rw [if_neg l, if_neg (show ¬ i < m + 1 by omega)]
          omega
theorem sg_cnt_S {n : Nat} : ∀ m, n ≤ m → pz_cnt (sg_S n) m = (n : Int) := by
  have a : ∀ m, m ≤ n → pz_cnt (sg_S n) m = (m : Int) := by
    intro m
    induction m with
    | zero => exact fun _ => rfl
    | succ m ih =>
      intro h
      show pz_cnt (sg_S n) m + (if sg_S n m = true then 1 else 0) = _
      rw [ih (by omega), if_pos (sg_S_t.mpr (by omega))]
      omega
  intro m h
  have u := pz_cnt_up (f := sg_S n) (n := n) (m - n) (fun k hk => decide_eq_false (by omega))
  rw [show n + (m - n) = m by omega] at u
  rw [u]
  exact a n (Nat.le_refl _)
theorem sg_cnt_ne {s : Nat → Bool} : ∀ m, 0 < pz_cnt s m → ∃ k, s k = true := by
  intro m
  induction m with
  | zero => exact fun h => absurd h (Int.lt_irrefl 0)
  | succ m ih =>
    intro h
    by_cases q : s m = true
    · exact ⟨m, q⟩
    · have h : 0 < pz_cnt s m + (if s m = true then 1 else 0) := h
      rw [if_neg q] at h
      exact ih (by omega)
/-- as long as somebody is left, there is a next one -/
theorem sg_fe_nq {f g : Nat → Int} {E t : Int} {s : Nat → Bool} (h : sg_fe f g E t s) (ne : ∃ k, s k = true) : ∃ i, sg_nq f g E t s i := by
  rcases sg_fe_f.mp h with ⟨z, -⟩ | ⟨i, z⟩
  · obtain ⟨k, hk⟩ := ne
    rw [z k] at hk
    cases hk
  · exact ⟨i, z⟩
