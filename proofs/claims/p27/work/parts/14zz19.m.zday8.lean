/-! PARTS that move -/
theorem pz_w_add {a b : Int} : pz_w (a + pz_w b) = pz_w (a + b) := by
  unfold pz_w
  omega
theorem sd_mi_add {tr e : Bool} {to : Nat} {x : Int} : ∀ (m i : Nat) (F : Nat → Int) (c : Int), sd_mi tr to e m i F (pz_w (x + c)) = ((sd_mi tr to e m i F c).1, pz_w (x + (sd_mi tr to e m i F c).2)) := by
  intro m
  induction m with
  | zero => intro i F c; rfl
  | succ m ih =>
    intro i F c
    show (if sd_mk F to e i then sd_mi tr to e m (i + 1) (sd_note tr (sd_u F (76 + i) (F 0)) 5 i 0) (pz_w (pz_w (x + c) + 1)) else sd_mi tr to e m (i + 1) F (pz_w (x + c))) = _
    have e0 : sd_mi tr to e (m + 1) i F c = if sd_mk F to e i then sd_mi tr to e m (i + 1) (sd_note tr (sd_u F (76 + i) (F 0)) 5 i 0) (pz_w (c + 1)) else sd_mi tr to e m (i + 1) F c := rfl
    rw [e0]
    by_cases q : sd_mk F to e i
    · rw [if_pos q, if_pos q, show pz_w (pz_w (x + c) + 1) = pz_w (x + pz_w (c + 1)) by rw [pz_w_add, Int.add_comm (pz_w (x + c)) 1, pz_w_add]; congr 1; omega]
      exact ih _ _ _
    · rw [if_neg q, if_neg q]
      exact ih _ _ _
theorem sd_okv_7 {F : Nat → Int} {i : Nat} {v : Int} : sd_okv F 7 i v := ⟨fun q => absurd q (by decide), fun q => absurd q (by decide), fun q => absurd q (by decide), fun q => absurd q (by decide), fun q => absurd q (by decide), fun q => absurd q (by decide), fun q => absurd q (by decide)⟩
/-- how many BRIDGED ones above a -/
def sd_nb (b : Nat → Bool) (n a : Nat) : Int := pz_cnt (fun k => decide (a < k ∧ k < n) && b k) 12
theorem pz_cnt_one {p q : Nat → Bool} {e : Nat} (he : p e = true) (hq : q e = false) (h : ∀ k, k ≠ e → p k = q k) : ∀ m, pz_cnt p m = pz_cnt q m + if e < m then 1 else 0 := by
  intro m
  induction m with
  | zero => rfl
  | succ m ih =>
    show pz_cnt p m + (if p m = true then 1 else 0) = pz_cnt q m + (if q m = true then 1 else 0) + if e < m + 1 then 1 else 0
    rw [ih]
    by_cases c : m = e
    · rw [c, he, hq, if_neg (Nat.lt_irrefl e), if_pos rfl, if_neg (by decide), if_pos (Nat.lt_succ_self e)]
    · rw [h m c]
      by_cases d : e < m
      · rw [if_pos d, if_pos (show e < m + 1 by omega)]
        omega
      · rw [if_neg d, if_neg (show ¬ e < m + 1 by omega)]
        omega
theorem sd_nb_0 {b : Nat → Bool} {n a : Nat} (h : ∀ k, a < k → k < n → b k = false) : sd_nb b n a = 0 := by
  have key : ∀ m, pz_cnt (fun k => decide (a < k ∧ k < n) && b k) m = 0 := by
    intro m
    induction m with
    | zero => rfl
    | succ m ih =>
      show pz_cnt _ m + (if (decide (a < m ∧ m < n) && b m) = true then 1 else 0) = 0
      rw [ih]
      by_cases q : a < m ∧ m < n
      · rw [h m q.1 q.2, Bool.and_false, if_neg (by decide)]
        rfl
      · rw [decide_eq_false q, Bool.false_and, if_neg (by decide)]
        rfl
  exact key 12
theorem sd_nb_s {b : Nat → Bool} {n a e : Nat} (hn : n ≤ 12) (h1 : a < e) (h2 : e < n) (h3 : ∀ k, a < k → k < e → b k = false) (h4 : b e = true) : sd_nb b n a = 1 + sd_nb b n e := by
  unfold sd_nb
  rw [pz_cnt_one (p := fun k => decide (a < k ∧ k < n) && b k) (q := fun k => decide (e < k ∧ k < n) && b k) (e := e) (by show (decide (a < e ∧ e < n) && b e) = true; rw [decide_eq_true ⟨h1, h2⟩, h4]; rfl) (by show (decide (e < e ∧ e < n) && b e) = false; rw [decide_eq_false (fun z => absurd z.1 (Nat.lt_irrefl e))]; rfl) (fun k hk => ?_) 12, if_pos (by omega)]
  · omega
  · show (decide (a < k ∧ k < n) && b k) = (decide (e < k ∧ k < n) && b k)
    by_cases q : e < k
    · rw [show decide (a < k ∧ k < n) = decide (e < k ∧ k < n) from decide_eq_decide.mpr (by omega)]
    · rw [decide_eq_false (show ¬ (e < k ∧ k < n) from fun z => q z.1), Bool.false_and]
      by_cases z : a < k
      · rw [h3 k z (by omega), Bool.and_false]
      · rw [decide_eq_false (fun y => z y.1), Bool.false_and]
theorem sd_nb_a {F : Nat → Int} (hW : sd_wf F) (h0 : F 88 ≠ 0) : pz_cnt (sd_bn F) 12 = sd_nb (sd_bb F) (sd_n F) 0 := by
  refine pz_cnt_cg 12 (fun k _ => ?_)
  have hn := sd_n_i hW
  have hm := hW.1
  show decide ((k : Int) < F 88 ∧ F (64 + k) = 1) = (decide (0 < k ∧ k < sd_n F) && decide (F (64 + k) = 1))
  rw [← Bool.decide_and]
  refine decide_eq_decide.mpr ⟨fun z => ⟨⟨?_, by omega⟩, z.2⟩, fun z => ⟨by omega, z.2⟩⟩
  have P := (hW.2.2 k z.1).2.2.2.2.2.2
  omega
/-- what movePart, moveParts do -/
def sd_mpp (M M' : pz_M) (c : Nat) (i j v : Int) : Prop := ∀ (ls : List pz_lne) (l1 : List (List Int)) (F : Nat → Int), sd_tx M ls l1 → sd_se M c F → sd_pg M F → sd_wf F → 0 ≤ i → i ≤ j → j < F 88 → (F (64 + j.toNat) = 1 ∨ j + 1 = F 88) →
  v = (sd_mi (decide (M c 0 = 0)) j.toNat (decide (j.toNat = sd_n F - 1)) (j + 1 - i).toNat i.toNat F 0).2 ∧ sd_se M' c (sd_mi (decide (M c 0 = 0)) j.toNat (decide (j.toNat = sd_n F - 1)) (j + 1 - i).toNat i.toNat F 0).1 ∧ sd_pg M' (sd_mi (decide (M c 0 = 0)) j.toNat (decide (j.toNat = sd_n F - 1)) (j + 1 - i).toNat i.toNat F 0).1 ∧ sd_wf (sd_mi (decide (M c 0 = 0)) j.toNat (decide (j.toNat = sd_n F - 1)) (j + 1 - i).toNat i.toNat F 0).1
theorem sd_mi_o {tr e : Bool} {to : Nat} {k : Nat} (hk : 4 ≤ k ∧ k < 76 ∨ k = 88 ∨ k = 0 ∨ 93 ≤ k ∧ k < 105) : ∀ (m i : Nat) (F : Nat → Int) (c : Int), i + m ≤ 12 → (sd_mi tr to e m i F c).1 k = F k := by
  intro m
  induction m with
  | zero => intro i F c _; rfl
  | succ m ih =>
    intro i F c h
    have e0 : sd_mi tr to e (m + 1) i F c = if sd_mk F to e i then sd_mi tr to e m (i + 1) (sd_note tr (sd_u F (76 + i) (F 0)) 5 i 0) (pz_w (c + 1)) else sd_mi tr to e m (i + 1) F c := rfl
    rw [e0]
    split
    · rw [ih _ _ _ (by omega), sd_note_o (by omega) (by omega), sd_un (by omega)]
    · exact ih _ _ _ (by omega)
def sd_lq (M N : pz_M) (c : Nat) (P : (Nat → Int) → Prop) (R : List pz_lne → List (List Int) → (Nat → Int) → (Nat → Int) → Prop) : Prop := ∀ (ls : List pz_lne) (l1 : List (List Int)) (F : Nat → Int), sd_tx M ls l1 → sd_se M c F → sd_pg M F → sd_wf F → P F → ∃ G : Nat → Int, sd_se N c G ∧ sd_pg N G ∧ sd_wf G ∧ sd_tx N ls l1 ∧ R ls l1 F G
def sd_vn (F : Nat → Int) : Nat → Bool := fun k => decide ((k : Int) < F 88 ∧ F (76 + k) ≠ -1)
theorem sd_vn_e {F : Nat → Int} {x : Int} (h0 : 0 ≤ x) (hx : x = F 88) : ∀ k, (decide (k < x.toNat) && sd_vn F k) = sd_vn F k := fun k => by
  unfold sd_vn
  by_cases q : (k : Int) < F 88 ∧ F (76 + k) ≠ -1
  · rw [decide_eq_true q, decide_eq_true (show k < x.toNat by omega)]
    rfl
  · rw [decide_eq_false q]
    exact Bool.and_false _
def sd_pj (i j : Int) (F : Nat → Int) : Prop := 0 ≤ i ∧ i ≤ j ∧ j < F 88 ∧ (F (64 + j.toNat) = 1 ∨ j + 1 = F 88)
def sd_mR (tr : Bool) (i j k x : Int) (F G : Nat → Int) : Prop := i ≤ k ∧ k ≤ j + 1 ∧ G 88 = F 88 ∧ (∀ z : Nat, z < 12 → G (64 + z) = F (64 + z)) ∧ sd_mi tr j.toNat (decide (j.toNat = sd_n F - 1)) (j + 1 - k).toNat k.toNat G x = sd_mi tr j.toNat (decide (j.toNat = sd_n F - 1)) (j + 1 - i).toNat i.toNat F 0
theorem sd_mR_n {tr : Bool} {i j k k' x : Int} {F G : Nat → Int} (h : sd_mR tr i j k x F G) (h0 : 0 ≤ i) (hk : k ≤ j) (hk' : k' = k + 1) (q : ¬ sd_mk G j.toNat (decide (j.toNat = sd_n F - 1)) k.toNat) : sd_mR tr i j k' x F G := by
  obtain ⟨h1, h2, h3, h4, h5⟩ := h
  refine ⟨by omega, by omega, h3, h4, ?_⟩
  rw [← h5, show (j + 1 - k).toNat = (j + 1 - k').toNat + 1 by omega, show k'.toNat = k.toNat + 1 by omega]
  exact (if_neg q).symm
theorem sd_mR_y {tr : Bool} {i j k k' x x' : Int} {F G : Nat → Int} (h : sd_mR tr i j k x F G) (h0 : 0 ≤ i) (hk : k ≤ j) (hj : j < 12) (hk' : k' = k + 1) (hx : x' = pz_w (x + 1)) (q : sd_mk G j.toNat (decide (j.toNat = sd_n F - 1)) k.toNat) : sd_mR tr i j k' x' F (sd_note tr (sd_u G (76 + k.toNat) (G 0)) 5 k.toNat 0) := by
  obtain ⟨h1, h2, h3, h4, h5⟩ := h
  refine ⟨by omega, by omega, ?_, fun z hz => ?_, ?_⟩
  · rw [sd_note_o (by decide) (by decide), sd_un (by omega)]
    exact h3
  · rw [sd_note_o (by omega) (by omega), sd_un (by omega)]
    exact h4 z hz
  · rw [← h5, show (j + 1 - k).toNat = (j + 1 - k').toNat + 1 by omega, show k'.toNat = k.toNat + 1 by omega, hx]
    exact (if_pos q).symm
def sd_vR (tr : Bool) (F G : Nat → Int) (x a4 p : Int) : Prop := G 88 = F 88 ∧ (∀ z : Nat, z < 12 → G (64 + z) = F (64 + z)) ∧ ∃ f a : Nat, sd_mv tr (sd_bb F) (sd_n F) f a G x = sd_mv tr (sd_bb F) (sd_n F) 12 0 F 0 ∧ ((p = 0 ∧ sd_n F ≤ a) ∨ (0 < p ∧ (a : Int) = a4 ∧ a < sd_n F ∧ sd_n F ≤ a + f ∧ p = 1 + sd_nb (sd_bb F) (sd_n F) a))
theorem sd_vR_0 {tr : Bool} {F : Nat → Int} {p : Int} (hW : sd_wf F) (hp : p = if F 88 = 0 then 0 else 1 + pz_cnt (sd_bn F) 12) : sd_vR tr F F 0 0 p := by
  have hn := sd_n_i hW
  have hm := hW.1
  refine ⟨rfl, fun _ _ => rfl, 12, 0, rfl, ?_⟩
  by_cases q : F 88 = 0
  · rw [if_pos q] at hp
    exact Or.inl ⟨hp, by omega⟩
  · rw [if_neg q, sd_nb_a hW q] at hp
    have b := pz_cnt_b (f := fun k => decide (0 < k ∧ k < sd_n F) && sd_bb F k) 12
    exact Or.inr ⟨by rw [hp]; unfold sd_nb; omega, rfl, by omega, by omega, hp⟩
theorem sd_vR_z {tr : Bool} {F G : Nat → Int} {x a4 p : Int} (h : sd_vR tr F G x a4 p) (hp : ¬ 0 < p) : (G, x) = sd_mv tr (sd_bb F) (sd_n F) 12 0 F 0 := by
  obtain ⟨-, -, f, a, h1, h2⟩ := h
  rcases h2 with ⟨-, h2⟩ | ⟨h2, -⟩
  · rw [← h1]
    rcases f with _ | f
    · rfl
    · exact (if_neg (by omega)).symm
  · exact absurd h2 hp
theorem sd_bb_cg {F G : Nat → Int} (hW : sd_wf F) (h8 : G 88 = F 88) (h : ∀ z : Nat, z < 12 → G (64 + z) = F (64 + z)) {a : Nat} : sd_end (sd_bb G) (sd_n G) a = sd_end (sd_bb F) (sd_n F) a := by
  have hm := hW.1
  have hn := sd_n_i hW
  have e : sd_n G = sd_n F := by
    unfold sd_n
    rw [h8]
  rw [e]
  exact sd_end_cg (fun k hk => by
    unfold sd_bb
    rw [h k (by omega)])
theorem sd_vR_a {tr : Bool} {F G : Nat → Int} {x a4 p : Int} (h : sd_vR tr F G x a4 p) (hp : 0 < p) : 0 ≤ a4 ∧ a4.toNat < sd_n F := by
  obtain ⟨-, -, f, a, h1, h2⟩ := h
  rcases h2 with ⟨h2, -⟩ | ⟨-, h2, h3, -⟩ <;> omega
theorem sd_vR_s {tr : Bool} {F G G' : Nat → Int} {x x' a4 p e p' : Int} (hW : sd_wf F) (h : sd_vR tr F G x a4 p) (hp : 0 < p) (he : e = (sd_end (sd_bb F) (sd_n F) a4.toNat : Int)) (hp' : p' = p - 1) (hx : -2147483648 ≤ x ∧ x ≤ 2147483647)
    (hG : (sd_cm G e.toNat (e + 1 - a4).toNat a4.toNat = true ∧ G' = (sd_mi tr e.toNat (decide (e.toNat = sd_n F - 1)) (e + 1 - a4).toNat a4.toNat G 0).1 ∧ x' = pz_w (x + (sd_mi tr e.toNat (decide (e.toNat = sd_n F - 1)) (e + 1 - a4).toNat a4.toNat G 0).2)) ∨ (¬ sd_cm G e.toNat (e + 1 - a4).toNat a4.toNat = true ∧ G' = G ∧ x' = x)) : sd_vR tr F G' x' e p' := by
  have ha := sd_vR_a h hp
  have hm := hW.1
  have hn := sd_n_i hW
  obtain ⟨h1, h2, f, a, h3, h4⟩ := h
  rcases h4 with ⟨h4, -⟩ | ⟨-, h4, h5, h6, h7⟩
  · omega
  · have ea : a4.toNat = a := by omega
    rw [ea] at he hG
    obtain ⟨s1, s2, s3, s4, s5⟩ := sd_end_s (b := sd_bb F) h5
    have ee : e.toNat = sd_end (sd_bb F) (sd_n F) a := by omega
    have em : (e + 1 - a4).toNat = sd_end (sd_bb F) (sd_n F) a + 1 - a := by omega
    rw [ee, em] at hG
    rcases f with _ | f
    · omega
    · have st : sd_mv tr (sd_bb F) (sd_n F) (f + 1) a G x = sd_mv tr (sd_bb F) (sd_n F) f (if sd_end (sd_bb F) (sd_n F) a = sd_n F - 1 then sd_n F else sd_end (sd_bb F) (sd_n F) a) G' x' := by
        have e0 : sd_mv tr (sd_bb F) (sd_n F) (f + 1) a G x = if a < sd_n F then sd_mv tr (sd_bb F) (sd_n F) f (if sd_end (sd_bb F) (sd_n F) a = sd_n F - 1 then sd_n F else sd_end (sd_bb F) (sd_n F) a) (if sd_cm G (sd_end (sd_bb F) (sd_n F) a) (sd_end (sd_bb F) (sd_n F) a + 1 - a) a = true then sd_mi tr (sd_end (sd_bb F) (sd_n F) a) (decide (sd_end (sd_bb F) (sd_n F) a = sd_n F - 1)) (sd_end (sd_bb F) (sd_n F) a + 1 - a) a G x else (G, x)).1 (if sd_cm G (sd_end (sd_bb F) (sd_n F) a) (sd_end (sd_bb F) (sd_n F) a + 1 - a) a = true then sd_mi tr (sd_end (sd_bb F) (sd_n F) a) (decide (sd_end (sd_bb F) (sd_n F) a = sd_n F - 1)) (sd_end (sd_bb F) (sd_n F) a + 1 - a) a G x else (G, x)).2 else (G, x) := rfl
        rw [e0, if_pos h5]
        rcases hG with ⟨c, g1, g2⟩ | ⟨c, g1, g2⟩
        · have ad := sd_mi_add (tr := tr) (e := decide (sd_end (sd_bb F) (sd_n F) a = sd_n F - 1)) (to := sd_end (sd_bb F) (sd_n F) a) (x := x) (sd_end (sd_bb F) (sd_n F) a + 1 - a) a G 0
          rw [Int.add_zero, pz_wi (by omega) (by omega)] at ad
          rw [if_pos c, ad, g1, g2]
        · rw [if_neg c, g1, g2]
      have hk : G' 88 = F 88 ∧ ∀ z : Nat, z < 12 → G' (64 + z) = F (64 + z) := by
        rcases hG with ⟨c, g1, -⟩ | ⟨c, g1, -⟩
        · rw [g1]
          exact ⟨(sd_mi_o (by omega) _ _ _ _ (by omega)).trans h1, fun z hz => (sd_mi_o (by omega) _ _ _ _ (by omega)).trans (h2 z hz)⟩
        · rw [g1]
          exact ⟨h1, h2⟩
      refine ⟨hk.1, hk.2, f, (if sd_end (sd_bb F) (sd_n F) a = sd_n F - 1 then sd_n F else sd_end (sd_bb F) (sd_n F) a), st.symm.trans h3, ?_⟩
      have nbn := pz_cnt_b (f := fun k => decide (sd_end (sd_bb F) (sd_n F) a < k ∧ k < sd_n F) && sd_bb F k) 12
      by_cases q : sd_end (sd_bb F) (sd_n F) a = sd_n F - 1
      · rw [if_pos q]
        have z : sd_nb (sd_bb F) (sd_n F) a = 0 := sd_nb_0 (fun k k1 k2 => by
          by_cases y : k < sd_end (sd_bb F) (sd_n F) a
          · exact s4 k k1 y
          · have P := (hW.2.2 k (by omega)).2.2.2.2.2.2
            exact decide_eq_false (by omega))
        exact Or.inl ⟨by omega, Nat.le_refl _⟩
      · rw [if_neg q]
        have z := sd_nb_s (b := sd_bb F) (n := sd_n F) (a := a) (by omega) (s3 (by omega)) s2 s4 (s5 (by omega))
        have z2 : 0 ≤ sd_nb (sd_bb F) (sd_n F) (sd_end (sd_bb F) (sd_n F) a) := nbn.1
        exact Or.inr ⟨by omega, by omega, s2, by have := s3 (by omega); omega, by omega⟩
/-! the model's deeds -/
def pz_QD (b j : Nat) : Prop := (b = 60 ∧ (j < 88 ∨ (241 ≤ j ∧ j < 841))) ∨ b = 68 ∨ b = 69
def sd_Tr (M : pz_M) : Bool := decide (M 1 26 ≠ 0)
