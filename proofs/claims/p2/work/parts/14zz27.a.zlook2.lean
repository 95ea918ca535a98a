/-! ODDS -/
def sd_cn (ls : List pz_lne) (F : Nat → Int) (d i : Nat) : Int := 1000000 - pz_lf (sd_rd ls F i) d
theorem sd_cn_b {ls : List pz_lne} {F : Nat → Int} {d i : Nat} : 0 ≤ sd_cn ls F d i ∧ sd_cn ls F d i ≤ 1000000 := by
  have r := sd_rd_b (ls := ls) (F := F) (i := i)
  have b := pz_lf_b r.1 r.2 d
  unfold sd_cn
  omega
/-- a LINK's step -/
def sd_ow (ls : List pz_lne) (F : Nat → Int) (d i : Nat) (a : Int) : Int := if F (52 + i) = 1 then 0 else if F (40 + i) = 1 then a else a * sd_cn ls F d i / 1000000
theorem sd_ow_b {ls : List pz_lne} {F : Nat → Int} {d i : Nat} {a : Int} (h : 0 ≤ a ∧ a ≤ 1000000) : 0 ≤ sd_ow ls F d i a ∧ sd_ow ls F d i a ≤ 1000000 := by
  unfold sd_ow
  split
  · omega
  · split
    · exact h
    · have c := sd_cn_b (ls := ls) (F := F) (d := d) (i := i)
      have m := pz_m9 (x := a) (y := sd_cn ls F d i) (a := 1000000) (b := 1000000) h.1 h.2 c.1 c.2
      omega
def sd_oo (ls : List pz_lne) (F : Nat → Int) (d : Nat) : Nat → Nat → Int → Int
  | 0, _, a => a
  | m + 1, i, a => sd_oo ls F d m (i + 1) (sd_ow ls F d i a)
theorem sd_oo_b {ls : List pz_lne} {F : Nat → Int} {d : Nat} : ∀ (m i : Nat) (a : Int), 0 ≤ a ∧ a ≤ 1000000 → 0 ≤ sd_oo ls F d m i a ∧ sd_oo ls F d m i a ≤ 1000000 := by
  intro m
  induction m with
  | zero => exact fun i a h => h
  | succ m ih => exact fun i a h => ih _ _ (sd_ow_b h)
def sd_od9 (ls : List pz_lne) (F : Nat → Int) (d : Nat) : Int := sd_oo ls F d (sd_n F) 0 1000000
def sd_odv (ls : List pz_lne) (F : Nat → Int) (d : Int) : Int := if 1 ≤ d ∧ d ≤ 60 then sd_od9 ls F d.toNat else -1
/-- what reckon lays -/
def sd_ar (N : pz_M) (ls : List pz_lne) (F : Nat → Int) (d : Nat) (m : Int) : Prop := ∀ i : Nat, (i : Int) < m → N 52 i = pz_lf (sd_rd ls F i) d ∧ N 53 i = sd_rd ls F i ∧ N 54 i = sd_co ls F i
theorem sd_ar_cg {N N' : pz_M} {ls : List pz_lne} {F : Nat → Int} {d : Nat} {m : Int} (h : sd_ar N ls F d m) (e : ∀ b j : Nat, 52 ≤ b → b ≤ 54 → N' b j = N b j) : sd_ar N' ls F d m := fun i hi => by
  rw [e 52 i (by omega) (by omega), e 53 i (by omega) (by omega), e 54 i (by omega) (by omega)]
  exact h i hi
def sd_al (N : pz_M) (ls : List pz_lne) (F : Nat → Int) (d : Nat) (m : Int) : Prop := ∀ i : Nat, (i : Int) < m → N 52 i = pz_lf (sd_rd ls F i) d
theorem sd_ar.al {N : pz_M} {ls : List pz_lne} {F : Nat → Int} {d : Nat} {m : Int} (h : sd_ar N ls F d m) : sd_al N ls F d m := fun i hi => (h i hi).1
def sd_wp (M : pz_M) (P : List pz_lne → (Nat → Int) → Prop) : Prop := ∀ (ls : List pz_lne) (l1 : List (List Int)) (F : Nat → Int), sd_tx M ls l1 → sd_se M 71 F → sd_wf F → P ls F
theorem sd_ar_u {N N1 N2 N3 N4 N5 : pz_M} {ls : List pz_lne} {F : Nat → Int} {d : Nat} {x y r c l : Int} (h : sd_ar N ls F d x) (h0 : 0 ≤ x) (hy : y = x + 1) (z1 : pq_pr pq_Pw N N1) (e2 : N2 = pz_u N1 53 x.toNat r) (z3 : pq_pr pq_Pw N2 N3) (e4 : N4 = pz_u N3 54 x.toNat c) (e5 : N5 = pz_u N4 52 x.toNat l) (hr : r = sd_rd ls F x.toNat) (hc : c = sd_co ls F x.toNat) (hl : l = pz_lf r d) : sd_ar N5 ls F d y := fun i hi => by
  have p : ∀ b : Nat, 52 ≤ b → ¬ pq_Pw b i := fun b hb => by
    unfold pq_Pw
    omega
  rw [e5, e4]
  by_cases q : i = x.toNat
  · rw [q, pz_uu, pz_una (by decide), pz_una (by decide), pz_una (by decide), pz_uu, ← q, z3.2 53 i (p 53 (by decide)), e2, q, pz_uu, hl, ← hr, hc]
    exact ⟨rfl, rfl, rfl⟩
  · rw [pz_unk q, pz_una (by decide), pz_una (by decide), pz_una (by decide), pz_una (by decide), pz_unk q, z3.2 52 i (p 52 (by decide)), z3.2 53 i (p 53 (by decide)), z3.2 54 i (p 54 (by decide)), e2, pz_una (by decide), pz_unk q, pz_una (by decide), z1.2 52 i (p 52 (by decide)), z1.2 53 i (p 53 (by decide)), z1.2 54 i (p 54 (by decide))]
    exact h i (by omega)
def sd_a2 (N : pz_M) (ls : List pz_lne) (F : Nat → Int) (d : Nat) (x m : Int) : Prop := ∀ i : Nat, (i : Int) < m → N 52 i = pz_lf (sd_rd ls F i) (if (i : Int) < x then d + 1 else d) ∧ N 53 i = sd_rd ls F i ∧ N 54 i = sd_co ls F i
theorem sd_a2_0 {N : pz_M} {ls : List pz_lne} {F : Nat → Int} {d : Nat} {m : Int} (h : sd_ar N ls F d m) : sd_a2 N ls F d 0 m := fun i hi => by
  rw [if_neg (by omega)]
  exact h i hi
theorem sd_a2_z {N : pz_M} {ls : List pz_lne} {F : Nat → Int} {d : Nat} {x m : Int} (h : sd_a2 N ls F d x m) (hx : m ≤ x) : sd_ar N ls F (d + 1) m := fun i hi => by
  have a := h i hi
  rw [if_pos (by omega)] at a
  exact a
theorem sd_a2_s {N N' : pz_M} {ls : List pz_lne} {F : Nat → Int} {d : Nat} {x y m l : Int} (h : sd_a2 N ls F d x m) (h0 : 0 ≤ x) (hx : x < m) (hy : y = x + 1) (e : N' = pz_u N 52 x.toNat l) (hl : l = pz_lf (sd_rd ls F x.toNat) (d + 1)) : sd_a2 N' ls F d y m := fun i hi => by
  have a := h i hi
  rw [e]
  by_cases q : i = x.toNat
  · rw [q, pz_uu, pz_una (by decide), pz_una (by decide), if_pos (by omega), hl]
    rw [q] at a
    exact ⟨rfl, a.2⟩
  · rw [pz_unk q, pz_una (by decide), pz_una (by decide)]
    by_cases c : (i : Int) < x
    · rw [if_pos c] at a
      rw [if_pos (by omega)]
      exact a
    · rw [if_neg c] at a
      rw [if_neg (by omega)]
      exact a
/-- one LINK's array cell in another's stead -/
theorem sd_al_1 {N N' : pz_M} {ls : List pz_lne} {F G : Nat → Int} {d i : Nat} {m l : Int} (h : sd_ar N ls F d m) (e : ∀ j : Nat, N' 52 j = if j = i then l else N 52 j) (hl : l = pz_lf (sd_rd ls G i) d) (hg : ∀ j : Nat, (j : Int) < m → j ≠ i → sd_rd ls G j = sd_rd ls F j) : sd_al N' ls G d m := fun j hj => by
  rw [e j]
  by_cases q : j = i
  · rw [if_pos q, hl, q]
  · rw [if_neg q, hg j hj q]
    exact (h j hj).1
/-- SOON: from d on, n more -/
def sd_son (ls : List pz_lne) (F : Nat → Int) (h : Int) : Nat → Nat → Int
  | 0, _ => -1
  | n + 1, d => if h ≤ sd_od9 ls F d then (d : Int) else sd_son ls F h n (d + 1)
def sd_sov (ls : List pz_lne) (F : Nat → Int) (h : Int) : Int := if 0 ≤ h ∧ h ≤ 1000000 then sd_son ls F h 60 1 else -1
/-- slowness is one LINK's own -/
def sd_sl0 (F : Nat → Int) (i : Nat) : Nat → Int := sd_u F (93 + i) 0
theorem sd_lk_cg {F G : Nat → Int} {i : Nat} (e : ∀ k : Nat, (40 ≤ k ∧ k < 52) ∨ (64 ≤ k ∧ k < 76) ∨ k = 88 → G k = F k) (hF : F 88 ≤ 12) (hi : (i : Int) < F 88) : sd_lk G i = sd_lk F i := by
  have lo : ∀ k : Nat, k < 12 → sd_lo G k = sd_lo F k := by
    intro k
    induction k with
    | zero => exact fun _ => rfl
    | succ k ih =>
      intro hk
      show (if G (64 + (k + 1)) = 1 then k + 1 else sd_lo G k) = (if F (64 + (k + 1)) = 1 then k + 1 else sd_lo F k)
      rw [e (64 + (k + 1)) (by omega), ih (by omega)]
  have fr : sd_from G i = sd_from F i := lo (i - 1) (by omega)
  have en : ∀ a : Nat, sd_end (sd_bb G) (G 88).toNat a = sd_end (sd_bb F) (F 88).toNat a := fun a => by
    rw [e 88 (by omega)]
    exact sd_end_cg (fun k hk => by
      show decide (G (64 + k) = 1) = decide (F (64 + k) = 1)
      rw [e (64 + k) (by omega)])
  have to : sd_to G i = sd_to F i := by
    unfold sd_to
    rw [en, e (64 + i) (by omega), fr]
  have nr : ∀ m k : Nat, k + m ≤ 12 → sd_nr G k m = sd_nr F k m := by
    intro m
    induction m with
    | zero => exact fun k _ => rfl
    | succ m ih =>
      intro k hk
      show (if G (40 + k) = 1 then 0 else 1) + sd_nr G (k + 1) m = (if F (40 + k) = 1 then 0 else 1) + sd_nr F (k + 1) m
      rw [e (40 + k) (by omega), ih (k + 1) (by omega)]
  unfold sd_lk
  rw [fr, to]
  have b : sd_to F i < 12 ∧ sd_from F i ≤ 12 := by
    have l := sd_lo_le (F := F) (i - 1)
    unfold sd_to sd_from
    have z : (if F (64 + i) = 1 ∨ i = 0 then i else sd_lo F (i - 1)) < (F 88).toNat := by
      split <;> omega
    have s := sd_end_s (b := sd_bb F) z
    omega
  exact nr _ _ (by omega)
theorem sd_rd_sl {ls : List pz_lne} {F : Nat → Int} {i j : Nat} (hl : ∀ q ∈ ls, pv_ln q) (hF : F 88 ≤ 12) (hj : (j : Int) < F 88) (hi : i < 12) (ne : j ≠ i) : sd_rd ls (sd_sl0 F i) j = sd_rd ls F j := by
  have o : ∀ k : Nat, k ≠ 93 + i → sd_sl0 F i k = F k := fun k hk => sd_un hk
  unfold sd_rd
  rw [o (93 + j) (by omega)]
  refine pv_tell_cg (fun q q1 q2 => ?_) hl
  unfold sd_fn
  rw [o (4 + j) (by omega), o (16 + j) (by omega), o (28 + j) (by omega), o (93 + j) (by omega), o 0 (by omega), o 88 (by omega), o (64 + j) (by omega), sd_lk_cg (fun k hk => o k (by omega)) hF hj]
/-- ODDS if a LINK were not slow -/
def sd_hu (ls : List pz_lne) (F : Nat → Int) (d i : Nat) : Int := sd_od9 ls (sd_sl0 F i) d
/-- HURRY: the LINK -/
def sd_hub (ls : List pz_lne) (F : Nat → Int) (d : Nat) : Nat → Nat → Nat → Nat
  | 0, _, b => b
  | m + 1, i, b => sd_hub ls F d m (i + 1) (if sd_hu ls F d b < sd_hu ls F d i then i else b)
def sd_huv (ls : List pz_lne) (F : Nat → Int) (d w : Int) : Int := if (1 ≤ d ∧ d ≤ 60) ∧ (0 ≤ w ∧ w ≤ 1) ∧ F 88 ≠ 0 then (if w = 0 then (sd_hub ls F d.toNat (sd_n F - 1) 1 0 : Int) else sd_hu ls F d.toNat (sd_hub ls F d.toNat (sd_n F - 1) 1 0)) else -1

def sd_huE (ls : List pz_lne) (F : Nat → Int) (d : Nat) (b g x : Int) : Prop := (0 ≤ x ∧ x ≤ F 88) ∧ ((x = 0 ∧ b = -1 ∧ g = -1) ∨ (1 ≤ x ∧ 0 ≤ b ∧ b < F 88 ∧ g = sd_hu ls F d b.toNat ∧ sd_hub ls F d (sd_n F - x.toNat) x.toNat b.toNat = sd_hub ls F d (sd_n F - 1) 1 0))
theorem sd_huE_0 {ls : List pz_lne} {F : Nat → Int} {d : Nat} (w : sd_wf F) : sd_huE ls F d (-1) (-1) 0 := ⟨⟨by decide, w.1.1⟩, Or.inl ⟨rfl, rfl, rfl⟩⟩
theorem sd_hu_b {ls : List pz_lne} {F : Nat → Int} {d i : Nat} : 0 ≤ sd_hu ls F d i ∧ sd_hu ls F d i ≤ 1000000 := sd_oo_b _ _ _ ⟨by decide, by decide⟩
theorem sd_huE_y {ls : List pz_lne} {F : Nat → Int} {d : Nat} {b g x y o : Int} (h : sd_huE ls F d b g x) (w : sd_wf F) (hx : x < F 88) (hy : y = x + 1) (ho : o = sd_hu ls F d x.toNat) (hg : g < o) : sd_huE ls F d x o y := by
  obtain ⟨h1, h2⟩ := h
  have k9 := sd_n_i w
  refine ⟨⟨by omega, by omega⟩, Or.inr ⟨by omega, by omega, hx, ho, ?_⟩⟩
  rcases h2 with ⟨a, -, -⟩ | ⟨a, b0, b1, c, e⟩
  · rw [show y.toNat = 1 by omega, show x.toNat = 0 by omega]
  · rw [show sd_n F - x.toNat = (sd_n F - y.toNat) + 1 by omega] at e
    have e : sd_hub ls F d (sd_n F - y.toNat) (x.toNat + 1) (if sd_hu ls F d b.toNat < sd_hu ls F d x.toNat then x.toNat else b.toNat) = _ := e
    rw [if_pos (by omega), show x.toNat + 1 = y.toNat by omega] at e
    exact e
theorem sd_huE_n {ls : List pz_lne} {F : Nat → Int} {d : Nat} {b g x y o : Int} (h : sd_huE ls F d b g x) (w : sd_wf F) (hx : x < F 88) (hy : y = x + 1) (ho : o = sd_hu ls F d x.toNat) (hg : ¬ g < o) : sd_huE ls F d b g y := by
  obtain ⟨h1, h2⟩ := h
  have k9 := sd_n_i w
  have hb := sd_hu_b (ls := ls) (F := F) (d := d) (i := x.toNat)
  refine ⟨⟨by omega, by omega⟩, Or.inr ?_⟩
  rcases h2 with ⟨a, b2, c⟩ | ⟨a, b0, b1, c, e⟩
  · exfalso
    omega
  · refine ⟨by omega, b0, b1, c, ?_⟩
    rw [show sd_n F - x.toNat = (sd_n F - y.toNat) + 1 by omega] at e
    have e : sd_hub ls F d (sd_n F - y.toNat) (x.toNat + 1) (if sd_hu ls F d b.toNat < sd_hu ls F d x.toNat then x.toNat else b.toNat) = _ := e
    rw [if_neg (by omega), show x.toNat + 1 = y.toNat by omega] at e
    exact e
theorem sd_huE_z {ls : List pz_lne} {F : Nat → Int} {d : Nat} {b g x : Int} (h : sd_huE ls F d b g x) (w : sd_wf F) (hx : ¬ x < F 88) : (F 88 = 0 ∧ b = -1 ∧ g = -1) ∨ (F 88 ≠ 0 ∧ b = (sd_hub ls F d (sd_n F - 1) 1 0 : Int) ∧ g = sd_hu ls F d (sd_hub ls F d (sd_n F - 1) 1 0)) := by
  obtain ⟨h1, h2⟩ := h
  have k9 := sd_n_i w
  rcases h2 with ⟨a, b2, c⟩ | ⟨a, b0, b1, c, e⟩
  · exact Or.inl ⟨by omega, b2, c⟩
  · rw [show sd_n F - x.toNat = 0 by omega] at e
    have e : b.toNat = _ := e
    exact Or.inr ⟨by omega, by rw [← e]; omega, by rw [← e]; exact c⟩
theorem sd_lnk_i {r : Nat} {i : Int} (h : r = pz_lnk 71 i) (h0 : 0 ≤ i) (h1 : i < 12) : r = pz_lb 71 + i.toNat := h.trans (if_pos ⟨h0, h1⟩)
theorem sd_sl0_wf {F : Nat → Int} {i : Nat} (w : sd_wf F) (hi : (i : Int) < F 88) : sd_wf (sd_sl0 F i) := sd_wf_1 (f := 3) w (by decide) hi ⟨fun z => absurd z (by decide), fun z => absurd z (by decide), fun z => absurd z (by decide), fun _ => ⟨by decide, by decide⟩, fun z => absurd z (by decide), fun z => absurd z (by decide), fun z => absurd z (by decide)⟩
theorem sd_sl0_88 {F : Nat → Int} {i : Nat} : sd_sl0 F i 88 = F 88 := sd_un (by omega)
theorem sd_wlw_cg {ls : List pz_lne} {f g : Nat → Int} (h : pq_wlw ls f) (e : ∀ j : Nat, j = 89 ∨ 841 ≤ j → g j = f j) : pq_wlw ls g := by
  obtain ⟨h1, h2, h3⟩ := h
  have k : (fun j => g (905 + j)) = fun j => f (905 + j) := funext fun j => e _ (by omega)
  refine ⟨(e 89 (by omega)).trans h1, fun k hk => ?_, by rw [k]; exact h3⟩
  rw [e (841 + k) (by omega), e (857 + k) (by omega), e (873 + k) (by omega), e (889 + k) (by omega)]
  exact h2 k hk
/-- the model: one LINK READY by a DAY -/
def sd_rb (ls : List pz_lne) (F : Nat → Int) (d i : Nat) : Int := if F (52 + i) = 1 then 0 else if F (40 + i) = 1 then 1000000 else sd_cn ls F d i
theorem sd_rb_b {ls : List pz_lne} {F : Nat → Int} {d i : Nat} : 0 ≤ sd_rb ls F d i ∧ sd_rb ls F d i ≤ 1000000 := by
  have c := sd_cn_b (ls := ls) (F := F) (d := d) (i := i)
  unfold sd_rb
  split
  · omega
  · split <;> omega
theorem sd_ow_r {ls : List pz_lne} {F : Nat → Int} {d i : Nat} {a r x v : Int} (h : F (40 + i) ≠ 1 ∨ F (52 + i) = 1) (ha : 0 ≤ a ∧ a ≤ 1000000) (hr : r = sd_rb ls F d i) (hx : x = pz_wl (a * r)) (hv : v = pz_wl (x.tdiv 1000000)) : v = sd_ow ls F d i a := by
  have b := sd_rb_b (ls := ls) (F := F) (d := d) (i := i)
  rw [← hr] at b
  have m := pz_m9 ha.1 ha.2 b.1 b.2
  rw [pz_wli (by omega) (by omega)] at hx
  rw [hx, Int.tdiv_eq_ediv_of_nonneg (by omega), pz_wli (by omega) (by omega)] at hv
  rw [hv, hr]
  unfold sd_ow sd_rb
  by_cases o : F (52 + i) = 1
  · rw [if_pos o, if_pos o, Int.mul_zero]
    all_goals rfl
  · rw [if_neg o, if_neg o, if_neg (by omega), if_neg (by omega)]
theorem sd_oo_s {ls : List pz_lne} {F : Nat → Int} {d m k i : Nat} {a b v : Int} (h : sd_oo ls F d m i a = v) (hm : m = k + 1) (hb : b = sd_ow ls F d i a) : sd_oo ls F d k (i + 1) b = v := by
  rw [hm] at h
  rw [hb]
  exact h
theorem sd_od9_b {ls : List pz_lne} {F : Nat → Int} {d : Nat} : 0 ≤ sd_od9 ls F d ∧ sd_od9 ls F d ≤ 1000000 := sd_oo_b _ _ _ ⟨by decide, by decide⟩
/-- the model's HURRY -/
def sd_hmE (ls : List pz_lne) (F : Nat → Int) (d : Nat) (b x : Int) : Prop := (1 ≤ x ∧ x ≤ F 88) ∧ (0 ≤ b ∧ b < F 88) ∧ sd_hub ls F d (sd_n F - x.toNat) x.toNat b.toNat = sd_hub ls F d (sd_n F - 1) 1 0
theorem sd_hmE_s {ls : List pz_lne} {F : Nat → Int} {d : Nat} {b x y c : Int} (h : sd_hmE ls F d b x) (w : sd_wf F) (hx : x < F 88) (hy : y = x + 1) (hc : (sd_hu ls F d b.toNat < sd_hu ls F d x.toNat ∧ c = x) ∨ (¬ sd_hu ls F d b.toNat < sd_hu ls F d x.toNat ∧ c = b)) : sd_hmE ls F d c y := by
  obtain ⟨h1, h2, e⟩ := h
  have k9 := sd_n_i w
  rw [show sd_n F - x.toNat = (sd_n F - y.toNat) + 1 by omega] at e
  have e : sd_hub ls F d (sd_n F - y.toNat) (x.toNat + 1) (if sd_hu ls F d b.toNat < sd_hu ls F d x.toNat then x.toNat else b.toNat) = _ := e
  rw [show x.toNat + 1 = y.toNat by omega] at e
  rcases hc with ⟨q, rfl⟩ | ⟨q, rfl⟩
  · rw [if_pos q] at e
    exact ⟨⟨by omega, by omega⟩, ⟨by omega, hx⟩, e⟩
  · rw [if_neg q] at e
    exact ⟨⟨by omega, by omega⟩, h2, e⟩
theorem sd_hmE_z {ls : List pz_lne} {F : Nat → Int} {d : Nat} {b x : Int} (h : sd_hmE ls F d b x) (w : sd_wf F) (hx : ¬ x < F 88) : b = (sd_hub ls F d (sd_n F - 1) 1 0 : Int) := by
  obtain ⟨h1, h2, e⟩ := h
  have k9 := sd_n_i w
  rw [show sd_n F - x.toNat = 0 by omega] at e
  have e : b.toNat = _ := e
  rw [← e]
  omega
