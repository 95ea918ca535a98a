/-! the ODDS of PARTS -/
theorem sd_oo_l {ls : List pz_lne} {F : Nat → Int} {d : Nat} : ∀ (m i : Nat) (a : Int), sd_oo ls F d (m + 1) i a = sd_ow ls F d (i + m) (sd_oo ls F d m i a) := by
  intro m
  induction m with
  | zero => exact fun i a => rfl
  | succ m ih =>
    intro i a
    show sd_oo ls F d (m + 1) (i + 1) (sd_ow ls F d i a) = _
    rw [ih (i + 1) (sd_ow ls F d i a), show i + 1 + m = i + (m + 1) by omega]
    rfl
def sd_o2 (ls : List pz_lne) (F : Nat → Int) (d a i : Nat) : Int := sd_oo ls F d (i + 1 - a) a 1000000
theorem sd_o2_b {ls : List pz_lne} {F : Nat → Int} {d a i : Nat} : 0 ≤ sd_o2 ls F d a i ∧ sd_o2 ls F d a i ≤ 1000000 := sd_oo_b _ _ _ ⟨by decide, by decide⟩
def sd_sp (N : pz_M) (ls : List pz_lne) (F : Nat → Int) (d : Nat) : Prop := ∀ a i : Nat, a ≤ i → (i : Int) < F 88 → N 55 (12 * a + i) = sd_o2 ls F d a i
theorem sd_sp_cg {N N' : pz_M} {ls : List pz_lne} {F : Nat → Int} {d : Nat} (h : sd_sp N ls F d) (e : ∀ j : Nat, N' 55 j = N 55 j) : sd_sp N' ls F d := fun a i h1 h2 => (e _).trans (h a i h1 h2)
def sd_spI (N : pz_M) (ls : List pz_lne) (F : Nat → Int) (d : Nat) (x y : Int) : Prop := ∀ a i : Nat, a ≤ i → (i : Int) < F 88 → ((a : Int) < x ∨ ((a : Int) = x ∧ (i : Int) < y)) → N 55 (12 * a + i) = sd_o2 ls F d a i
theorem sd_spI_s {N N' : pz_M} {ls : List pz_lne} {F : Nat → Int} {d j : Nat} {x y z v : Int} (h : sd_spI N ls F d x y) (w : sd_wf F) (h0 : 0 ≤ x) (h1 : x ≤ y) (h2 : y < F 88) (hz : z = y + 1) (hj : j = 12 * x.toNat + y.toNat) (e : N' = pz_u N 55 j v) (hv : v = sd_o2 ls F d x.toNat y.toNat) : sd_spI N' ls F d x z := fun a i a1 a2 a3 => by
  have m := w.1
  rw [e]
  by_cases q : 12 * a + i = j
  · rw [q, pz_uu, hv, show a = x.toNat by omega, show i = y.toNat by omega]
  · rw [pz_unk q]
    exact h a i a1 a2 (by omega)
theorem sd_spI_r {N : pz_M} {ls : List pz_lne} {F : Nat → Int} {d : Nat} {x y z : Int} (h : sd_spI N ls F d x y) (hy : F 88 ≤ y) (hz : z = x + 1) : sd_spI N ls F d z z := fun a i a1 a2 a3 => h a i a1 a2 (by omega)
/-- the PARTS, the class' way -/
def sd_lsp (ls : List pz_lne) (F : Nat → Int) (d : Nat) (b : Nat → Bool) : Nat → Nat → Nat → Int → Int
  | 0, _, _, l => l
  | m + 1, i, a, l => if i + 1 = sd_n F ∨ b i = true then sd_lsp ls F d b m (i + 1) i (min l (sd_o2 ls F d a i)) else sd_lsp ls F d b m (i + 1) a l
def sd_lsv (ls : List pz_lne) (F : Nat → Int) (d : Nat) (b : Nat → Bool) : Int := sd_lsp ls F d b (sd_n F) 0 0 1000000
theorem sd_lsp_b {ls : List pz_lne} {F : Nat → Int} {d : Nat} {b : Nat → Bool} : ∀ (m i a : Nat) (l : Int), 0 ≤ l ∧ l ≤ 1000000 → 0 ≤ sd_lsp ls F d b m i a l ∧ sd_lsp ls F d b m i a l ≤ 1000000 := by
  intro m
  induction m with
  | zero => exact fun i a l h => h
  | succ m ih =>
    intro i a l h
    have o := sd_o2_b (ls := ls) (F := F) (d := d) (a := a) (i := i)
    show 0 ≤ (if i + 1 = sd_n F ∨ b i = true then sd_lsp ls F d b m (i + 1) i (min l (sd_o2 ls F d a i)) else sd_lsp ls F d b m (i + 1) a l) ∧ (if i + 1 = sd_n F ∨ b i = true then sd_lsp ls F d b m (i + 1) i (min l (sd_o2 ls F d a i)) else sd_lsp ls F d b m (i + 1) a l) ≤ 1000000
    by_cases q : i + 1 = sd_n F ∨ b i = true
    · rw [if_pos q]
      exact ih _ _ _ (by omega)
    · rw [if_neg q]
      exact ih _ _ _ h
theorem sd_lsv_b {ls : List pz_lne} {F : Nat → Int} {d : Nat} {b : Nat → Bool} : 0 ≤ sd_lsv ls F d b ∧ sd_lsv ls F d b ≤ 1000000 := sd_lsp_b _ _ _ _ ⟨by decide, by decide⟩
def sd_lsE (ls : List pz_lne) (F : Nat → Int) (d : Nat) (b : Nat → Bool) (l a x : Int) : Prop := (0 ≤ a ∧ a ≤ x ∧ x ≤ F 88) ∧ sd_lsp ls F d b (sd_n F - x.toNat) x.toNat a.toNat l = sd_lsv ls F d b
theorem sd_lsE_0 {ls : List pz_lne} {F : Nat → Int} {d : Nat} {b : Nat → Bool} (w : sd_wf F) : sd_lsE ls F d b 1000000 0 0 := ⟨⟨by decide, by decide, w.1.1⟩, rfl⟩
theorem sd_lsE_n {ls : List pz_lne} {F : Nat → Int} {d : Nat} {b : Nat → Bool} {l a x y : Int} (h : sd_lsE ls F d b l a x) (w : sd_wf F) (hx : x < F 88) (hy : y = x + 1) (hn : ¬ (x = F 88 - 1 ∨ b x.toNat = true)) : sd_lsE ls F d b l a y := by
  obtain ⟨h1, h2⟩ := h
  have k9 := sd_n_i w
  rw [show sd_n F - x.toNat = (sd_n F - y.toNat) + 1 by omega] at h2
  have h2 : (if x.toNat + 1 = sd_n F ∨ b x.toNat = true then sd_lsp ls F d b (sd_n F - y.toNat) (x.toNat + 1) x.toNat (min l (sd_o2 ls F d a.toNat x.toNat)) else sd_lsp ls F d b (sd_n F - y.toNat) (x.toNat + 1) a.toNat l) = _ := h2
  rw [if_neg (fun z => hn (z.imp (fun q => by omega) id)), show x.toNat + 1 = y.toNat by omega] at h2
  exact ⟨by omega, h2⟩
theorem sd_lsE_y {ls : List pz_lne} {F : Nat → Int} {d : Nat} {b : Nat → Bool} {l a x y l' : Int} (h : sd_lsE ls F d b l a x) (w : sd_wf F) (hx : x < F 88) (hy : y = x + 1) (hn : x = F 88 - 1 ∨ b x.toNat = true) (hl : l' = min l (sd_o2 ls F d a.toNat x.toNat)) : sd_lsE ls F d b l' x y := by
  obtain ⟨h1, h2⟩ := h
  have k9 := sd_n_i w
  rw [show sd_n F - x.toNat = (sd_n F - y.toNat) + 1 by omega] at h2
  have h2 : (if x.toNat + 1 = sd_n F ∨ b x.toNat = true then sd_lsp ls F d b (sd_n F - y.toNat) (x.toNat + 1) x.toNat (min l (sd_o2 ls F d a.toNat x.toNat)) else sd_lsp ls F d b (sd_n F - y.toNat) (x.toNat + 1) a.toNat l) = _ := h2
  rw [if_pos (hn.imp (fun q => by omega) id), show x.toNat + 1 = y.toNat by omega, ← hl] at h2
  exact ⟨by omega, h2⟩
theorem sd_lsE_z {ls : List pz_lne} {F : Nat → Int} {d : Nat} {b : Nat → Bool} {l a x : Int} (h : sd_lsE ls F d b l a x) (w : sd_wf F) (hx : ¬ x < F 88) : l = sd_lsv ls F d b := by
  obtain ⟨h1, h2⟩ := h
  have k9 := sd_n_i w
  rw [show sd_n F - x.toNat = 0 by omega] at h2
  exact h2
/-- the PARTS, the model's way: from where one begins -/
def sd_lsA (ls : List pz_lne) (F : Nat → Int) (d : Nat) (b : Nat → Bool) (a : Nat) (l : Int) : Int := if a = 0 then sd_lsp ls F d b (sd_n F) 0 0 l else sd_lsp ls F d b (sd_n F - (a + 1)) (a + 1) a l
theorem sd_lsW {ls : List pz_lne} {F : Nat → Int} {d : Nat} {b : Nat → Bool} {a e : Nat} {l : Int} (he : e < sd_n F) (hb : ∀ k, a < k → k < e → b k = false) : ∀ t i : Nat, i + t = e → a < i → sd_lsp ls F d b (sd_n F - i) i a l = sd_lsp ls F d b (sd_n F - e) e a l := by
  intro t
  induction t with
  | zero =>
    intro i hi ha
    rw [show i = e by omega]
  | succ t ih =>
    intro i hi ha
    rw [show sd_n F - i = (sd_n F - (i + 1)) + 1 by omega]
    show (if i + 1 = sd_n F ∨ b i = true then sd_lsp ls F d b (sd_n F - (i + 1)) (i + 1) i (min l (sd_o2 ls F d a i)) else sd_lsp ls F d b (sd_n F - (i + 1)) (i + 1) a l) = _
    rw [if_neg (fun z => z.elim (fun q => by omega) (fun q => by rw [hb i ha (by omega)] at q; cases q))]
    exact ih (i + 1) (by omega) (by omega)
theorem sd_lsA_s {ls : List pz_lne} {F : Nat → Int} {d : Nat} {b : Nat → Bool} {a : Nat} {l : Int} (ha : a < sd_n F) (ha2 : a = 0 ∨ a + 1 < sd_n F) (b0 : b 0 = false) : sd_lsA ls F d b a l = if sd_end b (sd_n F) a + 1 = sd_n F then min l (sd_o2 ls F d a (sd_end b (sd_n F) a)) else sd_lsA ls F d b (sd_end b (sd_n F) a) (min l (sd_o2 ls F d a (sd_end b (sd_n F) a))) := by
  obtain ⟨e1, e2, e3, e4, e5⟩ := sd_end_s (b := b) ha
  generalize sd_end b (sd_n F) a = e at e1 e2 e3 e4 e5 ⊢
  have last : sd_lsp ls F d b (sd_n F - e) e a l = if e + 1 = sd_n F then min l (sd_o2 ls F d a e) else sd_lsp ls F d b (sd_n F - (e + 1)) (e + 1) e (min l (sd_o2 ls F d a e)) := by
    rw [show sd_n F - e = (sd_n F - (e + 1)) + 1 by omega]
    show (if e + 1 = sd_n F ∨ b e = true then sd_lsp ls F d b (sd_n F - (e + 1)) (e + 1) e (min l (sd_o2 ls F d a e)) else sd_lsp ls F d b (sd_n F - (e + 1)) (e + 1) a l) = _
    by_cases q : e + 1 = sd_n F
    · rw [if_pos (Or.inl q), if_pos q, show sd_n F - (e + 1) = 0 by omega]
      rfl
    · rw [if_pos (Or.inr (e5 (by omega))), if_neg q]
  have whole : sd_lsA ls F d b a l = sd_lsp ls F d b (sd_n F - e) e a l := by
    unfold sd_lsA
    by_cases a0 : a = 0
    · subst a0
      rw [if_pos rfl]
      by_cases n1 : sd_n F = 1
      · rw [show e = 0 by omega, Nat.sub_zero]
      · have p1 := e3 (by omega)
        have h := sd_lsW (ls := ls) (d := d) (l := l) e2 e4 (e - 1) 1 (by omega) (by decide)
        rw [← h]
        have s : sd_lsp ls F d b ((sd_n F - 1) + 1) 0 0 l = sd_lsp ls F d b (sd_n F - 1) 1 0 l := by
          show (if 0 + 1 = sd_n F ∨ b 0 = true then sd_lsp ls F d b (sd_n F - 1) (0 + 1) 0 (min l (sd_o2 ls F d 0 0)) else sd_lsp ls F d b (sd_n F - 1) (0 + 1) 0 l) = _
          rw [if_neg (fun z => z.elim (fun q => by omega) (fun q => by rw [b0] at q; cases q))]
        rw [show sd_n F - 1 + 1 = sd_n F by omega] at s
        exact s
    · rw [if_neg a0]
      have q : a + 1 < sd_n F := ha2.resolve_left a0
      have p1 := e3 q
      exact sd_lsW e2 e4 (e - (a + 1)) (a + 1) (by omega) (by omega)
  rw [whole, last]
  by_cases q : e + 1 = sd_n F
  · rw [if_pos q, if_pos q]
  · rw [if_neg q, if_neg q]
    unfold sd_lsA
    rw [if_neg (by have := e3 (by omega); omega)]
def sd_lmE (ls : List pz_lne) (F : Nat → Int) (d : Nat) (b : Nat → Bool) (l a : Int) : Prop := (0 ≤ l ∧ l ≤ 1000000) ∧ ((a = F 88 ∧ l = sd_lsv ls F d b) ∨ ((0 ≤ a ∧ a < F 88) ∧ (a = 0 ∨ a + 1 < F 88) ∧ sd_lsA ls F d b a.toNat l = sd_lsv ls F d b))
theorem sd_lmE_0 {ls : List pz_lne} {F : Nat → Int} {d : Nat} {b : Nat → Bool} (w : sd_wf F) : sd_lmE ls F d b 1000000 0 := by
  refine ⟨⟨by decide, by decide⟩, ?_⟩
  by_cases q : F 88 = 0
  · refine Or.inl ⟨q.symm, ?_⟩
    unfold sd_lsv sd_n
    rw [q]
    rfl
  · have m := w.1
    exact Or.inr ⟨⟨by decide, by omega⟩, Or.inl rfl, rfl⟩
theorem sd_lmE_s {ls : List pz_lne} {F : Nat → Int} {d : Nat} {b : Nat → Bool} {l a e l' a' p : Int} (h : sd_lmE ls F d b l a) (w : sd_wf F) (b0 : b 0 = false) (ha : a < F 88) (h0 : 0 ≤ a) (he : e = (sd_end b (sd_n F) a.toNat : Int)) (hp : p = sd_o2 ls F d a.toNat e.toNat) (hl : l' = min l p) (ha' : (e = F 88 - 1 ∧ a' = F 88) ∨ (e ≠ F 88 - 1 ∧ a' = e)) : sd_lmE ls F d b l' a' := by
  obtain ⟨h1, h2⟩ := h
  have k9 := sd_n_i w
  rcases h2 with ⟨z, -⟩ | ⟨z1, z2, z3⟩
  · exfalso
    omega
  · have an : a.toNat < sd_n F := by omega
    have s := sd_lsA_s (ls := ls) (d := d) (l := l) an (by omega) b0
    obtain ⟨e1, e2, e3, -, -⟩ := sd_end_s (b := b) an
    have o := sd_o2_b (ls := ls) (F := F) (d := d) (a := a.toNat) (i := e.toNat)
    rw [show sd_end b (sd_n F) a.toNat = e.toNat by omega] at s e1 e2 e3
    rw [← hp, ← hl] at s
    refine ⟨by omega, ?_⟩
    rcases ha' with ⟨y1, y2⟩ | ⟨y1, y2⟩
    · rw [if_pos (by omega)] at s
      exact Or.inl ⟨y2, s.symm.trans z3⟩
    · rw [if_neg (by omega)] at s
      refine Or.inr ⟨by omega, by omega, ?_⟩
      rw [y2]
      exact s.symm.trans z3
/-- SPLIT -/
def sd_bi (F : Nat → Int) (i : Nat) : Nat → Bool := fun k => sd_bn F k || decide (i = k)
theorem sd_bi_z {F : Nat → Int} {x y v : Int} {i : Int} (h : pz_zs x (sd_bn F)) (h0 : 0 ≤ i) (h1 : i ≤ 11) (hy : y = (Int32.ofInt 1 <<< (Int32.ofInt i &&& 31)).toInt) (hv : v = (Int32.ofInt x ||| Int32.ofInt y).toInt) : pz_zs v (sd_bi F i.toNat) := by
  rw [hv]
  refine pz_sb_or h ?_
  rw [hy]
  exact pz_sb_1 h0 h1
theorem sd_bi_0 {F : Nat → Int} {i : Nat} (w : sd_wf F) (hi : sd_cb F i) : sd_bi F i 0 = false := by
  have h1 := hi.1
  have h2 := hi.2.2.1
  have p := (w.2.2 0 (by omega)).2.2.2.2.2.2
  show (decide (((0 : Nat) : Int) < F 88 ∧ F (64 + 0) = 1) || decide (i = 0)) = false
  rw [decide_eq_false (show ¬ i = 0 by omega), decide_eq_false (fun z => by
    have z2 := z.2
    omega)]
  rfl
def sd_spt (ls : List pz_lne) (F : Nat → Int) (d : Nat) : Nat → Nat → Int → Int → Int × Int
  | 0, _, b, g => (b, g)
  | m + 1, i, b, g => if sd_cb F i ∧ g < sd_lsv ls F d (sd_bi F i) then sd_spt ls F d m (i + 1) (i : Int) (sd_lsv ls F d (sd_bi F i)) else sd_spt ls F d m (i + 1) b g
def sd_spv (ls : List pz_lne) (F : Nat → Int) (d w : Int) : Int := if (1 ≤ d ∧ d ≤ 60) ∧ 0 ≤ w ∧ w ≤ 1 then (if w = 0 then (sd_spt ls F d.toNat (sd_n F) 0 (-1) (-1)).1 else (sd_spt ls F d.toNat (sd_n F) 0 (-1) (-1)).2) else -1
def sd_spE (ls : List pz_lne) (F : Nat → Int) (d : Nat) (b g x : Int) : Prop := (0 ≤ x ∧ x ≤ F 88) ∧ ((b = -1 ∧ g = -1) ∨ (0 ≤ b ∧ 0 ≤ g ∧ g ≤ 1000000)) ∧ sd_spt ls F d (sd_n F - x.toNat) x.toNat b g = sd_spt ls F d (sd_n F) 0 (-1) (-1)
theorem sd_spE_0 {ls : List pz_lne} {F : Nat → Int} {d : Nat} (w : sd_wf F) : sd_spE ls F d (-1) (-1) 0 := ⟨⟨by decide, w.1.1⟩, Or.inl ⟨rfl, rfl⟩, rfl⟩
theorem sd_spE_n {ls : List pz_lne} {F : Nat → Int} {d : Nat} {b g x y : Int} (h : sd_spE ls F d b g x) (w : sd_wf F) (hx : x < F 88) (hy : y = x + 1) (hn : ¬ (sd_cb F x.toNat ∧ g < sd_lsv ls F d (sd_bi F x.toNat))) : sd_spE ls F d b g y := by
  obtain ⟨h1, h2, h3⟩ := h
  have k9 := sd_n_i w
  rw [show sd_n F - x.toNat = (sd_n F - y.toNat) + 1 by omega] at h3
  have h3 : (if sd_cb F x.toNat ∧ g < sd_lsv ls F d (sd_bi F x.toNat) then sd_spt ls F d (sd_n F - y.toNat) (x.toNat + 1) (x.toNat : Int) (sd_lsv ls F d (sd_bi F x.toNat)) else sd_spt ls F d (sd_n F - y.toNat) (x.toNat + 1) b g) = _ := h3
  rw [if_neg hn, show x.toNat + 1 = y.toNat by omega] at h3
  exact ⟨by omega, h2, h3⟩
theorem sd_spE_y {ls : List pz_lne} {F : Nat → Int} {d : Nat} {b g x y o : Int} (h : sd_spE ls F d b g x) (w : sd_wf F) (hx : x < F 88) (hy : y = x + 1) (hc : sd_cb F x.toNat) (ho : o = sd_lsv ls F d (sd_bi F x.toNat)) (hn : g < o) : sd_spE ls F d x o y := by
  obtain ⟨h1, h2, h3⟩ := h
  have k9 := sd_n_i w
  have lb := sd_lsv_b (ls := ls) (F := F) (d := d) (b := sd_bi F x.toNat)
  rw [show sd_n F - x.toNat = (sd_n F - y.toNat) + 1 by omega] at h3
  have h3 : (if sd_cb F x.toNat ∧ g < sd_lsv ls F d (sd_bi F x.toNat) then sd_spt ls F d (sd_n F - y.toNat) (x.toNat + 1) (x.toNat : Int) (sd_lsv ls F d (sd_bi F x.toNat)) else sd_spt ls F d (sd_n F - y.toNat) (x.toNat + 1) b g) = _ := h3
  rw [if_pos ⟨hc, by omega⟩, show x.toNat + 1 = y.toNat by omega, show ((x.toNat : Nat) : Int) = x by omega, ← ho] at h3
  exact ⟨by omega, Or.inr (by omega), h3⟩
theorem sd_spE_z {ls : List pz_lne} {F : Nat → Int} {d : Nat} {b g x : Int} (h : sd_spE ls F d b g x) (w : sd_wf F) (hx : ¬ x < F 88) : (b, g) = sd_spt ls F d (sd_n F) 0 (-1) (-1) := by
  obtain ⟨h1, h2, h3⟩ := h
  have k9 := sd_n_i w
  rw [show sd_n F - x.toNat = 0 by omega] at h3
  exact h3
