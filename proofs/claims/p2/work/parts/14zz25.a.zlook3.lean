/-! GAME -/
def sd_hep (F : Nat → Int) (i : Nat) : Int := if F (76 + i) = -1 then F (93 + i) else 0
def sd_x (x y : Int) : Int := (Int32.ofInt x ^^^ Int32.ofInt y).toInt
theorem sd_hp_b {F : Nat → Int} {i : Nat} (w : sd_wf F) (hi : (i : Int) < F 88) : 0 ≤ sd_hep F i ∧ sd_hep F i ≤ 9 := by
  have p := (w.2.2 i hi).2.2.2.1
  unfold sd_hep
  split <;> omega
theorem sd_a3 {h : Int} (h0 : 0 ≤ h) (h9 : h ≤ 9) : (Int32.ofInt h &&& Int32.ofInt 3).toInt = h.tmod 4 := by
  have q : h = 0 ∨ h = 1 ∨ h = 2 ∨ h = 3 ∨ h = 4 ∨ h = 5 ∨ h = 6 ∨ h = 7 ∨ h = 8 ∨ h = 9 := by omega
  rcases q with rfl | rfl | rfl | rfl | rfl | rfl | rfl | rfl | rfl | rfl <;> decide +kernel
theorem sd_x4 {x y : Int} (hx : 0 ≤ x ∧ x ≤ 3) (hy : 0 ≤ y ∧ y ≤ 3) : 0 ≤ sd_x x y ∧ sd_x x y ≤ 3 := by
  have qx : x = 0 ∨ x = 1 ∨ x = 2 ∨ x = 3 := by omega
  have qy : y = 0 ∨ y = 1 ∨ y = 2 ∨ y = 3 := by omega
  rcases qx with rfl | rfl | rfl | rfl <;> rcases qy with rfl | rfl | rfl | rfl <;> decide +kernel
theorem sd_x0 {x y : Int} (hx : 0 ≤ x ∧ x ≤ 3) (hy : 0 ≤ y ∧ y ≤ 3) : sd_x x y = 0 ↔ x = y := by
  have qx : x = 0 ∨ x = 1 ∨ x = 2 ∨ x = 3 := by omega
  have qy : y = 0 ∨ y = 1 ∨ y = 2 ∨ y = 3 := by omega
  rcases qx with rfl | rfl | rfl | rfl <;> rcases qy with rfl | rfl | rfl | rfl <;> decide +kernel
theorem sd_m4 {h : Int} (h0 : 0 ≤ h) : 0 ≤ h.tmod 4 ∧ h.tmod 4 ≤ 3 := by
  rw [Int.tmod_eq_emod_of_nonneg h0]
  omega
def sd_gmx (F : Nat → Int) : Nat → Nat → Int → Int
  | 0, _, a => a
  | m + 1, i, a => sd_gmx F m (i + 1) (sd_x a ((sd_hep F i).tmod 4))
def sd_gmW (F : Nat → Int) : Int := sd_gmx F (sd_n F) 0 0
abbrev sd_gk (F : Nat → Int) (W : Int) (i : Nat) (k : Int) : Prop := k ≤ 3 ∧ k ≤ sd_hep F i ∧ sd_x W ((sd_hep F i).tmod 4) = (sd_hep F i - k).tmod 4
def sd_gms (F : Nat → Int) (W : Int) : Nat → Nat → Int × Int
  | 0, _ => (-1, -1)
  | m + 1, i => if sd_gk F W i 1 then ((i : Int), 1) else if sd_gk F W i 2 then ((i : Int), 2) else if sd_gk F W i 3 then ((i : Int), 3) else sd_gms F W m (i + 1)
def sd_gmv (F : Nat → Int) (w : Int) : Int := if 0 ≤ w ∧ w ≤ 1 then (if w = 0 then (sd_gms F (sd_gmW F) (sd_n F) 0).1 else (sd_gms F (sd_gmW F) (sd_n F) 0).2) else -1
def sd_gmE (F : Nat → Int) (a x : Int) : Prop := x ≤ F 88 ∧ (0 ≤ a ∧ a ≤ 3) ∧ sd_gmx F (sd_n F - x.toNat) x.toNat a = sd_gmW F
theorem sd_gmE_0 {F : Nat → Int} (w : sd_wf F) : sd_gmE F 0 0 := ⟨w.1.1, ⟨by decide, by decide⟩, rfl⟩
theorem sd_gmE_s {F : Nat → Int} {a x y a' : Int} (h : sd_gmE F a x) (w : sd_wf F) (h0 : 0 ≤ x) (hx : x < F 88) (hy : y = x + 1) (ha : a' = sd_x a ((sd_hep F x.toNat).tmod 4)) : sd_gmE F a' y := by
  obtain ⟨h1, h2, h3⟩ := h
  have k9 := sd_n_i w
  have b := sd_hp_b (i := x.toNat) w (by omega)
  have c := sd_x4 h2 (sd_m4 b.1)
  rw [show sd_n F - x.toNat = (sd_n F - y.toNat) + 1 by omega] at h3
  have h3 : sd_gmx F (sd_n F - y.toNat) (x.toNat + 1) (sd_x a ((sd_hep F x.toNat).tmod 4)) = _ := h3
  rw [show x.toNat + 1 = y.toNat by omega, ← ha] at h3
  rw [← ha] at c
  exact ⟨by omega, c, h3⟩
theorem sd_gmE_z {F : Nat → Int} {a x : Int} (h : sd_gmE F a x) (w : sd_wf F) (hx : ¬ x < F 88) : a = sd_gmW F ∧ 0 ≤ a ∧ a ≤ 3 := by
  obtain ⟨h1, h2, h3⟩ := h
  have k9 := sd_n_i w
  rw [show sd_n F - x.toNat = 0 by omega] at h3
  exact ⟨h3, h2⟩
def sd_gmS (F : Nat → Int) (a x k : Int) : Prop := (a = sd_gmW F ∧ 0 ≤ a ∧ a ≤ 3) ∧ (x ≤ F 88 ∧ 1 ≤ k ∧ k ≤ 4) ∧ (∀ j : Int, 1 ≤ j → j < k → ¬ sd_gk F (sd_gmW F) x.toNat j) ∧ sd_gms F (sd_gmW F) (sd_n F - x.toNat) x.toNat = sd_gms F (sd_gmW F) (sd_n F) 0
theorem sd_gmS_0 {F : Nat → Int} {a : Int} (w : sd_wf F) (h : a = sd_gmW F ∧ 0 ≤ a ∧ a ≤ 3) : sd_gmS F a 0 1 := ⟨h, ⟨w.1.1, by decide, by decide⟩, fun j h1 h2 => absurd h1 (by omega), rfl⟩
theorem sd_gmS_k {F : Nat → Int} {a x k y : Int} (h : sd_gmS F a x k) (n : ¬ sd_gk F (sd_gmW F) x.toNat k) (hk : k ≤ 3) (hy : y = k + 1) : sd_gmS F a x y := by
  obtain ⟨h0, h1, h2, h3⟩ := h
  refine ⟨h0, ⟨h1.1, by omega, by omega⟩, fun j j1 j2 => ?_, h3⟩
  by_cases q : j = k
  · rw [q]
    exact n
  · exact h2 j j1 (by omega)
theorem sd_gmS_i {F : Nat → Int} {a x k y : Int} (h : sd_gmS F a x k) (w : sd_wf F) (n : ¬ (k ≤ 3 ∧ k ≤ sd_hep F x.toNat)) (h0 : 0 ≤ x) (hx : x < F 88) (hy : y = x + 1) : sd_gmS F a y 1 := by
  obtain ⟨ha, h1, h2, h3⟩ := h
  have k9 := sd_n_i w
  have g : ∀ j : Int, 1 ≤ j → ¬ sd_gk F (sd_gmW F) x.toNat j := fun j j1 z => by
    by_cases q : j < k
    · exact h2 j j1 q z
    · have z1 := z.1
      have z2 := z.2.1
      omega
  rw [show sd_n F - x.toNat = (sd_n F - y.toNat) + 1 by omega] at h3
  have h3 : (if sd_gk F (sd_gmW F) x.toNat 1 then ((x.toNat : Int), (1 : Int)) else if sd_gk F (sd_gmW F) x.toNat 2 then ((x.toNat : Int), 2) else if sd_gk F (sd_gmW F) x.toNat 3 then ((x.toNat : Int), 3) else sd_gms F (sd_gmW F) (sd_n F - y.toNat) (x.toNat + 1)) = _ := h3
  rw [if_neg (g 1 (by decide)), if_neg (g 2 (by decide)), if_neg (g 3 (by decide)), show x.toNat + 1 = y.toNat by omega] at h3
  exact ⟨ha, ⟨by omega, by decide, by decide⟩, fun j j1 j2 => absurd j1 (by omega), h3⟩
theorem sd_gmS_y {F : Nat → Int} {a x k : Int} (h : sd_gmS F a x k) (w : sd_wf F) (n : sd_gk F (sd_gmW F) x.toNat k) (h0 : 0 ≤ x) (hx : x < F 88) : sd_gms F (sd_gmW F) (sd_n F) 0 = (x, k) := by
  obtain ⟨ha, h1, h2, h3⟩ := h
  have k9 := sd_n_i w
  have n1 := n.1
  rw [show sd_n F - x.toNat = (sd_n F - x.toNat - 1) + 1 by omega] at h3
  have h3 : (if sd_gk F (sd_gmW F) x.toNat 1 then ((x.toNat : Int), (1 : Int)) else if sd_gk F (sd_gmW F) x.toNat 2 then ((x.toNat : Int), 2) else if sd_gk F (sd_gmW F) x.toNat 3 then ((x.toNat : Int), 3) else sd_gms F (sd_gmW F) (sd_n F - x.toNat - 1) (x.toNat + 1)) = _ := h3
  rw [show ((x.toNat : Nat) : Int) = x by omega] at h3
  rw [← h3]
  have q : k = 1 ∨ k = 2 ∨ k = 3 := by omega
  rcases q with rfl | rfl | rfl
  · rw [if_pos n]
  · rw [if_neg (h2 1 (by decide) (by decide)), if_pos n]
  · rw [if_neg (h2 1 (by decide) (by decide)), if_neg (h2 2 (by decide) (by decide)), if_pos n]
theorem sd_gmS_z {F : Nat → Int} {a x k : Int} (h : sd_gmS F a x k) (w : sd_wf F) (hx : ¬ x < F 88) : sd_gms F (sd_gmW F) (sd_n F) 0 = (-1, -1) := by
  obtain ⟨ha, h1, h2, h3⟩ := h
  have k9 := sd_n_i w
  rw [show sd_n F - x.toNat = 0 by omega] at h3
  exact h3.symm
/-! SHARE -/
def sd_cg (F : Nat → Int) (i : Nat) : Int := if sd_in F i then max 0 (F (28 + i)) else 0
theorem sd_cg_b {F : Nat → Int} {i : Nat} (w : sd_wf F) (hi : (i : Int) < F 88) : 0 ≤ sd_cg F i ∧ sd_cg F i ≤ 999 := by
  have p := (w.2.2 i hi).2.2.1
  unfold sd_cg
  split <;> omega
def sd_gts (F : Nat → Int) (l : Int) : Nat → Nat → Int
  | 0, _ => 0
  | m + 1, i => min l (sd_cg F i) + sd_gts F l m (i + 1)
def sd_g (F : Nat → Int) (l : Int) : Int := sd_gts F l (sd_n F) 0
def sd_gtE (F : Nat → Int) (l a x : Int) : Prop := (x ≤ F 88 ∧ 0 ≤ a ∧ a ≤ 999 * x) ∧ a + sd_gts F l (sd_n F - x.toNat) x.toNat = sd_g F l
theorem sd_gtE_0 {F : Nat → Int} {l : Int} (w : sd_wf F) : sd_gtE F l 0 0 := ⟨⟨w.1.1, by decide, by decide⟩, Int.zero_add _⟩
theorem sd_gtE_s {F : Nat → Int} {l a x y a' g : Int} (h : sd_gtE F l a x) (w : sd_wf F) (hl : 0 ≤ l) (h0 : 0 ≤ x) (hx : x < F 88) (hy : y = x + 1) (hg : g = min l (sd_cg F x.toNat)) (ha : a' = pz_w (a + g)) : sd_gtE F l a' y := by
  obtain ⟨h1, h3⟩ := h
  have k9 := sd_n_i w
  have m := w.1
  have b := sd_cg_b (i := x.toNat) w (by omega)
  rw [pz_wi (by omega) (by omega)] at ha
  rw [show sd_n F - x.toNat = (sd_n F - y.toNat) + 1 by omega] at h3
  have h3 : a + (min l (sd_cg F x.toNat) + sd_gts F l (sd_n F - y.toNat) (x.toNat + 1)) = _ := h3
  rw [show x.toNat + 1 = y.toNat by omega, ← hg] at h3
  exact ⟨⟨by omega, by omega, by omega⟩, by omega⟩
theorem sd_gtE_z {F : Nat → Int} {l a x : Int} (h : sd_gtE F l a x) (w : sd_wf F) (hx : ¬ x < F 88) : a = sd_g F l := by
  obtain ⟨h1, h3⟩ := h
  have k9 := sd_n_i w
  rw [show sd_n F - x.toNat = 0 by omega] at h3
  have h3 : a + 0 = _ := h3
  omega
theorem sd_gt_m {F : Nat → Int} {l k : Int} (h : l ≤ k) : ∀ m i : Nat, sd_gts F l m i ≤ sd_gts F k m i := by
  intro m
  induction m with
  | zero => exact fun i => Int.le_refl _
  | succ m ih =>
    intro i
    have a := ih (i + 1)
    show min l (sd_cg F i) + sd_gts F l m (i + 1) ≤ min k (sd_cg F i) + sd_gts F k m (i + 1)
    omega
theorem sd_gt_b {F : Nat → Int} {l : Int} (w : sd_wf F) (hl : 0 ≤ l) : ∀ m i : Nat, i + m ≤ sd_n F → 0 ≤ sd_gts F l m i ∧ sd_gts F l m i ≤ 999 * (m : Int) := by
  intro m
  have k9 := sd_n_i w
  induction m with
  | zero => exact fun i _ => ⟨Int.le_refl _, Int.le_refl _⟩
  | succ m ih =>
    intro i hi
    have a := ih (i + 1) (by omega)
    have b := sd_cg_b (i := i) w (by omega)
    show 0 ≤ min l (sd_cg F i) + sd_gts F l m (i + 1) ∧ min l (sd_cg F i) + sd_gts F l m (i + 1) ≤ 999 * ((m + 1 : Nat) : Int)
    omega
theorem sd_g_b {F : Nat → Int} {l : Int} (w : sd_wf F) (hl : 0 ≤ l) : 0 ≤ sd_g F l ∧ sd_g F l ≤ 11988 := by
  have b := sd_gt_b w hl (sd_n F) 0 (by omega)
  have k9 := sd_n_i w
  have m := w.1
  unfold sd_g
  omega
theorem sd_g_0 {F : Nat → Int} (w : sd_wf F) : sd_g F 0 = 0 := by
  have h : ∀ m i : Nat, i + m ≤ sd_n F → sd_gts F 0 m i = 0 := by
    intro m
    have k9 := sd_n_i w
    induction m with
    | zero => exact fun i _ => rfl
    | succ m ih =>
      intro i hi
      have a := ih (i + 1) (by omega)
      have b := sd_cg_b (i := i) w (by omega)
      show min 0 (sd_cg F i) + sd_gts F 0 m (i + 1) = 0
      omega
  exact h _ _ (by omega)
def sd_lvl (F : Nat → Int) (n L : Int) : Prop := (0 ≤ L ∧ L ≤ 999) ∧ sd_g F L ≤ n ∧ (L = 999 ∨ n < sd_g F (L + 1))
theorem sd_lvl_u {F : Nat → Int} {n L K : Int} (h : sd_lvl F n L) (h' : sd_lvl F n K) : L = K := by
  obtain ⟨h1, h2, h3⟩ := h
  obtain ⟨k1, k2, k3⟩ := h'
  by_cases q : L < K
  · have a := sd_gt_m (F := F) (show L + 1 ≤ K by omega) (sd_n F) 0
    unfold sd_g at *
    omega
  · by_cases q2 : K < L
    · have a := sd_gt_m (F := F) (show K + 1 ≤ L by omega) (sd_n F) 0
      unfold sd_g at *
      omega
    · omega
def sd_lvf (F : Nat → Int) (n : Int) : Nat → Int → Int
  | 0, l => l
  | m + 1, l => if sd_g F (l + 1) ≤ n then sd_lvf F n m (l + 1) else l
theorem sd_lev_l {F : Nat → Int} {n : Int} : ∀ (m : Nat) (l : Int), 0 ≤ l → l + m = 999 → sd_g F l ≤ n → sd_lvl F n (sd_lvf F n m l) := by
  intro m
  induction m with
  | zero => exact fun l h0 h1 h2 => ⟨⟨h0, by show l ≤ 999; omega⟩, h2, Or.inl (by show l = 999; omega)⟩
  | succ m ih =>
    intro l h0 h1 h2
    show sd_lvl F n (if sd_g F (l + 1) ≤ n then sd_lvf F n m (l + 1) else l)
    by_cases q : sd_g F (l + 1) ≤ n
    · rw [if_pos q]
      exact ih (l + 1) (by omega) (by omega) q
    · rw [if_neg q]
      exact ⟨⟨h0, by omega⟩, h2, Or.inr (by omega)⟩
theorem sd_lev_u {F : Nat → Int} {n L : Int} (w : sd_wf F) (hn : 0 ≤ n) (h : sd_lvl F n L) : L = sd_lvf F n 999 0 := sd_lvl_u h (sd_lev_l 999 0 (by decide) (by decide) (by rw [sd_g_0 w]; exact hn))
def sd_lvE (F : Nat → Int) (n x : Int) : Prop := (0 ≤ x ∧ x ≤ 999) ∧ sd_g F x ≤ n
theorem sd_lvE_0 {F : Nat → Int} {n : Int} (w : sd_wf F) (hn : 0 ≤ n) : sd_lvE F n 0 := ⟨⟨by decide, by decide⟩, by rw [sd_g_0 w]; exact hn⟩
def sd_gr (F : Nat → Int) (L : Int) : Nat → Int
  | 0 => 0
  | k + 1 => sd_gr F L k + (if L < sd_cg F k then 1 else 0)
theorem sd_gr_b {F : Nat → Int} {L : Int} : ∀ k : Nat, 0 ≤ sd_gr F L k ∧ sd_gr F L k ≤ k := by
  intro k
  induction k with
  | zero => exact ⟨Int.le_refl _, Int.le_refl _⟩
  | succ k ih =>
    show 0 ≤ sd_gr F L k + (if L < sd_cg F k then 1 else 0) ∧ sd_gr F L k + (if L < sd_cg F k then 1 else 0) ≤ ((k + 1 : Nat) : Int)
    split <;> omega
def sd_shL (F : Nat → Int) (n L a x : Int) : Prop := (0 ≤ x ∧ x ≤ F 88) ∧ sd_lvl F n L ∧ a = n - sd_g F L - sd_gr F L x.toNat
theorem sd_shL_0 {F : Nat → Int} {n L a g : Int} (w : sd_wf F) (hn : 0 ≤ n ∧ n ≤ 9999) (h : sd_lvl F n L) (hg : g = sd_g F L) (ha : a = pz_w (n - g)) : sd_shL F n L a 0 := by
  have b := sd_g_b w h.1.1
  rw [pz_wi (by omega) (by omega)] at ha
  refine ⟨⟨by decide, w.1.1⟩, h, ?_⟩
  show a = n - sd_g F L - 0
  omega
theorem sd_shL_s {F : Nat → Int} {n L a x y d a' : Int} (h : sd_shL F n L a x) (w : sd_wf F) (hn : 0 ≤ n ∧ n ≤ 9999) (hx : x < F 88) (hy : y = x + 1) (hd : d = if L < sd_cg F x.toNat then 1 else 0) (ha : a' = pz_w (a - d)) : sd_shL F n L a' y := by
  obtain ⟨h1, h2, h3⟩ := h
  have b := sd_g_b w h2.1.1
  have c := sd_gr_b (F := F) (L := L) x.toNat
  have m := w.1
  have d9 : 0 ≤ d ∧ d ≤ 1 := by
    rw [hd]
    split <;> omega
  rw [pz_wi (by omega) (by omega)] at ha
  refine ⟨⟨by omega, by omega⟩, h2, ?_⟩
  rw [show y.toNat = x.toNat + 1 by omega]
  show a' = n - sd_g F L - (sd_gr F L x.toNat + (if L < sd_cg F x.toNat then 1 else 0))
  rw [← hd]
  omega
theorem sd_shL_n {F : Nat → Int} {n L a x y : Int} (h : sd_shL F n L a x) (w : sd_wf F) (hx : x < F 88) (hy : y = x + 1) (hd : ¬ L < sd_cg F x.toNat) : sd_shL F n L a y := by
  obtain ⟨h1, h2, h3⟩ := h
  refine ⟨⟨by omega, by omega⟩, h2, ?_⟩
  rw [show y.toNat = x.toNat + 1 by omega]
  show a = n - sd_g F L - (sd_gr F L x.toNat + (if L < sd_cg F x.toNat then 1 else 0))
  rw [if_neg hd]
  omega
def sd_shw (F : Nat → Int) (i : Nat) (n L : Int) : Int := if L < sd_cg F i ∧ 0 < n - sd_g F L - sd_gr F L i then L + 1 else min L (sd_cg F i)
def sd_shv (F : Nat → Int) (n i : Int) : Int := if (0 ≤ n ∧ n ≤ 9999) ∧ (0 ≤ i ∧ i < F 88) ∧ n ≤ sd_g F 999 then sd_shw F i.toNat n (sd_lvf F n 999 0) else -1
