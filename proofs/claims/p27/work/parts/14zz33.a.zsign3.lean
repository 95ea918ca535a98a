/-! SIGNS in the model -/
def sg_cv (v : Int) : Int := if v = 1000000000 then -1 else v
def sg_em (f g : Nat → Int) (t : Int) (s : Nat → Bool) (v : Int) : Prop := (v = 1000000000 ∨ (0 ≤ v ∧ v ≤ 240)) ∧ sg_ea f g t s (sg_cv v)
def sg_pm (F : Nat → Int) (f g : Nat → Int) (n : Int) : Prop := ∀ i : Nat, (i : Int) < n → F (105 + 2 * i) = f i ∧ F (106 + 2 * i) = g i
def sg_di (k : Nat) (h : Nat → Bool) : Nat → Bool := fun i => sg_bt k i && !h i
def sg_su (h : Nat → Bool) (k : Nat) : Prop := ∀ i, h i = true → sg_bt k i = true
theorem sg_di_t {k i : Nat} {h : Nat → Bool} : sg_di k h i = true ↔ sg_bt k i = true ∧ h i = false := by
  show (sg_bt k i && !h i) = true ↔ _
  cases h i with
  | true =>
    rw [Bool.not_true, Bool.and_false]
    exact ⟨fun z => absurd z (by decide), fun z => absurd z.2 (by decide)⟩
  | false =>
    rw [Bool.not_false, Bool.and_true]
    exact ⟨fun z => ⟨z, rfl⟩, fun z => z.1⟩
theorem sg_di_rx {k i : Nat} {h : Nat → Bool} (hi : sg_di k h i = true) : sg_di (sg_rx k i) h = sg_rm (sg_di k h) i := funext fun j => by
  show (sg_bt (sg_rx k i) j && !h j) = ((sg_bt k j && !h j) && !decide (j = i))
  rw [sg_rx_b (sg_di_t.mp hi).1]
  show ((sg_bt k j && !decide (j = i)) && !h j) = _
  exact Bool.and_right_comm _ _ _
theorem sg_su_rx {k i : Nat} {h : Nat → Bool} (hs : sg_su h k) (hi : sg_di k h i = true) : sg_su h (sg_rx k i) := fun j hj => by
  rw [sg_rx_b (sg_di_t.mp hi).1]
  refine sg_rm_t.mpr ⟨hs j hj, fun q => ?_⟩
  rw [q, (sg_di_t.mp hi).2] at hj
  cases hj
/-- what is laid for the sets below x -/
def sg_TM (f g : Nat → Int) (h : Nat → Bool) (t : Int) (N : pz_M) (x : Int) : Prop := ∀ k : Nat, (k : Int) < x → sg_su h k → sg_em f g t (sg_di k h) (N 70 k)
/-- for the set x itself, LINKS below y tried -/
def sg_li (f g : Nat → Int) (h : Nat → Bool) (t : Int) (N : pz_M) (x y : Int) : Prop := sg_su h x.toNat ∧ (N 70 x.toNat = 1000000000 ∨ (0 ≤ N 70 x.toNat ∧ N 70 x.toNat ≤ 240)) ∧ (((∀ i, sg_di x.toNat h i = false) ∧ N 70 x.toNat = t) ∨ ((∃ i, sg_di x.toNat h i = true) ∧ sg_mn (sg_D f g (sg_di x.toNat h) (fun i => sg_cv (N 70 (sg_rx x.toNat i)))) (fun i => sg_d f (sg_cv (N 70 (sg_rx x.toNat i))) i) y (sg_cv (N 70 x.toNat))))
theorem sg_cv_f : sg_cv 1000000000 = -1 := if_pos rfl
theorem sg_cv_n {v : Int} (h : 0 ≤ v ∧ v ≤ 240) : sg_cv v = v := if_neg (by omega)
theorem sg_TM_0 {f g : Nat → Int} {h : Nat → Bool} {t : Int} {N : pz_M} : sg_TM f g h t N 0 := fun k hk => absurd hk (by omega)
theorem sg_TM_n {f g : Nat → Int} {h : Nat → Bool} {t x : Int} {N : pz_M} (q : sg_TM f g h t N x) (hx : 0 ≤ x) (hn : ¬ sg_su h x.toNat) : sg_TM f g h t N (x + 1) := fun k hk hs => by
  by_cases e : k = x.toNat
  · rw [e] at hs
    exact absurd hs hn
  · exact q k (by omega) hs
theorem sg_su_of {x y v : Int} {h : Nat → Bool} (hx : 0 ≤ x ∧ x < 4096) (hy : pz_zs y h) (hv : v = (Int32.ofInt x &&& Int32.ofInt y).toInt) : v = y ↔ sg_su h x.toNat := by
  have z := pz_sb_and (sg_zs hx.1 hx.2) hy
  rw [← hv] at z
  constructor
  · intro e i hi
    rw [e] at z
    have a := congrFun (sg_zs_b z) i
    have b := congrFun (sg_zs_b hy) i
    rw [a] at b
    have b : (sg_bt x.toNat i && h i) = h i := b
    rw [hi, Bool.and_true] at b
    exact b
  · intro s
    refine pz_sb_ext z hy (fun k => ?_)
    show (sg_bt x.toNat k && h k) = h k
    cases q : h k with
    | false => exact Bool.and_false _
    | true =>
      show (sg_bt x.toNat k && true) = true
      rw [s k q]
      rfl
/-- the first number in its cell -/
theorem sg_li_0 {f g : Nat → Int} {h : Nat → Bool} {t x y s : Int} {N N' : pz_M} (hx : 0 ≤ x ∧ x < 4096) (hy : pz_zs y h) (hs : sg_su h x.toNat) (ht : 0 ≤ t ∧ t ≤ 240) (e : N' = pz_u N 70 x.toNat s) (hq : (x = y ∧ s = t) ∨ (x ≠ y ∧ s = 1000000000)) : sg_li f g h t N' x 0 := by
  have a : N' 70 x.toNat = s := by
    rw [e]
    exact pz_uu
  have zb := sg_zs_b hy
  refine ⟨hs, by rw [a]; omega, ?_⟩
  rw [a]
  rcases hq with ⟨q1, q2⟩ | ⟨q1, q2⟩
  · refine Or.inl ⟨fun i => ?_, q2⟩
    show (sg_bt x.toNat i && !h i) = false
    rw [q1, zb]
    cases h i <;> rfl
  · refine Or.inr ⟨?_, ?_⟩
    · refine Classical.byContradiction fun z => q1 ?_
      refine pz_sb_ext (sg_zs hx.1 hx.2) hy (fun k => ?_)
      cases q : h k with
      | true => exact hs k q
      | false =>
        cases r : sg_bt x.toNat k with
        | false => rfl
        | true => exact absurd ⟨k, sg_di_t.mpr ⟨r, q⟩⟩ z
    · rw [q2, sg_cv_f]
      exact sg_mn_0
theorem sg_TM_cg {f g : Nat → Int} {h : Nat → Bool} {t x v : Int} {N N' : pz_M} {k : Nat} (q : sg_TM f g h t N x) (e : N' = pz_u N 70 k v) (hk : x ≤ (k : Int)) : sg_TM f g h t N' x := fun l hl hs => by
  rw [e, pz_unk (by omega)]
  exact q l hl hs
/-- one more tried: not one that may sign as the last -/
theorem sg_li_n {f g : Nat → Int} {h : Nat → Bool} {t x y z : Int} {N : pz_M} (q : sg_li f g h t N x y) (h0 : 0 ≤ y) (hz : z = y + 1) (hn : ¬ sg_D f g (sg_di x.toNat h) (fun i => sg_cv (N 70 (sg_rx x.toNat i))) y.toNat) : sg_li f g h t N x z := by
  obtain ⟨q1, q2, q3⟩ := q
  refine ⟨q1, q2, ?_⟩
  rcases q3 with q3 | ⟨q3, q4⟩
  · exact Or.inl q3
  · exact Or.inr ⟨q3, sg_mn_n q4 h0 hz hn⟩
/-- what it is asked of: the minute by which the others have -/
def sg_by (f g : Nat → Int) (h : Nat → Bool) (N : pz_M) (x y u b : Int) : Prop := sg_di x.toNat h y.toNat = true → (u = 1000000000 ∨ (0 ≤ u ∧ u ≤ 240)) ∧ u = N 70 (sg_rx x.toNat y.toNat) ∧ ((u = 1000000000 → g y.toNat < b) ∧ (u ≠ 1000000000 → b = sg_d f u y.toNat))
theorem sg_D_u {f g : Nat → Int} {h : Nat → Bool} {N : pz_M} {x y u b : Int} (hd : sg_di x.toNat h y.toNat = true) (hb : sg_by f g h N x y u b) : (sg_D f g (sg_di x.toNat h) (fun i => sg_cv (N 70 (sg_rx x.toNat i))) y.toNat ↔ b ≤ g y.toNat) ∧ (b ≤ g y.toNat → b = sg_d f (sg_cv (N 70 (sg_rx x.toNat y.toNat))) y.toNat) := by
  obtain ⟨b1, b2, b3, b4⟩ := hb hd
  rcases b1 with c | c
  · have b5 := b3 c
    refine ⟨⟨fun d => ?_, fun d => by omega⟩, fun d => by omega⟩
    have d2 : sg_cv (N 70 (sg_rx x.toNat y.toNat)) ≠ -1 := d.2.1
    rw [← b2, c, sg_cv_f] at d2
    exact absurd rfl d2
  · have b5 := b4 (by omega)
    have e := sg_cv_n c
    rw [b2] at e
    have e2 : sg_cv (N 70 (sg_rx x.toNat y.toNat)) = u := by rw [e, b2]
    refine ⟨⟨fun d => ?_, fun d => ⟨hd, ?_, ?_⟩⟩, fun d => ?_⟩
    · have d3 : sg_d f (sg_cv (N 70 (sg_rx x.toNat y.toNat))) y.toNat ≤ g y.toNat := d.2.2
      rw [e2] at d3
      omega
    · show sg_cv (N 70 (sg_rx x.toNat y.toNat)) ≠ -1
      rw [e2]
      omega
    · show sg_d f (sg_cv (N 70 (sg_rx x.toNat y.toNat))) y.toNat ≤ g y.toNat
      rw [e2]
      omega
    · rw [e2]
      exact b5
theorem sg_li_y {f g : Nat → Int} {h : Nat → Bool} {t x y z u b v n : Int} {N N' : pz_M} (q : sg_li f g h t N x y) (hf : sg_fg f g n) (hx : 0 ≤ x) (h0 : 0 ≤ y) (hn : y < n) (hz : z = y + 1) (hd : sg_di x.toNat h y.toNat = true) (hb : sg_by f g h N x y u b) (hg : b ≤ g y.toNat) (hv : v = min (N 70 x.toNat) b) (e : N' = pz_u N 70 x.toNat v) : sg_li f g h t N' x z := by
  obtain ⟨q1, q2, q3⟩ := q
  obtain ⟨r1, r2⟩ := sg_D_u hd hb
  have d := r1.mpr hg
  have be := r2 hg
  have sb := sg_d_b (f := f) (t := sg_cv (N 70 (sg_rx x.toNat y.toNat))) (i := y.toNat)
  have fy := hf y.toNat (by omega)
  have a : N' 70 x.toNat = v := by
    rw [e]
    exact pz_uu
  have hb0 : 0 ≤ b ∧ b ≤ 240 := by omega
  have hv9 : 0 ≤ v ∧ v ≤ 240 ∧ ((v = b ∧ b ≤ N 70 x.toNat) ∨ (v = N 70 x.toNat ∧ N 70 x.toNat ≤ b)) := by omega
  rcases q3 with ⟨q3, -⟩ | ⟨q3, q4⟩
  · rw [q3] at hd
    cases hd
  have ne : ∀ i, sg_di x.toNat h i = true → sg_rx x.toNat i ≠ x.toNat := fun i hi => by
    have l := sg_rx_l (sg_di_t.mp hi).1
    omega
  have cg : ∀ i, sg_di x.toNat h i = true → N' 70 (sg_rx x.toNat i) = N 70 (sg_rx x.toNat i) := fun i hi => by
    rw [e]
    exact pz_unk (ne i hi)
  refine ⟨q1, by rw [a]; omega, Or.inr ⟨q3, ?_⟩⟩
  rw [a, sg_cv_n ⟨hv9.1, hv9.2.1⟩]
  have m : sg_mn (sg_D f g (sg_di x.toNat h) (fun i => sg_cv (N 70 (sg_rx x.toNat i)))) (fun i => sg_d f (sg_cv (N 70 (sg_rx x.toNat i))) i) z v := by
    refine sg_mn_y q4 h0 hz d (fun i hi di => ?_) ?_
    · have fi := hf i (by omega)
      have s := sg_d_b (f := f) (t := sg_cv (N 70 (sg_rx x.toNat i))) (i := i)
      show 0 ≤ sg_d f (sg_cv (N 70 (sg_rx x.toNat i))) i
      omega
    · show (v = sg_d f (sg_cv (N 70 (sg_rx x.toNat y.toNat))) y.toNat ∧ (sg_cv (N 70 x.toNat) = -1 ∨ sg_d f (sg_cv (N 70 (sg_rx x.toNat y.toNat))) y.toNat ≤ sg_cv (N 70 x.toNat))) ∨ (v = sg_cv (N 70 x.toNat) ∧ sg_cv (N 70 x.toNat) ≠ -1 ∧ sg_cv (N 70 x.toNat) ≤ sg_d f (sg_cv (N 70 (sg_rx x.toNat y.toNat))) y.toNat)
      rw [← be]
      rcases q2 with c | c
      · rw [c, sg_cv_f]
        rw [c] at hv9
        exact Or.inl ⟨by omega, Or.inl rfl⟩
      · rw [sg_cv_n c]
        omega
  rcases m with ⟨m1, m2⟩ | ⟨⟨i, i1, i2, i3⟩, m2⟩
  · omega
  · refine Or.inr ⟨⟨i, i1, ?_, ?_⟩, fun k k1 k2 => ?_⟩
    · refine ⟨i2.1, ?_, ?_⟩
      · show sg_cv (N' 70 (sg_rx x.toNat i)) ≠ -1
        rw [cg i i2.1]
        exact i2.2.1
      · show sg_d f (sg_cv (N' 70 (sg_rx x.toNat i))) i ≤ g i
        rw [cg i i2.1]
        exact i2.2.2
    · show v = sg_d f (sg_cv (N' 70 (sg_rx x.toNat i))) i
      rw [cg i i2.1]
      exact i3
    · have k3 := k2.2.1
      have k4 := k2.2.2
      have k3 : sg_cv (N' 70 (sg_rx x.toNat k)) ≠ -1 := k3
      have k4 : sg_d f (sg_cv (N' 70 (sg_rx x.toNat k))) k ≤ g k := k4
      show v ≤ sg_d f (sg_cv (N' 70 (sg_rx x.toNat k))) k
      rw [cg k k2.1] at k3 k4 ⊢
      exact m2 k k1 ⟨k2.1, k3, k4⟩
/-- all tried -/
theorem sg_TM_s {f g : Nat → Int} {h : Nat → Bool} {t x y n : Int} {N : pz_M} (q : sg_TM f g h t N x) (q' : sg_li f g h t N x y) (hf : sg_fg f g n) (ht : 0 ≤ t ∧ t ≤ 240) (hx : 0 ≤ x) (hx2 : x < sg_2 n) (hn : 0 ≤ n) (hy : n ≤ y) : sg_TM f g h t N (x + 1) := fun k hk hs => by
  by_cases e : k = x.toNat
  · obtain ⟨q1, q2, q3⟩ := q'
    rw [e]
    refine ⟨q2, ?_⟩
    rcases q3 with ⟨q3, q4⟩ | ⟨q3, q4⟩
    · rw [q4, sg_cv_n ht]
      exact sg_ea_0 ht.1 q3
    · have lt : ∀ i : Nat, sg_di x.toNat h i = true → (i : Int) < n := fun i hi => by
        have := sg_bt_n (sg_2_l (k := x.toNat) (x := x + 1) (n := n) (by omega) (by omega)) (sg_di_t.mp hi).1
        omega
      refine sg_ea_s (n := y) (V := fun i => sg_cv (N 70 (sg_rx x.toNat i))) (fun i hi => (hf i (lt i hi)).1.1) (fun i hi => ?_) q3 (fun i hi => ?_) q4
      · have := lt i hi
        omega
      · rw [← sg_di_rx hi]
        have l := sg_rx_l (sg_di_t.mp hi).1
        exact (q (sg_rx x.toNat i) (by omega) (sg_su_rx q1 hi)).2
  · exact q k (by omega) hs
/-- the others' minute, as it is read -/
theorem sg_by_of {f g : Nat → Int} {h : Nat → Bool} {t x y n w m u b p : Int} {N : pz_M} (q : sg_TM f g h t N x) (q' : sg_su h x.toNat) (hf : sg_fg f g n) (hn : (0 ≤ y ∧ y < n) ∧ n ≤ 12) (hx : 0 ≤ x ∧ x < 4096) (hw : w = (Int32.ofInt 1 <<< (Int32.ofInt y &&& 31)).toInt) (hp : p = (Int32.ofInt w ^^^ Int32.ofInt (-1)).toInt) (hm : m = (Int32.ofInt x &&& Int32.ofInt p).toInt) (hu : u = N 70 m.toNat) {c z : Int} (hc : c = f y.toNat) (hz : (u ≤ z ∧ c ≤ z) ∧ (z = u ∨ z = c)) (hb : b = pz_w (z + 10)) : sg_by f g h N x y u b := fun hd => by
  have z9 := pz_sb_an (sg_zs hx.1 hx.2) (pz_sb_1 hn.1.1 (by omega)) (by rw [← hw]; exact hp) hm
  have s := sg_zs_b z9
  have e : m.toNat = sg_rx x.toNat y.toNat := Nat.eq_of_testBit_eq fun k => by
    have a : sg_bt m.toNat k = _ := congrFun s k
    have b := congrFun (sg_rx_b (sg_di_t.mp hd).1) k
    show sg_bt m.toNat k = sg_bt (sg_rx x.toNat y.toNat) k
    rw [a, b]
    show (sg_bt x.toNat k && !decide (y.toNat = k)) = (sg_bt x.toNat k && !decide (k = y.toNat))
    by_cases r : k = y.toNat
    · rw [r]
    · rw [decide_eq_false r, decide_eq_false (fun z => r z.symm)]
  rw [e] at hu
  have l := sg_rx_l (sg_di_t.mp hd).1
  have t1 := q (sg_rx x.toNat y.toNat) (by omega) (sg_su_rx q' hd)
  rw [← hu] at t1
  have fy := hf y.toNat (by omega)
  have t2 := t1.1
  rw [pz_wi (by omega) (by omega)] at hb
  refine ⟨t2, hu, fun c9 => by omega, fun c9 => ?_⟩
  have sb : sg_d f u y.toNat = max u (f y.toNat) + 10 := rfl
  omega
/-- how many at most -/
def sg_mm (N : pz_M) (x b : Int) : Prop := ∀ (f g : Nat → Int) (n : Int), sg_TM f g (fun _ => false) 0 N (sg_2 n) → x ≤ sg_2 n → (b = 0 ∧ x = 0) ∨ ((∃ k : Nat, (k : Int) < x ∧ (∃ B, sg_fe f g B 0 (sg_bt k)) ∧ b = pz_cnt (sg_bt k) 12) ∧ ∀ k : Nat, (k : Int) < x → (∃ B, sg_fe f g B 0 (sg_bt k)) → pz_cnt (sg_bt k) 12 ≤ b)
theorem sg_mm_0 {N : pz_M} : sg_mm N 0 0 := fun _ _ _ _ _ => Or.inl ⟨rfl, rfl⟩
theorem sg_di_e {k : Nat} : sg_di k (fun _ => false) = sg_bt k := funext fun i => Bool.and_true _
theorem sg_mm_s {N : pz_M} {x y b b' v c : Int} (h : sg_mm N x b) (hx : 0 ≤ x) (hy : y = x + 1) (hv : v = N 70 x.toNat) (hc : v < 1000000000 → c = pz_cnt (sg_bt x.toNat) 12 ∧ (b ≤ b' ∧ c ≤ b') ∧ (b' = b ∨ b' = c)) (hn : ¬ v < 1000000000 → b' = b) : sg_mm N y b' := fun f g n t l => by
  have z := t x.toNat (by omega) (fun i hi => by cases hi)
  rw [sg_di_e, ← hv] at z
  have fe : (∃ B, sg_fe f g B 0 (sg_bt x.toNat)) ↔ v < 1000000000 := by
    constructor
    · rintro ⟨B, q⟩
      have q1 := ((z.2.2 B).mp q).1
      rcases z.1 with c9 | c9
      · rw [c9, sg_cv_f] at q1
        exact absurd rfl q1
      · omega
    · intro q
      have c9 : 0 ≤ v ∧ v ≤ 240 := by
        rcases z.1 with c9 | c9
        · omega
        · exact c9
      refine ⟨v, (z.2.2 v).mpr ?_⟩
      rw [sg_cv_n c9]
      omega
  have p := pz_cnt_b (f := sg_bt x.toNat) 12
  rcases h f g n t (by omega) with ⟨h1, h2⟩ | ⟨⟨k, k1, k2, k3⟩, k4⟩
  · by_cases q : v < 1000000000
    · obtain ⟨c1, c2, c3⟩ := hc q
      refine Or.inr ⟨⟨x.toNat, by omega, fe.mpr q, by omega⟩, fun k hk _ => ?_⟩
      rw [show k = x.toNat by omega]
      omega
    · have e := fe
      exfalso
      have s0 : sg_ea f g 0 (sg_bt x.toNat) 0 := sg_ea_0 (by decide) (by
        rw [show x.toNat = 0 by omega]
        exact sg_bt_0)
      exact q (fe.mp ⟨0, (s0.2 0).mpr ⟨by decide, Int.le_refl _⟩⟩)
  · by_cases q : v < 1000000000
    · obtain ⟨c1, c2, c3⟩ := hc q
      refine Or.inr ⟨?_, fun l hl hf => ?_⟩
      · rcases c3 with c3 | c3
        · exact ⟨k, by omega, k2, by omega⟩
        · exact ⟨x.toNat, by omega, fe.mpr q, by omega⟩
      · by_cases r : l = x.toNat
        · rw [r]
          omega
        · have u := k4 l (by omega) hf
          omega
    · have e := hn q
      refine Or.inr ⟨⟨k, by omega, k2, by omega⟩, fun l hl hf => ?_⟩
      by_cases r : l = x.toNat
      · rw [r] at hf
        exact absurd (fe.mp hf) q
      · have u := k4 l (by omega) hf
        omega
theorem sg_mm_z {N : pz_M} {f g : Nat → Int} {n x b : Int} (h : sg_mm N x b) (t : sg_TM f g (fun _ => false) 0 N (sg_2 n)) (hn : n ≤ 12) (hx : x = sg_2 n) : sg_most f g n.toNat b := by
  have p := sg_2_b hn
  rcases h f g n t (by omega) with ⟨-, h2⟩ | ⟨⟨k, k1, k2, k3⟩, k4⟩
  · omega
  · exact ⟨⟨k, sg_2_l k1 (by omega), k2, k3⟩, fun l l1 l2 => k4 l (by have := sg_2_i l1; omega) l2⟩
/-! the next one -/
def sg_sn (n : Nat) (h : Nat → Bool) : Nat → Bool := fun k => decide (k < n) && !h k
theorem sg_sn_t {n k : Nat} {h : Nat → Bool} : sg_sn n h k = true ↔ k < n ∧ h k = false := by
  show (decide (k < n) && !h k) = true ↔ _
  by_cases q : k < n
  · rw [decide_eq_true q, Bool.true_and]
    cases h k with
    | true => exact ⟨fun z => absurd z (by decide), fun z => absurd z.2 (by decide)⟩
    | false => exact ⟨fun _ => ⟨q, rfl⟩, fun _ => rfl⟩
  · rw [decide_eq_false q, Bool.false_and]
    exact ⟨fun z => absurd z (by decide), fun z => absurd z.1 q⟩
theorem sg_sn_rm {n i : Nat} {h : Nat → Bool} : sg_sn n (fun k => h k || decide (i = k)) = sg_rm (sg_sn n h) i := funext fun k => by
  show (decide (k < n) && !(h k || decide (i = k))) = ((decide (k < n) && !h k) && !decide (k = i))
  by_cases q : i = k
  · rw [decide_eq_true q, decide_eq_true q.symm, Bool.or_true]
    cases decide (k < n) <;> cases h k <;> rfl
  · rw [decide_eq_false q, decide_eq_false (show ¬ k = i from fun z => q z.symm), Bool.or_false]
    exact (Bool.and_true _).symm
theorem sg_di_all {n x : Int} {h : Nat → Bool} (hx : x = sg_2 n - 1) : sg_di x.toNat h = sg_sn n.toNat h := funext fun k => by
  show (sg_bt x.toNat k && !h k) = (sg_S n.toNat k && !h k)
  rw [sg_2_all hx]
/-- whom laysSigns asks of -/
theorem sg_nq_m {f g : Nat → Int} {n x t z v d : Int} {h : Nat → Bool} {i : Nat} (hb : ∀ B, sg_fe f g B t (sg_sn n.toNat h) → z ≤ B) (hz : 0 ≤ z ∧ z ≤ 240) (hx : x = sg_2 n - 1) (hi : sg_sn n.toNat h i = true) (hd : d = sg_d f t i) (hg : d ≤ g i) (hv : sg_em f g d (sg_di x.toNat (fun k => h k || decide (i = k))) v) : v = z ↔ sg_nq f g z t (sg_sn n.toNat h) i := by
  rw [sg_di_all hx, sg_sn_rm, hd] at hv
  obtain ⟨v1, v2, v3⟩ := hv
  rw [hd] at hg
  constructor
  · intro e
    refine ⟨hi, hg, (v3 z).mpr ?_⟩
    rw [e, sg_cv_n hz]
    omega
  · intro q
    have w := (v3 z).mp q.2.2
    have c : 0 ≤ v ∧ v ≤ 240 := by
      rcases v1 with c | c
      · rw [c, sg_cv_f] at w
        exact absurd rfl w.1
      · exact c
    rw [sg_cv_n c] at w v3
    have y := hb v (sg_fe_f.mpr (Or.inr ⟨i, hi, hg, (v3 v).mpr ⟨by omega, Int.le_refl _⟩⟩))
    omega
/-! the whole -/
def sg_wm (f g : Nat → Int) (n : Int) (E p t : Int) (h : Nat → Bool) (x : Int) : Prop := ∃ o : Nat → Nat, (0 ≤ p ∧ p ≤ n) ∧ sg_oq f g n.toNat E o p.toNat ∧ (t = sg_tm f o p.toNat ∧ 0 ≤ t ∧ t ≤ 240) ∧ sg_sn n.toNat h = sg_rs n.toNat o p.toNat ∧ sg_fe f g E t (sg_sn n.toNat h) ∧ pz_cnt (sg_sn n.toNat h) 12 = n - p ∧ (∀ B, sg_fe f g B t (sg_sn n.toNat h) → E ≤ B) ∧ (0 < p → x = (o (p.toNat - 1) : Int)) ∧ ∀ k, h k = true → k < n.toNat
theorem sg_sn_0 {n : Nat} : sg_sn n (fun _ => false) = sg_S n := funext fun k => Bool.and_true _
theorem sg_wm_0 {f g : Nat → Int} {n E x : Int} (hn : 0 ≤ n ∧ n ≤ 12) (h : sg_ea f g 0 (sg_S n.toNat) E) (hE : E ≠ -1) : sg_wm f g n E 0 0 (fun _ => false) x := by
  refine ⟨fun _ => 0, by omega, fun q hq => absurd hq (Nat.not_lt_zero _), ⟨rfl, by decide, by decide⟩, sg_sn_0, ?_, ?_, fun B hB => ?_, fun q => absurd q (by decide), fun k hk => by cases hk⟩
  · rw [sg_sn_0]
    exact (h.2 E).mpr ⟨hE, Int.le_refl _⟩
  · rw [sg_sn_0, sg_cnt_S 12 (by omega)]
    omega
  · rw [sg_sn_0] at hB
    exact ((h.2 B).mp hB).2
theorem sg_wm_ne {f g : Nat → Int} {n E p t x : Int} {h : Nat → Bool} (q : sg_wm f g n E p t h x) (hp : p < n) : ∃ i : Nat, (i : Int) < n ∧ sg_nq f g E t (sg_sn n.toNat h) i := by
  obtain ⟨o, h1, -, -, h4, h5, h6, -⟩ := q
  obtain ⟨i, hi⟩ := sg_fe_nq h5 (sg_cnt_ne 12 (by omega))
  have l := (sg_sn_t.mp hi.1).1
  exact ⟨i, by omega, hi⟩
theorem sg_wm_s {f g : Nat → Int} {n E p t x d v p' : Int} {h h' : Nat → Bool} (q : sg_wm f g n E p t h x) (hn : n ≤ 12) (hp : p < n) (hv : 0 ≤ v) (y : sg_nx f g E t (sg_sn n.toNat h) v.toNat) (hd : d = sg_d f t v.toNat) (hg : g v.toNat ≤ 240) (hh : ∀ k, h' k = (h k || decide (v.toNat = k))) (hp' : p' = p + 1) : sg_wm f g n E p' d h' v := by
  obtain ⟨o, h1, h2, ⟨h3, h8, -⟩, h4, h5, h6, h7, -, h9⟩ := q
  have hh2 : h' = fun k => h k || decide (v.toNat = k) := funext hh
  have p1 : p'.toNat = p.toNat + 1 := by omega
  have s : sg_sn n.toNat h' = sg_rm (sg_sn n.toNat h) v.toNat := by
    rw [hh2]
    exact sg_sn_rm
  have y1 := y.1.1
  have y2 := y.1.2.1
  have yl := (sg_sn_t.mp y1).1
  have b := sg_d_b (f := f) (t := t) (i := v.toNat)
  obtain ⟨o', ho⟩ : ∃ o' : Nat → Nat, o' = fun r => if r = p.toNat then v.toNat else o r := ⟨_, rfl⟩
  have o1 : ∀ r, r < p.toNat → o r = o' r := fun r hr => by
    rw [ho]
    exact (if_neg (by omega)).symm
  have o2 : o' p.toNat = v.toNat := by
    rw [ho]
    exact if_pos rfl
  have t1 := sg_tm_cg (f := f) p.toNat o1
  have t2 := sg_rs_cg (n := n.toNat) p.toNat o1
  refine ⟨o', by omega, ?_, ⟨?_, by omega, by omega⟩, ?_, ?_, ?_, fun B hB => ?_, fun _ => ?_, fun k hk => ?_⟩
  · rw [p1]
    refine sg_oq_s (sg_oq_cg h2 o1) ?_
    rw [← t1, ← t2, ← h3, ← h4, o2]
    exact y
  · rw [p1]
    show d = sg_d f (sg_tm f o' p.toNat) (o' p.toNat)
    rw [← t1, ← h3, o2]
    exact hd
  · rw [p1, s, h4, t2]
    show _ = sg_rm (sg_rs n.toNat o' p.toNat) (o' p.toNat)
    rw [o2]
  · rw [s, hd]
    exact y.1.2.2
  · rw [s, sg_cnt_rm y1, h6, if_pos (by omega)]
    omega
  · rw [s, hd] at hB
    exact h7 B (sg_fe_f.mpr (Or.inr ⟨v.toNat, y1, y2, hB⟩))
  · rw [p1, Nat.add_sub_cancel, o2]
    omega
  · rw [hh] at hk
    cases q : h k with
    | true => exact h9 k q
    | false =>
      rw [q, Bool.false_or] at hk
      have e := of_decide_eq_true hk
      omega
/-- the answer -/
def sg_mv (f g : Nat → Int) (n w v : Int) : Prop := (w = 1 → sg_most f g n.toNat v) ∧ (w = 0 → sg_ea f g 0 (sg_S n.toNat) v) ∧ (10 ≤ w ∧ w < 10 + n → (v = -1 ∧ sg_ea f g 0 (sg_S n.toNat) (-1)) ∨ ∃ (E : Int) (o : Nat → Nat), sg_ea f g 0 (sg_S n.toNat) E ∧ E ≠ -1 ∧ sg_oq f g n.toNat E o ((w - 10).toNat + 1) ∧ v = (o (w - 10).toNat : Int)) ∧ (¬ (w = 0 ∨ w = 1 ∨ (10 ≤ w ∧ w < 10 + n)) → v = -1)
theorem sg_mv_e {f g : Nat → Int} {n w v v' : Int} {N : pz_M} (hn : n ≤ 12) (h : sg_tc N f g n) (q : sg_vw N w v) (q' : sg_mv f g n w v') : v = v' := by
  obtain ⟨h1, h2, h3, h4⟩ := h
  obtain ⟨a1, a2, a3, a4⟩ := q
  obtain ⟨b1, b2, b3, b4⟩ := q'
  by_cases c1 : w = 1
  · exact (a1 c1).trans (sg_most_u h3 (b1 c1))
  by_cases c0 : w = 0
  · exact (a2 c0).trans (sg_ea_u h2 (b2 c0))
  by_cases c2 : 10 ≤ w ∧ w < 10 + n
  · have a := a3 (by omega)
    rcases b3 c2 with ⟨d1, d2⟩ | ⟨E, o, d1, d2, d3, d4⟩
    · have e := sg_ea_u h2 d2
      rw [if_neg (fun z => z.1 e)] at a
      exact a.trans d1.symm
    · have e := sg_ea_u h2 d1
      obtain ⟨f1, f2⟩ := h4 (by omega)
      rw [if_pos ⟨by omega, by omega, by omega⟩] at a
      rw [e] at f2
      have u := sg_oq_u f2 d3 (w - 10).toNat (by omega) (by omega)
      have p := f1 (w - 10).toNat (by omega)
      unfold sg_on at u
      omega
  · rw [b4 (by omega)]
    by_cases c3 : 10 ≤ w ∧ w ≤ 21
    · rw [a3 c3, if_neg (fun z => by omega)]
    · exact a4 (by omega)
theorem sg_TM_a {f g : Nat → Int} {N : pz_M} {n x : Int} (t : sg_TM f g (fun _ => false) 0 N (sg_2 n)) (hn : n ≤ 12) (hx : x = sg_2 n - 1) : sg_em f g 0 (sg_S n.toNat) (N 70 x.toNat) := by
  have p := sg_2_b hn
  have z := t x.toNat (by omega) (fun i hi => by cases hi)
  rw [sg_di_e, sg_2_all hx] at z
  exact z
theorem sg_mv_f {f g : Nat → Int} {n w : Int} (he : sg_ea f g 0 (sg_S n.toNat) (-1)) (h1 : w ≠ 1) : sg_mv f g n w (-1) := ⟨fun c => absurd c h1, fun _ => he, fun _ => Or.inl ⟨rfl, he⟩, fun _ => rfl⟩
theorem sg_mv_o {f g : Nat → Int} {n w : Int} (h : ¬ (w = 0 ∨ w = 1 ∨ (10 ≤ w ∧ w < 10 + n))) : sg_mv f g n w (-1) := ⟨fun c => absurd (Or.inr (Or.inl c)) h, fun c => absurd (Or.inl c) h, fun c => absurd (Or.inr (Or.inr c)) h, fun _ => rfl⟩
theorem sg_mv_1 {f g : Nat → Int} {n w v : Int} (hw : w = 1) (h : sg_most f g n.toNat v) : sg_mv f g n w v := ⟨fun _ => h, fun c => by omega, fun c => by omega, fun c => absurd (Or.inr (Or.inl hw)) c⟩
theorem sg_mv_0 {f g : Nat → Int} {n w v : Int} (hw : w = 0) (h : sg_ea f g 0 (sg_S n.toNat) v) : sg_mv f g n w v := ⟨fun c => by omega, fun _ => h, fun c => by omega, fun c => absurd (Or.inl hw) c⟩
theorem sg_wm_v {f g : Nat → Int} {n w E p t x : Int} {h : Nat → Bool} (q : sg_wm f g n E p t h x) (he : sg_ea f g 0 (sg_S n.toNat) E) (hE : E ≠ -1) (hp : p = w - 10 + 1) (hw : 10 ≤ w ∧ w < 10 + n) : sg_mv f g n w x := by
  obtain ⟨o, h1, h2, -, -, -, -, -, h3, -⟩ := q
  have p1 : p.toNat = (w - 10).toNat + 1 := by omega
  rw [p1] at h2
  refine ⟨fun c => by omega, fun c => by omega, fun _ => Or.inr ⟨E, o, he, hE, h2, ?_⟩, fun c => absurd (Or.inr (Or.inr hw)) c⟩
  rw [h3 (by omega), p1, Nat.add_sub_cancel]
theorem sg_su_a {n x : Int} {h : Nat → Bool} {i : Nat} (hx : x = sg_2 n - 1) (hh : ∀ k, h k = true → k < n.toNat) (hi : i < n.toNat) : sg_su (fun k => h k || decide (i = k)) x.toNat := fun k hk => by
  rw [sg_2_all hx]
  have hk : (h k || decide (i = k)) = true := hk
  cases q : h k with
  | true => exact sg_S_t.mpr (hh k q)
  | false =>
    rw [q, Bool.false_or] at hk
    have e := of_decide_eq_true hk
    exact sg_S_t.mpr (by omega)
