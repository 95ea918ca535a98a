/-! what only looks -/
def sd_wc (M : pz_M) (v : Int) (f : List pz_lne → (Nat → Int) → Int) : Prop := ∀ (ls : List pz_lne) (l1 : List (List Int)) (F : Nat → Int), sd_tx M ls l1 → sd_se M 71 F → sd_wf F → v = f ls F
def sd_wm (M : pz_M) (v : Int) (f : List pz_lne → (Nat → Int) → Int) : Prop := ∀ ls : List pz_lne, pq_wlw ls (M 60) → (∀ q ∈ ls, pv_ln q) → sd_wf (M 60) → v = f ls (M 60)
theorem pz_RZ_w {M M1 : pz_M} {v v' : Int} {f : List pz_lne → (Nat → Int) → Int} (h : pz_RZ M) (z : pq_pr pq_Pk M M1) (q : sd_wc M v f) (q' : sd_wm M1 v' f) : v = v' := by
  obtain ⟨-, ⟨h2, -, h4⟩, h5, -⟩ := h.2
  obtain ⟨ls, l1, t1, t2⟩ := sd_LQ_x h5
  have w : M1 60 = M 60 := funext fun j => z.2 60 j (by unfold pq_Pk pq_Pw; omega)
  have b := q' ls (by rw [w]; exact t2.1) t2.2.1 (by rw [w]; exact h4)
  rw [w] at b
  exact (q ls l1 (M 60) t1 h2 h4).trans b.symm
theorem pz_RZ_w0 {M : pz_M} {v v' : Int} {f : List pz_lne → (Nat → Int) → Int} (h : pz_RZ M) (q : sd_wc M v f) (q' : sd_wm M v' f) : v = v' := pz_RZ_w h ⟨id, fun _ _ _ => rfl⟩ q q'
theorem sd_tx_k {ls : List pz_lne} {l1 : List (List Int)} {M N : pz_M} (h : sd_tx M ls l1) (hs : pq_pr pq_Pk M N) : sd_tx N ls l1 := sd_tx_cg h (fun b j q => hs.2 b j (by unfold pq_Pk pq_Pw; omega))
theorem sd_se_k {M N : pz_M} {F : Nat → Int} (h : sd_se M 71 F) (hW : sd_wf F) (hs : pq_pr pq_Pk M N) : sd_se N 71 F := sd_se_cg h (fun b j q => hs.2 b j (by unfold pz_lb at q; unfold pq_Pk pq_Pw; omega)) (by have := hW.1; omega)
def sd_of (ls : List pz_lne) (F : Nat → Int) (i w : Int) : Int := if 0 ≤ i ∧ i < F 88 then (if w = 0 then F (4 + i.toNat) else if w = 1 then F (16 + i.toNat) else if w = 2 then F (28 + i.toNat) else if w = 3 then F (93 + i.toNat) else if w = 4 then F (40 + i.toNat) else if w = 5 then F (52 + i.toNat) else if w = 6 then F (64 + i.toNat) else if w = 7 then F (76 + i.toNat) else if w = 8 then sd_rd ls F i.toNat else if w = 9 then sd_le ls F i.toNat else if w = 10 then sd_gv ls F i.toNat else if w = 11 then sd_co ls F i.toNat else if w = 12 then (if sd_py F i.toNat then 1 else 0) else if w = 13 then sd_lk F i.toNat else -100000) else -100000
def sd_gap (F : Nat → Int) (i : Int) : Int := if 0 ≤ i ∧ i < F 88 then sd_lm F i.toNat else -1
/-- SLOWEST -/
def sd_slo (ls : List pz_lne) (F : Nat → Int) : Nat → Nat → Int → Int
  | 0, _, b => b
  | m + 1, i, b => sd_slo ls F m (i + 1) (if F (76 + i) = -1 ∧ (b = -1 ∨ sd_rd ls F i < sd_rd ls F b.toNat) then (i : Int) else b)
def sd_slI (M : pz_M) (b l x : Int) : Prop := ∀ (ls : List pz_lne) (l1 : List (List Int)) (F : Nat → Int), sd_tx M ls l1 → sd_se M 71 F → sd_wf F → x ≤ F 88 ∧ (b = -1 ∨ (0 ≤ b ∧ b < F 88 ∧ l = sd_rd ls F b.toNat)) ∧ sd_slo ls F (sd_n F - x.toNat) x.toNat b = sd_slo ls F (sd_n F) 0 (-1)
theorem sd_slI_0 {M : pz_M} : sd_slI M (-1) 0 0 := fun ls l1 F _ _ w => ⟨w.1.1, Or.inl rfl, rfl⟩
theorem sd_slI_s {M : pz_M} {b l x y b' l' : Int} (h : sd_slI M b l x) (h0 : 0 ≤ x) (hx : x < M 71 3) (hy : y = x + 1) (u : ∀ (ls : List pz_lne) (l1 : List (List Int)) (F : Nat → Int), sd_tx M ls l1 → sd_se M 71 F → sd_wf F → (F (76 + x.toNat) = -1 ∧ (b = -1 ∨ sd_rd ls F x.toNat < l) ∧ b' = x ∧ l' = sd_rd ls F x.toNat) ∨ (¬ (F (76 + x.toNat) = -1 ∧ (b = -1 ∨ sd_rd ls F x.toNat < l)) ∧ b' = b ∧ l' = l)) : sd_slI M b' l' y := fun ls l1 F t s w => by
  obtain ⟨h1, h2, h3⟩ := h ls l1 F t s w
  have n9 := s.1
  have k9 := sd_n_i w
  rw [show sd_n F - x.toNat = (sd_n F - y.toNat) + 1 by omega] at h3
  have h3 : sd_slo ls F (sd_n F - y.toNat) (x.toNat + 1) (if F (76 + x.toNat) = -1 ∧ (b = -1 ∨ sd_rd ls F x.toNat < sd_rd ls F b.toNat) then (x.toNat : Int) else b) = _ := h3
  rw [show x.toNat + 1 = y.toNat by omega] at h3
  rcases u ls l1 F t s w with ⟨u1, u2, u3, u4⟩ | ⟨u1, u2, u3⟩
  · rw [if_pos ⟨u1, by rcases h2 with z | ⟨z1, z2, z3⟩ <;> omega⟩] at h3
    exact ⟨by omega, Or.inr ⟨by omega, by omega, by rw [u4, u3]⟩, by rw [u3, ← h3, show ((x.toNat : Nat) : Int) = x by omega]⟩
  · rw [if_neg (fun z => u1 ⟨z.1, by rcases h2 with q | ⟨q1, q2, q3⟩ <;> omega⟩)] at h3
    exact ⟨by omega, by rw [u2, u3]; exact h2, by rw [u2]; exact h3⟩
theorem sd_slI_z {M : pz_M} {b l x : Int} (h : sd_slI M b l x) (h0 : 0 ≤ x) (hx : ¬ x < M 71 3) : sd_wc M b (fun ls F => sd_slo ls F (sd_n F) 0 (-1)) := fun ls l1 F t s w => by
  obtain ⟨h1, h2, h3⟩ := h ls l1 F t s w
  have n9 := s.1
  have k9 := sd_n_i w
  rw [show sd_n F - x.toNat = 0 by omega] at h3
  exact h3
def sd_slM (M : pz_M) (b x : Int) : Prop := ∀ ls : List pz_lne, pq_wlw ls (M 60) → (∀ q ∈ ls, pv_ln q) → sd_wf (M 60) → sd_slo ls (M 60) (sd_n (M 60) - x.toNat) x.toNat b = sd_slo ls (M 60) (sd_n (M 60)) 0 (-1)
theorem sd_slM_s {M : pz_M} {b x y b' : Int} (h : sd_slM M b x) (h0 : 0 ≤ x) (hx : x < M 60 88) (hy : y = x + 1) (u : ∀ ls : List pz_lne, pq_wlw ls (M 60) → (∀ q ∈ ls, pv_ln q) → (M 60 (76 + x.toNat) = -1 ∧ (b = -1 ∨ sd_rd ls (M 60) x.toNat < sd_rd ls (M 60) b.toNat) ∧ b' = x) ∨ (¬ (M 60 (76 + x.toNat) = -1 ∧ (b = -1 ∨ sd_rd ls (M 60) x.toNat < sd_rd ls (M 60) b.toNat)) ∧ b' = b)) : sd_slM M b' y := fun ls hl hq w => by
  have h3 := h ls hl hq w
  have k9 := sd_n_i w
  rw [show sd_n (M 60) - x.toNat = (sd_n (M 60) - y.toNat) + 1 by omega] at h3
  have h3 : sd_slo ls (M 60) (sd_n (M 60) - y.toNat) (x.toNat + 1) (if M 60 (76 + x.toNat) = -1 ∧ (b = -1 ∨ sd_rd ls (M 60) x.toNat < sd_rd ls (M 60) b.toNat) then (x.toNat : Int) else b) = _ := h3
  rw [show x.toNat + 1 = y.toNat by omega] at h3
  rcases u ls hl hq with ⟨u1, u2, u3⟩ | ⟨u1, u2⟩
  · rw [if_pos ⟨u1, u2⟩] at h3
    rw [u3, ← h3, show ((x.toNat : Nat) : Int) = x by omega]
  · rw [if_neg u1] at h3
    rw [u2]
    exact h3
theorem sd_slM_z {M : pz_M} {b x : Int} (h : sd_slM M b x) (h0 : 0 ≤ x) (hx : ¬ x < M 60 88) : sd_wm M b (fun ls F => sd_slo ls F (sd_n F) 0 (-1)) := fun ls hl hq w => by
  have h3 := h ls hl hq w
  have k9 := sd_n_i w
  rw [show sd_n (M 60) - x.toNat = 0 by omega] at h3
  exact h3
/-- ALONG -/
def sd_alx (ls : List pz_lne) (F : Nat → Int) (i : Nat) (l : Int) : Int := if sd_in F i then min l (sd_gv ls F i) else 0
def sd_alo (ls : List pz_lne) (F : Nat → Int) : Nat → Nat → Int → Int → Int × Int
  | 0, _, l, g => (l, g)
  | m + 1, i, l, g => sd_alo ls F m (i + 1) (l - sd_alx ls F i l) (if 0 < sd_alx ls F i l then g + 1 else g)
def sd_alv (ls : List pz_lne) (F : Nat → Int) (i n w : Int) : Int := if (0 ≤ i ∧ i < F 88) ∧ (0 ≤ n ∧ n ≤ 999) ∧ 0 ≤ w ∧ w ≤ 1 then (if w = 0 then (sd_alo ls F (sd_n F - i.toNat) i.toNat n 0).1 else (sd_alo ls F (sd_n F - i.toNat) i.toNat n 0).2) else -1
def sd_alE (ls : List pz_lne) (F : Nat → Int) (i n l g x : Int) : Prop := i ≤ x ∧ x ≤ F 88 ∧ sd_alo ls F (sd_n F - x.toNat) x.toNat l g = sd_alo ls F (sd_n F - i.toNat) i.toNat n 0
theorem sd_alE_s {ls : List pz_lne} {F : Nat → Int} {i n l g x y l' g' : Int} (h : sd_alE ls F i n l g x) (w : sd_wf F) (h0 : 0 ≤ i) (hx : x < F 88) (hy : y = x + 1) (hl : l' = l - sd_alx ls F x.toNat l) (hg : g' = if 0 < sd_alx ls F x.toNat l then g + 1 else g) : sd_alE ls F i n l' g' y := by
  obtain ⟨h1, h2, h3⟩ := h
  have k9 := sd_n_i w
  rw [show sd_n F - x.toNat = (sd_n F - y.toNat) + 1 by omega] at h3
  have h3 : sd_alo ls F (sd_n F - y.toNat) (x.toNat + 1) (l - sd_alx ls F x.toNat l) (if 0 < sd_alx ls F x.toNat l then g + 1 else g) = _ := h3
  rw [show x.toNat + 1 = y.toNat by omega, ← hl, ← hg] at h3
  exact ⟨by omega, by omega, h3⟩
theorem sd_alE_z {ls : List pz_lne} {F : Nat → Int} {i n l g x : Int} (h : sd_alE ls F i n l g x) (w : sd_wf F) (hx : ¬ x < F 88) : (l, g) = sd_alo ls F (sd_n F - i.toNat) i.toNat n 0 := by
  obtain ⟨h1, h2, h3⟩ := h
  have k9 := sd_n_i w
  rw [show sd_n F - x.toNat = 0 by omega] at h3
  exact h3
def sd_alI (M : pz_M) (i n l g x : Int) : Prop := ∀ (ls : List pz_lne) (l1 : List (List Int)) (F : Nat → Int), sd_tx M ls l1 → sd_se M 71 F → sd_wf F → sd_alE ls F i n l g x
def sd_alM (M : pz_M) (i n l g x : Int) : Prop := ∀ ls : List pz_lne, pq_wlw ls (M 60) → (∀ q ∈ ls, pv_ln q) → sd_wf (M 60) → sd_alE ls (M 60) i n l g x
/-- CHOICE -/
def sd_chp (ls : List pz_lne) (F : Nat → Int) (i : Nat) (n p : Int) : Int := pz_w (pz_w (pz_w (p * F (28 + i)) + pz_w ((1000 - p) * max 0 (F (28 + i) - n))) / 1000 - sd_co ls F i)
def sd_chw (ls : List pz_lne) (F : Nat → Int) (i : Nat) (n p : Int) : Int × Int := if (if F (28 + i) - n < sd_chp ls F i n p then sd_chp ls F i n p else F (28 + i) - n) < 0 then (2, 0) else if F (28 + i) - n < sd_chp ls F i n p then (1, sd_chp ls F i n p) else (0, F (28 + i) - n)
def sd_chv (ls : List pz_lne) (F : Nat → Int) (i n p w : Int) : Int := if (0 ≤ i ∧ i < F 88) ∧ (0 ≤ n ∧ n ≤ 999) ∧ (0 ≤ p ∧ p ≤ 1000) ∧ 0 ≤ w ∧ w ≤ 1 then (if w = 0 then (sd_chw ls F i.toNat n p).1 else (sd_chw ls F i.toNat n p).2) else -100000
theorem sd_dw {x q : Int} (hx : -2147483648 ≤ x ∧ x ≤ 2147483647) (h : (0 ≤ x ∧ q = pz_w (x.tdiv 1000)) ∨ (pz_w (x.tmod 1000) = 0 ∧ q = pz_w (x.tdiv 1000)) ∨ (x < 0 ∧ pz_w (x.tmod 1000) ≠ 0 ∧ q = pz_w (pz_w (x.tdiv 1000) - 1))) : q = x / 1000 := by
  have t := @Int.tdiv_eq_ediv x 1000
  have m := Int.tmod_def x 1000
  by_cases d : 0 ≤ x ∨ (1000 : Int) ∣ x
  · rw [if_pos d] at t
    rw [t] at m
    have dm : 0 ≤ x ∨ x % 1000 = 0 := d.imp id (fun z => Int.emod_eq_zero_of_dvd z)
    rw [m, t, pz_wi (z := x / 1000 + 0) (by omega) (by omega), pz_wi (z := x - 1000 * (x / 1000 + 0)) (by omega) (by omega)] at h
    rcases h with ⟨a, b⟩ | ⟨a, b⟩ | ⟨a, b, c⟩
    · omega
    · omega
    · omega
  · rw [if_neg d] at t
    have s : (1000 : Int).sign = 1 := rfl
    rw [s] at t
    rw [t] at m
    have d1 : x < 0 := Int.not_le.mp (fun z => d (Or.inl z))
    have d2 : x % 1000 ≠ 0 := fun z => d (Or.inr (Int.dvd_of_emod_eq_zero z))
    rw [m, t, pz_wi (z := x / 1000 + 1) (by omega) (by omega), pz_wi (z := x - 1000 * (x / 1000 + 1)) (by omega) (by omega)] at h
    rcases h with ⟨a, b⟩ | ⟨a, b⟩ | ⟨a, b, c⟩
    · omega
    · omega
    · rw [pz_wi (by omega) (by omega)] at c
      omega
/-- RUNS -/
abbrev sd_fi (F : Nat → Int) (i : Nat) : Prop := sd_in F i ∧ sd_py F i
def sd_rns (F : Nat → Int) : Nat → Nat → Int → Int → Int → Int → Int × Int × Int
  | 0, _, _, lo, fi, po => (lo, fi, po)
  | m + 1, i, r, lo, fi, po => sd_rns F m (i + 1) (if sd_fi F i then r + 1 else 0) (if lo < (if sd_fi F i then r + 1 else 0) then (if sd_fi F i then r + 1 else 0) else lo) (if lo < (if sd_fi F i then r + 1 else 0) then (i : Int) - (if sd_fi F i then r + 1 else 0) + 1 else fi) (if sd_fi F i ∧ (po = -1 ∨ F (16 + i) < F (16 + po.toNat)) then (i : Int) else po)
def sd_rnv (F : Nat → Int) (w : Int) : Int := if w = 0 then (sd_rns F (sd_n F) 0 0 0 (-1) (-1)).1 else if w = 1 then (sd_rns F (sd_n F) 0 0 0 (-1) (-1)).2.1 else if w = 2 then (sd_rns F (sd_n F) 0 0 0 (-1) (-1)).2.2 else -1
def sd_rnE (F : Nat → Int) (r lo fi po x : Int) : Prop := (0 ≤ r ∧ x ≤ F 88) ∧ (po = -1 ∨ (0 ≤ po ∧ po < F 88)) ∧ sd_rns F (sd_n F - x.toNat) x.toNat r lo fi po = sd_rns F (sd_n F) 0 0 0 (-1) (-1)
theorem sd_rnE_s {F : Nat → Int} {r lo fi po x y r' lo' fi' po' : Int} (h : sd_rnE F r lo fi po x) (w : sd_wf F) (h0 : 0 ≤ x) (hx : x < F 88) (hy : y = x + 1) (hr : r' = if sd_fi F x.toNat then r + 1 else 0) (hl : (lo < r' ∧ lo' = r' ∧ fi' = x - r' + 1) ∨ (¬ lo < r' ∧ lo' = lo ∧ fi' = fi)) (hp : (sd_fi F x.toNat ∧ (po = -1 ∨ F (16 + x.toNat) < F (16 + po.toNat)) ∧ po' = x) ∨ (¬ (sd_fi F x.toNat ∧ (po = -1 ∨ F (16 + x.toNat) < F (16 + po.toNat))) ∧ po' = po)) : sd_rnE F r' lo' fi' po' y := by
  obtain ⟨h1, h2, h3⟩ := h
  have k9 := sd_n_i w
  rw [show sd_n F - x.toNat = (sd_n F - y.toNat) + 1 by omega] at h3
  have h3 : sd_rns F (sd_n F - y.toNat) (x.toNat + 1) (if sd_fi F x.toNat then r + 1 else 0) (if lo < (if sd_fi F x.toNat then r + 1 else 0) then (if sd_fi F x.toNat then r + 1 else 0) else lo) (if lo < (if sd_fi F x.toNat then r + 1 else 0) then ((x.toNat : Nat) : Int) - (if sd_fi F x.toNat then r + 1 else 0) + 1 else fi) (if sd_fi F x.toNat ∧ (po = -1 ∨ F (16 + x.toNat) < F (16 + po.toNat)) then ((x.toNat : Nat) : Int) else po) = _ := h3
  rw [show x.toNat + 1 = y.toNat by omega, ← hr] at h3
  have hx9 : ((x.toNat : Nat) : Int) = x := by omega
  have a : (if lo < r' then r' else lo) = lo' ∧ (if lo < r' then ((x.toNat : Nat) : Int) - r' + 1 else fi) = fi' := by
    rcases hl with ⟨q1, q2, q3⟩ | ⟨q1, q2, q3⟩
    · rw [if_pos q1, if_pos q1, q2, q3]
      exact ⟨rfl, by omega⟩
    · rw [if_neg q1, if_neg q1, q2, q3]
      exact ⟨rfl, rfl⟩
  have b : (if sd_fi F x.toNat ∧ (po = -1 ∨ F (16 + x.toNat) < F (16 + po.toNat)) then ((x.toNat : Nat) : Int) else po) = po' := by
    rcases hp with ⟨q1, q2, q3⟩ | ⟨q1, q2⟩
    · rw [if_pos ⟨q1, q2⟩, q3]
      exact hx9
    · rw [if_neg q1, q2]
  rw [a.1, a.2, b] at h3
  have r0 : 0 ≤ r' := by
    rw [hr]
    split <;> omega
  exact ⟨⟨r0, by omega⟩, by omega, h3⟩
theorem sd_rnE_z {F : Nat → Int} {r lo fi po x : Int} (h : sd_rnE F r lo fi po x) (w : sd_wf F) (hx : ¬ x < F 88) : (lo, fi, po) = sd_rns F (sd_n F) 0 0 0 (-1) (-1) := by
  obtain ⟨h1, h2, h3⟩ := h
  have k9 := sd_n_i w
  rw [show sd_n F - x.toNat = 0 by omega] at h3
  exact h3
def sd_rnP (F : Nat → Int) (r' lo' fi' po x : Int) : Prop := ∃ r lo fi : Int, sd_rnE F r lo fi po x ∧ r' = (if sd_fi F x.toNat then r + 1 else 0) ∧ ((lo < r' ∧ lo' = r' ∧ fi' = x - r' + 1) ∨ (¬ lo < r' ∧ lo' = lo ∧ fi' = fi))
theorem sd_rnP_s {F : Nat → Int} {r' lo' fi' po x y po' : Int} (h : sd_rnP F r' lo' fi' po x) (w : sd_wf F) (h0 : 0 ≤ x) (hx : x < F 88) (hy : y = x + 1) (hp : (sd_fi F x.toNat ∧ (po = -1 ∨ F (16 + x.toNat) < F (16 + po.toNat)) ∧ po' = x) ∨ (¬ (sd_fi F x.toNat ∧ (po = -1 ∨ F (16 + x.toNat) < F (16 + po.toNat))) ∧ po' = po)) : sd_rnE F r' lo' fi' po' y := by
  obtain ⟨r, lo, fi, h1, h2, h3⟩ := h
  exact sd_rnE_s h1 w h0 hx hy h2 h3 hp
theorem sd_rnP_p {F : Nat → Int} {r' lo' fi' po x : Int} (h : sd_rnP F r' lo' fi' po x) : (po = -1 ∨ (0 ≤ po ∧ po < F 88)) ∧ (0 < r' ↔ sd_fi F x.toNat) := by
  obtain ⟨r, lo, fi, ⟨⟨h1, -⟩, h2, -⟩, h3, -⟩ := h
  refine ⟨h2, ?_⟩
  by_cases q : sd_fi F x.toNat
  · rw [if_pos q] at h3
    exact ⟨fun _ => q, fun _ => by omega⟩
  · rw [if_neg q] at h3
    exact ⟨fun z => by omega, fun z => absurd z q⟩
