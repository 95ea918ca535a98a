section
/-! deeds and days, told for a caller -/
def pz_QV (b _j : Nat) : Prop := b = 68 ∨ b = 69 ∨ b = 70
def pz_Qh (r b j : Nat) : Prop := b = 68 ∨ b = 69 ∨ b = 70 ∨ (b = 60 ∧ j = r)
def pz_QX (b j : Nat) : Prop := (b = 60 ∧ (j < 88 ∨ (241 ≤ j ∧ j < 841))) ∨ b = 68 ∨ b = 69 ∨ b = 62 ∨ (b = 1 ∧ (j = 4 ∨ j = 26))
def pz_QG (b j : Nat) : Prop := (b = 60 ∧ (j < 88 ∨ (241 ≤ j ∧ j < 841))) ∨ b = 68 ∨ b = 69 ∨ b = 63 ∨ (b = 1 ∧ j = 26)
theorem pz_rl.vh {r : Nat} {M M' : pz_M} (h : pz_rl pz_QV M M') : pz_rl (pz_Qh r) M M' := pz_rl.wk (by intro b j q; unfold pz_QV at q; unfold pz_Qh; omega) h
theorem pz_rl.hv {r : Nat} {M M' : pz_M} (h : pz_rl (pz_Qh r) M M') (e : M' 60 r = M 60 r) : pz_rl pz_QV M M' := ⟨h.1, fun b j q => by
  by_cases y : b = 60 ∧ j = r
  · rw [y.1, y.2]
    exact e
  · exact h.2 b j (by unfold pz_Qh; unfold pz_QV at q; omega)⟩
def sd_da (M M' : pz_M) (v d : Int) (P : (Nat → Int) → Prop) (A : List pz_lne → (Nat → Int) → Int) (g : List pz_lne → (Nat → Int) → (Nat → Int)) : Prop := ∀ F : Nat → Int, sd_se M 71 F → sd_wf F → (¬ P F → v = d ∧ M' = M) ∧ (P F → pq_pr (pq_Pd 71) (pz_kf M) M' ∧ ∀ (ls : List pz_lne) (l1 : List (List Int)), sd_tx M ls l1 → sd_pg M F → M 71 0 = 0 → v = A ls F ∧ sd_se M' 71 (g ls F) ∧ sd_pg M' (g ls F) ∧ sd_wf (g ls F))
def sd_ma (M M' : pz_M) (v d : Int) (P : (Nat → Int) → Prop) (A : List pz_lne → (Nat → Int) → Int) (g : List pz_lne → (Nat → Int) → (Nat → Int)) : Prop := (¬ P (M 60) → v = d ∧ M' = M) ∧ (P (M 60) → (M' 1 4 = sd_kb M + 1 ∧ sd_kW M M' 88) ∧ ∀ ls : List pz_lne, pq_wlw ls (M 60) → (∀ q ∈ ls, pv_ln q) → sd_wf (M 60) → v = A ls (M 60) ∧ M' 60 = g ls (M 60))
/-- n DAYS, each kept -/
def sd_it (ls : List pz_lne) (l1 : List (List Int)) : Nat → (Nat → Int) → List (Nat → Int) → Int → (Nat → Int) × List (Nat → Int) × Int
  | 0, F, L, c => (F, L, c)
  | n + 1, F, L, c => sd_it ls l1 n (sd_day true ls l1 F) ((F :: L).take 6) (pz_w (c + (sd_d4 true ls l1 F).2))
def sd_dn (F : Nat → Int) (n : Int) : Prop := (1 ≤ n ∧ n ≤ 60) ∧ pz_w (F 0 + n) ≤ 9999
def sd_dc (M M' : pz_M) (n v : Int) : Prop := ∀ F : Nat → Int, sd_se M 71 F → sd_wf F → (¬ sd_dn F n → v = -1 ∧ M' = M) ∧ (sd_dn F n → pq_pr pq_Pz M M' ∧ ∀ (ls : List pz_lne) (l1 : List (List Int)) (L : List (Nat → Int)), sd_tx M ls l1 → sd_pg M F → M 71 0 = 0 → sd_ck M L → v = (sd_it ls l1 n.toNat F L 0).2.2 ∧ sd_se M' 71 (sd_it ls l1 n.toNat F L 0).1 ∧ sd_pg M' (sd_it ls l1 n.toNat F L 0).1 ∧ sd_wf (sd_it ls l1 n.toNat F L 0).1 ∧ sd_ck M' (sd_it ls l1 n.toNat F L 0).2.1)
def sd_dcI (M N : pz_M) (n x c : Int) : Prop := ∀ F : Nat → Int, sd_se M 71 F → sd_wf F → ∀ (ls : List pz_lne) (l1 : List (List Int)) (L : List (Nat → Int)), sd_tx M ls l1 → sd_pg M F → M 71 0 = 0 → sd_ck M L → ∃ (G : Nat → Int) (L' : List (Nat → Int)), sd_se N 71 G ∧ sd_pg N G ∧ sd_wf G ∧ sd_tx N ls l1 ∧ N 71 0 = 0 ∧ sd_ck N L' ∧ sd_it ls l1 (n - x).toNat G L' c = sd_it ls l1 n.toNat F L 0
theorem sd_dcI_0 {M : pz_M} {n : Int} : sd_dcI M M n 0 0 := fun F hF hW ls l1 L hT hP h0 hK => ⟨F, L, hF, hP, hW, hT, h0, hK, by rw [Int.sub_zero]⟩
theorem sd_dcI_s {M N N1 N2 : pz_M} {n x y c c' w : Int} (h : sd_dcI M N n x c) (hi : pz_ic N) (hx : x < n) (hy : y = x + 1) (e1 : N1 = pz_kf N) (q : sd_od N1 N2 71 w) (z : pq_pr (pq_Pd 71) N1 N2) (hc : c' = pz_w (c + w)) : sd_dcI M N2 n y c' := fun F hF hW ls l1 L hT hP h0 hK => by
  obtain ⟨G, L', s, p, g, t, a0, k, r⟩ := h F hF hW ls l1 L hT hP h0 hK
  subst e1
  have m := g.1
  have b0 : pz_kf N 71 0 = 0 := (sd_kf_o hi (by first | decide | omega)).trans a0
  have tr : decide (pz_kf N 71 0 = 0) = true := decide_eq_true b0
  have o := q ls l1 G (sd_kf_tx hi t) (sd_kf_se hi s (by first | decide | omega)) (sd_kf_pg hi p) g
  rw [tr] at o
  obtain ⟨o1, o2, o3, o4⟩ := o
  refine ⟨_, _, o2, o3, o4, sd_tx_d (sd_kf_tx hi t) (by first | decide | omega) z, (z.2 71 0 (by unfold pq_Pd pq_Pw pz_lb; first | decide | omega)).trans b0, sd_ck_d (sd_ck_kf hi k s g) z, ?_⟩
  rw [← r, show (n - x).toNat = (n - y).toNat + 1 by omega, hc, o1]
  rfl
theorem sd_dcI_z {M N : pz_M} {n x c : Int} (h : sd_dcI M N n x c) (hx : ¬ x < n) : ∀ F : Nat → Int, sd_se M 71 F → sd_wf F → ∀ (ls : List pz_lne) (l1 : List (List Int)) (L : List (Nat → Int)), sd_tx M ls l1 → sd_pg M F → M 71 0 = 0 → sd_ck M L → c = (sd_it ls l1 n.toNat F L 0).2.2 ∧ sd_se N 71 (sd_it ls l1 n.toNat F L 0).1 ∧ sd_pg N (sd_it ls l1 n.toNat F L 0).1 ∧ sd_wf (sd_it ls l1 n.toNat F L 0).1 ∧ sd_ck N (sd_it ls l1 n.toNat F L 0).2.1 := fun F hF hW ls l1 L hT hP h0 hK => by
  obtain ⟨G, L', s, p, g, t, a0, k, r⟩ := h F hF hW ls l1 L hT hP h0 hK
  rw [show (n - x).toNat = 0 by omega] at r
  have r : (G, L', c) = _ := r
  rw [← r]
  exact ⟨rfl, s, p, g, k⟩
/-! the model's days -/
def sd_dm (M M' : pz_M) (n v : Int) : Prop := (¬ sd_dn (M 60) n → v = -1 ∧ M' = M) ∧ (sd_dn (M 60) n → ∀ (ls : List pz_lne) (l1 : List (List Int)) (L : List (Nat → Int)), sd_tm (M 60) ls l1 → sd_wf (M 60) → sd_mq M L → L.length ≤ 6 → v = (sd_it ls l1 n.toNat (M 60) L 0).2.2 ∧ M' 60 = (sd_it ls l1 n.toNat (M 60) L 0).1 ∧ sd_mq M' (sd_it ls l1 n.toNat (M 60) L 0).2.1)
def sd_dmI (M N : pz_M) (n x c : Int) : Prop := ∀ (ls : List pz_lne) (l1 : List (List Int)) (L : List (Nat → Int)), sd_tm (M 60) ls l1 → sd_wf (M 60) → sd_mq M L → L.length ≤ 6 → ∃ L' : List (Nat → Int), sd_wf (N 60) ∧ sd_tm (N 60) ls l1 ∧ sd_mq N L' ∧ L'.length ≤ 6 ∧ sd_it ls l1 (n - x).toNat (N 60) L' c = sd_it ls l1 n.toNat (M 60) L 0
theorem sd_dmI_0 {M : pz_M} {n : Int} : sd_dmI M M n 0 0 := fun ls l1 L hT hW hK hl => ⟨L, hW, hT, hK, hl, by rw [Int.sub_zero]⟩
theorem sd_dmI_s {M N N1 N2 : pz_M} {n x y c c' w : Int} (h : sd_dmI M N n x c) (hx : x < n) (hy : y = x + 1) (k : N1 1 26 = 1 ∧ N1 1 4 = sd_kb N + 1 ∧ sd_kW N N1 88) (z1 : pz_rl pz_QE N N1) (q : ∀ (ls : List pz_lne) (l1 : List (List Int)), sd_tm (N1 60) ls l1 → sd_wf (N1 60) → w = (sd_d4 (sd_Tr N1) ls l1 (N1 60)).2 ∧ N2 60 = sd_day (sd_Tr N1) ls l1 (N1 60) ∧ sd_wf (N2 60)) (z2 : pz_rl pz_QD N1 N2) (hc : c' = pz_w (c + w)) : sd_dmI M N2 n y c' := fun ls l1 L hT hW hK hl => by
  obtain ⟨L', g, t, m, l, r⟩ := h ls l1 L hT hW hK hl
  have W : N1 60 = N 60 := funext fun j => z1.2 60 j (by unfold pz_QE; first | decide | omega)
  have T : sd_Tr N1 = true := by
    unfold sd_Tr
    exact decide_eq_true (by first | decide | omega)
  rw [W, T] at q
  obtain ⟨q1, q2, q3⟩ := q ls l1 t g
  refine ⟨(N 60 :: L').take 6, q3, sd_tm_cg t (fun j y => (z2.2 60 j (by unfold pz_QD; first | decide | omega)).trans (congrFun W j)), sd_mq_k m l ((z2.2 1 4 (by unfold pz_QD; first | decide | omega)).trans k.2.1) (fun i => (z2.2 62 i (by unfold pz_QD; first | decide | omega)).trans (k.2.2 i)) (fun j j1 => (z2.2 60 j (by unfold pz_QD; first | decide | omega)).trans (congrFun W j)), by rw [sd_tk_l]; omega, ?_⟩
  rw [← r, show (n - x).toNat = (n - y).toNat + 1 by omega, hc, q1, q2]
  rfl
theorem sd_dmI_z {M N : pz_M} {n x c : Int} (h : sd_dmI M N n x c) (hx : ¬ x < n) : ∀ (ls : List pz_lne) (l1 : List (List Int)) (L : List (Nat → Int)), sd_tm (M 60) ls l1 → sd_wf (M 60) → sd_mq M L → L.length ≤ 6 → c = (sd_it ls l1 n.toNat (M 60) L 0).2.2 ∧ N 60 = (sd_it ls l1 n.toNat (M 60) L 0).1 ∧ sd_mq N (sd_it ls l1 n.toNat (M 60) L 0).2.1 := fun ls l1 L hT hW hK hl => by
  obtain ⟨L', g, t, m, l, r⟩ := h ls l1 L hT hW hK hl
  rw [show (n - x).toNat = 0 by omega] at r
  have r : (N 60, L', c) = _ := r
  rw [← r]
  exact ⟨rfl, rfl, m⟩
/-! nothing of a day in thought is outside of what is kept -/
def sd_no (F G : Nat → Int) : Prop := ∀ k : Nat, 88 ≤ k → G k = F k
theorem sd_no.rf {F : Nat → Int} : sd_no F F := fun _ _ => rfl
theorem sd_no.tr {F G H : Nat → Int} (h : sd_no F G) (h' : sd_no G H) : sd_no F H := fun k hk => (h' k hk).trans (h k hk)
theorem sd_no_u {F G : Nat → Int} {j : Nat} {v : Int} (h : sd_no F G) (hj : j < 88) : sd_no F (sd_u G j v) := fun k hk => (sd_un (by first | decide | omega)).trans (h k hk)
theorem sd_no_n {F G : Nat → Int} {w i m : Int} (h : sd_no F G) : sd_no F (sd_note false G w i m) := by rw [sd_note_n (Or.inl rfl)]; exact h
theorem sd_no_fF {F G : Nat → Int} (h : sd_no F G) : sd_no F (sd_fF false G) := h
theorem sd_no_doe {ls : List pz_lne} {F : Nat → Int} {r : List Int} (h : F 88 ≤ 12) : sd_no F (sd_doe false ls F r) := by
  unfold sd_doe
  split
  · split
    · rename_i q
      have q1 := q.1
      exact sd_no_n (sd_no_u (sd_no_u .rf (by first | decide | omega)) (by first | decide | omega))
    · exact .rf
  · split
    · split
      · rename_i q
        have q1 := q.1
        exact sd_no_n (sd_no_u .rf (by first | decide | omega))
      · exact .rf
    · split
      · split
        · rename_i q
          have q1 := q.1
          have q2 := q.2.1
          exact sd_no_n (sd_no_u (sd_no_u .rf (by first | decide | omega)) (by first | decide | omega))
        · exact .rf
      · split
        · rename_i q
          have q1 := q.1
          exact sd_no_n (sd_no_u .rf (by first | decide | omega))
        · exact .rf
theorem sd_no_p1 {ls : List pz_lne} : ∀ (l : List (List Int)) (F : Nat → Int), F 88 ≤ 12 → sd_no F (sd_p1 false ls l F) := by
  intro l
  induction l with
  | nil => exact fun F _ => .rf
  | cons r l ih =>
    intro F h
    have a : sd_no F (if r.getD 0 0 = F 0 then sd_doe false ls F r else F) := by
      split
      · exact sd_no_doe h
      · exact .rf
    exact a.tr (ih _ (by rw [a 88 (Nat.le_refl _)]; exact h))
theorem sd_no_s2 {ls : List pz_lne} {F : Nat → Int} {i : Nat} (h : F 88 ≤ 12) : sd_no F (sd_s2 false ls i F) := by
  unfold sd_s2
  split
  · rename_i q
    have q1 := q.1
    split
    · exact sd_no_n (sd_no_u .rf (by first | decide | omega))
    · exact .rf
  · exact .rf
theorem sd_no_p2 {ls : List pz_lne} : ∀ (m i : Nat) (F : Nat → Int), F 88 ≤ 12 → sd_no F (sd_p2 false ls m i F) := by
  intro m
  induction m with
  | zero => exact fun i F _ => .rf
  | succ m ih =>
    intro i F h
    have a := sd_no_s2 (ls := ls) (i := i) h
    exact a.tr (ih _ _ (by rw [a 88 (Nat.le_refl _)]; exact h))
theorem sd_no_unr {F G : Nat → Int} {k : Nat} (h : sd_no F G) (h12 : F 88 ≤ 12) : sd_no F (sd_unr G k) := by
  unfold sd_unr
  split
  · rename_i q
    have q1 := q.1
    rw [h 88 (Nat.le_refl _)] at q1
    exact sd_no_u h (by first | decide | omega)
  · exact h
theorem sd_no_s3 {ls : List pz_lne} {F : Nat → Int} {i : Nat} (h : F 88 ≤ 12) (hi : i < 12) : sd_no F (sd_s3 false ls i F) := by
  unfold sd_s3
  split
  · split
    · have a : sd_no F (sd_lv1 (sd_fF false F) i) := sd_no_u (sd_no_u (sd_no_u .rf (by first | decide | omega)) (by first | decide | omega)) (by first | decide | omega)
      unfold sd_lev
      refine sd_no_n (sd_no_unr ?_ h)
      split
      · exact a
      · exact sd_no_unr a h
    · exact .rf
  · exact .rf
theorem sd_no_p3 {ls : List pz_lne} : ∀ (m i : Nat) (F : Nat → Int), F 88 ≤ 12 → i + m ≤ 12 → sd_no F (sd_p3 false ls m i F) := by
  intro m
  induction m with
  | zero => exact fun i F _ _ => .rf
  | succ m ih =>
    intro i F h hi
    have a := sd_no_s3 (ls := ls) (i := i) h (by first | decide | omega)
    exact a.tr (ih _ _ (by rw [a 88 (Nat.le_refl _)]; exact h) (by first | decide | omega))
theorem sd_no_mi {e : Bool} {to : Nat} : ∀ (m i : Nat) (F : Nat → Int) (c : Int), i + m ≤ 12 → sd_no F (sd_mi false to e m i F c).1 := by
  intro m
  induction m with
  | zero => exact fun i F c _ => .rf
  | succ m ih =>
    intro i F c hi
    show sd_no F (if sd_mk F to e i then sd_mi false to e m (i + 1) (sd_note false (sd_u F (76 + i) (F 0)) 5 i 0) (pz_w (c + 1)) else sd_mi false to e m (i + 1) F c).1
    split
    · exact (sd_no_n (sd_no_u .rf (by first | decide | omega))).tr (ih _ _ _ (by first | decide | omega))
    · exact ih _ _ _ (by first | decide | omega)
theorem sd_no_mv {b : Nat → Bool} {n : Nat} (hn : n ≤ 12) : ∀ (f a : Nat) (F : Nat → Int) (c : Int), sd_no F (sd_mv false b n f a F c).1 := by
  intro f
  induction f with
  | zero => exact fun a F c => .rf
  | succ f ih =>
    intro a F c
    by_cases q : a < n
    · have e : sd_mv false b n (f + 1) a F c = sd_mv false b n f (if sd_end b n a = n - 1 then n else sd_end b n a) (if sd_cm F (sd_end b n a) (sd_end b n a + 1 - a) a = true then sd_mi false (sd_end b n a) (decide (sd_end b n a = n - 1)) (sd_end b n a + 1 - a) a F c else (F, c)).1 (if sd_cm F (sd_end b n a) (sd_end b n a + 1 - a) a = true then sd_mi false (sd_end b n a) (decide (sd_end b n a = n - 1)) (sd_end b n a + 1 - a) a F c else (F, c)).2 := if_pos q
      rw [e]
      have z := sd_end_s (b := b) q
      refine sd_no.tr ?_ (ih _ _ _)
      split
      · exact sd_no_mi _ _ _ _ (by first | decide | omega)
      · exact .rf
    · have e : sd_mv false b n (f + 1) a F c = (F, c) := if_neg q
      rw [e]
      exact .rf
theorem sd_no_p5 {ls : List pz_lne} : ∀ (m i : Nat) (F : Nat → Int), i + m ≤ 12 → sd_no F (sd_p5 ls m i F) := by
  intro m
  induction m with
  | zero => exact fun i F _ => .rf
  | succ m ih =>
    intro i F hi
    have a : sd_no F (sd_s5 ls i F) := by
      unfold sd_s5
      split
      · exact sd_no_u .rf (by first | decide | omega)
      · exact .rf
    exact a.tr (ih _ _ (by first | decide | omega))
theorem sd_no_day {ls : List pz_lne} {l1 : List (List Int)} {F : Nat → Int} (h : F 88 ≤ 12) : sd_no F (sd_day false ls l1 F) := by
  have n12 : sd_n F ≤ 12 := by
    unfold sd_n
    omega
  have a1 := sd_no_p1 (ls := ls) l1 F h
  have a2 := sd_no_p2 (ls := ls) (sd_n F) 0 (sd_p1 false ls l1 F) (by rw [a1 88 (Nat.le_refl _)]; exact h)
  have a12 := a1.tr a2
  have a3 := sd_no_p3 (ls := ls) (sd_n F) 0 (sd_p2 false ls (sd_n F) 0 (sd_p1 false ls l1 F)) (by rw [a12 88 (Nat.le_refl _)]; exact h) (by first | decide | omega)
  have a123 : sd_no F (sd_d3 false ls l1 F) := a12.tr a3
  have a4 : sd_no F (sd_d4 false ls l1 F).1 := a123.tr (sd_no_mv n12 12 0 _ 0)
  have a5 : sd_no F (sd_d5 false ls l1 F) := a4.tr (sd_no_p5 _ _ _ (by first | decide | omega))
  exact sd_no_u a5 (by first | decide | omega)
/-- n DAYS in thought -/
def sd_gt (ls : List pz_lne) (l1 : List (List Int)) : Nat → (Nat → Int) → (Nat → Int)
  | 0, F => F
  | n + 1, F => sd_gt ls l1 n (sd_day false ls l1 F)
/-- the latest DAY on which one MOVED -/
def sd_lat (F : Nat → Int) : Nat → Nat → Int → Int
  | 0, _, a => a
  | m + 1, i, a => if F (76 + i) = -1 then -1 else sd_lat F m (i + 1) (max a (F (76 + i)))
def sd_gw (F : Nat → Int) (w : Int) : Int := if w = 0 then pz_cnt (sd_vn F) 12 else if w = 1 then sd_lat F (sd_n F) 0 (-1) else F 1
def sd_gq (n w : Int) : Prop := (1 ≤ n ∧ n ≤ 99) ∧ (0 ≤ w ∧ w ≤ 2)
def sd_gc (M M' : pz_M) (n w v : Int) : Prop := (¬ sd_gq n w → v = -2) ∧ ∀ (ls : List pz_lne) (l1 : List (List Int)) (F : Nat → Int), sd_tx M ls l1 → sd_se M 71 F → sd_pg M F → sd_wf F → M 72 0 ≠ 0 → (sd_gq n w → v = sd_gw (sd_gt ls l1 n.toNat F) w) ∧ ∀ k : Nat, k < 600 → M' 45 k = M 45 k
def sd_gcI (M N : pz_M) (n x : Int) : Prop := ∀ (ls : List pz_lne) (l1 : List (List Int)) (F : Nat → Int), sd_tx M ls l1 → sd_se M 71 F → sd_pg M F → sd_wf F → M 72 0 ≠ 0 → ∃ G : Nat → Int, sd_se N 72 G ∧ sd_pg N G ∧ sd_wf G ∧ sd_tx N ls l1 ∧ N 72 0 ≠ 0 ∧ sd_no F G ∧ sd_gt ls l1 (n - x).toNat G = sd_gt ls l1 n.toNat F
theorem sd_gcI_0 {M N : pz_M} {n : Int} (e : N = pz_tf 72 71 M) : sd_gcI M N n 0 := fun ls l1 F hT hF hP hW h0 => by
  have o : ∀ b j : Nat, b ≠ 72 → (b < 102 ∨ 114 ≤ b) → N b j = M b j := fun b j q q2 => by
    rw [e]
    exact pz_tf_o q (by unfold pz_lb; first | decide | omega)
  have c : ∀ j : Nat, 3 ≤ j → j < 8 → N 72 j = M 71 j := fun j j1 j2 => by
    rw [e]
    exact pz_tf_k (by first | decide | omega) ⟨j1, j2⟩
  obtain ⟨a1, a2, a3, a4, a5, a6⟩ := id hF
  have m := hW.1
  refine ⟨F, ⟨(c 3 (by first | decide | omega) (by first | decide | omega)).trans a1, (c 4 (by first | decide | omega) (by first | decide | omega)).trans a2, (c 5 (by first | decide | omega) (by first | decide | omega)).trans a3, (c 6 (by first | decide | omega) (by first | decide | omega)).trans a4, (c 7 (by first | decide | omega) (by first | decide | omega)).trans a5, fun i f hi hf => ?_⟩, fun k hk => by rw [o 45 k (by first | decide | omega) (by first | decide | omega)]; exact hP k hk, hW, sd_tx_cg hT (fun b j q => o b j (by first | decide | omega) (by first | decide | omega)), ?_, .rf, by rw [Int.sub_zero]⟩
  · rw [← a6 i f hi hf, e]
    exact pz_tf_l (by first | decide | omega) hf
  · rw [e]
    unfold pz_tf pz_tn
    rw [if_neg (by unfold pz_lb; first | decide | omega), if_neg (by first | decide | omega)]
    exact h0
theorem sd_gcI_s {M N N2 : pz_M} {n x y w : Int} (h : sd_gcI M N n x) (hx : x < n) (hy : y = x + 1) (q : sd_od N N2 72 w) (z : pq_pr (pq_Pd 72) N N2) : sd_gcI M N2 n y := fun ls l1 F hT hF hP hW h0 => by
  obtain ⟨G, s, p, g, t, a0, o9, r⟩ := h ls l1 F hT hF hP hW h0
  have tr : decide (N 72 0 = 0) = false := decide_eq_false a0
  have o := q ls l1 G t s p g
  rw [tr] at o
  obtain ⟨o1, o2, o3, o4⟩ := o
  have m := g.1
  refine ⟨_, o2, o3, o4, sd_tx_d t (by first | decide | omega) z, by rw [z.2 72 0 (by unfold pq_Pd pq_Pw pz_lb; first | decide | omega)]; exact a0, o9.tr (sd_no_day (by first | decide | omega)), ?_⟩
  rw [← r, show (n - x).toNat = (n - y).toNat + 1 by omega]
  rfl
theorem sd_gcI_z {M N : pz_M} {n x : Int} (h : sd_gcI M N n x) (hx : ¬ x < n) {ls : List pz_lne} {l1 : List (List Int)} {F : Nat → Int} (hT : sd_tx M ls l1) (hF : sd_se M 71 F) (hP : sd_pg M F) (hW : sd_wf F) (h0 : M 72 0 ≠ 0) : sd_se N 72 (sd_gt ls l1 n.toNat F) ∧ sd_wf (sd_gt ls l1 n.toNat F) ∧ ∀ k : Nat, k < 600 → N 45 k = M 45 k := by
  obtain ⟨G, s, p, g, t, a0, o9, r⟩ := h ls l1 F hT hF hP hW h0
  rw [show (n - x).toNat = 0 by omega] at r
  have r : G = _ := r
  rw [← r]
  exact ⟨s, g, fun k hk => by rw [p k hk, hP k hk]; exact o9 _ (by first | decide | omega)⟩
/-- the model: what was is there again -/
def sd_gm (M M' : pz_M) (n w v : Int) : Prop := (¬ sd_gq n w → v = -2 ∧ M' = M) ∧ (sd_gq n w → ∀ (ls : List pz_lne) (l1 : List (List Int)), sd_tm (M 60) ls l1 → sd_wf (M 60) → v = sd_gw (sd_gt ls l1 n.toNat (M 60)) w ∧ M' 60 = M 60)
def sd_gmI (M N : pz_M) (n x : Int) : Prop := ∀ (ls : List pz_lne) (l1 : List (List Int)), sd_tm (M 60) ls l1 → sd_wf (M 60) → sd_wf (N 60) ∧ sd_no (M 60) (N 60) ∧ sd_gt ls l1 (n - x).toNat (N 60) = sd_gt ls l1 n.toNat (M 60)
theorem sd_gmI_0 {M N : pz_M} {n : Int} (e : N 60 = M 60) : sd_gmI M N n 0 := fun ls l1 hT hW => by
  rw [e]
  exact ⟨hW, .rf, by rw [Int.sub_zero]⟩
theorem sd_gmI_s {M N N2 : pz_M} {n x y w : Int} (h : sd_gmI M N n x) (hx : x < n) (hy : y = x + 1) (h26 : N 1 26 = 0) (q : ∀ (ls : List pz_lne) (l1 : List (List Int)), sd_tm (N 60) ls l1 → sd_wf (N 60) → w = (sd_d4 (sd_Tr N) ls l1 (N 60)).2 ∧ N2 60 = sd_day (sd_Tr N) ls l1 (N 60) ∧ sd_wf (N2 60)) : sd_gmI M N2 n y := fun ls l1 hT hW => by
  obtain ⟨g, o9, r⟩ := h ls l1 hT hW
  have T : sd_Tr N = false := by
    unfold sd_Tr
    exact decide_eq_false (by first | decide | omega)
  rw [T] at q
  obtain ⟨q1, q2, q3⟩ := q ls l1 (sd_tm_cg hT (fun j y => o9 j (by first | decide | omega))) g
  have m := g.1
  refine ⟨q3, by rw [q2]; exact o9.tr (sd_no_day (by first | decide | omega)), ?_⟩
  rw [← r, show (n - x).toNat = (n - y).toNat + 1 by omega, q2]
  rfl
theorem sd_gmI_z {M N : pz_M} {n x : Int} (h : sd_gmI M N n x) (hx : ¬ x < n) {ls : List pz_lne} {l1 : List (List Int)} (hT : sd_tm (M 60) ls l1) (hW : sd_wf (M 60)) : N 60 = sd_gt ls l1 n.toNat (M 60) ∧ sd_wf (N 60) ∧ sd_no (M 60) (N 60) := by
  obtain ⟨g, o9, r⟩ := h ls l1 hT hW
  rw [show (n - x).toNat = 0 by omega] at r
  exact ⟨r, g, o9⟩
end
