/-! a TEXT is told, and put into w -/
theorem pq_mi_0 {M N : pz_M} (h : M 1 17 = 0) (b : pz_tb M) (q : pz_rl pz_Q0 M N) (s : pz_tb M → pz_nxt M N) : pq_mi N 0 := by
  obtain ⟨s1, s2, s3, s4⟩ := s b
  have e := pq_Q0 q
  have p : pz_nxp M = pz_tp (M 67) (M 1 16).toNat 0 := by
    unfold pz_nxp
    rw [h]
    rfl
  rw [p] at s1 s2 s3 s4
  refine ⟨fun k hk => by rw [e.1]; exact b k (by rw [← e.2.1]; exact hk), ?_, ?_, ?_, fun y => ?_⟩
  · rw [s1, e.T.2.2]
    rfl
  · rw [s2, e.1, e.2.1]
  · rw [s3, e.T.1, e.2.2]
    rfl
  · rw [e.T.1] at y
    rw [s4 y, e.T.2.1]
    rfl
theorem pq_T_cg {M N : pz_M} (e : N 67 = M 67) (e2 : N 1 16 = M 1 16) : pq_TM N = pq_TM M ∧ pq_XM N = pq_XM M ∧ pq_PM N = pq_PM M := by
  unfold pq_TM pq_XM
  refine ⟨by rw [e, e2], by rw [e, e2], funext fun i => ?_⟩
  unfold pq_PM
  rw [e, e2]
theorem pq_tb_cg {M N : pz_M} (e : N 67 = M 67) (e2 : N 1 16 = M 1 16) (h : pz_tb M) : pz_tb N := fun k hk => by rw [e]; exact h k (by rw [← e2]; exact hk)
def pq_gl (ls : List (List Int)) (r c : Nat) : Int := (ls.getD r []).getD c 0
def pq_wlw (ls : List pz_lne) (f : Nat → Int) : Prop := f 89 = (ls.length : Int) ∧ (∀ k : Nat, k < ls.length → pq_l2 ls k (f (841 + k)) (f (857 + k)) (f (873 + k)) (f (889 + k))) ∧ pq_st (pz_catl ls) (fun j => f (905 + j))
def pq_wp (ls : List (List Int)) (f : Nat → Int) : Prop := f 90 = (ls.length : Int) ∧ ∀ r c : Nat, r < ls.length → c < 5 → f (129 + (5 * r + c)) = pq_gl ls r c - (if c = 1 then 10 else 0)
def pq_wh (ls : List (List Int)) (n : Int) (f : Nat → Int) : Prop := f 91 = (ls.length : Int) ∧ ∀ i : Nat, i < 12 → (i : Int) < n → f (105 + 2 * i) = pz_ph (pq_gl ls) i 0 1 ls.length ∧ f (106 + 2 * i) = pz_ph (pq_gl ls) i 240 2 ls.length
def pq_wd (ls : List (List Int)) (f : Nat → Int) : Prop := f 92 = (ls.length : Int) ∧ ∀ r c : Nat, r < ls.length → c < 2 → f (209 + (2 * r + c)) = pq_gl ls r c
def pq_w3 (k : Int) (ls : List (List Int)) (f : Nat → Int) : Prop := (k = 1 → pq_wp ls f) ∧ (k = 2 → ∀ n : Int, pq_wh ls n f) ∧ (k = 3 → pq_wd ls f)
/-- the cells of a TEXT -/
def pq_wf (k : Int) (j : Nat) : Prop := (k = 0 ∧ (j = 89 ∨ 841 ≤ j)) ∨ (k = 1 ∧ (j = 90 ∨ (129 ≤ j ∧ j < 209))) ∨ (k = 2 ∧ (j = 91 ∨ (105 ≤ j ∧ j < 129))) ∨ (k = 3 ∧ (j = 92 ∨ (209 ≤ j ∧ j ≤ 240)))
def pz_lwc (M N : pz_M) : Prop := N 60 89 = M 1 13 ∧ (∀ k : Nat, (k : Int) < M 1 13 → N 60 (841 + k) = M 64 (4 * k) ∧ N 60 (857 + k) = M 64 (4 * k + 1) ∧ N 60 (873 + k) = M 64 (4 * k + 2) ∧ N 60 (889 + k) = M 64 (4 * k + 3)) ∧ ∀ k : Nat, (k : Int) < 2 * M 1 14 → N 60 (905 + k) = M 65 k
def pz_pcc (i j k : Int) (M N : pz_M) : Prop := N 60 i.toNat = M 1 15 ∧ ∀ n : Nat, (n : Int) < k * M 1 15 → N 60 (j.toNat + n) = M 66 n
def pz_mph (M : pz_M) (r c : Nat) : Int := M 66 (3 * r + c)
def pz_phc (M N : pz_M) : Prop := N 60 91 = M 1 15 ∧ ∀ i : Nat, i < 12 → N 60 (105 + 2 * i) = pz_ph (pz_mph M) i 0 1 (M 1 15).toNat ∧ N 60 (106 + 2 * i) = pz_ph (pz_mph M) i 240 2 (M 1 15).toNat
def pq_pt (k : Int) (M N : pz_M) (v : Int) : Prop := (k = 0 → v = M 1 13 ∧ pz_lwc M N) ∧ (k = 1 → v = M 1 15 ∧ pz_pcc 90 129 5 M N) ∧ (k = 2 → v = M 1 15 ∧ pz_phc M N) ∧ (k = 3 → v = M 1 15 ∧ pz_pcc 92 209 2 M N) ∧ ∀ j : Nat, ¬ pq_wf k j → N 60 j = M 60 j
theorem pz_pcc_cg {i j k : Int} {M M' N : pz_M} (h : pz_pcc i j k M' N) (e : M' 1 15 = M 1 15) (e2 : ∀ n, M' 66 n = M 66 n) : pz_pcc i j k M N := by
  obtain ⟨a, b⟩ := h
  rw [e] at a b
  exact ⟨a, fun n hn => (b n hn).trans (e2 n)⟩
theorem pq_wl_of {ls : List pz_lne} {M N : pz_M} (l : pq_ls ls (M 1 13) (M 1 14) (M 64) (M 65)) (w : pz_lwc M N) : pq_wlw ls (N 60) := by
  obtain ⟨l1, l2, l3, l4⟩ := l
  obtain ⟨w1, w2, w3⟩ := w
  refine ⟨w1.trans l1, fun k hk => ?_, fun k hk => ?_⟩
  · obtain ⟨a, b, c, d⟩ := w2 k (by omega)
    rw [a, b, c, d]
    exact l4 k hk
  · show N 60 (905 + 2 * k) = _ ∧ (_ → N 60 (905 + (2 * k + 1)) = _)
    rw [w3 _ (by omega), w3 _ (by omega)]
    exact l3 k hk
theorem pq_wp_of {ls : List (List Int)} {M N : pz_M} (h1 : M 1 15 = (ls.length : Int)) (hl : pq_lys 1 (M 66) ls) (w : pz_pcc 90 129 5 M N) : pq_wp ls (N 60) := by
  refine ⟨w.1.trans h1, fun r c hr hc => ?_⟩
  obtain ⟨x0, x1, x2, x3, x4⟩ := (hl r hr).1 rfl
  have e : N 60 (129 + (5 * r + c)) = M 66 (5 * r + c) := w.2 (5 * r + c) (by omega)
  rw [e]
  have hc9 : c = 0 ∨ c = 1 ∨ c = 2 ∨ c = 3 ∨ c = 4 := by omega
  rcases hc9 with rfl | rfl | rfl | rfl | rfl
  · rw [if_neg (by decide), Int.sub_zero]; exact x0
  · rw [if_pos rfl]; exact x1
  · rw [if_neg (by decide), Int.sub_zero]; exact x2
  · rw [if_neg (by decide), Int.sub_zero]; exact x3
  · rw [if_neg (by decide), Int.sub_zero]; exact x4
theorem pq_wh_of {ls : List (List Int)} {n : Int} {M N : pz_M} (h1 : M 1 15 = (ls.length : Int)) (hl : pq_lys 2 (M 66) ls) (w : pz_phc M N) : pq_wh ls n (N 60) := by
  refine ⟨w.1.trans h1, fun i hi _ => ?_⟩
  obtain ⟨a, b⟩ := w.2 i hi
  have en : (M 1 15).toNat = ls.length := by omega
  have g : ∀ r, r < ls.length → pz_mph M r 0 = pq_gl ls r 0 ∧ pz_mph M r 1 = pq_gl ls r 1 ∧ pz_mph M r 2 = pq_gl ls r 2 := fun r hr => (hl r hr).2.1 rfl
  rw [a, b, en]
  exact ⟨pz_ph_cg (fun r hr => ⟨(g r hr).1, (g r hr).2.1⟩), pz_ph_cg (fun r hr => ⟨(g r hr).1, (g r hr).2.2⟩)⟩
theorem pq_wd_of {ls : List (List Int)} {M N : pz_M} (h1 : M 1 15 = (ls.length : Int)) (hl : pq_lys 3 (M 66) ls) (w : pz_pcc 92 209 2 M N) : pq_wd ls (N 60) := by
  refine ⟨w.1.trans h1, fun r c hr hc => ?_⟩
  obtain ⟨x0, x1⟩ := (hl r hr).2.2 rfl
  have e : N 60 (209 + (2 * r + c)) = M 66 (2 * r + c) := w.2 (2 * r + c) (by omega)
  rw [e]
  have hc9 : c = 0 ∨ c = 1 := by omega
  rcases hc9 with rfl | rfl
  · exact x0
  · exact x1
def pq_tx (k : Int) (M N : pz_M) (v : Int) : Prop := pz_tb M → (k = 0 → (∃ ls : List pz_lne, pz_gl (pq_TM M) (pq_XM M) 0 0 (.ok ls) ∧ v = (ls.length : Int) ∧ N 1 23 = 0 ∧ N 1 25 = -1 ∧ pq_wlw ls (N 60) ∧ ∀ j : Nat, ¬ pq_wf k j → N 60 j = M 60 j) ∨ (∃ (f : Int) (j : Nat), pz_gl (pq_TM M) (pq_XM M) 0 0 (.bad f j) ∧ v = -1 ∧ N 1 23 = f ∧ N 1 25 = pq_PM M j ∧ ∀ j : Nat, N 60 j = M 60 j)) ∧
  (1 ≤ k ∧ k ≤ 3 → (∃ ls : List (List Int), pz_gw (pz_fw k) (pz_row k (M 60 88) (pq_TM M) (pq_XM M)) (pq_TM M) 16 0 = .inl ls ∧ v = (ls.length : Int) ∧ N 1 23 = 0 ∧ N 1 25 = -1 ∧ pq_w3 k ls (N 60) ∧ ∀ j : Nat, ¬ pq_wf k j → N 60 j = M 60 j) ∨ (∃ (f : Int) (j : Nat), pz_gw (pz_fw k) (pz_row k (M 60 88) (pq_TM M) (pq_XM M)) (pq_TM M) 16 0 = .inr (f, j) ∧ v = -1 ∧ N 1 23 = f ∧ N 1 25 = pq_PM M j ∧ ∀ j : Nat, N 60 j = M 60 j)) ∧
  (¬ (0 ≤ k ∧ k ≤ 3) → v = -1 ∧ N 1 23 = 0 ∧ N 1 25 = -1 ∧ ∀ j : Nat, N 60 j = M 60 j)
theorem pq_tx_out {k v : Int} {M N : pz_M} (h : ¬ (0 ≤ k ∧ k ≤ 3)) (hv : v = -1) (a : N 1 23 = 0) (b : N 1 25 = -1) (fr : ∀ j : Nat, N 60 j = M 60 j) : pq_tx k M N v := fun _ => ⟨fun y => absurd ⟨by omega, by omega⟩ h, fun y => absurd ⟨by omega, y.2⟩ h, fun _ => ⟨hv, a, b, fr⟩⟩
theorem pq_tx_0 {k v : Int} {M M1 M2 M3 M4 N : pz_M} (hk : k = 0) (e : M1 67 = M 67) (e2 : M1 1 16 = M 1 16) (h17 : M1 1 17 = 0) (h12 : M1 1 12 = k) (q : pz_rl pz_Q0 M1 M2) (s : pz_tb M1 → pz_nxt M1 M2) (r : pq_RE M2 M3) (c13 : M4 1 13 = M3 1 13) (c14 : M4 1 14 = M3 1 14) (c64 : M4 64 = M3 64) (c65 : M4 65 = M3 65) (w : pq_pt k M4 N v) (fr : ∀ j : Nat, M4 60 j = M 60 j) (a : N 1 23 = 0) (b : N 1 25 = -1) : pq_tx k M N v := by
  intro tb
  have T := pq_T_cg e e2
  have t2 := pq_Q0 q
  have m0 := pq_mi_0 h17 (pq_tb_cg e e2 tb) q s
  have z0 : pq_mz M2 0 := ⟨m0, by rw [t2.2.2, h12]; exact hk⟩
  obtain ⟨ls, g, l⟩ := r 0 z0
  rw [t2.T.1, t2.T.2.1, T.1, T.2.1] at g
  rw [← c13, ← c14, ← c64, ← c65] at l
  obtain ⟨w1, w2⟩ := w.1 hk
  exact ⟨fun _ => Or.inl ⟨ls, g, w1.trans l.1, a, b, pq_wl_of l w2, fun j y => (w.2.2.2.2 j y).trans (fr j)⟩, fun y => absurd y.1 (by omega), fun y => absurd ⟨by omega, by omega⟩ y⟩
theorem pq_tx_0b {k v : Int} {M M1 M2 M3 N : pz_M} (hk : k = 0) (e : M1 67 = M 67) (e2 : M1 1 16 = M 1 16) (h17 : M1 1 17 = 0) (h12 : M1 1 12 = k) (q : pz_rl pz_Q0 M1 M2) (s : pz_tb M1 → pz_nxt M1 M2) (r : pq_RB M2 M3) (hv : v = -1) (fr : ∀ j : Nat, N 60 j = M 60 j) (a : N 1 23 = M3 1 21) (b : N 1 25 = M3 1 22) : pq_tx k M N v := by
  intro tb
  have T := pq_T_cg e e2
  have t2 := pq_Q0 q
  have m0 := pq_mi_0 h17 (pq_tb_cg e e2 tb) q s
  have z0 : pq_mz M2 0 := ⟨m0, by rw [t2.2.2, h12]; exact hk⟩
  obtain ⟨f, j, g, l⟩ := r 0 z0
  rw [t2.T.1, t2.T.2.1, T.1, T.2.1] at g
  have l2 := l.2
  rw [t2.T.2.2, T.2.2] at l2
  exact ⟨fun _ => Or.inr ⟨f, j, g, hv, a.trans l.1, b.trans l2, fr⟩, fun y => absurd y.1 (by omega), fun y => absurd ⟨by omega, by omega⟩ y⟩
theorem pq_GW_cg {M N : pz_M} {k : Int} (h12 : N 1 12 = k) (e88 : N 60 88 = M 60 88) (t : pq_TM N = pq_TM M) (x : pq_XM N = pq_XM M) : pq_GW N 16 0 = pz_gw (pz_fw k) (pz_row k (M 60 88) (pq_TM M) (pq_XM M)) (pq_TM M) 16 0 := by
  unfold pq_GW
  rw [h12, e88, t, x]
theorem pq_tx_r {k v : Int} {M M1 M2 M3 M4 N : pz_M} (hk : 1 ≤ k ∧ k ≤ 3) (e : M1 67 = M 67) (e2 : M1 1 16 = M 1 16) (e3 : M1 60 88 = M 60 88) (h17 : M1 1 17 = 0) (h12 : M1 1 12 = k) (q : pz_rl pz_Q0 M1 M2) (s : pz_tb M1 → pz_nxt M1 M2) (r : pq_QE M2 M3) (c15 : M4 1 15 = M3 1 15) (c66 : M4 66 = M3 66) (w : pq_pt k M4 N v) (fr : ∀ j : Nat, M4 60 j = M 60 j) (a : N 1 23 = 0) (b : N 1 25 = -1) : pq_tx k M N v := by
  intro tb
  have T := pq_T_cg e e2
  have t2 := pq_Q0 q
  have m0 := pq_mi_0 h17 (pq_tb_cg e e2 tb) q s
  obtain ⟨ls, g, l, -, lay⟩ := r 0 m0
  have k2 : M2 1 12 = k := t2.2.2.trans h12
  rw [pq_GW_cg (M := M) k2 ((q.2 60 88 (by unfold pz_Q0; omega)).trans e3) (t2.T.1.trans T.1) (t2.T.2.1.trans T.2.1)] at g
  rw [← c15] at l
  rw [k2, ← c66] at lay
  obtain ⟨-, w1, w2, w3, w4⟩ := w
  have x1 : ∀ h : k = 1, v = M4 1 15 ∧ pq_wp ls (N 60) := fun h => ⟨(w1 h).1, pq_wp_of l (by rw [← h]; exact lay) (w1 h).2⟩
  have x2 : ∀ h : k = 2, v = M4 1 15 ∧ ∀ n : Int, pq_wh ls n (N 60) := fun h => ⟨(w2 h).1, fun n => pq_wh_of l (by rw [← h]; exact lay) (w2 h).2⟩
  have x3 : ∀ h : k = 3, v = M4 1 15 ∧ pq_wd ls (N 60) := fun h => ⟨(w3 h).1, pq_wd_of l (by rw [← h]; exact lay) (w3 h).2⟩
  have hv : v = M4 1 15 := by
    have h : k = 1 ∨ k = 2 ∨ k = 3 := by omega
    rcases h with h | h | h
    · exact (x1 h).1
    · exact (x2 h).1
    · exact (x3 h).1
  exact ⟨fun y => absurd y (by omega), fun _ => Or.inl ⟨ls, g, hv.trans l, a, b, ⟨fun h => (x1 h).2, fun h => (x2 h).2, fun h => (x3 h).2⟩, fun j y => (w4 j y).trans (fr j)⟩, fun y => absurd ⟨by omega, by omega⟩ y⟩
theorem pq_tx_rb {k v : Int} {M M1 M2 M3 N : pz_M} (hk : 1 ≤ k ∧ k ≤ 3) (e : M1 67 = M 67) (e2 : M1 1 16 = M 1 16) (e3 : M1 60 88 = M 60 88) (h17 : M1 1 17 = 0) (h12 : M1 1 12 = k) (q : pz_rl pz_Q0 M1 M2) (s : pz_tb M1 → pz_nxt M1 M2) (r : pq_QB M2 M3) (hv : v = -1) (fr : ∀ j : Nat, N 60 j = M 60 j) (a : N 1 23 = M3 1 21) (b : N 1 25 = M3 1 22) : pq_tx k M N v := by
  intro tb
  have T := pq_T_cg e e2
  have t2 := pq_Q0 q
  have m0 := pq_mi_0 h17 (pq_tb_cg e e2 tb) q s
  obtain ⟨f, j, g, l⟩ := r 0 m0
  rw [pq_GW_cg (M := M) (t2.2.2.trans h12) ((q.2 60 88 (by unfold pz_Q0; omega)).trans e3) (t2.T.1.trans T.1) (t2.T.2.1.trans T.2.1)] at g
  have l2 := l.2
  rw [t2.T.2.2, T.2.2] at l2
  exact ⟨fun y => absurd y (by omega), fun _ => Or.inr ⟨f, j, g, hv, a.trans l.1, b.trans l2, fr⟩, fun y => absurd ⟨by omega, by omega⟩ y⟩
/-! how it is put -/
theorem pz_pc_s {M N N' : pz_M} {j x y v : Int} {p : Nat} (hj : 0 ≤ j) (hx : 0 ≤ x) (hp : (p : Int) = j + x) (e : N' = pz_u N 60 p v) (ev : v = M 66 x.toNat) (hy : y = x + 1) (h : ∀ n : Nat, (n : Int) < x → N 60 (j.toNat + n) = M 66 n) : ∀ n : Nat, (n : Int) < y → N' 60 (j.toNat + n) = M 66 n := by
  intro n hn
  by_cases c : (n : Int) = x
  · rw [e, pz_ue (by omega), ev, show x.toNat = n by omega]
  · rw [e, pz_une (by omega)]
    exact h n (by omega)
theorem pz_ph_s {M N N1 N2 : pz_M} {x y l v1 v2 : Int} {p1 p2 : Nat} (hx : 0 ≤ x) (hy : y = x + 1) (hl : l = M 66 (3 * x).toNat) (h0 : 0 ≤ l) (e1 : N1 = pz_u N 60 p1 v1) (hp1 : (p1 : Int) = 105 + 2 * l) (hv1 : v1 = M 66 (3 * x.toNat + 1)) (e2 : N2 = pz_u N1 60 p2 v2) (hp2 : (p2 : Int) = 106 + 2 * l) (hv2 : v2 = M 66 (3 * x.toNat + 2)) (h : ∀ i : Nat, i < 12 → N 60 (105 + 2 * i) = pz_ph (pz_mph M) i 0 1 x.toNat ∧ N 60 (106 + 2 * i) = pz_ph (pz_mph M) i 240 2 x.toNat) : ∀ i : Nat, i < 12 → N2 60 (105 + 2 * i) = pz_ph (pz_mph M) i 0 1 y.toNat ∧ N2 60 (106 + 2 * i) = pz_ph (pz_mph M) i 240 2 y.toNat := by
  intro i hi
  obtain ⟨a, b⟩ := h i hi
  have ey : y.toNat = x.toNat + 1 := by omega
  have g0 : pz_mph M x.toNat 0 = l := by
    show M 66 (3 * x.toNat + 0) = l
    rw [hl, show 3 * x.toNat + 0 = (3 * x).toNat by omega]
  rw [ey]
  show N2 60 (105 + 2 * i) = (if pz_mph M x.toNat 0 = (i : Int) then pz_mph M x.toNat 1 else pz_ph (pz_mph M) i 0 1 x.toNat) ∧ N2 60 (106 + 2 * i) = (if pz_mph M x.toNat 0 = (i : Int) then pz_mph M x.toNat 2 else pz_ph (pz_mph M) i 240 2 x.toNat)
  rw [g0]
  by_cases c : l = (i : Int)
  · rw [if_pos c, if_pos c]
    refine ⟨?_, ?_⟩
    · rw [e2, pz_une (by omega), e1, pz_ue (by omega), hv1]
      rfl
    · rw [e2, pz_ue (by omega), hv2]
      rfl
  · rw [if_neg c, if_neg c]
    refine ⟨?_, ?_⟩
    · rw [e2, pz_une (by omega), e1, pz_une (by omega)]
      exact a
    · rw [e2, pz_une (by omega), e1, pz_une (by omega)]
      exact b
theorem pz_ph_z {N N1 N2 : pz_M} {x y v1 v2 : Int} {p1 p2 : Nat} (hx : 0 ≤ x) (hy : y = x + 1) (e1 : N1 = pz_u N 60 p1 v1) (hp1 : (p1 : Int) = 105 + 2 * x) (hv1 : v1 = 0) (e2 : N2 = pz_u N1 60 p2 v2) (hp2 : (p2 : Int) = 106 + 2 * x) (hv2 : v2 = 240) (h : ∀ i : Nat, (i : Int) < x → N 60 (105 + 2 * i) = 0 ∧ N 60 (106 + 2 * i) = 240) : ∀ i : Nat, (i : Int) < y → N2 60 (105 + 2 * i) = 0 ∧ N2 60 (106 + 2 * i) = 240 := by
  intro i hi
  by_cases c : x = (i : Int)
  · refine ⟨?_, ?_⟩
    · rw [e2, pz_une (by omega), e1, pz_ue (by omega), hv1]
    · rw [e2, pz_ue (by omega), hv2]
  · obtain ⟨a, b⟩ := h i (by omega)
    refine ⟨?_, ?_⟩
    · rw [e2, pz_une (by omega), e1, pz_une (by omega)]
      exact a
    · rw [e2, pz_une (by omega), e1, pz_une (by omega)]
      exact b
noncomputable def k_X12_putsLaw : pz_C := (1, 1, fun a M => (match a with | [.inr (.inr (12, th))] => pz_im M ∧ pz_wfl M | _ => False), fun a M r M' => (match a, r with | [.inr (.inr (12, th))], some (.inl v) => (v = M 1 13 ∧ pz_lwc M M') ∧ pz_rl pz_QL M M' | _, _ => False))
noncomputable abbrev ct_X12_putsLaw : List (Bool × Nat × pz_C) := []
set_option maxRecDepth 100000 in
set_option maxHeartbeats 4000000 in
theorem h_X12_putsLaw : pz_H yX12_putsLaw cX12_putsLaw 2 (some .int) k_X12_putsLaw 0 0 := by
  refine pz_mk (own := RX12) (tb := t_X12_putsLaw) (fl := pz_flf fl_RX12) (ci := pz_cif ci_RX12) (ct := pz_ctf ct_X12_putsLaw) (rz := false) (by decide +kernel) rfl t_X12_putsLaw_ok (pz_flk fl_RX12_ok) (pz_cik ci_RX12_ok) ?_ ?_ (Or.inl ⟨rfl, rfl⟩) ?_ ?_
  · exact fun i k' h => pz_ctk (l := ct_X12_putsLaw) (P := fun b i k => b = true → pz_cV 0 0 RX12 i k) (fun _ h => absurd h List.not_mem_nil) true i k' h rfl
  · exact fun i k' h => pz_ctk (l := ct_X12_putsLaw) (P := fun b i k => b = false → (pz_cS 0 0 RX12 i k ∨ (k = pz_kac ∧ 1 ≤ 0 ∧ 60 ≤ 0 ∧ Cond.methodLink RX12 i arraycopyName ∈ pz_tbl))) (fun _ h => absurd h List.not_mem_nil) false i k' h rfl
  · intro a M hlen hpre
    obtain ⟨th, rfl, hpre⟩ : ∃ th, a = [.inr (.inr (12, th))] ∧ (pz_im M ∧ pz_wfl M) := by
      have hpre : (match (generalizing := false) a with | [.inr (.inr (12, th))] => pz_im M ∧ pz_wfl M | _ => False) := hpre
      split at hpre
      · exact ⟨_, rfl, hpre⟩
      · exact hpre.elim
    exact Nat.le_of_ble_eq_true rfl
  · intro a M hlen hcan hM hpre Ok hgo
    obtain ⟨th, rfl, hpre⟩ : ∃ th, a = [.inr (.inr (12, th))] ∧ (pz_im M ∧ pz_wfl M) := by
      have hpre : (match (generalizing := false) a with | [.inr (.inr (12, th))] => pz_im M ∧ pz_wfl M | _ => False) := hpre
      split at hpre
      · exact ⟨_, rfl, hpre⟩
      · exact hpre.elim
    obtain ⟨k_th, hc_th⟩ := pz_tlm hcan
    have k_th : pz_kd th = 12 ∧ th < 231 := k_th
    have R_th := pz_kd12 k_th.1
    subst R_th
    clear k_th
    have hI : pz_im M := hpre.1
    have hI0 := hI
    have hS : pz_r0 pz_W1 M M := pz_r0.rf
    have I13 := hI.2.1.2.2.2.2.2.1
    have I14 := hI.2.1.2.2.2.2.2.2.1
    obtain ⟨-, hwl⟩ := hpre
    have L107 : ∀ (fu : Nat) (x1 : Int) (N107 : pz_M), (820 - x1).toNat < fu → (pz_r0 pz_W1 M N107) → (0 ≤ x1) → (x1 ≤ 820) → (N107 60 89 = M 1 13) → (∀ k : Nat, (k : Int) < M 1 13 → N107 60 (841 + k) = M 64 (4 * k) ∧ N107 60 (857 + k) = M 64 (4 * k + 1) ∧ N107 60 (873 + k) = M 64 (4 * k + 2) ∧ N107 60 (889 + k) = M 64 (4 * k + 3)) → (∀ k : Nat, (k : Int) < x1 → N107 60 (905 + k) = M 65 k) → Ok 107 [some (.inr (.inr (12, 1))), some (.inl x1)] [] N107 := by
      intro fu
      induction fu with
      | zero => exact fun _ _ hn => absurd hn (Nat.not_lt_zero _)
      | succ fu ih107 =>
        intro x1 N107 hn107 hS g107_1 g107_2 g107_3 g107_4 g107_5
        have F14 := hS 1 14 (by unfold pz_W1; omega)
        refine hgo (fun p => Nat.beq p 13 || Nat.beq p 107) 93 107 _ _ _ ?_
        intro v110 e110 a110 b110
        have I110 := hI.2.1.2.2.2.2.2.2.1
        intro v113 e113 a113 b113
        rw [pz_wi (by omega) (by omega)] at e113
        clear a113 b113
        refine And.intro (fun h114 => ?_) (fun h114 => ?_)
        · skip
          intro v140 e140 a140 b140
          have I140 := hI.2.1.2.2.2.2.2.1
          refine And.intro rfl ?_
          have H13 := hS 1 13 (by unfold pz_W1; omega)
          have H14 := hS 1 14 (by unfold pz_W1; omega)
          refine ⟨⟨by omega, g107_3, g107_4, fun k hk => g107_5 k (by omega)⟩, ⟨fun _ => ?_, fun b j hb => hS b j (by unfold pz_QL at hb; unfold pz_W1; omega)⟩⟩
          have h61 : ∀ j, N107 61 j = M 61 j := fun j => hS 61 j (by unfold pz_W1; omega)
          refine ⟨?_, pz_ix_of hI.2.1 (fun j _ => hS 1 j (by unfold pz_W1; omega)) (by rw [hS 1 4 (by unfold pz_W1; omega)]; exact hI.2.1.1) (fun j => hS 62 j (by unfold pz_W1; omega)) (hS 63 3 (by unfold pz_W1; omega)), ?_, pz_iw_of hI.2.2.2.1 (fun j _ => h61 j), pz_lw_cg hI.2.2.2.2 (fun j _ => h61 j)⟩
          · unfold pz_iw
            rw [hS 60 88 (by unfold pz_W1; omega), hS 60 90 (by unfold pz_W1; omega), hS 60 92 (by unfold pz_W1; omega), hS 60 3 (by unfold pz_W1; omega), g107_3]
            exact ⟨hI.1.1, I13, hI.1.2.2.1, hI.1.2.2.2.1, hI.1.2.2.2.2⟩
          · intro i i0 i1
            rw [g107_3] at i1
            obtain ⟨w1, w2, w3, w4⟩ := hwl i i0 i1
            obtain ⟨m1, m2, m3, -⟩ := g107_4 i.toNat (by omega)
            rw [show 841 + i.toNat = (841 + i).toNat by omega, show 4 * i.toNat = (4 * i).toNat by omega] at m1
            rw [show 857 + i.toNat = (857 + i).toNat by omega, show 4 * i.toNat + 1 = (4 * i + 1).toNat by omega] at m2
            rw [show 873 + i.toNat = (873 + i).toNat by omega, show 4 * i.toNat + 2 = (4 * i + 2).toNat by omega] at m3
            rw [m1, m2, m3]
            have l3 := w3.1
            have l4 : M 64 (4 * i + 1).toNat ≤ M 64 (4 * i + 2).toNat := by
              rcases w4 with w4 | w4
              · omega
              · have := w4.1
                omega
            refine ⟨w1, by omega, pz_sg_cg w3 w1 (fun j _ q => g107_5 j (by omega)), ?_⟩
            rcases w4 with w4 | w4
            · exact Or.inl w4
            · exact Or.inr (pz_sg_cg w4 (by omega) (fun j _ q => g107_5 j (by omega)))
        · skip
          refine pz_nrc (c := 60) rfl ?_
          intro v125 e125 a125 b125
          rw [pz_wi (by omega) (by omega)] at e125
          clear a125 b125
          refine pz_nrc (c := 65) rfl ?_
          refine And.intro (by omega) (And.intro (show _ < (820 : Int) from by omega) ?_)
          intro v131 e131 a131 b131
          rw [hS 65 _ (by unfold pz_W1; omega)] at e131
          refine And.intro (by omega) (And.intro (show _ < (1725 : Int) from by omega) ?_)
          intro M132 e132
          have hS : pz_r0 pz_W1 M M132 := by
            rw [e132]
            exact pz_r0_u hS (by unfold pz_W1; omega)
          have T132_0 : M132 60 89 = N107 60 89 := by
            rw [e132]
            exact (pz_une (by omega))
          intro v133 e133 a133 b133
          rw [pz_wi (by omega) (by omega)] at e133
          obtain ⟨G133a, G133b⟩ := pz_law2 (g := M 64) (h := M 65) (i1 := v125.toNat) (n := M 1 13) g107_1 (by omega) (by omega) (pz_u64 e132) e131 g107_4 g107_5
          rw [← e133] at G133b
          exact ih107 _ _ (by omega) hS (by first | omega | assumption) (by first | omega | assumption) (by first | omega | assumption) (by first | omega | assumption) (by first | omega | assumption)
    have L13 : ∀ (fu : Nat) (x1 : Int) (N13 : pz_M), (16 - x1).toNat < fu → (pz_r0 pz_W1 M N13) → (0 ≤ x1) → (x1 ≤ 16) → (x1 ≤ M 1 13) → (N13 60 89 = M 1 13) → (∀ k : Nat, (k : Int) < x1 → N13 60 (841 + k) = M 64 (4 * k) ∧ N13 60 (857 + k) = M 64 (4 * k + 1) ∧ N13 60 (873 + k) = M 64 (4 * k + 2) ∧ N13 60 (889 + k) = M 64 (4 * k + 3)) → Ok 13 [some (.inr (.inr (12, 1))), some (.inl x1)] [] N13 := by
      intro fu
      induction fu with
      | zero => exact fun _ _ hn => absurd hn (Nat.not_lt_zero _)
      | succ fu ih13 =>
        intro x1 N13 hn13 hS g13_1 g13_2 g13_3 g13_4 g13_5
        have F13 := hS 1 13 (by unfold pz_W1; omega)
        refine hgo (fun p => Nat.beq p 13 || Nat.beq p 107) 93 13 _ _ _ ?_
        intro v15 e15 a15 b15
        have I15 := hI.2.1.2.2.2.2.2.1
        refine And.intro (fun h18 => ?_) (fun h18 => ?_)
        · skip
          have G18 : ∀ k : Nat, (k : Int) < M 1 13 → N13 60 (841 + k) = M 64 (4 * k) ∧ N13 60 (857 + k) = M 64 (4 * k + 1) ∧ N13 60 (873 + k) = M 64 (4 * k + 2) ∧ N13 60 (889 + k) = M 64 (4 * k + 3) := fun k hk => g13_5 k (by omega)
          have G105 : ∀ k : Nat, (k : Int) < (0 : Int) → N13 60 (905 + k) = M 65 k := fun k hk => absurd hk (by omega)
          exact L107 _ _ _ (Nat.lt_succ_self _) hS (by first | omega | assumption) (by first | omega | assumption) (by first | omega | assumption) (by first | omega | assumption) (by first | omega | assumption)
        · skip
          skip
          refine pz_nrc (c := 60) rfl ?_
          intro v29 e29 a29 b29
          rw [pz_wi (by omega) (by omega)] at e29
          clear a29 b29
          refine pz_nrc (c := 64) rfl ?_
          intro v36 e36 a36 b36
          rw [pz_wi (by omega) (by omega)] at e36
          clear a36 b36
          refine And.intro (by omega) (And.intro (show _ < (64 : Int) from by omega) ?_)
          intro v37 e37 a37 b37
          rw [hS 64 _ (by unfold pz_W1; omega)] at e37
          refine And.intro (by omega) (And.intro (show _ < (1725 : Int) from by omega) ?_)
          intro M38 e38
          have hS : pz_r0 pz_W1 M M38 := by
            rw [e38]
            exact pz_r0_u hS (by unfold pz_W1; omega)
          have T38_0 : M38 60 89 = N13 60 89 := by
            rw [e38]
            exact (pz_une (by omega))
          refine pz_nrc (c := 60) rfl ?_
          intro v47 e47 a47 b47
          rw [pz_wi (by omega) (by omega)] at e47
          clear a47 b47
          refine pz_nrc (c := 64) rfl ?_
          intro v54 e54 a54 b54
          rw [pz_wi (by omega) (by omega)] at e54
          clear a54 b54
          intro v56 e56 a56 b56
          rw [pz_wi (by omega) (by omega)] at e56
          clear a56 b56
          refine And.intro (by omega) (And.intro (show _ < (64 : Int) from by omega) ?_)
          intro v57 e57 a57 b57
          rw [hS 64 _ (by unfold pz_W1; omega)] at e57
          refine And.intro (by omega) (And.intro (show _ < (1725 : Int) from by omega) ?_)
          intro M58 e58
          have hS : pz_r0 pz_W1 M M58 := by
            rw [e58]
            exact pz_r0_u hS (by unfold pz_W1; omega)
          have T58_0 : M58 60 89 = N13 60 89 := by
            rw [e58]
            exact (pz_une (by omega)).trans T38_0
          clear T38_0
          refine pz_nrc (c := 60) rfl ?_
          intro v67 e67 a67 b67
          rw [pz_wi (by omega) (by omega)] at e67
          clear a67 b67
          refine pz_nrc (c := 64) rfl ?_
          intro v74 e74 a74 b74
          rw [pz_wi (by omega) (by omega)] at e74
          clear a74 b74
          intro v76 e76 a76 b76
          rw [pz_wi (by omega) (by omega)] at e76
          clear a76 b76
          refine And.intro (by omega) (And.intro (show _ < (64 : Int) from by omega) ?_)
          intro v77 e77 a77 b77
          rw [hS 64 _ (by unfold pz_W1; omega)] at e77
          refine And.intro (by omega) (And.intro (show _ < (1725 : Int) from by omega) ?_)
          intro M78 e78
          have hS : pz_r0 pz_W1 M M78 := by
            rw [e78]
            exact pz_r0_u hS (by unfold pz_W1; omega)
          have T78_0 : M78 60 89 = N13 60 89 := by
            rw [e78]
            exact (pz_une (by omega)).trans T58_0
          clear T58_0
          refine pz_nrc (c := 60) rfl ?_
          intro v87 e87 a87 b87
          rw [pz_wi (by omega) (by omega)] at e87
          clear a87 b87
          refine pz_nrc (c := 64) rfl ?_
          intro v94 e94 a94 b94
          rw [pz_wi (by omega) (by omega)] at e94
          clear a94 b94
          intro v96 e96 a96 b96
          rw [pz_wi (by omega) (by omega)] at e96
          clear a96 b96
          refine And.intro (by omega) (And.intro (show _ < (64 : Int) from by omega) ?_)
          intro v97 e97 a97 b97
          rw [hS 64 _ (by unfold pz_W1; omega)] at e97
          refine And.intro (by omega) (And.intro (show _ < (1725 : Int) from by omega) ?_)
          intro M98 e98
          have hS : pz_r0 pz_W1 M M98 := by
            rw [e98]
            exact pz_r0_u hS (by unfold pz_W1; omega)
          have T98_0 : M98 60 89 = N13 60 89 := by
            rw [e98]
            exact (pz_une (by omega)).trans T78_0
          clear T78_0
          intro v99 e99 a99 b99
          rw [pz_wi (by omega) (by omega)] at e99
          have G99 : ∀ k : Nat, (k : Int) < v99 → M98 60 (841 + k) = M 64 (4 * k) ∧ M98 60 (857 + k) = M 64 (4 * k + 1) ∧ M98 60 (873 + k) = M 64 (4 * k + 2) ∧ M98 60 (889 + k) = M 64 (4 * k + 3) := by
            rw [e99]
            exact pz_law1 (g := M 64) (i1 := v29.toNat) (i2 := v47.toNat) (i3 := v67.toNat) (i4 := v87.toNat) g13_1 (by omega) (by omega) (by omega) (by omega) (by omega) (fun j => by rw [pz_u64 e98 j, pz_u64 e78 j, pz_u64 e58 j, pz_u64 e38 j]) (by rw [e37, show v36.toNat = (4 * x1).toNat by omega]) (by rw [e57, show v56.toNat = (4 * x1 + 1).toNat by omega]) (by rw [e77, show v76.toNat = (4 * x1 + 2).toNat by omega]) (by rw [e97, show v96.toNat = (4 * x1 + 3).toNat by omega]) g13_5
          exact ih13 _ _ (by omega) hS (by first | omega | assumption) (by first | omega | assumption) (by first | omega | assumption) (by first | omega | assumption) (by first | omega | assumption)
    refine hgo (fun p => Nat.beq p 13 || Nat.beq p 107) 93 0 _ [] M ?_
    refine pz_nrc (c := 60) rfl ?_
    intro v7 e7 a7 b7
    have I7 : 0 ≤ v7 ∧ v7 ≤ 16 := by
      rw [e7]
      exact hI.2.1.2.2.2.2.2.1
    clear a7 b7
    have N7 := hI.2.1.2.2.2.2.2.1
    refine And.intro (by omega) (And.intro (show _ < (1725 : Int) from by omega) ?_)
    intro M10 e10
    have hS : pz_r0 pz_W1 M M10 := by
      rw [e10]
      exact pz_r0_u hS (by unfold pz_W1; omega)
    have T10_0 : M10 60 89 = v7 := by rw [e10]; exact pz_uu
    have G10 : ∀ k : Nat, (k : Int) < (0 : Int) → M10 60 (841 + k) = M 64 (4 * k) ∧ M10 60 (857 + k) = M 64 (4 * k + 1) ∧ M10 60 (873 + k) = M 64 (4 * k + 2) ∧ M10 60 (889 + k) = M 64 (4 * k + 3) := fun k hk => absurd hk (by omega)
    exact L13 _ _ _ (Nat.lt_succ_self _) hS (by first | omega | assumption) (by first | omega | assumption) (by first | omega | assumption) (by first | omega | assumption) (by first | omega | assumption)
theorem v_X12_putsLaw {fr lo i : Nat} {own : String} (h1 : 0 + 1 ≤ fr) (h2 : 8 + (2 + 11) + 0 ≤ lo) (h3 : .methodLink own i yX12_putsLaw ∈ lw_tbl) : pz_cV fr lo own i k_X12_putsLaw :=
  pz_cVk (maxL := 2) (fr' := 0) (lo' := 0) 0 12 h_X12_putsLaw rfl ⟨by decide +kernel, by decide +kernel, by decide +kernel⟩ ⟨(pz_mt 1390 (by decide +kernel)), (pz_mt 1389 (by decide +kernel)), (pz_ms 34 (by decide +kernel)), (pz_mt 13 (by decide +kernel))⟩ (Or.inl ⟨TX12, 28, rfl⟩) (fun a M _ h => by
    have h : (match (generalizing := false) a with | [.inr (.inr (12, th))] => pz_im M ∧ pz_wfl M | _ => False) := h
    split at h
    · exact ⟨_, _, rfl⟩
    · exact h.elim) h1 h2 h3
