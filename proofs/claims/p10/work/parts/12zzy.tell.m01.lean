section
/-! the class' rows -/
def pq_nm (M N : pz_M) (lo hi v : Int) : Prop := (M 5 6 = 100 ∧ lo ≤ M 5 7 ∧ M 5 7 ≤ hi ∧ v = M 5 7 ∧ pq_nx M N) ∨ (v = -1 ∧ ((M 5 6 ≠ 100 ∧ pq_wr M N 1) ∨ (M 5 6 = 100 ∧ ¬ (lo ≤ M 5 7 ∧ M 5 7 ≤ hi) ∧ pq_wr M N 2)))
/-- o tokens behind where M is -/
def pq_go (o : Nat) (M N : pz_M) : Prop := pq_cu N ∧ 0 ≤ M 5 5 ∧ N 5 5 = M 5 5 + (o : Int) ∧ pq_pr pq_Pp M N ∧ pq_fs M N
theorem pq_go_0 {M : pz_M} (c : pq_cu M) : pq_go 0 M M := ⟨c, c.1, by omega, pq_pr.rf, rfl, rfl⟩
theorem pq_go_t {o : Nat} {M N : pz_M} (h : pq_go o M N) : M 49 ((M 5 5).toNat + o) = N 5 6 ∧ M 50 ((M 5 5).toNat + o) = N 5 7 := by
  obtain ⟨c, h0, e, z, fs⟩ := h
  have t := pq_T3_of z
  have i : (M 5 5).toNat + o = (N 5 5).toNat := by omega
  rw [i]
  exact ⟨pq_cu_T c t.1, pq_cu_X c t.2.1⟩
theorem pq_go_x {o : Nat} {M N N1 : pz_M} (h : pq_go o M N) (n : pq_nx N N1) (z : pq_pr pq_Pp N N1) : pq_go (o + 1) M N1 := by
  have n2 := n.2.1
  have h2 := h.2.2.1
  exact ⟨n.1, h.2.1, by omega, h.2.2.2.1.tr z, h.2.2.2.2.tr n.2.2.2.2⟩
theorem pq_go_8 {o : Nat} {M N : pz_M} (h : pq_go o M N) : N 5 8 = M 5 8 := h.2.2.2.1.2 5 8 (by unfold pq_Pp; omega)
theorem pq_go_y {o : Nat} {M N N1 : pz_M} {lo hi v : Int} (h : pq_go o M N) (q : pq_nm N N1 lo hi v) (hv : v ≠ -1) (z : pq_pr pq_Pp N N1) : pq_go (o + 1) M N1 ∧ (∀ F : Int → pz_rw, pz_nu (M 49) (M 50) lo hi ((M 5 5).toNat + o) F = F v) ∧ lo ≤ v ∧ v ≤ hi := by
  obtain ⟨t, x⟩ := pq_go_t h
  rcases q with ⟨a1, a2, a3, a4, a5⟩ | ⟨a, -⟩
  · refine ⟨pq_go_x h a5 z, fun F => ?_, by omega, by omega⟩
    rw [pz_nu_y (by rw [t]; exact a1) (by rw [x]; exact ⟨a2, a3⟩), x, a4]
  · exact absurd a hv
theorem pq_go_n {o : Nat} {M N N1 : pz_M} {lo hi v : Int} (h : pq_go o M N) (q : pq_nm N N1 lo hi v) (hv : v = -1) (h0 : 0 ≤ lo) : ∃ f : Int, (∀ F : Int → pz_rw, pz_nu (M 49) (M 50) lo hi ((M 5 5).toNat + o) F = .inr (f, (M 5 5).toNat + o)) ∧ pq_wr N N1 f := by
  obtain ⟨t, x⟩ := pq_go_t h
  rcases q with ⟨a1, a2, a3, a4, a5⟩ | ⟨-, ⟨a, w⟩ | ⟨a, b, w⟩⟩
  · omega
  · exact ⟨1, fun F => pz_nu_1 (by rw [t]; exact a), w⟩
  · exact ⟨2, fun F => pz_nu_2 (by rw [t]; exact a) (by rw [x]; exact b), w⟩
theorem pq_go_cy {o : Nat} {M N N1 : pz_M} {t : Int} (h : pq_go o M N) (n : N 5 6 = t ∧ pq_nx N N1 ∧ ∀ b j : Nat, b ≠ 5 → N1 b j = N b j) (z : pq_pr pq_Pp N N1) : pq_go (o + 1) M N1 ∧ ∀ F : pz_rw, pz_nd (M 49) t ((M 5 5).toNat + o) F = F :=
  ⟨pq_go_x h n.2.1 z, fun F => pz_nd_y (by rw [(pq_go_t h).1]; exact n.1)⟩
theorem pq_go_cn {o : Nat} {M N N1 : pz_M} {t : Int} (h : pq_go o M N) (n : N 5 6 ≠ t ∧ pq_wr N N1 1) : ∀ F : pz_rw, pz_nd (M 49) t ((M 5 5).toNat + o) F = .inr (1, (M 5 5).toNat + o) :=
  fun F => pz_nd_n (by rw [(pq_go_t h).1]; exact n.1)
/-- a row is laid -/
def pq_rz (l : List Int) (M N : pz_M) : Prop := M 19 0 < 16 → N 19 0 = M 19 0 + 1 ∧ (∀ j : Nat, (j : Int) < 5 * M 19 0 → N 26 j = M 26 j) ∧ ∀ c : Nat, c < 5 → N 26 ((5 * M 19 0).toNat + c) = l.getD c 0
theorem pq_rz_of {M N : pz_M} {a b c d e v : Int} {k0 k1 k2 k3 k4 : Nat} (h0 : 0 ≤ M 19 0) (hk0 : (k0 : Int) = 5 * M 19 0) (hk1 : (k1 : Int) = 5 * M 19 0 + 1) (hk2 : (k2 : Int) = 5 * M 19 0 + 2) (hk3 : (k3 : Int) = 5 * M 19 0 + 3) (hk4 : (k4 : Int) = 5 * M 19 0 + 4) (hv : v = M 19 0 + 1)
    (E : N = pz_u (pz_u (pz_u (pz_u (pz_u (pz_u M 26 k0 a) 26 k1 b) 26 k2 c) 26 k3 d) 26 k4 e) 19 0 v) : pq_rz [a, b, c, d, e] M N ∧ ∀ b j : Nat, b ≠ 19 → b ≠ 26 → N b j = M b j := by
  refine ⟨fun _ => ⟨by rw [E, pz_uu]; exact hv, fun j hj => ?_, fun q hq => ?_⟩, fun b j h1 h2 => by rw [E, pz_una h1, pz_una h2, pz_una h2, pz_una h2, pz_una h2, pz_una h2]⟩
  · rw [E, pz_una (by decide), pz_unk (by omega), pz_unk (by omega), pz_unk (by omega), pz_unk (by omega), pz_unk (by omega)]
  · rw [E, pz_una (by decide)]
    have hq : q = 0 ∨ q = 1 ∨ q = 2 ∨ q = 3 ∨ q = 4 := by omega
    rcases hq with rfl | rfl | rfl | rfl | rfl
    · rw [pz_unk (by omega), pz_unk (by omega), pz_unk (by omega), pz_unk (by omega), show (5 * M 19 0).toNat + 0 = k0 by omega, pz_uu]
      rfl
    · rw [pz_unk (by omega), pz_unk (by omega), pz_unk (by omega), show (5 * M 19 0).toNat + 1 = k1 by omega, pz_uu]
      rfl
    · rw [pz_unk (by omega), pz_unk (by omega), show (5 * M 19 0).toNat + 2 = k2 by omega, pz_uu]
      rfl
    · rw [pz_unk (by omega), show (5 * M 19 0).toNat + 3 = k3 by omega, pz_uu]
      rfl
    · rw [show (5 * M 19 0).toNat + 4 = k4 by omega, pz_uu]
      rfl
/-- what a line's method has found -/
def pq_rl (g : pz_rw) (M N : pz_M) (v : Int) : Prop := (v = 1 ∧ ∃ (j : Nat) (l : List Int), g = .inl (j, l) ∧ N 5 5 = (j : Int) ∧ pq_cu N ∧ pq_rz l M N ∧ pq_fs M N) ∨ (v = 0 ∧ ∃ (f : Int) (j : Nat), g = .inr (f, j) ∧ N 5 3 = f ∧ N 5 4 = M 51 j)
theorem pq_rl_w {g : pz_rw} {o : Nat} {M N N1 : pz_M} {f : Int} (h : pq_go o M N) (hg : g = .inr (f, (M 5 5).toNat + o)) (w : pq_wr N N1 f) : pq_rl g M N1 0 := by
  obtain ⟨c, h0, e, z, fs⟩ := h
  have b := pq_cu_b c
  refine Or.inr ⟨rfl, f, _, hg, w.1, ?_⟩
  rw [w.2 (by omega) (by omega), (pq_T3_of z).2.2]
  congr 1
  omega
theorem pq_rl_01 {g : pz_rw} {M N : pz_M} {v : Int} (h : pq_rl g M N v) : v = 0 ∨ v = 1 := by
  rcases h with ⟨a, -⟩ | ⟨a, -⟩
  · exact Or.inr a
  · exact Or.inl a
theorem pq_cu_fr {M N : pz_M} (c : pq_cu M) (f : ∀ b j : Nat, b ≠ 19 → b ≠ 26 → N b j = M b j) : pq_cu N := by
  unfold pq_cu
  rw [f 5 5 (by decide) (by decide), f 5 6 (by decide) (by decide), f 5 7 (by decide) (by decide), show N 49 = M 49 from funext fun j => f 49 j (by decide) (by decide), show N 50 = M 50 from funext fun j => f 50 j (by decide) (by decide)]
  exact c
theorem pq_rl_y {g : pz_rw} {o : Nat} {M N N1 : pz_M} {l : List Int} (h : pq_go o M N) (hg : g = .inl ((M 5 5).toNat + o, l)) (r : pq_rz l N N1) (f : ∀ b j : Nat, b ≠ 19 → b ≠ 26 → N1 b j = N b j) : pq_rl g M N1 1 := by
  obtain ⟨c, h0, e, z, fs⟩ := h
  have e19 : N 19 0 = M 19 0 := z.2 19 0 (by unfold pq_Pp; omega)
  have e26 : ∀ j, N 26 j = M 26 j := fun j => z.2 26 j (by unfold pq_Pp; omega)
  refine Or.inl ⟨rfl, _, l, hg, by rw [f 5 5 (by decide) (by decide)]; omega, pq_cu_fr c f, fun y => ?_, fs.tr ⟨f 5 3 (by decide) (by decide), f 5 4 (by decide) (by decide)⟩⟩
  obtain ⟨r1, r2, r3⟩ := r (by omega)
  rw [e19] at r1 r2 r3
  exact ⟨r1, fun j hj => (r2 j hj).trans (e26 j), r3⟩
theorem pq_rl_f {g : pz_rw} {M N N1 : pz_M} (q : pq_rl g M N 0) (f : ∀ b j : Nat, b ≠ 19 → b ≠ 26 → N1 b j = N b j) : pq_rl g M N1 0 := by
  rcases q with ⟨a, -⟩ | ⟨-, k, j, a, b, c⟩
  · omega
  · exact Or.inr ⟨rfl, k, j, a, by rw [f 5 3 (by decide) (by decide)]; exact b, by rw [f 5 4 (by decide) (by decide)]; exact c⟩
/-- a line that ends with a number -/
theorem pq_rl_e {g : pz_rw} {h9 : Int → List Int} {o : Nat} {M N N1 N2 : pz_M} {lo hi t : Int} (h : pq_go o M N) (E : g = pz_nu (M 49) (M 50) lo hi ((M 5 5).toNat + o) (fun t => .inl ((M 5 5).toNat + o + 1, h9 t))) (q : pq_nm N N1 lo hi t) (z : pq_pr pq_Pp N N1) (h0 : 0 ≤ lo) (r : pq_rz (h9 t) N1 N2) (f : ∀ b j : Nat, b ≠ 19 → b ≠ 26 → N2 b j = N1 b j) : (t ≠ -1 → pq_rl g M N2 1) ∧ (t = -1 → pq_rl g M N2 0) := by
  refine ⟨fun hv => ?_, fun hv => ?_⟩
  · obtain ⟨a, b, -, -⟩ := pq_go_y h q hv z
    exact pq_rl_y a (by rw [E]; exact b _) r f
  · obtain ⟨k, a, w⟩ := pq_go_n h q hv h0
    exact pq_rl_f (pq_rl_w h (by rw [E]; exact a _) w) f
/-- A PLAN's line behind its first LINK -/
def pq_rE (M : pz_M) (d l : Int) : Prop := pz_rp (M 5 8) (M 49) (M 50) (M 5 5).toNat = if M 49 ((M 5 5).toNat + 1) = 20 then (if M 49 ((M 5 5).toNat + 3) = 100 ∧ M 50 ((M 5 5).toNat + 3) = l then .inr (2, (M 5 5).toNat + 3) else pz_nu (M 49) (M 50) 0 (M 5 8 - 1) ((M 5 5).toNat + 3) (fun m => pz_rq (M 49) (M 50) ((M 5 5).toNat + 4) d (M 49 ((M 5 5).toNat + 1)) l m)) else pz_rq (M 49) (M 50) ((M 5 5).toNat + 3) d (M 49 ((M 5 5).toNat + 1)) l 0
def pq_pO (M N : pz_M) (d w l m : Int) : Prop := (m = -1 ∧ pq_rl (pz_rp (M 5 8) (M 49) (M 50) (M 5 5).toNat) M N 0) ∨ (m ≠ -1 ∧ ∃ o : Nat, pq_go o M N ∧ pz_rp (M 5 8) (M 49) (M 50) (M 5 5).toNat = pz_rq (M 49) (M 50) ((M 5 5).toNat + o) d w l m)
def pq_pP (M N : pz_M) (d w l m q : Int) : Prop := (q = -1 ∧ pq_rl (pz_rp (M 5 8) (M 49) (M 50) (M 5 5).toNat) M N 0) ∨ (q ≠ -1 ∧ ∃ o : Nat, pq_go o M N ∧ pz_rp (M 5 8) (M 49) (M 50) (M 5 5).toNat = .inl ((M 5 5).toNat + o, [d, w, l, m, q]))
theorem pq_pO_0 {M N : pz_M} {d w l : Int} (h : pq_go 3 M N) (E : pq_rE M d l) (tw : M 49 ((M 5 5).toNat + 1) = w) (hw : w ≠ 20) : pq_pO M N d w l 0 := Or.inr ⟨by decide, 3, h, by
  have E : _ = _ := E
  rw [E, if_neg (by omega), tw]⟩
theorem pq_pO_o {M N N1 : pz_M} {d w l m : Int} (h : pq_go 3 M N) (E : pq_rE M d l) (tw : M 49 ((M 5 5).toNat + 1) = w) (hw : w = 20) (q : (N 5 6 = 100 ∧ N 5 7 = l ∧ m = -1 ∧ pq_wr N N1 2) ∨ (¬ (N 5 6 = 100 ∧ N 5 7 = l) ∧ pq_nm N N1 0 (M 5 8 - 1) m)) (z : pq_pr pq_Pp N N1) : pq_pO M N1 d w l m := by
  have E : _ = _ := E
  obtain ⟨t, x⟩ := pq_go_t h
  rw [if_pos (by omega)] at E
  rcases q with ⟨a1, a2, a3, a4⟩ | ⟨a1, a2⟩
  · rw [if_pos ⟨by omega, by omega⟩] at E
    exact Or.inl ⟨a3, pq_rl_w h E a4⟩
  · rw [if_neg (fun y => a1 ⟨by omega, by omega⟩)] at E
    by_cases hv : m = -1
    · obtain ⟨f, g, w'⟩ := pq_go_n h a2 hv (by decide)
      exact Or.inl ⟨hv, pq_rl_w h (by rw [E]; exact g _) w'⟩
    · obtain ⟨g1, g2, -, -⟩ := pq_go_y h a2 hv z
      refine Or.inr ⟨hv, 4, g1, ?_⟩
      rw [E, ← tw]
      exact g2 _
theorem pq_pP_q {M N N1 : pz_M} {d w l m v : Int} {o : Nat} (h : pq_go o M N) (E : pz_rp (M 5 8) (M 49) (M 50) (M 5 5).toNat = pz_rq (M 49) (M 50) ((M 5 5).toNat + o) d w l m) (hw : w = 18 ∨ w = 20) (q : pq_nm N N1 1 99 v) (z : pq_pr pq_Pp N N1) : pq_pP M N1 d w l m v := by
  unfold pz_rq at E
  rw [if_pos hw] at E
  by_cases hv : v = -1
  · obtain ⟨f, g, w'⟩ := pq_go_n h q hv (by decide)
    exact Or.inl ⟨hv, pq_rl_w h (by rw [E]; exact g _) w'⟩
  · obtain ⟨a, b, -, -⟩ := pq_go_y h q hv z
    refine Or.inr ⟨hv, o + 1, a, ?_⟩
    rw [E]
    exact b _
theorem pq_pP_0 {M N : pz_M} {d w l m : Int} {o : Nat} (h : pq_go o M N) (E : pz_rp (M 5 8) (M 49) (M 50) (M 5 5).toNat = pz_rq (M 49) (M 50) ((M 5 5).toNat + o) d w l m) (hw : ¬ (w = 18 ∨ w = 20)) : pq_pP M N d w l m 0 := by
  unfold pz_rq at E
  rw [if_neg hw] at E
  exact Or.inr ⟨by decide, o, h, E⟩
theorem pq_pP_e {M N N1 : pz_M} {d w l m q : Int} (h : pq_pP M N d w l m q) (r : pq_rz [d, w, l, m, q] N N1) (f : ∀ b j : Nat, b ≠ 19 → b ≠ 26 → N1 b j = N b j) : (q ≠ -1 → pq_rl (pz_rp (M 5 8) (M 49) (M 50) (M 5 5).toNat) M N1 1) ∧ (q = -1 → pq_rl (pz_rp (M 5 8) (M 49) (M 50) (M 5 5).toNat) M N1 0) := by
  rcases h with ⟨a, b⟩ | ⟨a, o, b, c⟩
  · exact ⟨fun y => absurd a y, fun _ => pq_rl_f b f⟩
  · exact ⟨fun _ => pq_rl_y b c r f, fun y => absurd y a⟩
/-! the lines of a TEXT -/
def pq_rc (ls : List (List Int)) (N : pz_M) : Prop := N 19 0 = (ls.length : Int) ∧ ∀ k c : Nat, k < ls.length → c < 5 → N 26 (5 * k + c) = (ls.getD k []).getD c 0
theorem pq_rc_s {ls : List (List Int)} {l : List Int} {N N1 : pz_M} (h : pq_rc ls N) (hl : ls.length < 16) (r : pq_rz l N N1) : pq_rc (ls ++ [l]) N1 := by
  obtain ⟨a, b⟩ := h
  obtain ⟨r1, r2, r3⟩ := r (by omega)
  refine ⟨by rw [r1, a, List.length_append]; rfl, fun k c hk hc => ?_⟩
  rw [List.length_append] at hk
  have hk : k < ls.length + 1 := hk
  by_cases q : k = ls.length
  · have e : (ls ++ [l]).getD k [] = l := by
      rw [List.getD_eq_getElem?_getD, List.getElem?_append_right (by omega), show k - ls.length = 0 by omega]
      rfl
    rw [e, show 5 * k + c = (5 * N 19 0).toNat + c by omega]
    exact r3 c hc
  · have e : (ls ++ [l]).getD k [] = ls.getD k [] := by
      rw [List.getD_eq_getElem?_getD, List.getElem?_append_left (by omega), ← List.getD_eq_getElem?_getD]
    rw [e, r2 _ (by omega)]
    exact b k c (by omega) hc
theorem pq_rc_cg {ls : List (List Int)} {N N1 : pz_M} (h : pq_rc ls N) (e : N1 19 0 = N 19 0) (e2 : ∀ j, N1 26 j = N 26 j) : pq_rc ls N1 := ⟨by rw [e]; exact h.1, fun k c hk hc => by rw [e2]; exact h.2 k c hk hc⟩
def pq_rG (k : Int) (M : pz_M) (f i : Nat) : pz_rws := pz_gw (pz_fw k) (pz_row k (M 5 8) (M 49) (M 50)) (M 49) f i
def pq_rg (k : Int) (M N : pz_M) (v : Int) : Prop := (v = 1 ∧ ∃ ls : List (List Int), pq_rG k M 16 (M 5 5).toNat = .inl ls ∧ pq_rc ls N ∧ pq_fs M N) ∨ (v = 0 ∧ ∃ (f : Int) (j : Nat), pq_rG k M 16 (M 5 5).toNat = .inr (f, j) ∧ N 5 3 = f ∧ N 5 4 = M 51 j)
def pq_rn (k : Int) (M N : pz_M) (n : Int) : Prop := pq_cu N ∧ pq_T3 M N ∧ N 5 8 = M 5 8 ∧ ∃ ls : List (List Int), (ls.length : Int) = n ∧ ls.length ≤ 16 ∧ pq_rG k M 16 (M 5 5).toNat = pz_pres ls (pq_rG k M (16 - ls.length) (N 5 5).toNat) ∧ pq_rc ls N ∧ pq_fs M N
theorem pq_rn_0 {k : Int} {M N : pz_M} (c : pq_cu M) (e : N = pz_u M 19 0 0) : pq_rn k M N 0 := by
  have f : ∀ b j, b ≠ 19 → b ≠ 26 → N b j = M b j := fun b j q _ => by rw [e, pz_una q]
  refine ⟨pq_cu_fr c f, ⟨funext fun j => f 49 j (by decide) (by decide), funext fun j => f 50 j (by decide) (by decide), funext fun j => f 51 j (by decide) (by decide)⟩, f 5 8 (by decide) (by decide), [], rfl, by decide, ?_, ⟨by rw [e, pz_uu]; rfl, fun k c hk => absurd hk (Nat.not_lt_zero _)⟩, f 5 3 (by decide) (by decide), f 5 4 (by decide) (by decide)⟩
  rw [f 5 5 (by decide) (by decide), pz_pres_nil]
  rfl
theorem pq_rn_z {k n : Int} {M N : pz_M} (h : pq_rn k M N n) (t : N 5 6 = 101) : pq_rg k M N 1 := by
  obtain ⟨c, T, e, ls, a, b, d, r⟩ := h
  have tj := pq_cu_T c T.1
  refine Or.inl ⟨rfl, ls, ?_, r⟩
  rw [d]
  unfold pq_rG
  rw [pz_gw_z (by rw [tj]; exact t)]
  show (Sum.inl (ls ++ []) : pz_rws) = _
  rw [List.append_nil]
theorem pq_rg_w {k n f : Int} {M N N1 : pz_M} (h : pq_rn k M N n) (g : pq_rG k M (16 - n.toNat) (N 5 5).toNat = .inr (f, (N 5 5).toNat)) (w : pq_wr N N1 f) : pq_rg k M N1 0 := by
  obtain ⟨c, T, e, ls, a, b, d, r⟩ := h
  have hb := pq_cu_b c
  refine Or.inr ⟨rfl, f, _, ?_, w.1, by rw [w.2 (by omega) (by omega), T.2.2]⟩
  rw [d, show 16 - ls.length = 16 - n.toNat by omega, g]
  rfl
theorem pq_rn_w {k n : Int} {M N N1 : pz_M} (h : pq_rn k M N n) (t : N 5 6 ≠ 101) (t2 : N 5 6 ≠ pz_fw k) (w : pq_wr N N1 1) : pq_rg k M N1 0 := by
  have tj := pq_cu_T h.1 h.2.1.1
  exact pq_rg_w h (pz_gw_w (by rw [tj]; exact t) (by rw [tj]; exact t2)) w
theorem pq_rn_m {k n : Int} {M N N1 : pz_M} (h : pq_rn k M N n) (hn : n = 16) (t : N 5 6 ≠ 101) (t2 : N 5 6 = pz_fw k) (w : pq_wr N N1 3) : pq_rg k M N1 0 := by
  have tj := pq_cu_T h.1 h.2.1.1
  exact pq_rg_w h (pz_gw_m (by omega) (by rw [tj]; exact t) (by rw [tj]; exact t2)) w
/-- behind a line: whether it is good -/
def pq_rv (k : Int) (M N : pz_M) (n s : Int) : Prop := (s = 0 ∧ pq_rg k M N 0) ∨ (s = 1 ∧ pq_cu N ∧ pq_T3 M N ∧ N 5 8 = M 5 8 ∧ ∃ (ls : List (List Int)) (l : List Int), (ls.length : Int) = n ∧ ls.length < 16 ∧ pq_rG k M 16 (M 5 5).toNat = pz_pres ls (pz_gs (M 49) (.inl ((N 5 5).toNat, l)) (pq_rG k M (15 - ls.length))) ∧ pq_rc (ls ++ [l]) N ∧ pq_fs M N)
theorem pq_rn_r {k n v : Int} {M N N1 N2 : pz_M} (h : pq_rn k M N n) (hn : n < 16) (t : N 5 6 ≠ 101) (t2 : N 5 6 = pz_fw k) (x : pq_nx N N1) (z : pq_pr pq_Pp N N1) (r : pq_rl (pz_row k (N1 5 8) (N1 49) (N1 50) (N1 5 5).toNat) N1 N2 v) (T2 : pq_T3 M N2) (e2 : N2 5 8 = M 5 8) : pq_rv k M N2 n v := by
  obtain ⟨c, T, e, ls, a, b, d, r0⟩ := h
  have tj := pq_cu_T c T.1
  have z3 := pq_T3_of z
  have e1 : N1 5 8 = M 5 8 := (z.2 5 8 (by unfold pq_Pp; omega)).trans e
  have ei := pq_cu_1 c x.2.1
  rw [e1, z3.1, z3.2.1, T.1, T.2.1, ei] at r
  have g : pq_rG k M (16 - ls.length) (N 5 5).toNat = pz_gs (M 49) (pz_row k (M 5 8) (M 49) (M 50) ((N 5 5).toNat + 1)) (pq_rG k M (15 - ls.length)) := pz_gw_s (by omega) (by rw [tj]; exact t) (by rw [tj]; exact t2)
  rcases r with ⟨w, j, l, r1, r2, r3, r4, r5⟩ | ⟨w, f, j, r1, r2, r3⟩
  · refine Or.inr ⟨w, r3, T2, e2, ls, l, a, by omega, ?_, ?_, r0.2.tr (x.2.2.2.2.tr r5)⟩
    · rw [d, g, r1, show (N2 5 5).toNat = j by omega]
    · refine pq_rc_s (pq_rc_cg r0.1 (z.2 19 0 (by unfold pq_Pp; omega)) (fun j => z.2 26 j (by unfold pq_Pp; omega))) (by omega) r4
  · refine Or.inl ⟨w, Or.inr ⟨rfl, f, j, ?_, r2, by rw [r3, z3.2.2, T.2.2]⟩⟩
    rw [d, g, r1]
    rfl
theorem pq_rv_b {k n s : Int} {M N : pz_M} (h : pq_rv k M N n s) (hs : s = 0) : pq_rg k M N 0 := by
  rcases h with ⟨-, a⟩ | ⟨a, -⟩
  · exact a
  · omega
theorem pq_rv_c {k n s : Int} {M N : pz_M} (h : pq_rv k M N n s) (hs : ¬ s = 0) : pq_cu N := by
  rcases h with ⟨a, -⟩ | ⟨-, a, -⟩
  · exact absurd a hs
  · exact a
theorem pq_rv_n {k n s : Int} {M N N1 : pz_M} (h : pq_rv k M N n s) (hs : ¬ s = 0) (t : N 5 6 ≠ 59) (w : pq_wr N N1 1) : pq_rg k M N1 0 := by
  rcases h with ⟨a, -⟩ | ⟨-, c, T, e, ls, l, a, b, d, r⟩
  · exact absurd a hs
  · have tj := pq_cu_T c T.1
    have hb := pq_cu_b c
    refine Or.inr ⟨rfl, 1, (N 5 5).toNat, ?_, w.1, by rw [w.2 (by omega) (by omega), T.2.2]⟩
    rw [d]
    show pz_pres ls (if M 49 (N 5 5).toNat = 59 then _ else _) = _
    rw [if_neg (by rw [tj]; exact t)]
    rfl
theorem pq_rv_y {k n s : Int} {M N N1 : pz_M} (h : pq_rv k M N n s) (hs : ¬ s = 0) (t : N 5 6 = 59) (x : pq_nx N N1) (z : pq_pr pq_Pp N N1) : pq_rn k M N1 (n + 1) := by
  rcases h with ⟨a, -⟩ | ⟨-, c, T, e, ls, l, a, b, d, r⟩
  · exact absurd a hs
  · have tj := pq_cu_T c T.1
    have z3 := pq_T3_of z
    refine ⟨x.1, ⟨z3.1.trans T.1, z3.2.1.trans T.2.1, z3.2.2.trans T.2.2⟩, (z.2 5 8 (by unfold pq_Pp; omega)).trans e, ls ++ [l], by rw [List.length_append]; show ((ls.length + 1 : Nat) : Int) = n + 1; omega, by rw [List.length_append]; exact b, ?_, pq_rc_cg r.1 (z.2 19 0 (by unfold pq_Pp; omega)) (fun j => z.2 26 j (by unfold pq_Pp; omega)), r.2.tr x.2.2.2.2⟩
    rw [d, pq_cu_1 c x.2.1, List.length_append, ← pz_pres_pres]
    show pz_pres ls (if M 49 (N 5 5).toNat = 59 then _ else _) = _
    rw [if_pos (by rw [tj]; exact t), show 16 - (ls.length + [l].length) = 15 - ls.length by show 16 - (ls.length + 1) = _; omega]
theorem pz_fw1 {k : Int} (h : k = 1) : (17 : Int) = pz_fw k := by subst h; rfl
theorem pz_fw2 {k : Int} (h : k = 2) : (8 : Int) = pz_fw k := by subst h; rfl
theorem pz_fw3 {k : Int} (h : k = 3) : (13 : Int) = pz_fw k := by subst h; rfl
theorem pz_row1 {k n : Int} {T X : Nat → Int} {i : Nat} (h : k = 1) : pz_row k n T X i = pz_rp n T X i := if_pos h
theorem pz_row2 {k n : Int} {T X : Nat → Int} {i : Nat} (h : k = 2) : pz_row k n T X i = pz_rh n T X i := by subst h; rfl
theorem pz_row3 {k n : Int} {T X : Nat → Int} {i : Nat} (h : k = 3) : pz_row k n T X i = pz_rd n T X i := by subst h; rfl
/-! what is taken over: rows, a law, all TEXTS -/
def pz_t6 (r o : Nat) (M N : pz_M) : Prop := N r 0 = M o 0 ∧ (∀ j : Nat, j < 80 → N (r + 7) j = M (o + 7) j) ∧ ∀ b j : Nat, ¬ (b = r ∧ j = 0) → b ≠ r + 7 → N b j = M b j
theorem pz_t6_of {r o : Nat} {M M1 N : pz_M} {v : Int} {a1 a2 sp dp n : Nat} (hr : 13 ≤ r ∧ r < 20) (ho : 13 ≤ o ∧ o < 20) (e : M1 = pz_u M r 0 v) (hv : v = M o 0) (h1 : a1 = o + 7) (h2 : a2 = r + 7) (hs : sp = 0) (hd : dp = 0) (hn : n = 80) (z : N = pz_cpy M1 a1 sp a2 dp n) : pz_t6 r o M N := by
  subst hs; subst hd; subst hn
  refine ⟨?_, fun j hj => ?_, fun b j q1 q2 => ?_⟩
  · rw [z]
    unfold pz_cpy
    rw [if_neg (by omega), e, pz_uu, hv]
  · rw [z]
    unfold pz_cpy
    rw [if_pos (by omega), e, pz_una (by omega), h1, show 0 + (j - 0) = j by omega]
  · rw [z]
    unfold pz_cpy
    rw [if_neg (by omega), e, pz_une q1]
/-- the arrays of law g -/
def pz_lb3 (g : Nat) : Nat := 27 + 6 * (g - 10)
def pz_t3 (g o : Nat) (M N : pz_M) : Prop := N g 0 = M o 0 ∧ N g 1 = M o 1 ∧ (∀ k j : Nat, k < 4 → j < 16 → N (pz_lb3 g + k) j = M (pz_lb3 o + k) j) ∧ (∀ j : Nat, j < 400 → N (pz_lb3 g + 4) j = M (pz_lb3 o + 4) j) ∧ ∀ b j : Nat, ¬ (b = g ∧ (j = 0 ∨ j = 1)) → b < pz_lb3 g ∨ pz_lb3 g + 4 < b → N b j = M b j
theorem pz_cpy_i {M : pz_M} {a1 a2 n j : Nat} (h : j < n) : pz_cpy M a1 0 a2 0 n a2 j = M a1 j := by
  unfold pz_cpy
  rw [if_pos ⟨rfl, Nat.zero_le _, by omega⟩, show 0 + (j - 0) = j by omega]
theorem pz_cpy_o {M : pz_M} {a1 sp a2 dp n b j : Nat} (h : b ≠ a2) : pz_cpy M a1 sp a2 dp n b j = M b j := by
  unfold pz_cpy
  rw [if_neg (fun z => h z.1)]
theorem pz_t3_of {g o : Nat} {M M1 M2 N0 N1 N2 N3 N : pz_M} {v w : Int} {s0 s1 s2 s3 s4 d0 d1 d2 d3 d4 : Nat} (hg : 10 ≤ g ∧ g < 13) (ho : 10 ≤ o ∧ o < 13) (hne : g ≠ o) (e : M1 = pz_u M g 0 v) (hv : v = M o 0) (e2 : M2 = pz_u M1 g 1 w) (hw : w = M1 o 1)
    (a0 : s0 = pz_lb3 o) (a1 : s1 = pz_lb3 o + 1) (a2 : s2 = pz_lb3 o + 2) (a3 : s3 = pz_lb3 o + 3) (a4 : s4 = pz_lb3 o + 4) (b0 : d0 = pz_lb3 g) (b1 : d1 = pz_lb3 g + 1) (b2 : d2 = pz_lb3 g + 2) (b3 : d3 = pz_lb3 g + 3) (b4 : d4 = pz_lb3 g + 4)
    (z0 : N0 = pz_cpy M2 s0 0 d0 0 16) (z1 : N1 = pz_cpy N0 s1 0 d1 0 16) (z2 : N2 = pz_cpy N1 s2 0 d2 0 16) (z3 : N3 = pz_cpy N2 s3 0 d3 0 16) (z4 : N = pz_cpy N3 s4 0 d4 0 400) : pz_t3 g o M N := by
  have lb : pz_lb3 g = 27 + 6 * (g - 10) := rfl
  have lo : pz_lb3 o = 27 + 6 * (o - 10) := rfl
  have f2 : ∀ b j, ¬ (b = g ∧ (j = 0 ∨ j = 1)) → M2 b j = M b j := fun b j q => by rw [e2, pz_une (by omega), e, pz_une (by omega)]
  have fo : ∀ k j : Nat, k < 5 → M2 (pz_lb3 o + k) j = M (pz_lb3 o + k) j := fun k j hk => f2 _ j (by omega)
  have n4 : ∀ b j, b ≠ d4 → N b j = N3 b j := fun b j q => by rw [z4]; exact pz_cpy_o q
  have n3 : ∀ b j, b ≠ d3 → N3 b j = N2 b j := fun b j q => by rw [z3]; exact pz_cpy_o q
  have n2 : ∀ b j, b ≠ d2 → N2 b j = N1 b j := fun b j q => by rw [z2]; exact pz_cpy_o q
  have n1 : ∀ b j, b ≠ d1 → N1 b j = N0 b j := fun b j q => by rw [z1]; exact pz_cpy_o q
  have n0 : ∀ b j, b ≠ d0 → N0 b j = M2 b j := fun b j q => by rw [z0]; exact pz_cpy_o q
  refine ⟨?_, ?_, fun k j hk hj => ?_, fun j hj => ?_, fun b j q1 q2 => ?_⟩
  · rw [n4 _ _ (by omega), n3 _ _ (by omega), n2 _ _ (by omega), n1 _ _ (by omega), n0 _ _ (by omega), e2, pz_une (by omega), e, pz_uu, hv]
  · rw [n4 _ _ (by omega), n3 _ _ (by omega), n2 _ _ (by omega), n1 _ _ (by omega), n0 _ _ (by omega), e2, pz_uu, hw, e, pz_une (by omega)]
  · have hk : k = 0 ∨ k = 1 ∨ k = 2 ∨ k = 3 := by omega
    rcases hk with rfl | rfl | rfl | rfl
    · rw [n4 _ _ (by omega), n3 _ _ (by omega), n2 _ _ (by omega), n1 _ _ (by omega), show pz_lb3 g + 0 = d0 by omega, z0, pz_cpy_i hj, show s0 = pz_lb3 o + 0 by omega]
      exact fo 0 j (by omega)
    · rw [n4 _ _ (by omega), n3 _ _ (by omega), n2 _ _ (by omega), ← b1, z1, pz_cpy_i hj, n0 _ _ (by omega), a1]
      exact fo 1 j (by omega)
    · rw [n4 _ _ (by omega), n3 _ _ (by omega), ← b2, z2, pz_cpy_i hj, n1 _ _ (by omega), n0 _ _ (by omega), a2]
      exact fo 2 j (by omega)
    · rw [n4 _ _ (by omega), ← b3, z3, pz_cpy_i hj, n2 _ _ (by omega), n1 _ _ (by omega), n0 _ _ (by omega), a3]
      exact fo 3 j (by omega)
  · rw [← b4, z4, pz_cpy_i hj, n3 _ _ (by omega), n2 _ _ (by omega), n1 _ _ (by omega), n0 _ _ (by omega), a4]
    exact fo 4 j (by omega)
  · rw [n4 _ _ (by omega), n3 _ _ (by omega), n2 _ _ (by omega), n1 _ _ (by omega), n0 _ _ (by omega)]
    exact f2 b j q1
def pz_td (d b : Nat) : Prop := b = d + 2 ∨ (27 + 6 * (d - 8) ≤ b ∧ b ≤ 31 + 6 * (d - 8)) ∨ (13 + 3 * (d - 8) ≤ b ∧ b ≤ 15 + 3 * (d - 8)) ∨ (20 + 3 * (d - 8) ≤ b ∧ b ≤ 22 + 3 * (d - 8))
def pz_Tc (d s : Nat) (M N : pz_M) : Prop := (∀ j : Nat, j < 2 → N (d + 2) j = M (s + 2) j) ∧ (∀ k j : Nat, k < 4 → j < 16 → N (27 + 6 * (d - 8) + k) j = M (27 + 6 * (s - 8) + k) j) ∧ (∀ j : Nat, j < 400 → N (31 + 6 * (d - 8)) j = M (31 + 6 * (s - 8)) j) ∧ (∀ k : Nat, k < 3 → N (13 + 3 * (d - 8) + k) 0 = M (13 + 3 * (s - 8) + k) 0) ∧ (∀ k j : Nat, k < 3 → j < 80 → N (20 + 3 * (d - 8) + k) j = M (20 + 3 * (s - 8) + k) j) ∧ ∀ b j : Nat, ¬ pz_td d b → N b j = M b j
theorem pz_Tc_of {d s g g' p p' q q' r r' : Nat} {M M1 M2 M3 N : pz_M} (h : (d = 8 ∧ s = 9) ∨ (d = 9 ∧ s = 8)) (a : g = d + 2) (a' : g' = s + 2) (b : p = 13 + 3 * (d - 8)) (b' : p' = 13 + 3 * (s - 8)) (c : q = 14 + 3 * (d - 8)) (c' : q' = 14 + 3 * (s - 8)) (e : r = 15 + 3 * (d - 8)) (e' : r' = 15 + 3 * (s - 8))
    (t1 : pz_t3 g g' M M1) (t2 : pz_t6 p p' M1 M2) (t3 : pz_t6 q q' M2 M3) (t4 : pz_t6 r r' M3 N) : pz_Tc d s M N := by
  obtain ⟨x1, x2, x3, x4, x5⟩ := t1
  obtain ⟨y1, y2, y3⟩ := t2
  obtain ⟨z1, z2, z3⟩ := t3
  obtain ⟨w1, w2, w3⟩ := t4
  have lg : pz_lb3 g = 27 + 6 * (d - 8) := by unfold pz_lb3; omega
  have lg' : pz_lb3 g' = 27 + 6 * (s - 8) := by unfold pz_lb3; omega
  rw [lg, lg'] at x3 x4
  rw [lg] at x5
  refine ⟨fun j hj => ?_, fun k j hk hj => ?_, fun j hj => ?_, fun k hk => ?_, fun k j hk hj => ?_, fun b0 j hb => ?_⟩
  · rw [w3 _ _ (by omega) (by omega), z3 _ _ (by omega) (by omega), y3 _ _ (by omega) (by omega), ← a, ← a']
    have hj : j = 0 ∨ j = 1 := by omega
    rcases hj with rfl | rfl
    · exact x1
    · exact x2
  · rw [w3 _ _ (by omega) (by omega), z3 _ _ (by omega) (by omega), y3 _ _ (by omega) (by omega)]
    exact x3 k j hk hj
  · rw [w3 _ _ (by omega) (by omega), z3 _ _ (by omega) (by omega), y3 _ _ (by omega) (by omega), show 31 + 6 * (d - 8) = 27 + 6 * (d - 8) + 4 by omega, show 31 + 6 * (s - 8) = 27 + 6 * (s - 8) + 4 by omega]
    exact x4 j hj
  · have hk : k = 0 ∨ k = 1 ∨ k = 2 := by omega
    rcases hk with rfl | rfl | rfl
    · rw [w3 _ _ (by omega) (by omega), z3 _ _ (by omega) (by omega), show 13 + 3 * (d - 8) + 0 = p by omega, y1, x5 _ _ (by omega) (by omega), show 13 + 3 * (s - 8) + 0 = p' by omega]
    · rw [w3 _ _ (by omega) (by omega), show 13 + 3 * (d - 8) + 1 = q by omega, z1, y3 _ _ (by omega) (by omega), x5 _ _ (by omega) (by omega), show 13 + 3 * (s - 8) + 1 = q' by omega]
    · rw [show 13 + 3 * (d - 8) + 2 = r by omega, w1, z3 _ _ (by omega) (by omega), y3 _ _ (by omega) (by omega), x5 _ _ (by omega) (by omega), show 13 + 3 * (s - 8) + 2 = r' by omega]
  · have hk : k = 0 ∨ k = 1 ∨ k = 2 := by omega
    rcases hk with rfl | rfl | rfl
    · rw [w3 _ _ (by omega) (by omega), z3 _ _ (by omega) (by omega), show 20 + 3 * (d - 8) + 0 = p + 7 by omega, y2 j hj, x5 _ _ (by omega) (by omega), show 20 + 3 * (s - 8) + 0 = p' + 7 by omega]
    · rw [w3 _ _ (by omega) (by omega), show 20 + 3 * (d - 8) + 1 = q + 7 by omega, z2 j hj, y3 _ _ (by omega) (by omega), x5 _ _ (by omega) (by omega), show 20 + 3 * (s - 8) + 1 = q' + 7 by omega]
    · rw [show 20 + 3 * (d - 8) + 2 = r + 7 by omega, w2 j hj, z3 _ _ (by omega) (by omega), y3 _ _ (by omega) (by omega), x5 _ _ (by omega) (by omega), show 20 + 3 * (s - 8) + 2 = r' + 7 by omega]
  · unfold pz_td at hb
    rw [w3 _ _ (by omega) (by omega), z3 _ _ (by omega) (by omega), y3 _ _ (by omega) (by omega), x5 _ _ (by omega) (by omega)]
/-- what THE IMAGE does to the TEXTS -/
def pz_Ti (d s : Nat) (M N : pz_M) : Prop := (∀ j : Nat, j < 2 → N (d + 2) j = M (s + 2) j) ∧ (∀ k j : Nat, k < 4 → j < 16 → N (27 + 6 * (d - 8) + k) j = M (27 + 6 * (s - 8) + k) j) ∧ (∀ j : Nat, j < 400 → N (31 + 6 * (d - 8)) j = M (31 + 6 * (s - 8)) j) ∧ (∀ k : Nat, k < 3 → N (13 + 3 * (d - 8) + k) 0 = M (13 + 3 * (s - 8) + k) 0) ∧ (∀ k j : Nat, k < 3 → j < 80 → N (20 + 3 * (d - 8) + k) j = M (20 + 3 * (s - 8) + k) j) ∧ ∀ b j : Nat, 10 ≤ b → b ≤ 37 → ¬ pz_td d b → N b j = M b j
theorem pz_Ti_of {d s : Nat} {M M1 M2 N : pz_M} (h : (d = 8 ∧ s = 9) ∨ (d = 9 ∧ s = 8)) (q : pz_Tc d s M1 M2) (f1 : ∀ b j : Nat, 10 ≤ b → b ≤ 37 → M1 b j = M b j) (f2 : ∀ b j : Nat, 10 ≤ b → b ≤ 37 → N b j = M2 b j) : pz_Ti d s M N := by
  obtain ⟨q1, q2, q3, q4, q5, q6⟩ := q
  refine ⟨fun j hj => ?_, fun k j hk hj => ?_, fun j hj => ?_, fun k hk => ?_, fun k j hk hj => ?_, fun b j h1 h2 h3 => ?_⟩
  · rw [f2 _ _ (by omega) (by omega), q1 j hj, f1 _ _ (by omega) (by omega)]
  · rw [f2 _ _ (by omega) (by omega), q2 k j hk hj, f1 _ _ (by omega) (by omega)]
  · rw [f2 _ _ (by omega) (by omega), q3 j hj, f1 _ _ (by omega) (by omega)]
  · rw [f2 _ _ (by omega) (by omega), q4 k hk, f1 _ _ (by omega) (by omega)]
  · rw [f2 _ _ (by omega) (by omega), q5 k j hk hj, f1 _ _ (by omega) (by omega)]
  · rw [f2 b j h1 h2, q6 b j h3, f1 b j h1 h2]
theorem pz_img_x {A B C X Y : Prop} (h : A ∨ (B ∧ X) ∨ (C ∧ Y)) : A ∨ B ∨ C := by
  rcases h with h | ⟨h, -⟩ | ⟨h, -⟩
  · exact Or.inl h
  · exact Or.inr (Or.inl h)
  · exact Or.inr (Or.inr h)
theorem pz_rf6 {o : Nat} (h : 13 ≤ o ∧ o < 20) : pz_rf o 1 = o + 7 := by
  have h : o = 13 ∨ o = 14 ∨ o = 15 ∨ o = 16 ∨ o = 17 ∨ o = 18 ∨ o = 19 := by omega
  rcases h with rfl | rfl | rfl | rfl | rfl | rfl | rfl <;> rfl
theorem pz_rf3 {o : Nat} (h : 10 ≤ o ∧ o < 13) : pz_rf o 2 = pz_lb3 o ∧ pz_rf o 3 = pz_lb3 o + 1 ∧ pz_rf o 4 = pz_lb3 o + 2 ∧ pz_rf o 5 = pz_lb3 o + 3 ∧ pz_rf o 6 = pz_lb3 o + 4 := by
  have h : o = 10 ∨ o = 11 ∨ o = 12 := by omega
  rcases h with rfl | rfl | rfl <;> exact ⟨rfl, rfl, rfl, rfl, rfl⟩
theorem pz_rf10 {t : Nat} (h : t = 8 ∨ t = 9) : pz_rf t 0 = t + 2 ∧ pz_rf t 1 = 13 + 3 * (t - 8) ∧ pz_rf t 2 = 14 + 3 * (t - 8) ∧ pz_rf t 3 = 15 + 3 * (t - 8) := by
  rcases h with rfl | rfl <;> exact ⟨rfl, rfl, rfl, rfl⟩
theorem pz_rf37 {g : Nat} (h : 10 ≤ g ∧ g < 13) : pz_rf g 7 = 32 + 6 * (g - 10) := by
  have h : g = 10 ∨ g = 11 ∨ g = 12 := by omega
  rcases h with rfl | rfl | rfl <;> rfl
/-! a TEXT is told -/
def pq_Pt (b j : Nat) : Prop := (b = 3 ∧ j = 2) ∨ (b = 4 ∧ j = 1) ∨ (b = 5 ∧ 3 ≤ j) ∨ (b = 7 ∧ j = 0) ∨ b = 10 ∨ (12 ≤ b ∧ b ≤ 15) ∨ (19 ≤ b ∧ b ≤ 22) ∨ (26 ≤ b ∧ b ≤ 31) ∨ (39 ≤ b ∧ b ≤ 44) ∨ (49 ≤ b ∧ b ≤ 51)
theorem pq_pr.pt {M M' : pz_M} (h : pq_pr pq_Pp M M') : pq_pr pq_Pt M M' := ⟨h.1, fun b j q => h.2 b j (by unfold pq_Pt at q; unfold pq_Pp; omega)⟩
theorem pq_pr.plt {M M' : pz_M} (h : pq_pr pq_Pl M M') : pq_pr pq_Pt M M' := ⟨h.1, fun b j q => h.2 b j (by unfold pq_Pt at q; unfold pq_Pl; omega)⟩
/-- N's tokens are those of M's tape -/
def pq_tT (M N : pz_M) (c : Nat) : Prop := c ≤ 400 ∧ pz_agr c (pz_T (M 48) (M 4 1).toNat) (pz_XV (M 48) (M 4 1).toNat) (N 49) (N 50) ∧ ∀ j : Nat, j ≤ c → N 51 j = (pz_tp (M 48) (M 4 1).toNat j : Int)
theorem pq_tT_of {M M1 N : pz_M} (e1 : M1 48 = M 48) (e2 : M1 4 1 = M 4 1) (h : ∃ c : Nat, c ≤ 400 ∧ pz_tp (M1 48) (M1 4 1).toNat c = (M1 4 1).toNat ∧ pz_tks (M1 48) (M1 4 1).toNat ((c : Int) + 1) N ∧ pz_fr M1 N) : ∃ c : Nat, pq_tT M N c := by
  obtain ⟨c, h1, h2, h3, h4⟩ := h
  rw [e1, e2] at h2 h3
  refine ⟨c, h1, ⟨?_, fun k hk => ?_⟩, fun j hj => ?_⟩
  · unfold pz_T pz_tt
    rw [if_pos (by omega)]
  · have := h3 k (by omega)
    exact ⟨this.2.1, this.2.2⟩
  · exact (h3 j (by omega)).1
theorem pq_tT_cg {M N N' : pz_M} {c : Nat} (h : pq_tT M N c) (e : N' 49 = N 49) (e2 : N' 50 = N 50) (e3 : N' 51 = N 51) : pq_tT M N' c := by
  unfold pq_tT
  rw [e, e2, e3]
  exact h
theorem pq_cu_0 {M N N1 : pz_M} {c : Nat} (h : pq_tT M N c) (l : (0 ≤ (0 : Int) ∧ (0 : Int) ≤ 400 ∧ N1 = pq_la N 0) ∨ (¬ (0 ≤ (0 : Int) ∧ (0 : Int) ≤ 400) ∧ N1 = N)) : pq_cu N1 ∧ N1 5 5 = 0 ∧ pq_tT M N1 c := by
  rcases l with ⟨-, -, e⟩ | ⟨e, -⟩
  · have u : ∀ b j, ¬ (b = 5 ∧ 5 ≤ j ∧ j ≤ 7) → N1 b j = N b j := fun b j q => by rw [e]; exact pq_la_o q
    have e49 : N1 49 = N 49 := funext fun j => u 49 j (by omega)
    have e50 : N1 50 = N 50 := funext fun j => u 50 j (by omega)
    have e5 : N1 5 5 = 0 := by
      rw [e]
      unfold pq_la
      rw [pz_une (by omega), pz_une (by omega), pz_uu]
    refine ⟨⟨by omega, ?_, ?_, c, h.1, by omega, ?_⟩, e5, pq_tT_cg h e49 e50 (funext fun j => u 51 j (by omega))⟩
    · rw [e49, e5, e]
      unfold pq_la
      rw [pz_une (by omega), pz_uu]
    · rw [e50, e5, e]
      unfold pq_la
      rw [pz_uu]
    · rw [e49, (h.2.1.2 c (Nat.le_refl _)).1, h.2.1.1]
  · omega
/-- the TEXTS' cells -/
def pq_xc (b : Nat) : Prop := b = 10 ∨ (13 ≤ b ∧ b ≤ 15) ∨ (20 ≤ b ∧ b ≤ 22) ∨ (27 ≤ b ∧ b ≤ 31)
def pq_lt (ls : List pz_lne) (N : pz_M) : Prop := N 10 0 = (ls.length : Int) ∧ N 10 1 = ((pz_fl (pz_catl ls)).length : Int) ∧ (∀ k : Nat, k < (pz_fl (pz_catl ls)).length → N 31 k = (pz_fl (pz_catl ls)).getD k 0) ∧ ∀ k : Nat, k < ls.length → pq_l1 ls k (N 27 k) (N 28 k) (N 29 k) (N 30 k)
def pq_rt (q : Nat) (ls : List (List Int)) (N : pz_M) : Prop := N (12 + q) 0 = (ls.length : Int) ∧ ∀ k c : Nat, k < ls.length → c < 5 → N (19 + q) (5 * k + c) = (ls.getD k []).getD c 0
def pq_e0 (M N : pz_M) (v : Int) : Prop := ∃ (c : Nat) (T X : Nat → Int), pz_agr c (pz_T (M 48) (M 4 1).toNat) (pz_XV (M 48) (M 4 1).toNat) T X ∧ ((∃ ls : List pz_lne, pz_gl T X 0 0 (.ok ls) ∧ v = (ls.length : Int) ∧ N 5 3 = 0 ∧ N 5 4 = -1 ∧ pq_lt ls N ∧ ∀ b j : Nat, (13 ≤ b ∧ b ≤ 15) ∨ (20 ≤ b ∧ b ≤ 22) → N b j = M b j) ∨
  (∃ (f : Int) (j : Nat), pz_gl T X 0 0 (.bad f j) ∧ v = -1 ∧ N 5 3 = f ∧ N 5 4 = (pz_tp (M 48) (M 4 1).toNat j : Int) ∧ ∀ b j : Nat, pq_xc b → N b j = M b j))
def pq_e1 (k l : Int) (M N : pz_M) (v : Int) : Prop := ∃ (c : Nat) (T X : Nat → Int), pz_agr c (pz_T (M 48) (M 4 1).toNat) (pz_XV (M 48) (M 4 1).toNat) T X ∧ ((∃ ls : List (List Int), pz_gw (pz_fw k) (pz_row k l T X) T 16 0 = .inl ls ∧ v = (ls.length : Int) ∧ ls.length ≤ 16 ∧ N 5 3 = 0 ∧ N 5 4 = -1 ∧ pq_rt k.toNat ls N ∧ ∀ b j : Nat, pq_xc b → b ≠ 12 + k.toNat → b ≠ 19 + k.toNat → N b j = M b j) ∨
  (∃ (f : Int) (j : Nat), pz_gw (pz_fw k) (pz_row k l T X) T 16 0 = .inr (f, j) ∧ v = -1 ∧ N 5 3 = f ∧ N 5 4 = (pz_tp (M 48) (M 4 1).toNat j : Int) ∧ ∀ b j : Nat, pq_xc b → N b j = M b j))
def pq_e2 (M N : pz_M) (v : Int) : Prop := v = -1 ∧ N 5 3 = 0 ∧ N 5 4 = -1 ∧ ∀ b j : Nat, pq_xc b → N b j = M b j
def pq_te (k l : Int) (M N : pz_M) (v : Int) : Prop := (k = 0 → pq_e0 M N v) ∧ (1 ≤ k ∧ k ≤ 3 → pq_e1 k l M N v) ∧ (¬ (0 ≤ k ∧ k ≤ 3) → pq_e2 M N v)
theorem pq_te_cg {k l v : Int} {M N N' : pz_M} (h : pq_te k l M N v) (e : ∀ b j : Nat, b ≠ 3 → b ≠ 7 → N' b j = N b j) : pq_te k l M N' v := by
  obtain ⟨h1, h2, h3⟩ := h
  have x : ∀ b j : Nat, pq_xc b → N' b j = N b j := fun b j q => e b j (by unfold pq_xc at q; omega) (by unfold pq_xc at q; omega)
  refine ⟨fun q => ?_, fun q => ?_, fun q => ?_⟩
  · obtain ⟨c, T, X, a, b⟩ := h1 q
    refine ⟨c, T, X, a, ?_⟩
    rcases b with ⟨ls, b1, b2, b3, b4, ⟨b5, b6, b7, b8⟩, b9⟩ | ⟨f, j, b1, b2, b3, b4, b5⟩
    · refine Or.inl ⟨ls, b1, b2, by rw [e 5 3 (by decide) (by decide)]; exact b3, by rw [e 5 4 (by decide) (by decide)]; exact b4, ⟨by rw [e 10 0 (by decide) (by decide)]; exact b5, by rw [e 10 1 (by decide) (by decide)]; exact b6, fun k hk => by rw [e 31 k (by decide) (by decide)]; exact b7 k hk, fun k hk => ?_⟩, fun b j y => (e b j (by omega) (by omega)).trans (b9 b j y)⟩
      rw [e 27 k (by decide) (by decide), e 28 k (by decide) (by decide), e 29 k (by decide) (by decide), e 30 k (by decide) (by decide)]
      exact b8 k hk
    · exact Or.inr ⟨f, j, b1, b2, by rw [e 5 3 (by decide) (by decide)]; exact b3, by rw [e 5 4 (by decide) (by decide)]; exact b4, fun b j y => (x b j y).trans (b5 b j y)⟩
  · obtain ⟨c, T, X, a, b⟩ := h2 q
    refine ⟨c, T, X, a, ?_⟩
    rcases b with ⟨ls, b1, b2, b0, b3, b4, ⟨b5, b6⟩, b9⟩ | ⟨f, j, b1, b2, b3, b4, b5⟩
    · exact Or.inl ⟨ls, b1, b2, b0, by rw [e 5 3 (by decide) (by decide)]; exact b3, by rw [e 5 4 (by decide) (by decide)]; exact b4, ⟨by rw [e _ 0 (by omega) (by omega)]; exact b5, fun k c hk hc => by rw [e _ _ (by omega) (by omega)]; exact b6 k c hk hc⟩, fun b j y y2 y3 => (x b j y).trans (b9 b j y y2 y3)⟩
    · exact Or.inr ⟨f, j, b1, b2, by rw [e 5 3 (by decide) (by decide)]; exact b3, by rw [e 5 4 (by decide) (by decide)]; exact b4, fun b j y => (x b j y).trans (b5 b j y)⟩
  · obtain ⟨a, b, c, d⟩ := h3 q
    exact ⟨a, by rw [e 5 3 (by decide) (by decide)]; exact b, by rw [e 5 4 (by decide) (by decide)]; exact c, fun b j y => (x b j y).trans (d b j y)⟩
/-- THE LAW is told -/
theorem pq_e0_y {M N N1 N2 : pz_M} {c : Nat} {v : Int} (hI : pz_ic N1) (t : pq_tT M N c) (h5 : N 5 5 = 0) (g : pq_lg N N1 v) (hv : ¬ v = 0) (f1 : N1 5 3 = 0 ∧ N1 5 4 = -1) (q : pz_t3 10 12 N1 N2) (x : ∀ b j : Nat, (13 ≤ b ∧ b ≤ 15) ∨ (20 ≤ b ∧ b ≤ 22) → N1 b j = M b j) : pq_e0 M N2 (N1 12 0) := by
  obtain ⟨q1, q2, q3, q4, q5⟩ := q
  have lb : pz_lb3 10 = 27 := rfl
  have lc : pz_lb3 12 = 39 := rfl
  rw [lb, lc] at q3 q4
  rw [lb] at q5
  have i := hI.2.2.2.1 12 (by decide) (by decide)
  rcases g with ⟨-, ls, g1, ⟨g2, g3, g4, g5⟩, -⟩ | ⟨g1, -⟩
  · rw [h5] at g1
    refine ⟨c, N 49, N 50, t.2.1, Or.inl ⟨ls, g1, g2, ?_, ?_, ⟨by rw [q1]; exact g2, by rw [q2]; exact g3, fun k hk => ?_, fun k hk => ?_⟩, fun b j y => (q5 b j (by omega) (by omega)).trans (x b j y)⟩⟩
    · rw [q5 5 3 (by omega) (by omega)]; exact f1.1
    · rw [q5 5 4 (by omega) (by omega)]; exact f1.2
    · exact (q4 k (by omega)).trans (g4 k hk)
    · have a0 := q3 0 k (by omega) (by omega)
      have a1 := q3 1 k (by omega) (by omega)
      have a2 := q3 2 k (by omega) (by omega)
      have a3 := q3 3 k (by omega) (by omega)
      have a0 : N2 27 k = N1 39 k := a0
      have a1 : N2 28 k = N1 40 k := a1
      have a2 : N2 29 k = N1 41 k := a2
      have a3 : N2 30 k = N1 42 k := a3
      rw [a0, a1, a2, a3]
      exact g5 k hk
  · exact absurd g1 hv
theorem pq_e0_n {M N N1 : pz_M} {c : Nat} {v : Int} (t : pq_tT M N c) (h5 : N 5 5 = 0) (g : pq_lg N N1 v) (hv : v = 0) (x : ∀ b j : Nat, pq_xc b → N1 b j = M b j) : pq_e0 M N1 (-1) := by
  rcases g with ⟨g1, -⟩ | ⟨-, f, j, g1, g2, g3⟩
  · omega
  · rw [h5] at g1
    have tc : N 49 c = 101 := by rw [(t.2.1.2 c (Nat.le_refl _)).1, t.2.1.1]
    have l := pz_gl_le tc g1 (Nat.zero_le _) f j rfl
    exact ⟨c, N 49, N 50, t.2.1, Or.inr ⟨f, j, g1, rfl, g2, by rw [g3]; exact t.2.2 j l, x⟩⟩
/-- another TEXT is told -/
theorem pq_e1_y {k l v : Int} {M N N1 N2 : pz_M} {c q : Nat} (hI : pz_ic N1) (t : pq_tT M N c) (h5 : N 5 5 = 0) (h8 : N 5 8 = l) (g : pq_rg k N N1 v) (hv : ¬ v = 0) (f1 : N1 5 3 = 0 ∧ N1 5 4 = -1) (hq : (q : Int) = 12 + k) (hk : 1 ≤ k ∧ k ≤ 3) (z : pz_t6 q 19 N1 N2) (x : ∀ b j : Nat, pq_xc b → N1 b j = M b j) : pq_e1 k l M N2 (N1 19 0) := by
  obtain ⟨z1, z2, z3⟩ := z
  have i := hI.2.2.1 19 (by decide) (by decide)
  rcases g with ⟨-, ls, g1, ⟨g2, g3⟩, -⟩ | ⟨g1, -⟩
  · unfold pq_rG at g1
    rw [h5, h8] at g1
    refine ⟨c, N 49, N 50, t.2.1, Or.inl ⟨ls, g1, g2, by omega, ?_, ?_, ⟨?_, fun r d hr hd => ?_⟩, fun b j y y2 y3 => (z3 b j (by omega) (by omega)).trans (x b j y)⟩⟩
    · rw [z3 5 3 (by omega) (by omega)]; exact f1.1
    · rw [z3 5 4 (by omega) (by omega)]; exact f1.2
    · rw [show 12 + k.toNat = q by omega, z1]
      exact g2
    · rw [show 19 + k.toNat = q + 7 by omega, z2 _ (by omega)]
      exact g3 r d hr hd
  · exact absurd g1 hv
theorem pq_e1_n {k l v : Int} {M N N1 : pz_M} {c : Nat} (t : pq_tT M N c) (h5 : N 5 5 = 0) (h8 : N 5 8 = l) (g : pq_rg k N N1 v) (hv : v = 0) (x : ∀ b j : Nat, pq_xc b → N1 b j = M b j) : pq_e1 k l M N1 (-1) := by
  rcases g with ⟨g1, -⟩ | ⟨-, f, j, g1, g2, g3⟩
  · omega
  · unfold pq_rG at g1
    rw [h5, h8] at g1
    have tc : N 49 c = 101 := by rw [(t.2.1.2 c (Nat.le_refl _)).1, t.2.1.1]
    have le := pz_gw_le tc 16 0 (Nat.zero_le _) f j g1
    exact ⟨c, N 49, N 50, t.2.1, Or.inr ⟨f, j, g1, rfl, g2, by rw [g3]; exact t.2.2 j le, x⟩⟩
end
