theorem pz_u64 {M M1 : pz_M} {a k : Nat} {v : Int} (e : M1 = pz_u M a k v) (j : Nat) : M1 a j = if j = k then v else M a j := by
  subst e
  unfold pz_u
  by_cases h : j = k
  · rw [if_pos ⟨rfl, h⟩, if_pos h]
  · rw [if_neg (fun z => h z.2), if_neg h]
theorem pz_fin (f0 f1 f2 f3 f4 : Nat → Int) {n : Int} {k3 k0 k1 k2 : Nat} {v3 v0 v1 v2 : Int} (hn : 0 ≤ n) (h3 : (k3 : Int) = 4 * n + 3) (h0 : (k0 : Int) = 4 * n) (h1 : (k1 : Int) = 4 * n + 1) (h2 : (k2 : Int) = 4 * n + 2)
    (g3 : ∀ j, f1 j = if j = k3 then v3 else f0 j) (g0 : ∀ j, f2 j = if j = k0 then v0 else f1 j) (g1 : ∀ j, f3 j = if j = k1 then v1 else f2 j) (g2 : ∀ j, f4 j = if j = k2 then v2 else f3 j) :
    ∀ j : Nat, ((j : Int) < 4 * n → f4 j = f0 j) ∧ ((j : Int) = 4 * n → f4 j = v0) ∧ ((j : Int) = 4 * n + 1 → f4 j = v1) ∧ ((j : Int) = 4 * n + 2 → f4 j = v2) := by
  intro j
  rw [g2, g1, g0, g3]
  refine ⟨fun q => ?_, fun q => ?_, fun q => ?_, fun q => ?_⟩
  · rw [if_neg (by first | decide | omega), if_neg (by first | decide | omega), if_neg (by first | decide | omega), if_neg (by first | decide | omega)]
  · rw [if_neg (by first | decide | omega), if_neg (by first | decide | omega), if_pos (by first | decide | omega)]
  · rw [if_neg (by first | decide | omega), if_pos (by first | decide | omega)]
  · rw [if_pos (by first | decide | omega)]
/-! the model's reading: a law's lines, the rows; how they come into w -/
def pz_Q6 (b j : Nat) : Prop := (b = 1 ∧ (j = 14 ∨ (17 ≤ j ∧ j ≤ 22) ∨ j = 24)) ∨ b = 64 ∨ b = 65
def pz_Q7 (b j : Nat) : Prop := b = 60 ∧ (j = 91 ∨ (105 ≤ j ∧ j ≤ 128))
def pz_Q8 (b j : Nat) : Prop := (b = 1 ∧ 17 ≤ j ∧ j ≤ 22) ∨ b = 66
/-- one line that has been read -/
def pz_ln (f g : Nat → Int) (t i : Int) : Prop := 0 ≤ f (4 * i).toNat ∧ f (4 * i + 2).toNat ≤ t ∧ pz_sg g (f (4 * i).toNat) (f (4 * i + 1).toNat) ∧ (f (4 * i + 1).toNat = f (4 * i + 2).toNat ∨ pz_sg g (f (4 * i + 1).toNat) (f (4 * i + 2).toNat))
def pz_wfl (M : pz_M) : Prop := ∀ i : Int, 0 ≤ i → i < M 1 13 → pz_ln (M 64) (M 65) (M 1 14) i
def pz_alf (M M' : pz_M) : Prop := M 1 13 < 16 ∧ (M' 1 19 ≤ M' 1 17 ∧ (M' 1 18 ≠ 0 → M' 1 19 + 1 ≤ M' 1 17)) ∧ M' 1 14 ≤ M' 1 19 ∧ M 1 14 ≤ M' 1 14 ∧ (∀ j : Nat, (j : Int) < 4 * M 1 13 → M' 64 j = M 64 j) ∧ (∀ j : Nat, (j : Int) < 2 * M 1 14 → M' 65 j = M 65 j) ∧ pz_ln (M' 64) (M' 65) (M' 1 14) (M 1 13)
theorem pz_ln_cg {f f' g g' : Nat → Int} {t t' i : Int} (h : pz_ln f g t i) (h0 : 0 ≤ i) (hf : ∀ j : Nat, (j : Int) < 4 * i + 4 → f' j = f j) (hg : ∀ j : Nat, (j : Int) < 2 * t → g' j = g j) (ht : t ≤ t') : pz_ln f' g' t' i := by
  obtain ⟨h1, h2, h3, h4⟩ := h
  unfold pz_ln
  rw [hf _ (by first | decide | omega), hf (4 * i + 1).toNat (by first | decide | omega), hf (4 * i + 2).toNat (by first | decide | omega)]
  have l3 := h3.1
  have l4 : f (4 * i + 1).toNat ≤ f (4 * i + 2).toNat := by
    rcases h4 with h4 | h4
    · omega
    · have := h4.1
      omega
  refine ⟨h1, by omega, pz_sg_cg h3 h1 (fun j _ q => hg j (by first | decide | omega)), ?_⟩
  rcases h4 with h4 | h4
  · exact Or.inl h4
  · exact Or.inr (pz_sg_cg h4 (by first | decide | omega) (fun j _ q => hg j (by first | decide | omega)))

/-! the model's lines -/
theorem pq_w64 {M N : pz_M} {k : Nat} {v : Int} (e : N = pz_u M 64 k v) : pq_same M N ∧ N 1 14 = M 1 14 ∧ N 65 = M 65 ∧ N 1 18 = M 1 18 ∧ N 1 19 = M 1 19 ∧ ∀ i, pq_mz M i → pq_mz N i := by
  have u : ∀ b j, b ≠ 64 → N b j = M b j := fun b j q => by rw [e]; exact pz_una q
  have s : pq_same M N := ⟨funext fun j => u 67 j (by first | decide | omega), u 1 16 (by first | decide | omega), u 1 12 (by first | decide | omega)⟩
  exact ⟨s, u 1 14 (by first | decide | omega), funext fun j => u 65 j (by first | decide | omega), u 1 18 (by first | decide | omega), u 1 19 (by first | decide | omega), fun i c => ⟨pq_mi_cg c.1 s (u 1 19 (by first | decide | omega)) (u 1 17 (by first | decide | omega)) (u 1 18 (by first | decide | omega)) (u 1 20 (by first | decide | omega)), by rw [s.2.2]; exact c.2⟩⟩
/-- one line, n lines being told -/
def pq_al (n : Nat) (M N : pz_M) (v : Int) : Prop := ∀ i, pq_mz M i → M 1 18 ≠ 0 → (v = 1 ∧ n < 16 ∧ ∃ (j : Nat) (o p : List (Int × Int)), (∀ r, pz_gl (pq_TM M) (pq_XM M) (n + 1) j r → pz_gl (pq_TM M) (pq_XM M) n i (r.pre [(pq_TM M i, o, p)])) ∧ pq_mz N j ∧ pq_mp (o ++ p) M N ∧ N 64 (4 * n) = M 1 14 ∧ N 64 (4 * n + 1) = M 1 14 + (o.length : Int) ∧ N 64 (4 * n + 2) = M 1 14 + (o.length : Int) + (p.length : Int) ∧ N 64 (4 * n + 3) = pq_TM M i + 20) ∨ (v = 0 ∧ ∃ (k : Int) (j : Nat), pz_gl (pq_TM M) (pq_XM M) n i (.bad k j) ∧ pq_mb M N k j)
theorem pq_al_w {n : Nat} {M N : pz_M} (t : ¬ (20 ≤ M 1 18 ∧ M 1 18 ≤ 23)) (b1 : N 1 21 = 1) (b2 : N 1 22 = M 1 19) : pq_al n M N 0 := by
  intro i c h
  have tj := pq_tk c
  exact Or.inr ⟨rfl, 1, i, .w (by first | decide | omega) (by first | decide | omega), b1, by rw [b2]; exact c.1.2.1⟩
theorem pq_al_m {n : Nat} {M N : pz_M} (t : 20 ≤ M 1 18 ∧ M 1 18 ≤ 23) (hn : 16 ≤ n) (b1 : N 1 21 = 3) (b2 : N 1 22 = M 1 19) : pq_al n M N 0 := by
  intro i c h
  have tj := pq_tk c
  exact Or.inr ⟨rfl, 3, i, .m (by first | decide | omega) hn, b1, by rw [b2]; exact c.1.2.1⟩
/-- up to a line's E -/
def pq_aA (M N : pz_M) : Prop := pq_same M N ∧ N 1 14 = M 1 14 ∧ N 65 = M 65 ∧ ∀ i, pq_mz M i → pq_mz N (i + 1)
theorem pq_aA_of {M N1 N2 N3 N4 : pz_M} {w v v' : Int} {k k' : Nat} (d : N1 = pz_u M 1 24 w) (e : N2 = pz_u N1 64 k v) (z : pz_rl pz_Q0 N2 N3) (s : pz_tb N2 → pz_nxt N2 N3) (f : N4 = pz_u N3 64 k' v') : pq_aA M N4 := by
  obtain ⟨d1, d2, d3, d4⟩ := pq_dpt d
  obtain ⟨e1, e2, e3, -, -, e4⟩ := pq_w64 e
  obtain ⟨f1, f2, f3, -, -, f4⟩ := pq_w64 f
  have g := pq_q0f z
  exact ⟨((d1.tr e1).tr (pq_Q0 z)).tr f1, by rw [f2, g.1, e2, d2], by rw [f3, g.2, e3, d3], fun i c => f4 _ (pq_mz_nx (e4 i (d4 i c)) z s)⟩
theorem pq_al_sb {n : Nat} {M N N1 : pz_M} {v : Int} (t : 20 ≤ M 1 18 ∧ M 1 18 ≤ 23) (hn : n < 16) (a : pq_aA M N) (s : pq_mg 3 0 N N1 v) (hv : v = 0) : pq_al n M N1 0 := by
  intro i c h
  have tj := pq_tk c
  obtain ⟨a1, a2, a3, a4⟩ := a
  rcases s _ (a4 i c) with ⟨q, -⟩ | ⟨-, k, j, q, q1, q2⟩
  · omega
  · rw [a1.T.1, a1.T.2.1] at q
    rw [a1.T.2.2] at q2
    exact Or.inr ⟨rfl, k, j, .sb (by first | decide | omega) hn q, q1, q2⟩
theorem pq_al_wb {n d : Nat} {M N N1 N2 N3 N4 : pz_M} {v v2 x : Int} {k : Nat} (t : 20 ≤ M 1 18 ∧ M 1 18 ≤ 23) (hn : n < 16) (a : pq_aA M N) (s : pq_mg 3 0 N N1 v) (hv : ¬ v = 0) (e1 : pq_same N N1) (f : N2 = pz_u N1 64 k x) (t2 : N2 1 18 = 3) (z : pz_rl pz_Q0 N2 N3) (s3 : pz_tb N2 → pz_nxt N2 N3) (u : pq_mg 8 d N3 N4 v2) (hd : d = 0) (hv2 : v2 = 0) : pq_al n M N4 0 := by
  subst hd
  intro i c h
  have tj := pq_tk c
  obtain ⟨a1, a2, a3, a4⟩ := a
  obtain ⟨f1, f2, f3, f5, -, f4⟩ := pq_w64 f
  rcases s _ (a4 i c) with ⟨-, j, o, q, q1, q2⟩ | ⟨q, -⟩
  · have c2 := f4 _ q1
    have tj2 := pq_tk c2
    rw [((a1.tr e1).tr f1).T.1] at tj2
    rw [a1.T.1, a1.T.2.1] at q
    have g := (((a1.tr e1).tr f1).tr (pq_Q0 z)).T
    rcases u _ (pq_mz_nx c2 z s3) with ⟨w, -⟩ | ⟨-, k, l, w, w1, w2⟩
    · omega
    · rw [g.1, g.2.1] at w
      rw [g.2.2] at w2
      exact Or.inr ⟨rfl, k, l, .wb (by first | decide | omega) hn q (by first | decide | omega) w, w1, w2⟩
  · exact absurd q hv
/-- a line up to its end: what the ; decides -/
def pq_aM (n : Nat) (M N : pz_M) (m e : Int) : Prop := ∀ i, pq_mz M i → ∃ (j : Nat) (o p : List (Int × Int)), pq_mz N j ∧ pq_mp (o ++ p) M N ∧ m = M 1 14 + (o.length : Int) ∧ e = M 1 14 + (o.length : Int) + (p.length : Int) ∧ (pq_TM M j ≠ 59 → pz_gl (pq_TM M) (pq_XM M) n i (.bad 1 j)) ∧ (pq_TM M j = 59 → ∀ r, pz_gl (pq_TM M) (pq_XM M) (n + 1) (j + 1) r → pz_gl (pq_TM M) (pq_XM M) n i (r.pre [(pq_TM M i, o, p)]))
theorem pq_aM_1 {n : Nat} {M N N1 N2 N3 : pz_M} {v x m y e : Int} {k k3 : Nat} (t : 20 ≤ M 1 18 ∧ M 1 18 ≤ 23) (hn : n < 16) (h0 : 0 ≤ M 1 14) (a : pq_aA M N) (s : pq_mg 3 0 N N1 v) (hv : ¬ v = 0) (e1 : pq_same N N1) (f : N2 = pz_u N1 64 k x) (hm : m = N1 1 14) (t2 : N1 1 18 ≠ 3) (g : N3 = pz_u N2 64 k3 y) (he : e = N1 1 14) : pq_aM n M N3 m e := by
  intro i c
  have tj := pq_tk c
  obtain ⟨a1, a2, a3, a4⟩ := a
  obtain ⟨f1, f2, f3, f5, -, f4⟩ := pq_w64 f
  obtain ⟨g1, g2, g3, g5, -, g4⟩ := pq_w64 g
  rcases s _ (a4 i c) with ⟨-, j, o, q, q1, q2⟩ | ⟨q, -⟩
  · have c2 := f4 _ q1
    have tj2 := pq_tk c2
    rw [((a1.tr e1).tr f1).T.1] at tj2
    rw [a1.T.1, a1.T.2.1] at q
    have l := q2.1
    refine ⟨j, o, [], g4 _ c2, ?_, by omega, ?_, fun z => .n1 (by first | decide | omega) hn q (by first | decide | omega) z, fun z r w => .s1 (by first | decide | omega) hn q z w⟩
    · rw [List.append_nil]
      exact ((q2.al a2 a3).la f2 f3).la g2 g3
    · show e = M 1 14 + (o.length : Int) + ((0 : Nat) : Int)
      omega
  · exact absurd q hv
theorem pq_aM_2 {n d : Nat} {M N N1 N2 N3 N4 N5 : pz_M} {v v2 x m y e : Int} {k k3 : Nat} (t : 20 ≤ M 1 18 ∧ M 1 18 ≤ 23) (hn : n < 16) (h0 : 0 ≤ M 1 14) (a : pq_aA M N) (s : pq_mg 3 0 N N1 v) (hv : ¬ v = 0) (e1 : pq_same N N1) (f : N2 = pz_u N1 64 k x) (hm : m = N1 1 14) (t2 : N2 1 18 = 3) (z : pz_rl pz_Q0 N2 N3) (s3 : pz_tb N2 → pz_nxt N2 N3) (u : pq_mg 8 d N3 N4 v2) (hd : d = 0) (hv2 : ¬ v2 = 0) (g : N5 = pz_u N4 64 k3 y) (he : e = N4 1 14) : pq_aM n M N5 m e := by
  subst hd
  intro i c
  have tj := pq_tk c
  obtain ⟨a1, a2, a3, a4⟩ := a
  obtain ⟨f1, f2, f3, f5, -, f4⟩ := pq_w64 f
  obtain ⟨g1, g2, g3, g5, -, g4⟩ := pq_w64 g
  have z0 := pq_q0f z
  rcases s _ (a4 i c) with ⟨-, j, o, q, q1, q2⟩ | ⟨q, -⟩
  · have c2 := f4 _ q1
    have tj2 := pq_tk c2
    rw [((a1.tr e1).tr f1).T.1] at tj2
    rw [a1.T.1, a1.T.2.1] at q
    have l := q2.1
    have w9 := (((a1.tr e1).tr f1).tr (pq_Q0 z)).T
    rcases u _ (pq_mz_nx c2 z s3) with ⟨-, j2, p, w, w1, w2⟩ | ⟨w, -⟩
    · rw [w9.1, w9.2.1] at w
      have l2 := w2.1
      refine ⟨j2, o, p, g4 _ w1, ?_, by omega, by omega, fun y => .n2 (by first | decide | omega) hn q (by first | decide | omega) w y, fun y r b => .s2 (by first | decide | omega) hn q (by first | decide | omega) w y b⟩
      have r1 := (q2.al a2 a3).la f2 f3
      have r2 := w2.al z0.1 z0.2
      exact (r1.tr h0 r2).la g2 g3
    · exact absurd w hv2
  · exact absurd q hv
theorem pq_al_e {n : Nat} {M N N2 : pz_M} {m e v : Int} (h : pq_aM n M N m e) (hn : n < 16) (t0 : 20 ≤ M 1 18 ∧ M 1 18 ≤ 23) (e1 : pq_same M N) (s : (v = 1 ∧ (pz_tb N → pz_nxt N N2)) ∨ (v = 0 ∧ N 1 18 ≠ 159 ∧ N2 1 21 = 1 ∧ N2 1 22 = N 1 19)) (t : v = 1 → N 1 18 = 159) (z : pz_rl pz_Q0 N N2) (r : v = 1 → N2 64 (4 * n) = M 1 14 ∧ N2 64 (4 * n + 1) = m ∧ N2 64 (4 * n + 2) = e ∧ N2 64 (4 * n + 3) = M 1 18) : pq_al n M N2 v := by
  intro i c h9
  have tj := pq_tk c
  obtain ⟨j, o, p, b1, b2, b3, b4, b5, b6⟩ := h i c
  have tj2 := pq_tk b1
  rw [e1.T.1] at tj2
  have z0 := pq_q0f z
  rcases s with ⟨s1, s2⟩ | ⟨s1, s2, s3, s4⟩
  · obtain ⟨r1, r2, r3, r4⟩ := r s1
    have t1 := t s1
    exact Or.inl ⟨s1, hn, j + 1, o, p, fun r9 w => b6 (by first | decide | omega) r9 w, pq_mz_nx b1 z s2, b2.la z0.1 z0.2, r1, by rw [r2, b3], by rw [r3, b4], by rw [r4]; omega⟩
  · have p1 := b1.1.2.1
    rw [e1.T.2.2] at p1
    exact Or.inr ⟨s1, 1, j, b5 (by first | decide | omega), s3, by rw [s4]; exact p1⟩
theorem pq_Q6 {M N : pz_M} (h : ∀ b j : Nat, ¬ ((b = 1 ∧ (j = 14 ∨ (17 ≤ j ∧ j ≤ 22) ∨ j = 24)) ∨ b = 64 ∨ b = 65) → N b j = M b j) : pq_same M N := ⟨funext fun j => h 67 j (by first | decide | omega), h 1 16 (by first | decide | omega), h 1 12 (by first | decide | omega)⟩

/-! the lines of THE LAW, as the model lays them -/
def pq_l2 (ls : List pz_lne) (k : Nat) (s m e w : Int) : Prop := s = ((pz_catl (ls.take k)).length : Int) ∧ m = ((pz_catl (ls.take k) ++ (ls.getD k (0, [], [])).2.1).length : Int) ∧ e = ((pz_catl (ls.take (k + 1))).length : Int) ∧ w = (ls.getD k (0, [], [])).1 + 20
theorem pq_l2_app {ls : List pz_lne} {q : pz_lne} {k : Nat} {s m e w : Int} (hk : k < ls.length) (h : pq_l2 ls k s m e w) : pq_l2 (ls ++ [q]) k s m e w := by
  obtain ⟨a, b, c, d⟩ := h
  have g : (ls ++ [q]).getD k (0, [], []) = ls.getD k (0, [], []) := by
    rw [List.getD_eq_getElem?_getD, List.getD_eq_getElem?_getD, List.getElem?_append_left hk]
  refine ⟨?_, ?_, ?_, by rw [g]; exact d⟩
  · rw [List.take_append_of_le_length (by first | decide | omega)]; exact a
  · rw [List.take_append_of_le_length (by first | decide | omega), g]; exact b
  · rw [List.take_append_of_le_length (by first | decide | omega)]; exact c
theorem pq_l2_new {ls : List pz_lne} {q : pz_lne} {s m e w : Int} (hs : s = ((pz_catl ls).length : Int)) (hm : m = ((pz_catl ls ++ q.2.1).length : Int)) (he : e = ((pz_catl (ls ++ [q])).length : Int)) (hw : w = q.1 + 20) : pq_l2 (ls ++ [q]) ls.length s m e w := by
  have g : (ls ++ [q]).getD ls.length (0, [], []) = q := by
    rw [List.getD_eq_getElem?_getD, List.getElem?_append_right (Nat.le_refl _), Nat.sub_self]
    rfl
  have t : (ls ++ [q]).take ls.length = ls := by
    rw [List.take_append_of_le_length (Nat.le_refl _), List.take_length]
  have t2 : (ls ++ [q]).take (ls.length + 1) = ls ++ [q] := List.take_of_length_le (by rw [List.length_append]; exact Nat.le_refl _)
  exact ⟨by rw [t]; exact hs, by rw [t, g]; exact hm, by rw [t2]; exact he, by rw [g]; exact hw⟩
def pq_st (o : List (Int × Int)) (f : Nat → Int) : Prop := ∀ k : Nat, k < o.length → f (2 * k) = (o.getD k (0, 0)).1 ∧ ((o.getD k (0, 0)).1 = 0 ∨ (o.getD k (0, 0)).1 = 26 → f (2 * k + 1) = (o.getD k (0, 0)).2)
def pq_ls (ls : List pz_lne) (n t : Int) (f g : Nat → Int) : Prop := n = (ls.length : Int) ∧ t = ((pz_catl ls).length : Int) ∧ pq_st (pz_catl ls) g ∧ ∀ k : Nat, k < ls.length → pq_l2 ls k (f (4 * k)) (f (4 * k + 1)) (f (4 * k + 2)) (f (4 * k + 3))
theorem pq_ls_add {ls : List pz_lne} {n t n' t' x : Int} {f g f' g' : Nat → Int} {o p : List (Int × Int)} (h : pq_ls ls n t f g) (hn : n' = n + 1) (ht : t' = t + ((o ++ p).length : Int)) (hg : ∀ j : Nat, (j : Int) < 2 * t → g' j = g j) (hg2 : ∀ k : Nat, k < (o ++ p).length → g' (2 * (t.toNat + k)) = ((o ++ p).getD k (0, 0)).1 ∧ (((o ++ p).getD k (0, 0)).1 = 0 ∨ ((o ++ p).getD k (0, 0)).1 = 26 → g' (2 * (t.toNat + k) + 1) = ((o ++ p).getD k (0, 0)).2))
    (hf : ∀ j : Nat, (j : Int) < 4 * n → f' j = f j) (f0 : f' (4 * n.toNat) = t) (f1 : f' (4 * n.toNat + 1) = t + (o.length : Int)) (f2 : f' (4 * n.toNat + 2) = t + (o.length : Int) + (p.length : Int)) (f3 : f' (4 * n.toNat + 3) = x + 20) : pq_ls (ls ++ [(x, o, p)]) n' t' f' g' := by
  obtain ⟨a, b, c, d⟩ := h
  have ec : pz_catl (ls ++ [(x, o, p)]) = pz_catl ls ++ (o ++ p) := by rw [pz_catl_app, pz_catl_one]
  refine ⟨by rw [hn, a, List.length_append]; rfl, by rw [ht, b, ec, List.length_append (as := pz_catl ls)]; omega, fun k hk => ?_, fun k hk => ?_⟩
  · rw [ec, List.length_append] at hk
    rw [ec]
    by_cases q : k < (pz_catl ls).length
    · have e : (pz_catl ls ++ (o ++ p)).getD k (0, 0) = (pz_catl ls).getD k (0, 0) := by
        rw [List.getD_eq_getElem?_getD, List.getD_eq_getElem?_getD, List.getElem?_append_left q]
      rw [e, hg _ (by first | decide | omega), hg _ (by first | decide | omega)]
      exact c k q
    · have e : (pz_catl ls ++ (o ++ p)).getD k (0, 0) = (o ++ p).getD (k - (pz_catl ls).length) (0, 0) := by
        rw [List.getD_eq_getElem?_getD, List.getElem?_append_right (by first | decide | omega), ← List.getD_eq_getElem?_getD]
      rw [e, show k = t.toNat + (k - (pz_catl ls).length) by omega, show t.toNat + (k - (pz_catl ls).length) - (pz_catl ls).length = k - (pz_catl ls).length by omega]
      exact hg2 _ (by first | decide | omega)
  · rw [List.length_append] at hk
    have hk : k < ls.length + 1 := hk
    by_cases q : k = ls.length
    · subst q
      have hn9 : n.toNat = ls.length := by omega
      rw [hn9] at f0 f1 f2 f3
      refine pq_l2_new (by rw [f0]; exact b) ?_ ?_ f3
      · rw [f1, b, List.length_append]
        rfl
      · rw [f2, b, ec, List.length_append, List.length_append]
        omega
    · rw [hf _ (by first | decide | omega), hf _ (by first | decide | omega), hf _ (by first | decide | omega), hf _ (by first | decide | omega)]
      exact pq_l2_app (by first | decide | omega) (d k (by first | decide | omega))
def pq_RN (M N : pz_M) : Prop := pq_same M N ∧ ∀ i, pq_mz M i → ∃ (j : Nat) (ls : List pz_lne), pq_mz N j ∧ (∀ r, pz_gl (pq_TM M) (pq_XM M) ls.length j r → pz_gl (pq_TM M) (pq_XM M) 0 i (r.pre ls)) ∧ pq_ls ls (N 1 13) (N 1 14) (N 64) (N 65)
def pq_RE (M N : pz_M) : Prop := ∀ i, pq_mz M i → ∃ ls : List pz_lne, pz_gl (pq_TM M) (pq_XM M) 0 i (.ok ls) ∧ pq_ls ls (N 1 13) (N 1 14) (N 64) (N 65)
def pq_RB (M N : pz_M) : Prop := ∀ i, pq_mz M i → ∃ (k : Int) (j : Nat), pz_gl (pq_TM M) (pq_XM M) 0 i (.bad k j) ∧ pq_mb M N k j
theorem pq_RN_0 {M N1 N2 : pz_M} (e1 : N1 = pz_u M 1 13 0) (e2 : N2 = pz_u N1 1 14 0) : pq_RN M N2 := by
  have u : ∀ b j, ¬ (b = 1 ∧ (j = 13 ∨ j = 14)) → N2 b j = M b j := fun b j q => by rw [e2, pz_une (by first | decide | omega), e1, pz_une (by first | decide | omega)]
  have s : pq_same M N2 := ⟨funext fun j => u 67 j (by first | decide | omega), u 1 16 (by first | decide | omega), u 1 12 (by first | decide | omega)⟩
  refine ⟨s, fun i c => ⟨i, [], ⟨pq_mi_cg c.1 s (u 1 19 (by first | decide | omega)) (u 1 17 (by first | decide | omega)) (u 1 18 (by first | decide | omega)) (u 1 20 (by first | decide | omega)), by rw [s.2.2]; exact c.2⟩, fun r q => by rw [pz_lpre_nil]; exact q, ?_, ?_, fun k hk => absurd hk (Nat.not_lt_zero _), fun k hk => absurd hk (Nat.not_lt_zero _)⟩⟩
  · rw [e2, pz_une (by first | decide | omega), e1, pz_uu]
    rfl
  · rw [e2, pz_uu]
    rfl
theorem pq_RN_z {M N : pz_M} (h : pq_RN M N) (t : N 1 18 = 0) : pq_RE M N := by
  intro i c
  obtain ⟨j, ls, a, b, d⟩ := h.2 i c
  have tj := pq_tk a
  rw [h.1.T.1] at tj
  have := b _ (.z (by first | decide | omega))
  have e : (pz_lres.ok []).pre ls = .ok ls := by
    show pz_lres.ok (ls ++ []) = _
    rw [List.append_nil]
  rw [e] at this
  exact ⟨ls, this, d⟩
theorem pq_RN_s {M N N1 N2 : pz_M} {v x : Int} (h : pq_RN M N) (a : pq_al (N 1 13).toNat N N1 v) (hv : v = 1) (t : N 1 18 ≠ 0) (f : ∀ j : Nat, (j : Int) < 4 * N 1 13 → N1 64 j = N 64 j) (sm : pq_same N N1) (e : N2 = pz_u N1 1 13 x) (hx : x = N 1 13 + 1) : pq_RN M N2 := by
  have u : ∀ b j, ¬ (b = 1 ∧ j = 13) → N2 b j = N1 b j := fun b j q => by rw [e, pz_une q]
  have s : pq_same N1 N2 := ⟨funext fun j => u 67 j (by first | decide | omega), u 1 16 (by first | decide | omega), u 1 12 (by first | decide | omega)⟩
  refine ⟨(h.1.tr sm).tr s, fun i c => ?_⟩
  obtain ⟨j, ls, b1, b2, b3⟩ := h.2 i c
  have bl := b3.1
  rcases a j b1 t with ⟨-, hn, j2, o, p, c1, c2, c3, c4, c5, c6, c7⟩ | ⟨q, -⟩
  · rw [h.1.T.1, h.1.T.2.1] at c1
    rw [h.1.T.1] at c7
    have en : (N 1 13).toNat = ls.length := by omega
    refine ⟨j2, ls ++ [(pq_TM M j, o, p)], ⟨pq_mi_cg c2.1 s (u 1 19 (by first | decide | omega)) (u 1 17 (by first | decide | omega)) (u 1 18 (by first | decide | omega)) (u 1 20 (by first | decide | omega)), by rw [s.2.2]; exact c2.2⟩, fun r q => ?_, ?_⟩
    · rw [List.length_append] at q
      have := b2 _ (by rw [← en]; exact c1 r (by rw [en]; exact q))
      rw [pz_lpre_pre] at this
      exact this
    · have e64 : N2 64 = N1 64 := funext fun j => u 64 j (by first | decide | omega)
      have e65 : N2 65 = N1 65 := funext fun j => u 65 j (by first | decide | omega)
      rw [e64, e65, u 1 14 (by first | decide | omega), show N2 1 13 = x by rw [e, pz_uu]]
      exact pq_ls_add b3 hx c3.1 c3.2.1 c3.2.2 f c4 c5 c6 c7
  · omega
theorem pq_RN_b {M N N1 N2 : pz_M} {v x : Int} (h : pq_RN M N) (a : pq_al (N 1 13).toNat N N1 v) (hv : v = 0) (t : N 1 18 ≠ 0) (e : N2 = pz_u N1 1 13 x) : pq_RB M N2 := by
  intro i c
  obtain ⟨j, ls, b1, b2, b3⟩ := h.2 i c
  have bl := b3.1
  have en : (N 1 13).toNat = ls.length := by omega
  rcases a j b1 t with ⟨q, -⟩ | ⟨-, k, l, c1, c2, c3⟩
  · omega
  · rw [h.1.T.1, h.1.T.2.1, en] at c1
    rw [h.1.T.2.2] at c3
    exact ⟨k, l, b2 _ c1, by rw [e, pz_une (by first | decide | omega)]; exact c2, by rw [e, pz_une (by first | decide | omega)]; exact c3⟩
theorem pq_RB_cg {M N N2 : pz_M} (h : pq_RB M N) (e1 : N2 1 21 = N 1 21) (e2 : N2 1 22 = N 1 22) : pq_RB M N2 := fun i c => by
  obtain ⟨k, j, a, b, d⟩ := h i c
  exact ⟨k, j, a, by rw [e1]; exact b, by rw [e2]; exact d⟩
/-! the model's rows -/
theorem pq_tma {t : Int} : pz_ma t = 1 ∨ (41 ≤ pz_ma t ∧ pz_ma t ≤ 49) := by
  unfold pz_ma
  split <;> omega
theorem pq_tml {t : Int} : (20 ≤ pz_ml t ∧ pz_ml t ≤ 23) ∨ (3 ≤ pz_ml t ∧ pz_ml t ≤ 6) ∨ pz_ml t = 1 ∨ (41 ≤ pz_ml t ∧ pz_ml t ≤ 49) := by
  have := pq_tma (t := t)
  unfold pz_ml
  split
  · omega
  · split <;> omega
theorem pq_tmp {t : Int} : pz_mp t = 1 ∨ (7 ≤ pz_mp t ∧ pz_mp t ≤ 11) := by
  unfold pz_mp
  split <;> omega
theorem pq_tmw {r t : Int} : 1 ≤ pz_mw r t ∧ pz_mw r t ≠ 2 ∧ pz_mw r t ≤ 49 := by
  have a := pq_tml (t := t)
  have b := pq_tmp (t := t)
  unfold pz_mw
  split
  · omega
  · split
    · omega
    · clear a b
      split
      · repeat' split
        all_goals decide
      · repeat' split
        all_goals decide
theorem pq_tmw1 {t : Int} : pz_mw 1 t = pz_mp t := by
  unfold pz_mw
  rw [if_neg (by decide), if_pos rfl]
theorem pq_tmw2 {t : Int} : pz_mw 2 t = (if t = 8 then 12 else if t = 22 then 13 else if t = 23 then 14 else 1) := by
  unfold pz_mw
  rw [if_neg (by decide), if_neg (by decide), if_pos rfl]
theorem pq_tmw3 {t : Int} : pz_mw 3 t = (if t = 13 then 15 else if t = 8 then 12 else 1) := by
  unfold pz_mw
  rw [if_neg (by decide), if_neg (by decide), if_neg (by decide)]
theorem pq_t2 {r t : Int} : pz_mtk r t = 2 ↔ t = 100 := by
  have m := pq_tmw (r := r) (t := t)
  unfold pz_mtk
  repeat' split
  all_goals omega
theorem pq_t59 {r t : Int} : pz_mtk r t = 159 ↔ t = 59 := by
  have m := pq_tmw (r := r) (t := t)
  unfold pz_mtk
  repeat' split
  all_goals omega
theorem pq_t0 {r t : Int} : pz_mtk r t = 0 ↔ t = 101 := by
  have m := pq_tmw (r := r) (t := t)
  unfold pz_mtk
  repeat' split
  all_goals omega
theorem pq_t1 {t : Int} : (8 ≤ pz_mtk 1 t ∧ pz_mtk 1 t ≤ 11) ↔ (18 ≤ t ∧ t ≤ 21) := by
  unfold pz_mtk
  rw [pq_tmw1]
  unfold pz_mp
  repeat' split
  all_goals omega
theorem pq_t1v {t : Int} (h : 8 ≤ pz_mtk 1 t ∧ pz_mtk 1 t ≤ 11) : t = pz_mtk 1 t + 10 := by
  have q := pq_t1.mp h
  unfold pz_mtk
  rw [pq_tmw1, if_neg (by first | decide | omega), if_neg (by first | decide | omega), if_neg (by first | decide | omega), if_neg (by first | decide | omega)]
  unfold pz_mp
  rw [if_pos (by first | decide | omega)]
  omega
theorem pq_kt {r k t q : Int} (h : (r = 1 ∧ k = 7 ∧ t = 17) ∨ (r = 2 ∧ k = 12 ∧ t = 8) ∨ (r = 2 ∧ k = 13 ∧ t = 22) ∨ (r = 2 ∧ k = 14 ∧ t = 23) ∨ (r = 3 ∧ k = 15 ∧ t = 13) ∨ (r = 3 ∧ k = 12 ∧ t = 8)) : pz_mtk r q = k ↔ q = t := by
  rcases h with ⟨rfl, h⟩ | h | h | h | h | h
  · unfold pz_mtk
    rw [pq_tmw1]
    unfold pz_mp
    repeat' split
    all_goals omega
  all_goals
    obtain ⟨rfl, rfl, rfl⟩ := h
    unfold pz_mtk
    first | rw [pq_tmw2] | rw [pq_tmw3]
    repeat' split
    all_goals omega
theorem pq_mi_t {M : pz_M} {i : Nat} (c : pq_mi M i) : M 1 18 = 2 ↔ pq_TM M i = 100 := by
  rw [c.2.2.2.1]
  exact pq_t2
/-- a number is asked for -/
def pq_nb (x : Nat) (y z : Int) (M N : pz_M) (v : Int) : Prop := ∀ i, pq_mi M i → (v = 1 ∧ pq_TM M i = 100 ∧ y ≤ pq_XM M i ∧ pq_XM M i ≤ z ∧ N 66 x = pq_XM M i ∧ pq_mi N (i + 1)) ∨ (v = 0 ∧ ((pq_TM M i ≠ 100 ∧ pq_mb M N 1 i) ∨ (pq_TM M i = 100 ∧ ¬ (y ≤ pq_XM M i ∧ pq_XM M i ≤ z) ∧ pq_mb M N 2 i)))
theorem pq_nb_1 {x : Nat} {y z v : Int} {M N : pz_M} (hv : v = 0) (t : M 1 18 ≠ 2) (b1 : N 1 21 = 1) (b2 : N 1 22 = M 1 19) : pq_nb x y z M N v := fun i c => Or.inr ⟨hv, Or.inl ⟨fun q => t ((pq_mi_t c).mpr q), b1, b2.trans c.2.1⟩⟩
theorem pq_nb_2 {x : Nat} {y z v : Int} {M N : pz_M} (hv : v = 0) (t : M 1 18 = 2) (h : ¬ (y ≤ M 1 20 ∧ M 1 20 ≤ z)) (b1 : N 1 21 = 2) (b2 : N 1 22 = M 1 19) : pq_nb x y z M N v := fun i c => by
  have tt := (pq_mi_t c).mp t
  have xx := c.2.2.2.2 tt
  exact Or.inr ⟨hv, Or.inr ⟨tt, by rw [← xx]; exact h, b1, b2.trans c.2.1⟩⟩
theorem pq_nb_y {x : Nat} {y z w : Int} {M N N2 : pz_M} (t : M 1 18 = 2) (h : y ≤ M 1 20 ∧ M 1 20 ≤ z) (e : N = pz_u M 66 x w) (hw : w = M 1 20) (q : pz_rl pz_Q0 N N2) (s : pz_tb N → pz_nxt N N2) : pq_nb x y z M N2 1 := fun i c => by
  have tt := (pq_mi_t c).mp t
  have xx := c.2.2.2.2 tt
  have u : ∀ b j, b ≠ 66 → N b j = M b j := fun b j q => by rw [e, pz_una q]
  have sm : pq_same M N := ⟨funext fun j => u 67 j (by decide), u 1 16 (by decide), u 1 12 (by decide)⟩
  refine Or.inl ⟨rfl, tt, by rw [← xx]; exact h.1, by rw [← xx]; exact h.2, ?_, pq_mi_nx (pq_mi_cg c sm (u 1 19 (by decide)) (u 1 17 (by decide)) (u 1 18 (by decide)) (u 1 20 (by decide))) q s⟩
  rw [q.2 66 x (by unfold pz_Q0; first | decide | omega), e, pz_uu, hw]
  exact xx
/-- a word and a number are asked for -/
def pq_wb (x : Nat) (t y z : Int) (M N : pz_M) (v : Int) : Prop := ∀ i, pq_mi M i → (v = 1 ∧ M 1 18 = t ∧ pq_TM M (i + 1) = 100 ∧ y ≤ pq_XM M (i + 1) ∧ pq_XM M (i + 1) ≤ z ∧ N 66 x = pq_XM M (i + 1) ∧ pq_mi N (i + 2)) ∨ (v = 0 ∧ ((M 1 18 ≠ t ∧ pq_mb M N 1 i) ∨ (M 1 18 = t ∧ pq_TM M (i + 1) ≠ 100 ∧ pq_mb M N 1 (i + 1)) ∨ (M 1 18 = t ∧ pq_TM M (i + 1) = 100 ∧ ¬ (y ≤ pq_XM M (i + 1) ∧ pq_XM M (i + 1) ≤ z) ∧ pq_mb M N 2 (i + 1))))
theorem pq_wb_n {x : Nat} {t y z v : Int} {M N : pz_M} (hv : v = 0) (h : M 1 18 ≠ t) (b1 : N 1 21 = 1) (b2 : N 1 22 = M 1 19) : pq_wb x t y z M N v := fun i c => Or.inr ⟨hv, Or.inl ⟨h, b1, b2.trans c.2.1⟩⟩
theorem pq_wb_y {x : Nat} {t y z v : Int} {M N N2 : pz_M} (h : M 1 18 = t) (q : pz_rl pz_Q0 M N) (s : pz_tb M → pz_nxt M N) (b : pq_nb x y z N N2 v) : pq_wb x t y z M N2 v := fun i c => by
  have c1 := pq_mi_nx c q s
  have g := (pq_Q0 q).T
  rcases b _ c1 with ⟨a1, a2, a3, a4, a5, a6⟩ | ⟨a1, ⟨a2, a3⟩ | ⟨a2, a3, a4⟩⟩
  · rw [g.1] at a2
    rw [g.2.1] at a3 a4 a5
    exact Or.inl ⟨a1, h, a2, a3, a4, a5, a6⟩
  · rw [g.1] at a2
    exact Or.inr ⟨a1, Or.inr (Or.inl ⟨h, a2, a3.1, by rw [a3.2, g.2.2]⟩)⟩
  · rw [g.1] at a2
    rw [g.2.1] at a3
    exact Or.inr ⟨a1, Or.inr (Or.inr ⟨h, a2, a3, a4.1, by rw [a4.2, g.2.2]⟩)⟩
/-- what is still to be read: o tokens on, G has become H -/
def pq_mS (G H : Nat → pz_rw) (o : Nat) (M N : pz_M) : Prop := pq_same M N ∧ ∀ i, pq_mi M i → pq_mi N (i + o) ∧ G i = H i
def pq_mF (G : Nat → pz_rw) (M N : pz_M) : Prop := ∀ i, pq_mi M i → ∃ (f : Int) (j : Nat), G i = .inr (f, j) ∧ pq_mb M N f j
theorem pq_mS_0 {G : Nat → pz_rw} {M : pz_M} : pq_mS G G 0 M M := ⟨pq_same.rf, fun i c => ⟨c, rfl⟩⟩
theorem pq_mS_n {G : Nat → pz_rw} {F : Nat → Int → pz_rw} {o x : Nat} {M N N1 : pz_M} {y z v : Int} (h : pq_mS G (fun i => pz_nu (pq_TM M) (pq_XM M) y z (i + o) (F i)) o M N) (s : pq_nb x y z N N1 v) (hv : ¬ v = 0) (sm : pq_same N N1) : pq_mS G (fun i => F i (N1 66 x)) (o + 1) M N1 := by
  refine ⟨h.1.tr sm, fun i c => ?_⟩
  obtain ⟨c1, g⟩ := h.2 i c
  rcases s _ c1 with ⟨-, a2, a3, a4, a5, a6⟩ | ⟨a, -⟩
  · rw [h.1.T.1] at a2
    rw [h.1.T.2.1] at a3 a4 a5
    refine ⟨a6, ?_⟩
    rw [g]
    show pz_nu (pq_TM M) (pq_XM M) y z (i + o) (F i) = F i (N1 66 x)
    rw [pz_nu_y a2 ⟨a3, a4⟩, a5]
  · exact absurd a hv
theorem pq_mb_cg {M N N1 : pz_M} {k : Int} {j : Nat} (h : pq_mb N N1 k j) (s : pq_same M N) : pq_mb M N1 k j := ⟨h.1, by rw [h.2, s.T.2.2]⟩
theorem pq_mS_nf {G : Nat → pz_rw} {F : Nat → Int → pz_rw} {o x : Nat} {M N N1 : pz_M} {y z v : Int} (h : pq_mS G (fun i => pz_nu (pq_TM M) (pq_XM M) y z (i + o) (F i)) o M N) (s : pq_nb x y z N N1 v) (hv : v = 0) : pq_mF G M N1 := by
  intro i c
  obtain ⟨c1, g⟩ := h.2 i c
  rcases s _ c1 with ⟨a, -⟩ | ⟨-, ⟨a2, a3⟩ | ⟨a2, a3, a4⟩⟩
  · omega
  · rw [h.1.T.1] at a2
    exact ⟨1, _, by rw [g]; exact pz_nu_1 a2, pq_mb_cg a3 h.1⟩
  · rw [h.1.T.1] at a2
    rw [h.1.T.2.1] at a3
    exact ⟨2, _, by rw [g]; exact pz_nu_2 a2 a3, pq_mb_cg a4 h.1⟩
theorem pq_mS_w {G : Nat → pz_rw} {F : Nat → Int → pz_rw} {o x : Nat} {M N N1 : pz_M} {k t y z v : Int} (h : pq_mS G (fun i => pz_nd (pq_TM M) t (i + o) (pz_nu (pq_TM M) (pq_XM M) y z (i + o + 1) (F i))) o M N) (hk : ∀ q : Int, pz_mtk (N 1 12) q = k ↔ q = t) (s : pq_wb x k y z N N1 v) (hv : ¬ v = 0) (sm : pq_same N N1) : pq_mS G (fun i => F i (N1 66 x)) (o + 2) M N1 := by
  refine ⟨h.1.tr sm, fun i c => ?_⟩
  obtain ⟨c1, g⟩ := h.2 i c
  rcases s _ c1 with ⟨-, a1, a2, a3, a4, a5, a6⟩ | ⟨a, -⟩
  · have tt := (hk _).mp (c1.2.2.2.1.symm.trans a1)
    rw [h.1.T.1] at a2 tt
    rw [h.1.T.2.1] at a3 a4 a5
    refine ⟨a6, ?_⟩
    rw [g]
    show pz_nd (pq_TM M) t (i + o) (pz_nu (pq_TM M) (pq_XM M) y z (i + o + 1) (F i)) = F i (N1 66 x)
    rw [pz_nd_y tt, pz_nu_y a2 ⟨a3, a4⟩, a5]
  · exact absurd a hv
theorem pq_mS_wf {G : Nat → pz_rw} {F : Nat → Int → pz_rw} {o x : Nat} {M N N1 : pz_M} {k t y z v : Int} (h : pq_mS G (fun i => pz_nd (pq_TM M) t (i + o) (pz_nu (pq_TM M) (pq_XM M) y z (i + o + 1) (F i))) o M N) (hk : ∀ q : Int, pz_mtk (N 1 12) q = k ↔ q = t) (s : pq_wb x k y z N N1 v) (hv : v = 0) : pq_mF G M N1 := by
  intro i c
  obtain ⟨c1, g⟩ := h.2 i c
  rcases s _ c1 with ⟨a, -⟩ | ⟨-, ⟨a1, a3⟩ | ⟨a1, a2, a3⟩ | ⟨a1, a2, a3, a4⟩⟩
  · omega
  · have tt : ¬ pq_TM N (i + o) = t := fun q => a1 (c1.2.2.2.1.trans ((hk _).mpr q))
    rw [h.1.T.1] at tt
    exact ⟨1, _, by rw [g]; exact pz_nd_n tt, pq_mb_cg a3 h.1⟩
  · have tt := (hk _).mp (c1.2.2.2.1.symm.trans a1)
    rw [h.1.T.1] at a2 tt
    exact ⟨1, _, by rw [g]; exact (pz_nd_y tt).trans (pz_nu_1 a2), pq_mb_cg a3 h.1⟩
  · have tt := (hk _).mp (c1.2.2.2.1.symm.trans a1)
    rw [h.1.T.1] at a2 tt
    rw [h.1.T.2.1] at a3
    exact ⟨2, _, by rw [g]; exact (pz_nd_y tt).trans (pz_nu_2 a2 a3), pq_mb_cg a4 h.1⟩
/-- a word alone -/
theorem pq_mS_k {G F : Nat → pz_rw} {o : Nat} {M N N1 : pz_M} {k t : Int} (h : pq_mS G (fun i => pz_nd (pq_TM M) t (i + o) (F i)) o M N) (hk : ∀ q : Int, pz_mtk (N 1 12) q = k ↔ q = t) (a : N 1 18 = k) (q : pz_rl pz_Q0 N N1) (s : pz_tb N → pz_nxt N N1) : pq_mS G F (o + 1) M N1 := by
  refine ⟨h.1.tr (pq_Q0 q), fun i c => ?_⟩
  obtain ⟨c1, g⟩ := h.2 i c
  have tt := (hk _).mp (c1.2.2.2.1.symm.trans a)
  rw [h.1.T.1] at tt
  exact ⟨pq_mi_nx c1 q s, by rw [g]; exact pz_nd_y tt⟩
theorem pq_mS_kf {G F : Nat → pz_rw} {o : Nat} {M N N1 : pz_M} {k t : Int} (h : pq_mS G (fun i => pz_nd (pq_TM M) t (i + o) (F i)) o M N) (hk : ∀ q : Int, pz_mtk (N 1 12) q = k ↔ q = t) (a : N 1 18 ≠ k) (b1 : N1 1 21 = 1) (b2 : N1 1 22 = N 1 19) : pq_mF G M N1 := by
  intro i c
  obtain ⟨c1, g⟩ := h.2 i c
  have tt : ¬ pq_TM N (i + o) = t := fun q => a (c1.2.2.2.1.trans ((hk _).mpr q))
  rw [h.1.T.1] at tt
  exact ⟨1, _, by rw [g]; exact pz_nd_n tt, b1, by rw [b2, c1.2.1, h.1.T.2.2]⟩
/-- a write beside -/
theorem pq_mS_u {G H : Nat → pz_rw} {o k : Nat} {M N N1 : pz_M} {w : Int} (h : pq_mS G H o M N) (e : N1 = pz_u N 66 k w) : pq_mS G H o M N1 := by
  have u : ∀ b j, b ≠ 66 → N1 b j = N b j := fun b j q => by rw [e, pz_una q]
  have sm : pq_same N N1 := ⟨funext fun j => u 67 j (by decide), u 1 16 (by decide), u 1 12 (by decide)⟩
  exact ⟨h.1.tr sm, fun i c => ⟨pq_mi_cg (h.2 i c).1 sm (u 1 19 (by decide)) (u 1 17 (by decide)) (u 1 18 (by decide)) (u 1 20 (by decide)), (h.2 i c).2⟩⟩
theorem pq_mS_x {G H : Nat → pz_rw} {o : Nat} {M N N1 : pz_M} (h : pq_mS G H o M N) (q : pz_rl pz_Q0 N N1) (s : pz_tb N → pz_nxt N N1) : pq_mS G H (o + 1) M N1 := ⟨h.1.tr (pq_Q0 q), fun i c => ⟨pq_mi_nx (h.2 i c).1 q s, (h.2 i c).2⟩⟩
/-! A PLAN's line -/
def pz_rp2 (n : Int) (T X : Nat → Int) (i : Nat) (d l : Int) : pz_rw := if T (i + 1) = 20 then (if T (i + 3) = 100 ∧ X (i + 3) = l then .inr (2, i + 3) else pz_nu T X 0 (n - 1) (i + 3) (fun m => pz_rq T X (i + 4) d (T (i + 1)) l m)) else pz_rq T X (i + 3) d (T (i + 1)) l 0
def pz_rp1 (n : Int) (T X : Nat → Int) (i : Nat) (d : Int) : pz_rw := if 18 ≤ T (i + 1) ∧ T (i + 1) ≤ 21 then pz_nu T X 0 (n - 1) (i + 2) (fun l => pz_rp2 n T X i d l) else .inr (1, i + 1)
def pq_GP (M : pz_M) (i : Nat) : pz_rw := pz_nd (pq_TM M) 17 (i + 0) (pz_rp (M 60 88) (pq_TM M) (pq_XM M) (i + 1))
def pq_GH (M : pz_M) (i : Nat) : pz_rw := pz_nd (pq_TM M) 8 (i + 0) (pz_rh (M 60 88) (pq_TM M) (pq_XM M) (i + 1))
def pq_GD (M : pz_M) (i : Nat) : pz_rw := pz_nd (pq_TM M) 13 (i + 0) (pz_rd (M 60 88) (pq_TM M) (pq_XM M) (i + 1))
theorem pq_mP_a {v : Int} {x : Nat} {M N1 : pz_M} (r : M 1 12 = 1) (s : pq_wb x 7 0 999 M N1 v) (sm : pq_same M N1) : (¬ v = 0 → pq_mS (pq_GP M) (fun i => pz_rp1 (M 60 88) (pq_TM M) (pq_XM M) (i + 1) (N1 66 x)) 2 M N1) ∧ (v = 0 → pq_mF (pq_GP M) M N1) := by
  have h : pq_mS (pq_GP M) (fun i => pz_nd (pq_TM M) 17 (i + 0) (pz_nu (pq_TM M) (pq_XM M) 0 999 (i + 0 + 1) (fun d => pz_rp1 (M 60 88) (pq_TM M) (pq_XM M) (i + 1) d))) 0 M M := ⟨pq_same.rf, fun i c => ⟨c, rfl⟩⟩
  have hk : ∀ q : Int, pz_mtk (M 1 12) q = 7 ↔ q = 17 := fun q => by rw [r]; exact pq_kt (Or.inl ⟨rfl, rfl, rfl⟩)
  exact ⟨fun hv => pq_mS_w (o := 0) (F := fun i d => pz_rp1 (M 60 88) (pq_TM M) (pq_XM M) (i + 1) d) h hk s hv sm, fun hv => pq_mS_wf (o := 0) (F := fun i d => pz_rp1 (M 60 88) (pq_TM M) (pq_XM M) (i + 1) d) h hk s hv⟩
theorem pq_mP_l {G : Nat → pz_rw} {n d v : Int} {x : Nat} {M N N1 : pz_M} (h : pq_mS G (fun i => pz_nu (pq_TM M) (pq_XM M) 0 (n - 1) (i + 3) (fun l => pz_rp2 n (pq_TM M) (pq_XM M) (i + 1) d l)) 3 M N) (s : pq_nb x 0 (n - 1) N N1 v) (sm : pq_same N N1) : (¬ v = 0 → pq_mS G (fun i => pz_rp2 n (pq_TM M) (pq_XM M) (i + 1) d (N1 66 x)) 4 M N1) ∧ (v = 0 → pq_mF G M N1) :=
  ⟨fun hv => pq_mS_n (o := 3) (F := fun i l => pz_rp2 n (pq_TM M) (pq_XM M) (i + 1) d l) h s hv sm, fun hv => pq_mS_nf (o := 3) (F := fun i l => pz_rp2 n (pq_TM M) (pq_XM M) (i + 1) d l) h s hv⟩
theorem pq_mP_k {G : Nat → pz_rw} {n d l w v : Int} {x : Nat} {M N N1 : pz_M} (h : pq_mS G (fun i => pz_nu (pq_TM M) (pq_XM M) 0 (n - 1) (i + 4) (fun m => pz_rq (pq_TM M) (pq_XM M) (i + 5) d (w + 10) l m)) 4 M N) (s : pq_nb x 0 (n - 1) N N1 v) (sm : pq_same N N1) : (¬ v = 0 → pq_mS G (fun i => pz_rq (pq_TM M) (pq_XM M) (i + 5) d (w + 10) l (N1 66 x)) 5 M N1) ∧ (v = 0 → pq_mF G M N1) :=
  ⟨fun hv => pq_mS_n (o := 4) (F := fun i m => pz_rq (pq_TM M) (pq_XM M) (i + 5) d (w + 10) l m) h s hv sm, fun hv => pq_mS_nf (o := 4) (F := fun i m => pz_rq (pq_TM M) (pq_XM M) (i + 5) d (w + 10) l m) h s hv⟩
theorem pq_mP_d {G : Nat → pz_rw} {n d : Int} {M N N1 : pz_M} (h : pq_mS G (fun i => pz_rp1 n (pq_TM M) (pq_XM M) (i + 1) d) 2 M N) (r : M 1 12 = 1) (t : ¬ (8 ≤ N 1 18 ∧ N 1 18 ≤ 11)) (b1 : N1 1 21 = 1) (b2 : N1 1 22 = N 1 19) : pq_mF G M N1 := by
  intro i c
  obtain ⟨c1, g⟩ := h.2 i c
  have tk := c1.2.2.2.1
  rw [h.1.2.2, r, h.1.T.1] at tk
  rw [tk, pq_t1] at t
  refine ⟨1, i + 2, ?_, b1, by rw [b2, c1.2.1, h.1.T.2.2]⟩
  rw [g]
  show pz_rp1 n (pq_TM M) (pq_XM M) (i + 1) d = .inr (1, i + 1 + 1)
  unfold pz_rp1
  rw [if_neg t]
theorem pq_mP_c {G : Nat → pz_rw} {n d w : Int} {M N : pz_M} (h : pq_mS G (fun i => pz_rp1 n (pq_TM M) (pq_XM M) (i + 1) d) 2 M N) (r : M 1 12 = 1) (t : 8 ≤ N 1 18 ∧ N 1 18 ≤ 11) (hw : w = N 1 18) : pq_mS G (fun i => pz_nu (pq_TM M) (pq_XM M) 0 (n - 1) (i + 3) (fun l => pz_rp2 n (pq_TM M) (pq_XM M) (i + 1) d l)) 2 M N ∧ ∀ i, pq_mi M i → pq_TM M (i + 2) = w + 10 := by
  have key : ∀ i, pq_mi M i → pq_TM M (i + 2) = w + 10 ∧ (18 ≤ pq_TM M (i + 2) ∧ pq_TM M (i + 2) ≤ 21) := fun i c => by
    obtain ⟨c1, g⟩ := h.2 i c
    have tk := c1.2.2.2.1
    rw [h.1.2.2, r, h.1.T.1] at tk
    rw [tk] at t hw
    have := pq_t1v t
    exact ⟨by omega, pq_t1.mp t⟩
  refine ⟨⟨h.1, fun i c => ⟨(h.2 i c).1, ?_⟩⟩, fun i c => (key i c).1⟩
  rw [(h.2 i c).2]
  show pz_rp1 n (pq_TM M) (pq_XM M) (i + 1) d = _
  unfold pz_rp1
  rw [if_pos (key i c).2]
theorem pq_mP_2 {G : Nat → pz_rw} {n d l w : Int} {M N N1 : pz_M} (h : pq_mS G (fun i => pz_rp2 n (pq_TM M) (pq_XM M) (i + 1) d l) 4 M N) (W : ∀ i, pq_mi M i → pq_TM M (i + 2) = w + 10) (hw : w = 10) (t : N 1 18 = 2) (x : N 1 20 = l) (b1 : N1 1 21 = 2) (b2 : N1 1 22 = N 1 19) : pq_mF G M N1 := by
  intro i c
  obtain ⟨c1, g⟩ := h.2 i c
  have tt := (pq_mi_t c1).mp t
  have xx := c1.2.2.2.2 tt
  have w2 := W i c
  rw [h.1.T.1] at tt
  rw [h.1.T.2.1] at xx
  refine ⟨2, i + 4, ?_, b1, by rw [b2, c1.2.1, h.1.T.2.2]⟩
  rw [g]
  show pz_rp2 n (pq_TM M) (pq_XM M) (i + 1) d l = .inr (2, i + 1 + 3)
  unfold pz_rp2
  rw [if_pos (show pq_TM M (i + 1 + 1) = 20 by show pq_TM M (i + 2) = 20; omega), if_pos ⟨tt, by rw [← x]; exact xx.symm⟩]
theorem pq_mP_m {G : Nat → pz_rw} {n d l w : Int} {M N : pz_M} (h : pq_mS G (fun i => pz_rp2 n (pq_TM M) (pq_XM M) (i + 1) d l) 4 M N) (W : ∀ i, pq_mi M i → pq_TM M (i + 2) = w + 10) (hw : w = 10) (t : ¬ (N 1 18 = 2 ∧ N 1 20 = l)) : pq_mS G (fun i => pz_nu (pq_TM M) (pq_XM M) 0 (n - 1) (i + 4) (fun m => pz_rq (pq_TM M) (pq_XM M) (i + 5) d (w + 10) l m)) 4 M N := by
  refine ⟨h.1, fun i c => ?_⟩
  obtain ⟨c1, g⟩ := h.2 i c
  have w2 := W i c
  refine ⟨c1, ?_⟩
  rw [g]
  show pz_rp2 n (pq_TM M) (pq_XM M) (i + 1) d l = _
  unfold pz_rp2
  rw [if_pos (show pq_TM M (i + 1 + 1) = 20 by show pq_TM M (i + 2) = 20; omega), if_neg (fun y => ?_)]
  · show pz_nu (pq_TM M) (pq_XM M) 0 (n - 1) (i + 4) (fun m => pz_rq (pq_TM M) (pq_XM M) (i + 5) d (pq_TM M (i + 2)) l m) = _
    rw [w2]
  · have y1 : pq_TM M (i + 4) = 100 := y.1
    have y2 : pq_XM M (i + 4) = l := y.2
    have tt := (pq_mi_t c1).mpr (by rw [h.1.T.1]; exact y1)
    have xx := c1.2.2.2.2 (by rw [h.1.T.1]; exact y1)
    rw [h.1.T.2.1] at xx
    exact t ⟨tt, xx.trans y2⟩
theorem pq_mP_o {G : Nat → pz_rw} {n d l w : Int} {M N : pz_M} (h : pq_mS G (fun i => pz_rp2 n (pq_TM M) (pq_XM M) (i + 1) d l) 4 M N) (W : ∀ i, pq_mi M i → pq_TM M (i + 2) = w + 10) (hw : w ≠ 10) : pq_mS G (fun i => pz_rq (pq_TM M) (pq_XM M) (i + 4) d (w + 10) l 0) 4 M N := by
  refine ⟨h.1, fun i c => ?_⟩
  obtain ⟨c1, g⟩ := h.2 i c
  have w2 := W i c
  refine ⟨c1, ?_⟩
  rw [g]
  show pz_rp2 n (pq_TM M) (pq_XM M) (i + 1) d l = _
  unfold pz_rp2
  rw [if_neg (show ¬ pq_TM M (i + 1 + 1) = 20 by show ¬ pq_TM M (i + 2) = 20; omega)]
  show pz_rq (pq_TM M) (pq_XM M) (i + 4) d (pq_TM M (i + 2)) l 0 = _
  rw [w2]
theorem pq_mP_q {G : Nat → pz_rw} {d l m w : Int} {o : Nat} {M N : pz_M} (h : pq_mS G (fun i => pz_rq (pq_TM M) (pq_XM M) (i + o) d (w + 10) l m) o M N) (hw : w = 8 ∨ w = 10) : pq_mS G (fun i => pz_nu (pq_TM M) (pq_XM M) 1 99 (i + o) (fun q => .inl (i + o + 1, [d, w + 10, l, m, q]))) o M N := by
  refine ⟨h.1, fun i c => ⟨(h.2 i c).1, ?_⟩⟩
  rw [(h.2 i c).2]
  show pz_rq (pq_TM M) (pq_XM M) (i + o) d (w + 10) l m = _
  unfold pz_rq
  rw [if_pos (by first | decide | omega)]
theorem pq_mP_e {G : Nat → pz_rw} {d l m w v : Int} {o x : Nat} {M N N1 : pz_M} (h : pq_mS G (fun i => pz_rq (pq_TM M) (pq_XM M) (i + o) d (w + 10) l m) o M N) (hw : w = 8 ∨ w = 10) (s : pq_nb x 1 99 N N1 v) (sm : pq_same N N1) : (¬ v = 0 → pq_mS G (fun i => .inl (i + (o + 1), [d, w + 10, l, m, N1 66 x])) (o + 1) M N1) ∧ (v = 0 → pq_mF G M N1) :=
  ⟨fun hv => pq_mS_n (o := o) (F := fun i q => .inl (i + o + 1, [d, w + 10, l, m, q])) (pq_mP_q h hw) s hv sm, fun hv => pq_mS_nf (o := o) (F := fun i q => .inl (i + o + 1, [d, w + 10, l, m, q])) (pq_mP_q h hw) s hv⟩
theorem pq_mP_z {G : Nat → pz_rw} {d l m w : Int} {o : Nat} {M N : pz_M} (h : pq_mS G (fun i => pz_rq (pq_TM M) (pq_XM M) (i + o) d (w + 10) l m) o M N) (hw : ¬ (w = 8 ∨ w = 10)) : pq_mS G (fun i => .inl (i + o, [d, w + 10, l, m, 0])) o M N := by
  refine ⟨h.1, fun i c => ⟨(h.2 i c).1, ?_⟩⟩
  rw [(h.2 i c).2]
  show pz_rq (pq_TM M) (pq_XM M) (i + o) d (w + 10) l m = _
  unfold pz_rq
  rw [if_neg (by first | decide | omega)]
/-! PHONES' and RECORDS' lines -/
def pz_rh3 (T X : Nat → Int) (i : Nat) (l f : Int) : pz_rw := pz_nd T 23 (i + 4) (pz_nu T X (f + 1) 240 (i + 4 + 1) (fun t => .inl (i + 6, [l, f, t, 0, 0])))
def pz_rh2 (T X : Nat → Int) (i : Nat) (l : Int) : pz_rw := pz_nd T 22 (i + 2) (pz_nu T X 0 240 (i + 2 + 1) (fun f => pz_rh3 T X i l f))
def pz_rd3 (n : Int) (T X : Nat → Int) (i : Nat) (d : Int) : pz_rw := pz_nu T X 0 (n - 1) (i + 3) (fun l => .inl (i + 4, [d, l, 0, 0, 0]))
def pz_rd2 (n : Int) (T X : Nat → Int) (i : Nat) (d : Int) : pz_rw := pz_nd T 8 (i + 2) (pz_rd3 n T X i d)
theorem pq_mH_0 {M N : pz_M} (r : M 1 12 = 2) (a : M 1 18 = 12) (q : pz_rl pz_Q0 M N) (s : pz_tb M → pz_nxt M N) : pq_mS (pq_GH M) (fun i => pz_nu (pq_TM M) (pq_XM M) 0 (M 60 88 - 1) (i + 1) (pz_rh2 (pq_TM M) (pq_XM M) i)) 1 M N := by
  have h : pq_mS (pq_GH M) (fun i => pz_nd (pq_TM M) 8 (i + 0) (pz_nu (pq_TM M) (pq_XM M) 0 (M 60 88 - 1) (i + 1) (pz_rh2 (pq_TM M) (pq_XM M) i))) 0 M M := ⟨pq_same.rf, fun i c => ⟨c, rfl⟩⟩
  exact pq_mS_k (o := 0) h (fun q => by rw [r]; exact pq_kt (Or.inr (Or.inl ⟨rfl, rfl, rfl⟩))) a q s
theorem pq_mH_a {G : Nat → pz_rw} {n v : Int} {x : Nat} {M N N1 : pz_M} (h : pq_mS G (fun i => pz_nu (pq_TM M) (pq_XM M) 0 (n - 1) (i + 1) (pz_rh2 (pq_TM M) (pq_XM M) i)) 1 M N) (s : pq_nb x 0 (n - 1) N N1 v) (hv : ¬ v = 0) (sm : pq_same N N1) : pq_mS G (fun i => pz_rh2 (pq_TM M) (pq_XM M) i (N1 66 x)) 2 M N1 := pq_mS_n (o := 1) h s hv sm
theorem pq_mH_af {G : Nat → pz_rw} {n v : Int} {x : Nat} {M N N1 : pz_M} (h : pq_mS G (fun i => pz_nu (pq_TM M) (pq_XM M) 0 (n - 1) (i + 1) (pz_rh2 (pq_TM M) (pq_XM M) i)) 1 M N) (s : pq_nb x 0 (n - 1) N N1 v) (hv : v = 0) : pq_mF G M N1 := pq_mS_nf (o := 1) h s hv
theorem pq_mH_0f {M N : pz_M} (r : M 1 12 = 2) (a : M 1 18 ≠ 12) (b1 : N 1 21 = 1) (b2 : N 1 22 = M 1 19) : pq_mF (pq_GH M) M N := by
  have h : pq_mS (pq_GH M) (fun i => pz_nd (pq_TM M) 8 (i + 0) (pz_nu (pq_TM M) (pq_XM M) 0 (M 60 88 - 1) (i + 1) (pz_rh2 (pq_TM M) (pq_XM M) i))) 0 M M := ⟨pq_same.rf, fun i c => ⟨c, rfl⟩⟩
  exact pq_mS_kf (o := 0) (F := fun i => pz_nu (pq_TM M) (pq_XM M) 0 (M 60 88 - 1) (i + 1) (pz_rh2 (pq_TM M) (pq_XM M) i)) h (fun q => by rw [r]; exact pq_kt (Or.inr (Or.inl ⟨rfl, rfl, rfl⟩))) a b1 b2
theorem pq_mH_b {G : Nat → pz_rw} {v l : Int} {x : Nat} {M N N1 : pz_M} (h : pq_mS G (fun i => pz_rh2 (pq_TM M) (pq_XM M) i l) 2 M N) (r : N 1 12 = 2) (s : pq_wb x 13 0 240 N N1 v) (sm : pq_same N N1) : (¬ v = 0 → pq_mS G (fun i => pz_rh3 (pq_TM M) (pq_XM M) i l (N1 66 x)) 4 M N1) ∧ (v = 0 → pq_mF G M N1) := by
  have hk : ∀ q : Int, pz_mtk (N 1 12) q = 13 ↔ q = 22 := fun q => by rw [r]; exact pq_kt (Or.inr (Or.inr (Or.inl ⟨rfl, rfl, rfl⟩)))
  exact ⟨fun hv => pq_mS_w (o := 2) (F := fun i f => pz_rh3 (pq_TM M) (pq_XM M) i l f) h hk s hv sm, fun hv => pq_mS_wf (o := 2) (F := fun i f => pz_rh3 (pq_TM M) (pq_XM M) i l f) h hk s hv⟩
theorem pq_mH_c {G : Nat → pz_rw} {v l f : Int} {x : Nat} {M N N1 : pz_M} (h : pq_mS G (fun i => pz_rh3 (pq_TM M) (pq_XM M) i l f) 4 M N) (r : N 1 12 = 2) (s : pq_wb x 14 (f + 1) 240 N N1 v) (sm : pq_same N N1) : (¬ v = 0 → pq_mS G (fun i => .inl (i + 6, [l, f, N1 66 x, 0, 0])) 6 M N1) ∧ (v = 0 → pq_mF G M N1) := by
  have hk : ∀ q : Int, pz_mtk (N 1 12) q = 14 ↔ q = 23 := fun q => by rw [r]; exact pq_kt (Or.inr (Or.inr (Or.inr (Or.inl ⟨rfl, rfl, rfl⟩))))
  exact ⟨fun hv => pq_mS_w (o := 4) (F := fun i t => .inl (i + 6, [l, f, t, 0, 0])) h hk s hv sm, fun hv => pq_mS_wf (o := 4) (F := fun i t => .inl (i + 6, [l, f, t, 0, 0])) h hk s hv⟩
theorem pq_mD_a {v : Int} {x : Nat} {M N1 : pz_M} (r : M 1 12 = 3) (s : pq_wb x 15 0 999 M N1 v) (sm : pq_same M N1) : (¬ v = 0 → pq_mS (pq_GD M) (fun i => pz_rd2 (M 60 88) (pq_TM M) (pq_XM M) i (N1 66 x)) 2 M N1) ∧ (v = 0 → pq_mF (pq_GD M) M N1) := by
  have h : pq_mS (pq_GD M) (fun i => pz_nd (pq_TM M) 13 (i + 0) (pz_nu (pq_TM M) (pq_XM M) 0 999 (i + 0 + 1) (fun d => pz_rd2 (M 60 88) (pq_TM M) (pq_XM M) i d))) 0 M M := ⟨pq_same.rf, fun i c => ⟨c, rfl⟩⟩
  have hk : ∀ q : Int, pz_mtk (M 1 12) q = 15 ↔ q = 13 := fun q => by rw [r]; exact pq_kt (Or.inr (Or.inr (Or.inr (Or.inr (Or.inl ⟨rfl, rfl, rfl⟩)))))
  exact ⟨fun hv => pq_mS_w (o := 0) (F := fun i d => pz_rd2 (M 60 88) (pq_TM M) (pq_XM M) i d) h hk s hv sm, fun hv => pq_mS_wf (o := 0) (F := fun i d => pz_rd2 (M 60 88) (pq_TM M) (pq_XM M) i d) h hk s hv⟩
theorem pq_mD_b {G : Nat → pz_rw} {n d : Int} {M N N1 : pz_M} (h : pq_mS G (fun i => pz_rd2 n (pq_TM M) (pq_XM M) i d) 2 M N) (r : N 1 12 = 3) (a : N 1 18 = 12) (q : pz_rl pz_Q0 N N1) (s : pz_tb N → pz_nxt N N1) : pq_mS G (fun i => pz_rd3 n (pq_TM M) (pq_XM M) i d) 3 M N1 := pq_mS_k (o := 2) h (fun q => by rw [r]; exact pq_kt (Or.inr (Or.inr (Or.inr (Or.inr (Or.inr ⟨rfl, rfl, rfl⟩)))))) a q s
theorem pq_mD_bf {G : Nat → pz_rw} {n d : Int} {M N N1 : pz_M} (h : pq_mS G (fun i => pz_rd2 n (pq_TM M) (pq_XM M) i d) 2 M N) (r : N 1 12 = 3) (a : N 1 18 ≠ 12) (b1 : N1 1 21 = 1) (b2 : N1 1 22 = N 1 19) : pq_mF G M N1 := pq_mS_kf (o := 2) (F := fun i => pz_rd3 n (pq_TM M) (pq_XM M) i d) h (fun q => by rw [r]; exact pq_kt (Or.inr (Or.inr (Or.inr (Or.inr (Or.inr ⟨rfl, rfl, rfl⟩)))))) a b1 b2
theorem pq_mD_c {G : Nat → pz_rw} {n v d : Int} {x : Nat} {M N N1 : pz_M} (h : pq_mS G (fun i => pz_rd3 n (pq_TM M) (pq_XM M) i d) 3 M N) (s : pq_nb x 0 (n - 1) N N1 v) (sm : pq_same N N1) : (¬ v = 0 → pq_mS G (fun i => .inl (i + 4, [d, N1 66 x, 0, 0, 0])) 4 M N1) ∧ (v = 0 → pq_mF G M N1) :=
  ⟨fun hv => pq_mS_n (o := 3) (F := fun i l => .inl (i + 4, [d, l, 0, 0, 0])) h s hv sm, fun hv => pq_mS_nf (o := 3) (F := fun i l => .inl (i + 4, [d, l, 0, 0, 0])) h s hv⟩
/-- what lies in the fresh rows of a line -/
def pq_lay (r : Int) (k : Nat) (g : Nat → Int) (l : List Int) : Prop := (r = 1 → g (5 * k) = l.getD 0 0 ∧ g (5 * k + 1) = l.getD 1 0 - 10 ∧ g (5 * k + 2) = l.getD 2 0 ∧ g (5 * k + 3) = l.getD 3 0 ∧ g (5 * k + 4) = l.getD 4 0) ∧ (r = 2 → g (3 * k) = l.getD 0 0 ∧ g (3 * k + 1) = l.getD 1 0 ∧ g (3 * k + 2) = l.getD 2 0) ∧ (r = 3 → g (2 * k) = l.getD 0 0 ∧ g (2 * k + 1) = l.getD 1 0)
def pq_wid (r : Int) : Nat := if r = 1 then 5 else if r = 2 then 3 else 2
def pq_mr (G : Nat → pz_rw) (r : Int) (M N : pz_M) (v : Int) : Prop := (v = 1 ∧ ∃ (l : List Int) (o : Nat), pq_mS G (fun i => .inl (i + o, l)) o M N ∧ pq_lay r (M 1 15).toNat (N 66) l ∧ ∀ j : Nat, (j : Int) < (pq_wid r : Int) * M 1 15 → N 66 j = M 66 j) ∨ (v = 0 ∧ pq_mF G M N)
/-- a line with its ; -/
def pq_aw (M N : pz_M) (v : Int) : Prop := (v = 1 ∧ ∃ l : List Int, (∀ i, pq_mi M i → ∃ m : Nat, pz_row (M 1 12) (M 60 88) (pq_TM M) (pq_XM M) (i + 1) = .inl (m, l) ∧ pq_TM M m = 59 ∧ pq_mi N (m + 1)) ∧ pq_lay (M 1 12) (M 1 15).toNat (N 66) l ∧ ∀ j : Nat, (j : Int) < (pq_wid (M 1 12) : Int) * M 1 15 → N 66 j = M 66 j) ∨ (v = 0 ∧ ∀ i, pq_mi M i → ∃ (f : Int) (j : Nat), (∀ g, pz_gs (pq_TM M) (pz_row (M 1 12) (M 60 88) (pq_TM M) (pq_XM M) (i + 1)) g = .inr (f, j)) ∧ pq_mb M N f j)
theorem pq_aw_b {G : Nat → pz_rw} {r v : Int} {M N : pz_M} (h : pq_mr G r M N v) (hv : v = 0) (hG : ∀ i, pq_mi M i → G i = pz_row (M 1 12) (M 60 88) (pq_TM M) (pq_XM M) (i + 1)) : pq_aw M N 0 := by
  rcases h with ⟨a, -⟩ | ⟨-, a⟩
  · omega
  · refine Or.inr ⟨rfl, fun i c => ?_⟩
    obtain ⟨f, j, a1, a2⟩ := a i c
    exact ⟨f, j, fun g => by rw [← hG i c, a1]; rfl, a2⟩
theorem pq_aw_n {G : Nat → pz_rw} {r v : Int} {M N N1 : pz_M} (h : pq_mr G r M N v) (hv : ¬ v = 0) (hG : ∀ i, pq_mi M i → G i = pz_row (M 1 12) (M 60 88) (pq_TM M) (pq_XM M) (i + 1)) (t : N 1 18 ≠ 159) (b1 : N1 1 21 = 1) (b2 : N1 1 22 = N 1 19) : pq_aw M N1 0 := by
  rcases h with ⟨-, l, o, a, b, d⟩ | ⟨a, -⟩
  · refine Or.inr ⟨rfl, fun i c => ?_⟩
    obtain ⟨c1, g⟩ := a.2 i c
    have tt : ¬ pq_TM N (i + o) = 59 := fun q => t (c1.2.2.2.1.trans (pq_t59.mpr q))
    rw [a.1.T.1] at tt
    refine ⟨1, i + o, fun f => ?_, b1, by rw [b2, c1.2.1, a.1.T.2.2]⟩
    rw [← hG i c, g]
    show (if pq_TM M (i + o) = 59 then _ else _) = _
    rw [if_neg tt]
  · exact absurd a hv
theorem pq_aw_y {G : Nat → pz_rw} {r v : Int} {M N N1 : pz_M} (h : pq_mr G r M N v) (hv : ¬ v = 0) (hr : r = M 1 12) (hG : ∀ i, pq_mi M i → G i = pz_row (M 1 12) (M 60 88) (pq_TM M) (pq_XM M) (i + 1)) (t : N 1 18 = 159) (q : pz_rl pz_Q0 N N1) (s : pz_tb N → pz_nxt N N1) : pq_aw M N1 1 := by
  subst hr
  rcases h with ⟨-, l, o, a, b, d⟩ | ⟨a, -⟩
  · have e : N1 66 = N 66 := funext fun j => q.2 66 j (by unfold pz_Q0; first | decide | omega)
    refine Or.inl ⟨rfl, l, fun i c => ?_, by rw [e]; exact b, fun j hj => by rw [e]; exact d j hj⟩
    obtain ⟨c1, g⟩ := a.2 i c
    have tt := pq_t59.mp (c1.2.2.2.1.symm.trans t)
    rw [a.1.T.1] at tt
    exact ⟨i + o, by rw [← hG i c]; exact g, tt, pq_mi_nx c1 q s⟩
  · exact absurd a hv
theorem pq_hG {M : pz_M} {k t r : Int} {row : Nat → pz_rw} (hk : ∀ q : Int, pz_mtk (M 1 12) q = k ↔ q = t) (a : M 1 18 = k) (e : ∀ i, row i = pz_row (M 1 12) (M 60 88) (pq_TM M) (pq_XM M) i) : ∀ i, pq_mi M i → pz_nd (pq_TM M) t (i + 0) (row (i + 1)) = pz_row (M 1 12) (M 60 88) (pq_TM M) (pq_XM M) (i + 1) := fun i c => by
  show pz_nd (pq_TM M) t i (row (i + 1)) = _
  rw [pz_nd_y ((hk _).mp (c.2.2.2.1.symm.trans a)), e]
/-! the rows of a TEXT -/
def pq_GW (M : pz_M) (f i : Nat) : pz_rws := pz_gw (pz_fw (M 1 12)) (pz_row (M 1 12) (M 60 88) (pq_TM M) (pq_XM M)) (pq_TM M) f i
def pq_lys (r : Int) (g : Nat → Int) (ls : List (List Int)) : Prop := ∀ k : Nat, k < ls.length → pq_lay r k g (ls.getD k [])
def pq_QN (M N : pz_M) : Prop := pq_same M N ∧ N 60 88 = M 60 88 ∧ ∀ i, pq_mi M i → ∃ (j : Nat) (ls : List (List Int)), pq_mi N j ∧ N 1 15 = (ls.length : Int) ∧ ls.length ≤ 16 ∧ pq_GW M 16 i = pz_pres ls (pq_GW M (16 - ls.length) j) ∧ pq_lys (M 1 12) (N 66) ls
def pq_QE (M N : pz_M) : Prop := ∀ i, pq_mi M i → ∃ ls : List (List Int), pq_GW M 16 i = .inl ls ∧ N 1 15 = (ls.length : Int) ∧ ls.length ≤ 16 ∧ pq_lys (M 1 12) (N 66) ls
def pq_QB (M N : pz_M) : Prop := ∀ i, pq_mi M i → ∃ (k : Int) (j : Nat), pq_GW M 16 i = .inr (k, j) ∧ pq_mb M N k j
theorem pq_lay_cg {r : Int} {k n : Nat} {g g' : Nat → Int} {l : List Int} (h : pq_lay r k g l) (hr : r = 1 ∨ r = 2 ∨ r = 3) (hk : k < n) (e : ∀ j : Nat, (j : Int) < (pq_wid r : Int) * (n : Int) → g' j = g j) : pq_lay r k g' l := by
  obtain ⟨h1, h2, h3⟩ := h
  refine ⟨fun q => ?_, fun q => ?_, fun q => ?_⟩
  · subst q
    have w : (pq_wid 1 : Int) = 5 := rfl
    rw [w] at e
    rw [e _ (by first | decide | omega), e _ (by first | decide | omega), e _ (by first | decide | omega), e _ (by first | decide | omega), e _ (by first | decide | omega)]
    exact h1 rfl
  · subst q
    have w : (pq_wid 2 : Int) = 3 := rfl
    rw [w] at e
    rw [e _ (by first | decide | omega), e _ (by first | decide | omega), e _ (by first | decide | omega)]
    exact h2 rfl
  · subst q
    have w : (pq_wid 3 : Int) = 2 := rfl
    rw [w] at e
    rw [e _ (by first | decide | omega), e _ (by first | decide | omega)]
    exact h3 rfl
theorem pq_QN_0 {M N : pz_M} (e : N = pz_u M 1 15 0) : pq_QN M N := by
  have u : ∀ b j, ¬ (b = 1 ∧ j = 15) → N b j = M b j := fun b j q => by rw [e, pz_une q]
  have s : pq_same M N := ⟨funext fun j => u 67 j (by first | decide | omega), u 1 16 (by first | decide | omega), u 1 12 (by first | decide | omega)⟩
  refine ⟨s, u 60 88 (by first | decide | omega), fun i c => ⟨i, [], pq_mi_cg c s (u 1 19 (by first | decide | omega)) (u 1 17 (by first | decide | omega)) (u 1 18 (by first | decide | omega)) (u 1 20 (by first | decide | omega)), by rw [e, pz_uu]; rfl, by decide, ?_, fun k hk => absurd hk (Nat.not_lt_zero _)⟩⟩
  rw [pz_pres_nil]
  rfl
theorem pq_QN_z {M N : pz_M} (h : pq_QN M N) (t : N 1 18 = 0) : pq_QE M N := by
  intro i c
  obtain ⟨j, ls, a, b, d, e, f⟩ := h.2.2 i c
  have tt := pq_t0.mp (a.2.2.2.1.symm.trans t)
  rw [h.1.T.1] at tt
  refine ⟨ls, ?_, b, d, f⟩
  rw [e]
  unfold pq_GW
  rw [pz_gw_z tt]
  show (Sum.inl (ls ++ []) : pz_rws) = _
  rw [List.append_nil]
theorem pq_QN_w {M N N1 : pz_M} {k : Int} (h : pq_QN M N) (hk : ∀ q : Int, pz_mtk (M 1 12) q = k ↔ q = pz_fw (M 1 12)) (t : N 1 18 ≠ 0) (t2 : N 1 18 ≠ k) (b1 : N1 1 21 = 1) (b2 : N1 1 22 = N 1 19) : pq_QB M N1 := by
  intro i c
  obtain ⟨j, ls, a, b, d, e, f⟩ := h.2.2 i c
  have tk := a.2.2.2.1
  rw [h.1.2.2, h.1.T.1] at tk
  have u1 : ¬ pq_TM M j = 101 := fun q => t (tk.trans (pq_t0.mpr q))
  have u2 : ¬ pq_TM M j = pz_fw (M 1 12) := fun q => t2 (tk.trans ((hk _).mpr q))
  refine ⟨1, j, ?_, b1, by rw [b2, a.2.1, h.1.T.2.2]⟩
  rw [e]
  unfold pq_GW
  rw [pz_gw_w u1 u2]
  rfl
theorem pq_QN_m {M N N1 : pz_M} {k : Int} (h : pq_QN M N) (hk : ∀ q : Int, pz_mtk (M 1 12) q = k ↔ q = pz_fw (M 1 12)) (hn : N 1 15 = 16) (t : N 1 18 ≠ 0) (t2 : N 1 18 = k) (b1 : N1 1 21 = 3) (b2 : N1 1 22 = N 1 19) : pq_QB M N1 := by
  intro i c
  obtain ⟨j, ls, a, b, d, e, f⟩ := h.2.2 i c
  have tk := a.2.2.2.1
  rw [h.1.2.2, h.1.T.1] at tk
  have u1 : ¬ pq_TM M j = 101 := fun q => t (tk.trans (pq_t0.mpr q))
  have u2 : pq_TM M j = pz_fw (M 1 12) := (hk _).mp (tk.symm.trans t2)
  refine ⟨3, j, ?_, b1, by rw [b2, a.2.1, h.1.T.2.2]⟩
  rw [e]
  unfold pq_GW
  rw [pz_gw_m (by first | decide | omega) u1 u2]
  rfl
theorem pq_QN_s {M N N1 N2 : pz_M} {k v x : Int} (h : pq_QN M N) (hr : M 1 12 = 1 ∨ M 1 12 = 2 ∨ M 1 12 = 3) (hk : ∀ q : Int, pz_mtk (M 1 12) q = k ↔ q = pz_fw (M 1 12)) (hn : N 1 15 ≠ 16) (t : N 1 18 ≠ 0) (t2 : N 1 18 = k) (w : pq_aw N N1 v) (hv : ¬ v = 0) (sm : pq_same N N1) (e88 : N1 60 88 = N 60 88) (e : N2 = pz_u N1 1 15 x) (hx : x = N 1 15 + 1) : pq_QN M N2 := by
  have u : ∀ b j, ¬ (b = 1 ∧ j = 15) → N2 b j = N1 b j := fun b j q => by rw [e, pz_une q]
  have s : pq_same N1 N2 := ⟨funext fun j => u 67 j (by first | decide | omega), u 1 16 (by first | decide | omega), u 1 12 (by first | decide | omega)⟩
  refine ⟨(h.1.tr sm).tr s, (u 60 88 (by first | decide | omega)).trans (e88.trans h.2.1), fun i c => ?_⟩
  obtain ⟨j, ls, a, b, d, g, f⟩ := h.2.2 i c
  have tk := a.2.2.2.1
  rw [h.1.2.2, h.1.T.1] at tk
  have u1 : ¬ pq_TM M j = 101 := fun q => t (tk.trans (pq_t0.mpr q))
  have u2 : pq_TM M j = pz_fw (M 1 12) := (hk _).mp (tk.symm.trans t2)
  rcases w with ⟨-, l, w1, w2, w3⟩ | ⟨q, -⟩
  · obtain ⟨m, x1, x2, x3⟩ := w1 j a
    rw [h.1.2.2, h.2.1, h.1.T.1, h.1.T.2.1] at x1
    rw [h.1.T.1] at x2
    rw [h.1.2.2] at w2 w3
    have en : (N 1 15).toNat = ls.length := by omega
    have e66 : N2 66 = N1 66 := funext fun j => u 66 j (by first | decide | omega)
    refine ⟨m + 1, ls ++ [l], pq_mi_cg x3 s (u 1 19 (by first | decide | omega)) (u 1 17 (by first | decide | omega)) (u 1 18 (by first | decide | omega)) (u 1 20 (by first | decide | omega)), ?_, by rw [List.length_append]; show ls.length + 1 ≤ 16; omega, ?_, fun k hk => ?_⟩
    · rw [e, pz_uu, hx, b, List.length_append]
      rfl
    · have st : pq_GW M (16 - ls.length) j = pz_gs (pq_TM M) (pz_row (M 1 12) (M 60 88) (pq_TM M) (pq_XM M) (j + 1)) (pq_GW M (15 - ls.length)) := pz_gw_s (by first | decide | omega) u1 u2
      rw [g, st, x1, List.length_append, ← pz_pres_pres]
      show pz_pres ls (if pq_TM M m = 59 then _ else _) = _
      rw [if_pos x2, show 16 - (ls.length + [l].length) = 15 - ls.length by show 16 - (ls.length + 1) = _; omega]
    · rw [List.length_append] at hk
      have hk : k < ls.length + 1 := hk
      rw [e66]
      by_cases q : k = ls.length
      · subst q
        rw [List.getD_eq_getElem?_getD, List.getElem?_append_right (by first | decide | omega), show ls.length - ls.length = 0 by omega, ← en]
        exact w2
      · rw [List.getD_eq_getElem?_getD, List.getElem?_append_left (by first | decide | omega), ← List.getD_eq_getElem?_getD]
        exact pq_lay_cg (f k (by first | decide | omega)) hr (n := ls.length) (by first | decide | omega) (fun j hj => w3 j (by rw [b]; exact hj))
  · exact absurd q hv
theorem pq_QN_b {M N N1 N2 : pz_M} {k v x : Int} (h : pq_QN M N) (hk : ∀ q : Int, pz_mtk (M 1 12) q = k ↔ q = pz_fw (M 1 12)) (hn : N 1 15 ≠ 16) (t : N 1 18 ≠ 0) (t2 : N 1 18 = k) (w : pq_aw N N1 v) (hv : v = 0) (e : N2 = pz_u N1 1 15 x) : pq_QB M N2 := by
  intro i c
  obtain ⟨j, ls, a, b, d, g, f⟩ := h.2.2 i c
  have tk := a.2.2.2.1
  rw [h.1.2.2, h.1.T.1] at tk
  have u1 : ¬ pq_TM M j = 101 := fun q => t (tk.trans (pq_t0.mpr q))
  have u2 : pq_TM M j = pz_fw (M 1 12) := (hk _).mp (tk.symm.trans t2)
  rcases w with ⟨q, -⟩ | ⟨-, w⟩
  · omega
  · obtain ⟨k2, l, w1, w2⟩ := w j a
    rw [h.1.2.2, h.2.1, h.1.T.1, h.1.T.2.1] at w1
    have st : pq_GW M (16 - ls.length) j = pz_gs (pq_TM M) (pz_row (M 1 12) (M 60 88) (pq_TM M) (pq_XM M) (j + 1)) (pq_GW M (15 - ls.length)) := pz_gw_s (by first | decide | omega) u1 u2
    refine ⟨k2, l, ?_, by rw [e, pz_une (by first | decide | omega)]; exact w2.1, by rw [e, pz_une (by first | decide | omega), w2.2, h.1.T.2.2]⟩
    rw [g, st, w1]
    rfl
theorem pq_Q8 {M N : pz_M} (h : pz_rl pz_Q8 M N) : pq_same M N := ⟨funext fun j => h.2 67 j (by unfold pz_Q8; first | decide | omega), h.2 1 16 (by unfold pz_Q8; first | decide | omega), h.2 1 12 (by unfold pz_Q8; first | decide | omega)⟩
/-! what lies where: A PLAN's row by row -/
theorem pq_lay1_a {g g1 g2 : Nat → Int} {k n0 n1 n2 n3 n4 : Nat} {w : Int} (h0 : n0 = 5 * k) (h1 : n1 = 5 * k + 1) (h3 : n3 = 5 * k + 3) (h4 : n4 = 5 * k + 4) (A : ∀ j, g1 j = if j = n4 then 0 else if j = n3 then 0 else if j = n1 then w else g j) (h2 : n2 = 5 * k + 2) (B : ∀ j, j ≠ n2 → g2 j = g1 j) : pq_lay 1 k g2 [g n0, w + 10, g2 n2, 0, 0] ∧ ∀ j, j < 5 * k → g2 j = g j := by
  refine ⟨⟨fun _ => ⟨?_, ?_, ?_, ?_, ?_⟩, fun q => absurd q (by decide), fun q => absurd q (by decide)⟩, fun j hj => ?_⟩
  · rw [B _ (by first | decide | omega), A, if_neg (by first | decide | omega), if_neg (by first | decide | omega), if_neg (by first | decide | omega), h0]
    rfl
  · rw [B _ (by first | decide | omega), A, if_neg (by first | decide | omega), if_neg (by first | decide | omega), if_pos (by first | decide | omega)]
    show w = w + 10 - 10
    omega
  · rw [← h2]
    rfl
  · rw [B _ (by first | decide | omega), A, if_neg (by first | decide | omega), if_pos (by first | decide | omega)]
    rfl
  · rw [B _ (by first | decide | omega), A, if_pos (by first | decide | omega)]
    rfl
  · rw [B _ (by first | decide | omega), A, if_neg (by first | decide | omega), if_neg (by first | decide | omega), if_neg (by first | decide | omega)]
theorem pq_lay1_m {g g' : Nat → Int} {k n3 : Nat} {a b c : Int} (h : pq_lay 1 k g [a, b, c, 0, 0]) (B : ∀ j, j ≠ n3 → g' j = g j) (h3 : n3 = 5 * k + 3) : pq_lay 1 k g' [a, b, c, g' n3, 0] := by
  obtain ⟨x1, x2, x3, x4, x5⟩ := h.1 rfl
  refine ⟨fun _ => ⟨?_, ?_, ?_, by rw [← h3]; rfl, ?_⟩, fun q => absurd q (by decide), fun q => absurd q (by decide)⟩
  · rw [B _ (by first | decide | omega)]; exact x1
  · rw [B _ (by first | decide | omega)]; exact x2
  · rw [B _ (by first | decide | omega)]; exact x3
  · rw [B _ (by first | decide | omega)]; exact x5
theorem pq_lay1_q {g g' : Nat → Int} {k n4 : Nat} {a b c d : Int} (h : pq_lay 1 k g [a, b, c, d, 0]) (B : ∀ j, j ≠ n4 → g' j = g j) (h4 : n4 = 5 * k + 4) : pq_lay 1 k g' [a, b, c, d, g' n4] := by
  obtain ⟨x1, x2, x3, x4, x5⟩ := h.1 rfl
  refine ⟨fun _ => ⟨?_, ?_, ?_, ?_, by rw [← h4]; rfl⟩, fun q => absurd q (by decide), fun q => absurd q (by decide)⟩
  · rw [B _ (by first | decide | omega)]; exact x1
  · rw [B _ (by first | decide | omega)]; exact x2
  · rw [B _ (by first | decide | omega)]; exact x3
  · rw [B _ (by first | decide | omega)]; exact x4
theorem pq_fr1 {g g0 g' : Nat → Int} {k n0 : Nat} {r : Int} (O : ∀ j, j < 5 * k → g' j = g j) (Q : ∀ j, j ≠ n0 → g j = g0 j) (h0 : n0 = 5 * k) (hk : (k : Int) = r) : ∀ j : Nat, (j : Int) < ((pq_wid 1 : Nat) : Int) * r → g' j = g0 j := by
  intro j hj
  have w : ((pq_wid 1 : Nat) : Int) = 5 := rfl
  rw [w] at hj
  rw [O j (by first | decide | omega), Q j (by first | decide | omega)]
theorem pq_lay2 {g : Nat → Int} {k n0 n1 n2 : Nat} (h0 : n0 = 3 * k) (h1 : n1 = 3 * k + 1) (h2 : n2 = 3 * k + 2) {a b c : Int} (x0 : g n0 = a) (x1 : g n1 = b) (x2 : g n2 = c) : pq_lay 2 k g [a, b, c, 0, 0] := by
  subst h0; subst h1; subst h2
  exact ⟨fun q => absurd q (by decide), fun _ => ⟨x0, x1, x2⟩, fun q => absurd q (by decide)⟩
theorem pq_lay3 {g : Nat → Int} {k n0 n1 : Nat} (h0 : n0 = 2 * k) (h1 : n1 = 2 * k + 1) {a b : Int} (x0 : g n0 = a) (x1 : g n1 = b) : pq_lay 3 k g [a, b, 0, 0, 0] := by
  subst h0; subst h1
  exact ⟨fun q => absurd q (by decide), fun q => absurd q (by decide), fun _ => ⟨x0, x1⟩⟩
/-- the model's token that a line begins with -/
def pq_bg (r : Int) : Int := if r = 1 then 7 else if r = 2 then 12 else 15
theorem pq_bg1 {r : Int} (h : r = 1) : (7 : Int) = pq_bg r := by subst h; rfl
theorem pq_bg2 {r : Int} (h : r = 2) : (12 : Int) = pq_bg r := by subst h; rfl
theorem pq_bg3 {r : Int} (h : r = 3) : (15 : Int) = pq_bg r := by subst h; rfl
theorem pq_hk {r : Int} (h : r = 1 ∨ r = 2 ∨ r = 3) : ∀ q : Int, pz_mtk r q = pq_bg r ↔ q = pz_fw r := by
  intro q
  rcases h with rfl | rfl | rfl
  · exact pq_kt (Or.inl ⟨rfl, rfl, rfl⟩)
  · exact pq_kt (Or.inr (Or.inl ⟨rfl, rfl, rfl⟩))
  · exact pq_kt (Or.inr (Or.inr (Or.inr (Or.inr (Or.inl ⟨rfl, rfl, rfl⟩)))))
theorem pq_hG1 {M : pz_M} (r : M 1 12 = 1) (a : M 1 18 = pq_bg (M 1 12)) : ∀ i, pq_mi M i → pq_GP M i = pz_row (M 1 12) (M 60 88) (pq_TM M) (pq_XM M) (i + 1) := fun i c => by
  have t := (pq_hk (Or.inl r) _).mp (c.2.2.2.1.symm.trans a)
  rw [r] at t
  show pz_nd (pq_TM M) 17 (i + 0) _ = _
  rw [pz_nd_y (show pq_TM M (i + 0) = 17 from t.trans (pz_fw1 rfl).symm), pz_row1 r]
theorem pq_hG2 {M : pz_M} (r : M 1 12 = 2) (a : M 1 18 = pq_bg (M 1 12)) : ∀ i, pq_mi M i → pq_GH M i = pz_row (M 1 12) (M 60 88) (pq_TM M) (pq_XM M) (i + 1) := fun i c => by
  have t := (pq_hk (Or.inr (Or.inl r)) _).mp (c.2.2.2.1.symm.trans a)
  rw [r] at t
  show pz_nd (pq_TM M) 8 (i + 0) _ = _
  rw [pz_nd_y (show pq_TM M (i + 0) = 8 from t.trans (pz_fw2 rfl).symm), pz_row2 r]
theorem pq_hG3 {M : pz_M} (r : M 1 12 = 3) (a : M 1 18 = pq_bg (M 1 12)) : ∀ i, pq_mi M i → pq_GD M i = pz_row (M 1 12) (M 60 88) (pq_TM M) (pq_XM M) (i + 1) := fun i c => by
  have t := (pq_hk (Or.inr (Or.inr r)) _).mp (c.2.2.2.1.symm.trans a)
  rw [r] at t
  show pz_nd (pq_TM M) 13 (i + 0) _ = _
  rw [pz_nd_y (show pq_TM M (i + 0) = 13 from t.trans (pz_fw3 rfl).symm), pz_row3 r]

noncomputable def k_X12_number : pz_C := (4, 1, fun a M => (match a with | [.inr (.inr (12, th)), .inl x, .inl y, .inl z] => pz_im M ∧ 0 ≤ x ∧ x < 80 | _ => False), fun a M r M' => (match a, r with | [.inr (.inr (12, th)), .inl x, .inl y, .inl z], some (.inl v) => (((∀ j : Nat, j ≠ x.toNat → M' 66 j = M 66 j) ∧ (v = 0 ∨ (v = 1 ∧ y ≤ M' 66 x.toNat ∧ M' 66 x.toNat ≤ z))) ∧ pq_nb x.toNat y z M M' v) ∧ pz_rl pz_Q8 M M' | _, _ => False))
noncomputable abbrev ct_X12_number : List (Bool × Nat × pz_C) := [(true, 188, k_X12_bad), (false, 54, k_X12_isIn), (true, 191, k_X12_next0)]
theorem pz_wk_Q0_Q8 : ∀ b j, pz_Q0 b j → pz_Q8 b j := by
  intro b j q
  unfold pz_Q0 at q
  unfold pz_Q8
  omega
set_option maxRecDepth 100000 in
set_option maxHeartbeats 4000000 in
theorem h_X12_number : pz_H yX12_number cX12_number 4 (some .boolean) k_X12_number 9 190 := by
  refine pz_mk (own := RX12) (tb := t_X12_number) (fl := pz_flf fl_RX12) (ci := pz_cif ci_RX12) (ct := pz_ctf ct_X12_number) (rz := true) (pz_pfc_RX12 yX12_number rfl) rfl t_X12_number_ok (pz_flk fl_RX12_ok) (pz_cik ci_RX12_ok) ?_ ?_ (Or.inr ⟨rfl, rfl⟩) ?_ ?_
  · exact fun i k' h => pz_ctk (l := ct_X12_number) (P := fun b i k => b = true → pz_cV 9 190 RX12 i k) (List.forall_mem_cons.mpr ⟨(fun _ => v_X12_bad (by decide) (by decide) pz_wq1311), List.forall_mem_cons.mpr ⟨((fun z => by cases z)), List.forall_mem_cons.mpr ⟨(fun _ => v_X12_next0 (by decide) (by decide) pz_wq1243), fun _ h => absurd h List.not_mem_nil⟩⟩⟩) true i k' h rfl
  · exact fun i k' h => pz_ctk (l := ct_X12_number) (P := fun b i k => b = false → (pz_cS 9 190 RX12 i k ∨ (k = pz_kac ∧ 1 ≤ 9 ∧ 60 ≤ 190 ∧ Cond.methodLink RX12 i arraycopyName ∈ pz_tbl))) (List.forall_mem_cons.mpr ⟨((fun z => by cases z)), List.forall_mem_cons.mpr ⟨(fun _ => Or.inl (s_X12_isIn (by decide) (by decide) (Or.inl pz_wq1217))), List.forall_mem_cons.mpr ⟨((fun z => by cases z)), fun _ h => absurd h List.not_mem_nil⟩⟩⟩) false i k' h rfl
  · intro a M hlen hpre
    obtain ⟨th, x, y, z, rfl, hpre⟩ : ∃ th x y z, a = [.inr (.inr (12, th)), .inl x, .inl y, .inl z] ∧ (pz_im M ∧ 0 ≤ x ∧ x < 80) := by
      have hpre : (match (generalizing := false) a with | [.inr (.inr (12, th)), .inl x, .inl y, .inl z] => pz_im M ∧ 0 ≤ x ∧ x < 80 | _ => False) := hpre
      split at hpre
      · exact ⟨_, _, _, _, rfl, hpre⟩
      · exact hpre.elim
    exact Nat.le_of_ble_eq_true rfl
  · intro a M hlen hcan hM hpre Ok hgo
    obtain ⟨th, x, y, z, rfl, hpre⟩ : ∃ th x y z, a = [.inr (.inr (12, th)), .inl x, .inl y, .inl z] ∧ (pz_im M ∧ 0 ≤ x ∧ x < 80) := by
      have hpre : (match (generalizing := false) a with | [.inr (.inr (12, th)), .inl x, .inl y, .inl z] => pz_im M ∧ 0 ≤ x ∧ x < 80 | _ => False) := hpre
      split at hpre
      · exact ⟨_, _, _, _, rfl, hpre⟩
      · exact hpre.elim
    obtain ⟨k_th, hc_th⟩ := pz_tlm hcan
    have k_th : pz_kd th = 12 ∧ th < 231 := k_th
    have R_th := pz_kd12 k_th.1
    subst R_th
    clear k_th
    obtain ⟨k_x, hc_x⟩ := pz_tlm hc_th
    have l_x : -2147483648 ≤ x := k_x.1
    have u_x : x ≤ 2147483647 := k_x.2
    obtain ⟨k_y, hc_y⟩ := pz_tlm hc_x
    have l_y : -2147483648 ≤ y := k_y.1
    have u_y : y ≤ 2147483647 := k_y.2
    obtain ⟨k_z, hc_z⟩ := pz_tlm hc_y
    have l_z : -2147483648 ≤ z := k_z.1
    have u_z : z ≤ 2147483647 := k_z.2
    have hI : pz_im M := hpre.1
    have hI0 := hI
    have hS : pz_rl pz_Q8 M M := pz_rl.rf
    refine hgo (fun _ => false) 30 0 _ [] M ?_
    intro v1 e1 a1 b1
    refine And.intro (fun h5 => ?_) (fun h5 => ?_)
    · skip
      intro v15 e15 a15 b15
      refine And.intro (True.intro) ?_
      intro v20 M20 a20 b20 q20
      obtain ⟨q20, z20⟩ := q20
      subst z20
      clear a20 b20
      refine And.intro (fun h23 => ?_) (fun h23 => ?_)
      · skip
        replace q20 := q20.resolve_right (fun z => h23 z.1)
        clear h23
        refine pz_nrc (c := 66) rfl ?_
        intro v38 e38 a38 b38
        have lo41 : (0 : Int) ≤ x := by omega
        have tn41 : (((x).toNat : Nat) : Int) = x := Int.toNat_of_nonneg lo41
        refine And.intro (lo41) (And.intro (show _ < (80 : Int) from by omega) ?_)
        intro M41 e41
        have hS : pz_rl pz_Q8 M M41 := by
          rw [e41]
          exact pz_rl_u hS (by unfold pz_Q8; first | decide | omega) (pz_iom_a (by decide))
        have hI : pz_im M41 := hS.1 hI0
        refine And.intro (hI) ?_
        intro M43 q43
        obtain ⟨q43, z43⟩ := q43
        have hS : pz_rl pz_Q8 M M43 := hS.tr (pz_rl.wk pz_wk_Q0_Q8 z43)
        have hI : pz_im M43 := hS.1 hI0
        obtain ⟨q43, s43⟩ := q43
        have f43 := pz_q0f z43
        obtain ⟨f43a, f43b, f43c⟩ := f43
        refine And.intro (by first | decide | omega) ?_
        refine And.intro rfl ?_
        have A9 := z43.2 66 x.toNat (by unfold pz_Q0; first | decide | omega)
        have B9 := pz_uve e41 66 x.toNat
        exact ⟨⟨⟨fun j hj => (z43.2 66 j (by unfold pz_Q0; first | decide | omega)).trans (by have := pz_uve e41 66 j; omega), Or.inr ⟨rfl, by omega, by omega⟩⟩, pq_nb_y (by first | decide | omega) ⟨by omega, by omega⟩ e41 e38 z43 s43⟩, hS⟩
      · skip
        replace q20 := q20.resolve_left (fun z => absurd (z.1.symm.trans h23) (by decide))
        clear h23
        refine And.intro (hI) ?_
        intro v28 M28 a28 b28 q28
        obtain ⟨q28, z28⟩ := q28
        have hS : pz_rl pz_Q8 M M28 := hS.tr (pz_rl.wk pz_wk_Q0_Q8 z28)
        have hI : pz_im M28 := hS.1 hI0
        clear a28 b28
        refine And.intro (by first | decide | omega) ?_
        refine And.intro rfl ?_
        exact ⟨⟨⟨fun j _ => z28.2 66 j (by unfold pz_Q0; first | decide | omega), Or.inl (by first | decide | omega)⟩, pq_nb_2 (by first | decide | omega) (by first | decide | omega) (by first | decide | omega) q28.2.1 q28.2.2⟩, hS⟩
    · skip
      refine And.intro (hI) ?_
      intro v10 M10 a10 b10 q10
      obtain ⟨q10, z10⟩ := q10
      have hS : pz_rl pz_Q8 M M10 := hS.tr (pz_rl.wk pz_wk_Q0_Q8 z10)
      have hI : pz_im M10 := hS.1 hI0
      clear a10 b10
      refine And.intro (by first | decide | omega) ?_
      refine And.intro rfl ?_
      exact ⟨⟨⟨fun j _ => z10.2 66 j (by unfold pz_Q0; first | decide | omega), Or.inl (by first | decide | omega)⟩, pq_nb_1 (by first | decide | omega) (by first | decide | omega) q10.2.1 q10.2.2⟩, hS⟩
theorem v_X12_number {fr lo i : Nat} {own : String} (h1 : 9 + 1 ≤ fr) (h2 : 8 + (4 + 11) + 190 ≤ lo) (h3 : .methodLink own i yX12_number ∈ lw_tbl) : pz_cV fr lo own i k_X12_number :=
  pz_cVk (maxL := 4) (fr' := 9) (lo' := 190) 3 12 h_X12_number rfl ⟨(pz_nhc_RX12 yX12_number rfl).1, (pz_nhc_RX12 yX12_number rfl).2, pz_ds17⟩ ⟨pz_wq1370, pz_wq1369, pz_ws29, pz_wq13⟩ (Or.inl ⟨TX12, 28, rfl⟩) (fun a M _ h => by
    have h : (match (generalizing := false) a with | [.inr (.inr (12, th)), .inl x, .inl y, .inl z] => pz_im M ∧ 0 ≤ x ∧ x < 80 | _ => False) := h
    split at h
    · exact ⟨_, _, rfl⟩
    · exact h.elim) h1 h2 h3
noncomputable def k_X12_told : pz_C := (5, 1, fun a M => (match a with | [.inr (.inr (12, th)), .inl x, .inl t, .inl y, .inl z] => pz_im M ∧ 0 ≤ x ∧ x < 80 | _ => False), fun a M r M' => (match a, r with | [.inr (.inr (12, th)), .inl x, .inl t, .inl y, .inl z], some (.inl v) => (((∀ j : Nat, j ≠ x.toNat → M' 66 j = M 66 j) ∧ (v = 0 ∨ (v = 1 ∧ y ≤ M' 66 x.toNat ∧ M' 66 x.toNat ≤ z))) ∧ pq_wb x.toNat t y z M M' v) ∧ pz_rl pz_Q8 M M' | _, _ => False))
noncomputable abbrev ct_X12_told : List (Bool × Nat × pz_C) := [(true, 223, k_X12_need), (true, 235, k_X12_number)]
set_option maxRecDepth 100000 in
set_option maxHeartbeats 4000000 in
theorem h_X12_told : pz_H yX12_told cX12_told 5 (some .boolean) k_X12_told 10 213 := by
  refine pz_mk (own := RX12) (tb := t_X12_told) (fl := pz_flf fl_RX12) (ci := pz_cif ci_RX12) (ct := pz_ctf ct_X12_told) (rz := true) (pz_pfc_RX12 yX12_told rfl) rfl t_X12_told_ok (pz_flk fl_RX12_ok) (pz_cik ci_RX12_ok) ?_ ?_ (Or.inr ⟨rfl, rfl⟩) ?_ ?_
  · exact fun i k' h => pz_ctk (l := ct_X12_told) (P := fun b i k => b = true → pz_cV 10 213 RX12 i k) (List.forall_mem_cons.mpr ⟨(fun _ => v_X12_need (by decide) (by decide) pz_wq1347), List.forall_mem_cons.mpr ⟨(fun _ => v_X12_number (by decide) (by decide) pz_wq1367), fun _ h => absurd h List.not_mem_nil⟩⟩) true i k' h rfl
  · exact fun i k' h => pz_ctk (l := ct_X12_told) (P := fun b i k => b = false → (pz_cS 10 213 RX12 i k ∨ (k = pz_kac ∧ 1 ≤ 10 ∧ 60 ≤ 213 ∧ Cond.methodLink RX12 i arraycopyName ∈ pz_tbl))) (List.forall_mem_cons.mpr ⟨((fun z => by cases z)), List.forall_mem_cons.mpr ⟨((fun z => by cases z)), fun _ h => absurd h List.not_mem_nil⟩⟩) false i k' h rfl
  · intro a M hlen hpre
    obtain ⟨th, x, t, y, z, rfl, hpre⟩ : ∃ th x t y z, a = [.inr (.inr (12, th)), .inl x, .inl t, .inl y, .inl z] ∧ (pz_im M ∧ 0 ≤ x ∧ x < 80) := by
      have hpre : (match (generalizing := false) a with | [.inr (.inr (12, th)), .inl x, .inl t, .inl y, .inl z] => pz_im M ∧ 0 ≤ x ∧ x < 80 | _ => False) := hpre
      split at hpre
      · exact ⟨_, _, _, _, _, rfl, hpre⟩
      · exact hpre.elim
    exact Nat.le_of_ble_eq_true rfl
  · intro a M hlen hcan hM hpre Ok hgo
    obtain ⟨th, x, t, y, z, rfl, hpre⟩ : ∃ th x t y z, a = [.inr (.inr (12, th)), .inl x, .inl t, .inl y, .inl z] ∧ (pz_im M ∧ 0 ≤ x ∧ x < 80) := by
      have hpre : (match (generalizing := false) a with | [.inr (.inr (12, th)), .inl x, .inl t, .inl y, .inl z] => pz_im M ∧ 0 ≤ x ∧ x < 80 | _ => False) := hpre
      split at hpre
      · exact ⟨_, _, _, _, _, rfl, hpre⟩
      · exact hpre.elim
    obtain ⟨k_th, hc_th⟩ := pz_tlm hcan
    have k_th : pz_kd th = 12 ∧ th < 231 := k_th
    have R_th := pz_kd12 k_th.1
    subst R_th
    clear k_th
    obtain ⟨k_x, hc_x⟩ := pz_tlm hc_th
    have l_x : -2147483648 ≤ x := k_x.1
    have u_x : x ≤ 2147483647 := k_x.2
    obtain ⟨k_t, hc_t⟩ := pz_tlm hc_x
    have l_t : -2147483648 ≤ t := k_t.1
    have u_t : t ≤ 2147483647 := k_t.2
    obtain ⟨k_y, hc_y⟩ := pz_tlm hc_t
    have l_y : -2147483648 ≤ y := k_y.1
    have u_y : y ≤ 2147483647 := k_y.2
    obtain ⟨k_z, hc_z⟩ := pz_tlm hc_y
    have l_z : -2147483648 ≤ z := k_z.1
    have u_z : z ≤ 2147483647 := k_z.2
    have hI : pz_im M := hpre.1
    have hI0 := hI
    have hS : pz_rl pz_Q8 M M := pz_rl.rf
    refine hgo (fun _ => false) 16 0 _ [] M ?_
    refine And.intro (hI) ?_
    intro v2 M2 a2 b2 q2
    obtain ⟨q2, z2⟩ := q2
    have hS : pz_rl pz_Q8 M M2 := hS.tr (pz_rl.wk pz_wk_Q0_Q8 z2)
    have hI : pz_im M2 := hS.1 hI0
    obtain ⟨q2, s2⟩ := q2
    have f2 := pz_q0f z2
    obtain ⟨f2a, f2b, f2c⟩ := f2
    refine And.intro (fun h5 => ?_) (fun h5 => ?_)
    · skip
      refine And.intro (by first | decide | omega) ?_
      refine And.intro rfl ?_
      first
        | (have k9 : v13 = 1 := (q13.2.resolve_left h16).1
           exact ⟨⟨⟨fun j hj => (q13.1 j hj).trans (z2.2 66 j (by unfold pz_Q0; first | decide | omega)), Or.inr ⟨rfl, (q13.2.resolve_left h16).2⟩⟩, by rw [← k9]; exact pq_wb_y (q2.resolve_left h5).2.1 z2 (s2.resolve_right (fun y => h5 y.1)).2 s13⟩, hS⟩)
        | (have k9 : v13 = 0 := h16
           exact ⟨⟨⟨fun j hj => (q13.1 j hj).trans (z2.2 66 j (by unfold pz_Q0; first | decide | omega)), Or.inl rfl⟩, by rw [← k9]; exact pq_wb_y (q2.resolve_left h5).2.1 z2 (s2.resolve_right (fun y => h5 y.1)).2 s13⟩, hS⟩)
        | (have n9 := (s2.resolve_left (fun y => absurd (y.1.symm.trans h5) (by decide))).2
           exact ⟨⟨⟨fun j _ => z2.2 66 j (by unfold pz_Q0; first | decide | omega), Or.inl rfl⟩, pq_wb_n rfl n9.1 n9.2.1 n9.2.2⟩, hS⟩)
    · skip
      refine And.intro (And.intro hI (And.intro (by first | decide | omega) (by first | decide | omega))) ?_
      intro v13 M13 a13 b13 q13
      obtain ⟨q13, z13⟩ := q13
      have hS : pz_rl pz_Q8 M M13 := hS.tr z13
      have hI : pz_im M13 := hS.1 hI0
      obtain ⟨q13, s13⟩ := q13
      refine And.intro (fun h16 => ?_) (fun h16 => ?_)
      · skip
        refine And.intro (by first | decide | omega) ?_
        refine And.intro rfl ?_
        first
          | (have k9 : v13 = 1 := (q13.2.resolve_left h16).1
             exact ⟨⟨⟨fun j hj => (q13.1 j hj).trans (z2.2 66 j (by unfold pz_Q0; first | decide | omega)), Or.inr ⟨rfl, (q13.2.resolve_left h16).2⟩⟩, by rw [← k9]; exact pq_wb_y (q2.resolve_left h5).2.1 z2 (s2.resolve_right (fun y => h5 y.1)).2 s13⟩, hS⟩)
          | (have k9 : v13 = 0 := h16
             exact ⟨⟨⟨fun j hj => (q13.1 j hj).trans (z2.2 66 j (by unfold pz_Q0; first | decide | omega)), Or.inl rfl⟩, by rw [← k9]; exact pq_wb_y (q2.resolve_left h5).2.1 z2 (s2.resolve_right (fun y => h5 y.1)).2 s13⟩, hS⟩)
          | (have n9 := (s2.resolve_left (fun y => absurd (y.1.symm.trans h5) (by decide))).2
             exact ⟨⟨⟨fun j _ => z2.2 66 j (by unfold pz_Q0; first | decide | omega), Or.inl rfl⟩, pq_wb_n rfl n9.1 n9.2.1 n9.2.2⟩, hS⟩)
      · skip
        refine And.intro (by first | decide | omega) ?_
        refine And.intro rfl ?_
        first
          | (have k9 : v13 = 1 := (q13.2.resolve_left h16).1
             exact ⟨⟨⟨fun j hj => (q13.1 j hj).trans (z2.2 66 j (by unfold pz_Q0; first | decide | omega)), Or.inr ⟨rfl, (q13.2.resolve_left h16).2⟩⟩, by rw [← k9]; exact pq_wb_y (q2.resolve_left h5).2.1 z2 (s2.resolve_right (fun y => h5 y.1)).2 s13⟩, hS⟩)
          | (have k9 : v13 = 0 := h16
             exact ⟨⟨⟨fun j hj => (q13.1 j hj).trans (z2.2 66 j (by unfold pz_Q0; first | decide | omega)), Or.inl rfl⟩, by rw [← k9]; exact pq_wb_y (q2.resolve_left h5).2.1 z2 (s2.resolve_right (fun y => h5 y.1)).2 s13⟩, hS⟩)
          | (have n9 := (s2.resolve_left (fun y => absurd (y.1.symm.trans h5) (by decide))).2
             exact ⟨⟨⟨fun j _ => z2.2 66 j (by unfold pz_Q0; first | decide | omega), Or.inl rfl⟩, pq_wb_n rfl n9.1 n9.2.1 n9.2.2⟩, hS⟩)
theorem v_X12_told {fr lo i : Nat} {own : String} (h1 : 10 + 1 ≤ fr) (h2 : 8 + (5 + 11) + 213 ≤ lo) (h3 : .methodLink own i yX12_told ∈ lw_tbl) : pz_cV fr lo own i k_X12_told :=
  pz_cVk (maxL := 5) (fr' := 10) (lo' := 213) 4 12 h_X12_told rfl ⟨(pz_nhc_RX12 yX12_told rfl).1, (pz_nhc_RX12 yX12_told rfl).2, pz_ds20⟩ ⟨pz_wq1366, pz_wq1365, pz_ws28, pz_wq13⟩ (Or.inl ⟨TX12, 28, rfl⟩) (fun a M _ h => by
    have h : (match (generalizing := false) a with | [.inr (.inr (12, th)), .inl x, .inl t, .inl y, .inl z] => pz_im M ∧ 0 ≤ x ∧ x < 80 | _ => False) := h
    split at h
    · exact ⟨_, _, rfl⟩
    · exact h.elim) h1 h2 h3
noncomputable def k_X12_aLink : pz_C := (2, 1, fun a M => (match a with | [.inr (.inr (12, th)), .inl x] => pz_im M ∧ 0 ≤ x ∧ x < 80 | _ => False), fun a M r M' => (match a, r with | [.inr (.inr (12, th)), .inl x], some (.inl v) => (((∀ j : Nat, j ≠ x.toNat → M' 66 j = M 66 j) ∧ (v = 0 ∨ (v = 1 ∧ 0 ≤ M' 66 x.toNat ∧ M' 66 x.toNat ≤ 11))) ∧ pq_nb x.toNat 0 (M 60 88 - 1) M M' v) ∧ pz_rl pz_Q8 M M' | _, _ => False))
noncomputable abbrev ct_X12_aLink : List (Bool × Nat × pz_C) := [(true, 235, k_X12_number)]
set_option maxRecDepth 100000 in
set_option maxHeartbeats 4000000 in
theorem h_X12_aLink : pz_H yX12_aLink cX12_aLink 2 (some .boolean) k_X12_aLink 10 213 := by
  refine pz_mk (own := RX12) (tb := t_X12_aLink) (fl := pz_flf fl_RX12) (ci := pz_cif ci_RX12) (ct := pz_ctf ct_X12_aLink) (rz := true) (pz_pfc_RX12 yX12_aLink rfl) rfl t_X12_aLink_ok (pz_flk fl_RX12_ok) (pz_cik ci_RX12_ok) ?_ ?_ (Or.inr ⟨rfl, rfl⟩) ?_ ?_
  · exact fun i k' h => pz_ctk (l := ct_X12_aLink) (P := fun b i k => b = true → pz_cV 10 213 RX12 i k) (List.forall_mem_cons.mpr ⟨(fun _ => v_X12_number (by decide) (by decide) pz_wq1367), fun _ h => absurd h List.not_mem_nil⟩) true i k' h rfl
  · exact fun i k' h => pz_ctk (l := ct_X12_aLink) (P := fun b i k => b = false → (pz_cS 10 213 RX12 i k ∨ (k = pz_kac ∧ 1 ≤ 10 ∧ 60 ≤ 213 ∧ Cond.methodLink RX12 i arraycopyName ∈ pz_tbl))) (List.forall_mem_cons.mpr ⟨((fun z => by cases z)), fun _ h => absurd h List.not_mem_nil⟩) false i k' h rfl
  · intro a M hlen hpre
    obtain ⟨th, x, rfl, hpre⟩ : ∃ th x, a = [.inr (.inr (12, th)), .inl x] ∧ (pz_im M ∧ 0 ≤ x ∧ x < 80) := by
      have hpre : (match (generalizing := false) a with | [.inr (.inr (12, th)), .inl x] => pz_im M ∧ 0 ≤ x ∧ x < 80 | _ => False) := hpre
      split at hpre
      · exact ⟨_, _, rfl, hpre⟩
      · exact hpre.elim
    exact Nat.le_of_ble_eq_true rfl
  · intro a M hlen hcan hM hpre Ok hgo
    obtain ⟨th, x, rfl, hpre⟩ : ∃ th x, a = [.inr (.inr (12, th)), .inl x] ∧ (pz_im M ∧ 0 ≤ x ∧ x < 80) := by
      have hpre : (match (generalizing := false) a with | [.inr (.inr (12, th)), .inl x] => pz_im M ∧ 0 ≤ x ∧ x < 80 | _ => False) := hpre
      split at hpre
      · exact ⟨_, _, rfl, hpre⟩
      · exact hpre.elim
    obtain ⟨k_th, hc_th⟩ := pz_tlm hcan
    have k_th : pz_kd th = 12 ∧ th < 231 := k_th
    have R_th := pz_kd12 k_th.1
    subst R_th
    clear k_th
    obtain ⟨k_x, hc_x⟩ := pz_tlm hc_th
    have l_x : -2147483648 ≤ x := k_x.1
    have u_x : x ≤ 2147483647 := k_x.2
    have hI : pz_im M := hpre.1
    have hI0 := hI
    have hS : pz_rl pz_Q8 M M := pz_rl.rf
    refine hgo (fun _ => false) 13 0 _ [] M ?_
    refine pz_nrc (c := 60) rfl ?_
    refine And.intro (by first | decide | omega) (And.intro (show _ < (1725 : Int) from by omega) ?_)
    intro v9 e9 a9 b9
    replace e9 : v9 = M 60 88 := e9
    have I9 : 0 ≤ v9 ∧ v9 ≤ 12 := by
      rw [e9]
      exact hI.1.1
    clear a9 b9
    intro v11 e11 a11 b11
    rw [pz_wi (by first | decide | omega) (by first | decide | omega)] at e11
    clear a11 b11
    refine And.intro (And.intro hI (And.intro (by first | decide | omega) (by first | decide | omega))) ?_
    intro v12 M12 a12 b12 q12
    obtain ⟨q12, z12⟩ := q12
    have hS : pz_rl pz_Q8 M M12 := hS.tr z12
    have hI : pz_im M12 := hS.1 hI0
    obtain ⟨q12, s12⟩ := q12
    refine And.intro (by first | decide | omega) ?_
    refine And.intro rfl ?_
    refine ⟨⟨⟨q12.1, ?_⟩, by rw [show M 60 88 - 1 = v11 by omega]; exact s12⟩, hS⟩
    rcases q12.2 with h | h
    · exact Or.inl h
    · exact Or.inr ⟨h.1, by omega, by omega⟩
theorem v_X12_aLink {fr lo i : Nat} {own : String} (h1 : 10 + 1 ≤ fr) (h2 : 8 + (2 + 11) + 213 ≤ lo) (h3 : .methodLink own i yX12_aLink ∈ lw_tbl) : pz_cV fr lo own i k_X12_aLink :=
  pz_cVk (maxL := 2) (fr' := 10) (lo' := 213) 1 12 h_X12_aLink rfl ⟨(pz_nhc_RX12 yX12_aLink rfl).1, (pz_nhc_RX12 yX12_aLink rfl).2, pz_ds9⟩ ⟨pz_wq1374, pz_wq1373, pz_ws30, pz_wq13⟩ (Or.inl ⟨TX12, 28, rfl⟩) (fun a M _ h => by
    have h : (match (generalizing := false) a with | [.inr (.inr (12, th)), .inl x] => pz_im M ∧ 0 ≤ x ∧ x < 80 | _ => False) := h
    split at h
    · exact ⟨_, _, rfl⟩
    · exact h.elim) h1 h2 h3
noncomputable def k_X12_aPlan : pz_C := (1, 1, fun a M => (match a with | [.inr (.inr (12, th))] => pz_im M ∧ M 1 15 < 16 ∧ M 1 12 = 1 | _ => False), fun a M r M' => (match a, r with | [.inr (.inr (12, th))], some (.inl v) => ((v = 0 ∨ v = 1) ∧ pq_mr (pq_GP M) 1 M M' v) ∧ pz_rl pz_Q8 M M' | _, _ => False))
noncomputable abbrev ct_X12_aPlan : List (Bool × Nat × pz_C) := [(true, 241, k_X12_told), (false, 54, k_X12_isIn), (true, 188, k_X12_bad), (true, 191, k_X12_next0), (true, 245, k_X12_aLink), (true, 235, k_X12_number)]
set_option maxRecDepth 100000 in
set_option maxHeartbeats 4000000 in
theorem h_X12_aPlan : pz_H yX12_aPlan cX12_aPlan 3 (some .boolean) k_X12_aPlan 11 237 := by
  refine pz_mk (own := RX12) (tb := t_X12_aPlan) (fl := pz_flf fl_RX12) (ci := pz_cif ci_RX12) (ct := pz_ctf ct_X12_aPlan) (rz := true) (pz_pfc_RX12 yX12_aPlan rfl) rfl t_X12_aPlan_ok (pz_flk fl_RX12_ok) (pz_cik ci_RX12_ok) ?_ ?_ (Or.inr ⟨rfl, rfl⟩) ?_ ?_
  · exact fun i k' h => pz_ctk (l := ct_X12_aPlan) (P := fun b i k => b = true → pz_cV 11 237 RX12 i k) (List.forall_mem_cons.mpr ⟨(fun _ => v_X12_told (by decide) (by decide) pz_wq1363), List.forall_mem_cons.mpr ⟨((fun z => by cases z)), List.forall_mem_cons.mpr ⟨(fun _ => v_X12_bad (by decide) (by decide) pz_wq1311), List.forall_mem_cons.mpr ⟨(fun _ => v_X12_next0 (by decide) (by decide) pz_wq1243), List.forall_mem_cons.mpr ⟨(fun _ => v_X12_aLink (by decide) (by decide) pz_wq1371), List.forall_mem_cons.mpr ⟨(fun _ => v_X12_number (by decide) (by decide) pz_wq1367), fun _ h => absurd h List.not_mem_nil⟩⟩⟩⟩⟩⟩) true i k' h rfl
  · exact fun i k' h => pz_ctk (l := ct_X12_aPlan) (P := fun b i k => b = false → (pz_cS 11 237 RX12 i k ∨ (k = pz_kac ∧ 1 ≤ 11 ∧ 60 ≤ 237 ∧ Cond.methodLink RX12 i arraycopyName ∈ pz_tbl))) (List.forall_mem_cons.mpr ⟨((fun z => by cases z)), List.forall_mem_cons.mpr ⟨(fun _ => Or.inl (s_X12_isIn (by decide) (by decide) (Or.inl pz_wq1217))), List.forall_mem_cons.mpr ⟨((fun z => by cases z)), List.forall_mem_cons.mpr ⟨((fun z => by cases z)), List.forall_mem_cons.mpr ⟨((fun z => by cases z)), List.forall_mem_cons.mpr ⟨((fun z => by cases z)), fun _ h => absurd h List.not_mem_nil⟩⟩⟩⟩⟩⟩) false i k' h rfl
  · intro a M hlen hpre
    obtain ⟨th, rfl, hpre⟩ : ∃ th, a = [.inr (.inr (12, th))] ∧ (pz_im M ∧ M 1 15 < 16 ∧ M 1 12 = 1) := by
      have hpre : (match (generalizing := false) a with | [.inr (.inr (12, th))] => pz_im M ∧ M 1 15 < 16 ∧ M 1 12 = 1 | _ => False) := hpre
      split at hpre
      · exact ⟨_, rfl, hpre⟩
      · exact hpre.elim
    exact Nat.le_of_ble_eq_true rfl
  · intro a M hlen hcan hM hpre Ok hgo
    obtain ⟨th, rfl, hpre⟩ : ∃ th, a = [.inr (.inr (12, th))] ∧ (pz_im M ∧ M 1 15 < 16 ∧ M 1 12 = 1) := by
      have hpre : (match (generalizing := false) a with | [.inr (.inr (12, th))] => pz_im M ∧ M 1 15 < 16 ∧ M 1 12 = 1 | _ => False) := hpre
      split at hpre
      · exact ⟨_, rfl, hpre⟩
      · exact hpre.elim
    obtain ⟨k_th, hc_th⟩ := pz_tlm hcan
    have k_th : pz_kd th = 12 ∧ th < 231 := k_th
    have R_th := pz_kd12 k_th.1
    subst R_th
    clear k_th
    have hI : pz_im M := hpre.1
    have hI0 := hI
    have hS : pz_rl pz_Q8 M M := pz_rl.rf
    have I15 := hI.2.1.2.2.2.2.2.2.2.1
    obtain ⟨-, pr1, pr2⟩ := hpre
    refine hgo (fun _ => false) 109 0 _ [] M ?_
    intro v2 e2 a2 b2
    have I2 : 0 ≤ v2 ∧ v2 ≤ 16 := by
      rw [e2]
      exact hI.2.1.2.2.2.2.2.2.2.1
    clear a2 b2
    have N2 := hI.2.1.2.2.2.2.2.2.2.1
    intro v5 e5 a5 b5
    rw [pz_wi (by first | decide | omega) (by first | decide | omega)] at e5
    clear a5 b5
    refine And.intro (And.intro hI (And.intro (by first | decide | omega) (by first | decide | omega))) ?_
    intro v15 M15 a15 b15 q15
    obtain ⟨q15, z15⟩ := q15
    have hS : pz_rl pz_Q8 M M15 := hS.tr z15
    have hI : pz_im M15 := hS.1 hI0
    obtain ⟨q15, s15⟩ := q15
    have P15 := pq_mP_a pr2 s15 (pq_Q8 z15)
    refine And.intro (fun h18 => ?_) (fun h18 => ?_)
    · skip
      have S15 := P15.1 h18
      intro v24 e24 a24 b24
      refine And.intro (True.intro) ?_
      intro v31 M31 a31 b31 q31
      obtain ⟨q31, z31⟩ := q31
      subst z31
      clear a31 b31
      refine And.intro (fun h34 => ?_) (fun h34 => ?_)
      · skip
        replace q31 := q31.resolve_right (fun z => h34 z.1)
        clear h34
        intro v44 e44 a44 b44
        obtain ⟨S44, W44⟩ := pq_mP_c (w := v44) S15 pr2 ⟨by omega, by omega⟩ e44
        refine pz_nrc (c := 66) rfl ?_
        intro v54 e54 a54 b54
        rw [pz_wi (by first | decide | omega) (by first | decide | omega)] at e54
        clear a54 b54
        have lo56 : (0 : Int) ≤ v54 := by omega
        have tn56 : (((v54).toNat : Nat) : Int) = v54 := Int.toNat_of_nonneg lo56
        refine And.intro (lo56) (And.intro (show _ < (80 : Int) from by omega) ?_)
        intro M56 e56
        have hS : pz_rl pz_Q8 M M56 := by
          rw [e56]
          exact pz_rl_u hS (by unfold pz_Q8; first | decide | omega) (pz_iom_a (by decide))
        have hI : pz_im M56 := hS.1 hI0
        have S56 := pq_mS_u S44 e56
        refine pz_nrc (c := 66) rfl ?_
        intro v63 e63 a63 b63
        rw [pz_wi (by first | decide | omega) (by first | decide | omega)] at e63
        clear a63 b63
        have lo65 : (0 : Int) ≤ v63 := by omega
        have tn65 : (((v63).toNat : Nat) : Int) = v63 := Int.toNat_of_nonneg lo65
        refine And.intro (lo65) (And.intro (show _ < (80 : Int) from by omega) ?_)
        intro M65 e65
        have hS : pz_rl pz_Q8 M M65 := by
          rw [e65]
          exact pz_rl_u hS (by unfold pz_Q8; first | decide | omega) (pz_iom_a (by decide))
        have hI : pz_im M65 := hS.1 hI0
        have S65 := pq_mS_u S56 e65
        refine pz_nrc (c := 66) rfl ?_
        intro v72 e72 a72 b72
        rw [pz_wi (by first | decide | omega) (by first | decide | omega)] at e72
        clear a72 b72
        have lo74 : (0 : Int) ≤ v72 := by omega
        have tn74 : (((v72).toNat : Nat) : Int) = v72 := Int.toNat_of_nonneg lo74
        refine And.intro (lo74) (And.intro (show _ < (80 : Int) from by omega) ?_)
        intro M74 e74
        have hS : pz_rl pz_Q8 M M74 := by
          rw [e74]
          exact pz_rl_u hS (by unfold pz_Q8; first | decide | omega) (pz_iom_a (by decide))
        have hI : pz_im M74 := hS.1 hI0
        have S74 := pq_mS_u S65 e74
        refine And.intro (hI) ?_
        intro M76 q76
        obtain ⟨q76, z76⟩ := q76
        have hS : pz_rl pz_Q8 M M76 := hS.tr (pz_rl.wk pz_wk_Q0_Q8 z76)
        have hI : pz_im M76 := hS.1 hI0
        obtain ⟨q76, s76⟩ := q76
        have S76 := pq_mS_x S74 z76 s76
        have K76 : M76 60 88 = M 60 88 := hS.2 60 88 (by unfold pz_Q8; first | decide | omega)
        have A76 : ∀ j : Nat, M76 66 j = if j = v72.toNat then 0 else if j = v63.toNat then 0 else if j = v54.toNat then v44 else M15 66 j := fun j => by rw [z76.2 66 j (by unfold pz_Q0; first | decide | omega), pz_u64 e74 j, pz_u64 e65 j, pz_u64 e56 j]
        intro v82 e82 a82 b82
        rw [pz_wi (by first | decide | omega) (by first | decide | omega)] at e82
        clear a82 b82
        refine And.intro (And.intro hI (And.intro (by first | decide | omega) (by first | decide | omega))) ?_
        intro v83 M83 a83 b83 q83
        obtain ⟨q83, z83⟩ := q83
        have hS : pz_rl pz_Q8 M M83 := hS.tr z83
        have hI : pz_im M83 := hS.1 hI0
        obtain ⟨q83, s83⟩ := q83
        rw [K76] at s83
        have P83 := pq_mP_l S76 s83 (pq_Q8 z83)
        have K83 : M83 60 88 = M 60 88 := hS.2 60 88 (by unfold pz_Q8; first | decide | omega)
        obtain ⟨L83, O83⟩ := pq_lay1_a (k := (M 1 15).toNat) (n0 := v5.toNat) (n2 := v82.toNat) (by first | decide | omega) (by first | decide | omega) (by first | decide | omega) (by first | decide | omega) A76 (by first | decide | omega) q83.1
        refine And.intro (fun h86 => ?_) (fun h86 => ?_)
        · skip
          have S83 := P83.1 h86
          refine And.intro (fun h94 => ?_) (fun h94 => ?_)
          · skip
            refine And.intro (fun h129 => ?_) (fun h129 => ?_)
            · skip
              have S144 := pq_mP_o S83 W44 (by first | decide | omega)
              have L144 := L83
              have O144 := O83
              refine And.intro (fun h147 => ?_) (fun h147 => ?_)
              · skip
                refine And.intro (by first | decide | omega) ?_
                refine And.intro rfl ?_
                first
                  | exact ⟨⟨Or.inr rfl, Or.inl ⟨rfl, _, _, P163.1 h166, L163, pq_fr1 O163 q15.1 (by first | decide | omega) (by first | decide | omega)⟩⟩, hS⟩
                  | exact ⟨⟨Or.inl rfl, Or.inr ⟨rfl, P163.2 (by first | decide | omega)⟩⟩, hS⟩
                  | exact ⟨⟨Or.inr rfl, Or.inl ⟨rfl, _, _, pq_mP_z S144 (by first | decide | omega), L144, pq_fr1 O144 q15.1 (by first | decide | omega) (by first | decide | omega)⟩⟩, hS⟩
                  | (exfalso; omega)
              · skip
                refine And.intro (fun h153 => ?_) (fun h153 => ?_)
                · skip
                  refine And.intro (by first | decide | omega) ?_
                  refine And.intro rfl ?_
                  first
                    | exact ⟨⟨Or.inr rfl, Or.inl ⟨rfl, _, _, P163.1 h166, L163, pq_fr1 O163 q15.1 (by first | decide | omega) (by first | decide | omega)⟩⟩, hS⟩
                    | exact ⟨⟨Or.inl rfl, Or.inr ⟨rfl, P163.2 (by first | decide | omega)⟩⟩, hS⟩
                    | exact ⟨⟨Or.inr rfl, Or.inl ⟨rfl, _, _, pq_mP_z S144 (by first | decide | omega), L144, pq_fr1 O144 q15.1 (by first | decide | omega) (by first | decide | omega)⟩⟩, hS⟩
                    | (exfalso; omega)
                · skip
                  intro v159 e159 a159 b159
                  rw [pz_wi (by first | decide | omega) (by first | decide | omega)] at e159
                  clear a159 b159
                  refine And.intro (And.intro hI (And.intro (by first | decide | omega) (by first | decide | omega))) ?_
                  intro v163 M163 a163 b163 q163
                  obtain ⟨q163, z163⟩ := q163
                  have hS : pz_rl pz_Q8 M M163 := hS.tr z163
                  have hI : pz_im M163 := hS.1 hI0
                  obtain ⟨q163, s163⟩ := q163
                  have P163 := pq_mP_e S144 (by first | decide | omega) s163 (pq_Q8 z163)
                  have L163 := pq_lay1_q L144 (n4 := v159.toNat) q163.1 (by first | decide | omega)
                  have O163 : ∀ j : Nat, j < 5 * (M 1 15).toNat → M163 66 j = M15 66 j := fun j hj => (q163.1 j (by first | decide | omega)).trans (O144 j hj)
                  refine And.intro (fun h166 => ?_) (fun h166 => ?_)
                  · skip
                    refine And.intro (by first | decide | omega) ?_
                    refine And.intro rfl ?_
                    first
                      | exact ⟨⟨Or.inr rfl, Or.inl ⟨rfl, _, _, P163.1 h166, L163, pq_fr1 O163 q15.1 (by first | decide | omega) (by first | decide | omega)⟩⟩, hS⟩
                      | exact ⟨⟨Or.inl rfl, Or.inr ⟨rfl, P163.2 (by first | decide | omega)⟩⟩, hS⟩
                      | exact ⟨⟨Or.inr rfl, Or.inl ⟨rfl, _, _, pq_mP_z S144 (by first | decide | omega), L144, pq_fr1 O144 q15.1 (by first | decide | omega) (by first | decide | omega)⟩⟩, hS⟩
                      | (exfalso; omega)
                  · skip
                    refine And.intro (by first | decide | omega) ?_
                    refine And.intro rfl ?_
                    first
                      | exact ⟨⟨Or.inr rfl, Or.inl ⟨rfl, _, _, P163.1 h166, L163, pq_fr1 O163 q15.1 (by first | decide | omega) (by first | decide | omega)⟩⟩, hS⟩
                      | exact ⟨⟨Or.inl rfl, Or.inr ⟨rfl, P163.2 (by first | decide | omega)⟩⟩, hS⟩
                      | exact ⟨⟨Or.inr rfl, Or.inl ⟨rfl, _, _, pq_mP_z S144 (by first | decide | omega), L144, pq_fr1 O144 q15.1 (by first | decide | omega) (by first | decide | omega)⟩⟩, hS⟩
                      | (exfalso; omega)
            · skip
              have S129 := pq_mP_m S83 W44 (by first | decide | omega) (fun y => by omega)
              intro v135 e135 a135 b135
              rw [pz_wi (by first | decide | omega) (by first | decide | omega)] at e135
              clear a135 b135
              refine And.intro (And.intro hI (And.intro (by first | decide | omega) (by first | decide | omega))) ?_
              intro v136 M136 a136 b136 q136
              obtain ⟨q136, z136⟩ := q136
              have hS : pz_rl pz_Q8 M M136 := hS.tr z136
              have hI : pz_im M136 := hS.1 hI0
              obtain ⟨q136, s136⟩ := q136
              rw [K83] at s136
              have P136 := pq_mP_k S129 s136 (pq_Q8 z136)
              have L136 := pq_lay1_m L83 (n3 := v135.toNat) q136.1 (by first | decide | omega)
              have O136 : ∀ j : Nat, j < 5 * (M 1 15).toNat → M136 66 j = M15 66 j := fun j hj => (q136.1 j (by first | decide | omega)).trans (O83 j hj)
              refine And.intro (fun h139 => ?_) (fun h139 => ?_)
              · skip
                have S144 := P136.1 h139
                have L144 := L136
                have O144 := O136
                refine And.intro (fun h147 => ?_) (fun h147 => ?_)
                · skip
                  refine And.intro (by first | decide | omega) ?_
                  refine And.intro rfl ?_
                  first
                    | exact ⟨⟨Or.inr rfl, Or.inl ⟨rfl, _, _, P163.1 h166, L163, pq_fr1 O163 q15.1 (by first | decide | omega) (by first | decide | omega)⟩⟩, hS⟩
                    | exact ⟨⟨Or.inl rfl, Or.inr ⟨rfl, P163.2 (by first | decide | omega)⟩⟩, hS⟩
                    | exact ⟨⟨Or.inr rfl, Or.inl ⟨rfl, _, _, pq_mP_z S144 (by first | decide | omega), L144, pq_fr1 O144 q15.1 (by first | decide | omega) (by first | decide | omega)⟩⟩, hS⟩
                    | (exfalso; omega)
                · skip
                  refine And.intro (fun h153 => ?_) (fun h153 => ?_)
                  · skip
                    refine And.intro (by first | decide | omega) ?_
                    refine And.intro rfl ?_
                    first
                      | exact ⟨⟨Or.inr rfl, Or.inl ⟨rfl, _, _, P163.1 h166, L163, pq_fr1 O163 q15.1 (by first | decide | omega) (by first | decide | omega)⟩⟩, hS⟩
                      | exact ⟨⟨Or.inl rfl, Or.inr ⟨rfl, P163.2 (by first | decide | omega)⟩⟩, hS⟩
                      | exact ⟨⟨Or.inr rfl, Or.inl ⟨rfl, _, _, pq_mP_z S144 (by first | decide | omega), L144, pq_fr1 O144 q15.1 (by first | decide | omega) (by first | decide | omega)⟩⟩, hS⟩
                      | (exfalso; omega)
                  · skip
                    intro v159 e159 a159 b159
                    rw [pz_wi (by first | decide | omega) (by first | decide | omega)] at e159
                    clear a159 b159
                    refine And.intro (And.intro hI (And.intro (by first | decide | omega) (by first | decide | omega))) ?_
                    intro v163 M163 a163 b163 q163
                    obtain ⟨q163, z163⟩ := q163
                    have hS : pz_rl pz_Q8 M M163 := hS.tr z163
                    have hI : pz_im M163 := hS.1 hI0
                    obtain ⟨q163, s163⟩ := q163
                    have P163 := pq_mP_e S144 (by first | decide | omega) s163 (pq_Q8 z163)
                    have L163 := pq_lay1_q L144 (n4 := v159.toNat) q163.1 (by first | decide | omega)
                    have O163 : ∀ j : Nat, j < 5 * (M 1 15).toNat → M163 66 j = M15 66 j := fun j hj => (q163.1 j (by first | decide | omega)).trans (O144 j hj)
                    refine And.intro (fun h166 => ?_) (fun h166 => ?_)
                    · skip
                      refine And.intro (by first | decide | omega) ?_
                      refine And.intro rfl ?_
                      first
                        | exact ⟨⟨Or.inr rfl, Or.inl ⟨rfl, _, _, P163.1 h166, L163, pq_fr1 O163 q15.1 (by first | decide | omega) (by first | decide | omega)⟩⟩, hS⟩
                        | exact ⟨⟨Or.inl rfl, Or.inr ⟨rfl, P163.2 (by first | decide | omega)⟩⟩, hS⟩
                        | exact ⟨⟨Or.inr rfl, Or.inl ⟨rfl, _, _, pq_mP_z S144 (by first | decide | omega), L144, pq_fr1 O144 q15.1 (by first | decide | omega) (by first | decide | omega)⟩⟩, hS⟩
                        | (exfalso; omega)
                    · skip
                      refine And.intro (by first | decide | omega) ?_
                      refine And.intro rfl ?_
                      first
                        | exact ⟨⟨Or.inr rfl, Or.inl ⟨rfl, _, _, P163.1 h166, L163, pq_fr1 O163 q15.1 (by first | decide | omega) (by first | decide | omega)⟩⟩, hS⟩
                        | exact ⟨⟨Or.inl rfl, Or.inr ⟨rfl, P163.2 (by first | decide | omega)⟩⟩, hS⟩
                        | exact ⟨⟨Or.inr rfl, Or.inl ⟨rfl, _, _, pq_mP_z S144 (by first | decide | omega), L144, pq_fr1 O144 q15.1 (by first | decide | omega) (by first | decide | omega)⟩⟩, hS⟩
                        | (exfalso; omega)
              · skip
                skip
                refine And.intro (by first | decide | omega) ?_
                refine And.intro rfl ?_
                exact ⟨⟨Or.inl rfl, Or.inr ⟨rfl, P136.2 (by first | decide | omega)⟩⟩, hS⟩
          · skip
            intro v98 e98 a98 b98
            refine And.intro (fun h102 => ?_) (fun h102 => ?_)
            · skip
              refine And.intro (fun h129 => ?_) (fun h129 => ?_)
              · skip
                have S144 := pq_mP_o S83 W44 (by first | decide | omega)
                have L144 := L83
                have O144 := O83
                replace h129 : 11 ≤ v44 := by omega
                refine And.intro (fun h147 => ?_) (fun h147 => ?_)
                · skip
                  refine And.intro (by first | decide | omega) ?_
                  refine And.intro rfl ?_
                  first
                    | exact ⟨⟨Or.inr rfl, Or.inl ⟨rfl, _, _, P163.1 h166, L163, pq_fr1 O163 q15.1 (by first | decide | omega) (by first | decide | omega)⟩⟩, hS⟩
                    | exact ⟨⟨Or.inl rfl, Or.inr ⟨rfl, P163.2 (by first | decide | omega)⟩⟩, hS⟩
                    | exact ⟨⟨Or.inr rfl, Or.inl ⟨rfl, _, _, pq_mP_z S144 (by first | decide | omega), L144, pq_fr1 O144 q15.1 (by first | decide | omega) (by first | decide | omega)⟩⟩, hS⟩
                    | (exfalso; omega)
                · skip
                  replace h147 : v44 ≤ 8 := by omega
                  refine And.intro (fun h153 => ?_) (fun h153 => ?_)
                  · skip
                    refine And.intro (by first | decide | omega) ?_
                    refine And.intro rfl ?_
                    first
                      | exact ⟨⟨Or.inr rfl, Or.inl ⟨rfl, _, _, P163.1 h166, L163, pq_fr1 O163 q15.1 (by first | decide | omega) (by first | decide | omega)⟩⟩, hS⟩
                      | exact ⟨⟨Or.inl rfl, Or.inr ⟨rfl, P163.2 (by first | decide | omega)⟩⟩, hS⟩
                      | exact ⟨⟨Or.inr rfl, Or.inl ⟨rfl, _, _, pq_mP_z S144 (by first | decide | omega), L144, pq_fr1 O144 q15.1 (by first | decide | omega) (by first | decide | omega)⟩⟩, hS⟩
                      | (exfalso; omega)
                  · skip
                    replace h153 : 12 ≤ v44 := by omega
                    intro v159 e159 a159 b159
                    rw [pz_wi (by first | decide | omega) (by first | decide | omega)] at e159
                    clear a159 b159
                    refine And.intro (And.intro hI (And.intro (by first | decide | omega) (by first | decide | omega))) ?_
                    intro v163 M163 a163 b163 q163
                    obtain ⟨q163, z163⟩ := q163
                    have hS : pz_rl pz_Q8 M M163 := hS.tr z163
                    have hI : pz_im M163 := hS.1 hI0
                    obtain ⟨q163, s163⟩ := q163
                    have P163 := pq_mP_e S144 (by first | decide | omega) s163 (pq_Q8 z163)
                    have L163 := pq_lay1_q L144 (n4 := v159.toNat) q163.1 (by first | decide | omega)
                    have O163 : ∀ j : Nat, j < 5 * (M 1 15).toNat → M163 66 j = M15 66 j := fun j hj => (q163.1 j (by first | decide | omega)).trans (O144 j hj)
                    refine And.intro (fun h166 => ?_) (fun h166 => ?_)
                    · skip
                      refine And.intro (by first | decide | omega) ?_
                      refine And.intro rfl ?_
                      first
                        | exact ⟨⟨Or.inr rfl, Or.inl ⟨rfl, _, _, P163.1 h166, L163, pq_fr1 O163 q15.1 (by first | decide | omega) (by first | decide | omega)⟩⟩, hS⟩
                        | exact ⟨⟨Or.inl rfl, Or.inr ⟨rfl, P163.2 (by first | decide | omega)⟩⟩, hS⟩
                        | exact ⟨⟨Or.inr rfl, Or.inl ⟨rfl, _, _, pq_mP_z S144 (by first | decide | omega), L144, pq_fr1 O144 q15.1 (by first | decide | omega) (by first | decide | omega)⟩⟩, hS⟩
                        | (exfalso; omega)
                    · skip
                      refine And.intro (by first | decide | omega) ?_
                      refine And.intro rfl ?_
                      first
                        | exact ⟨⟨Or.inr rfl, Or.inl ⟨rfl, _, _, P163.1 h166, L163, pq_fr1 O163 q15.1 (by first | decide | omega) (by first | decide | omega)⟩⟩, hS⟩
                        | exact ⟨⟨Or.inl rfl, Or.inr ⟨rfl, P163.2 (by first | decide | omega)⟩⟩, hS⟩
                        | exact ⟨⟨Or.inr rfl, Or.inl ⟨rfl, _, _, pq_mP_z S144 (by first | decide | omega), L144, pq_fr1 O144 q15.1 (by first | decide | omega) (by first | decide | omega)⟩⟩, hS⟩
                        | (exfalso; omega)
              · skip
                have S129 := pq_mP_m S83 W44 (by first | decide | omega) (fun y => by omega)
                intro v135 e135 a135 b135
                rw [pz_wi (by first | decide | omega) (by first | decide | omega)] at e135
                clear a135 b135
                refine And.intro (And.intro hI (And.intro (by first | decide | omega) (by first | decide | omega))) ?_
                intro v136 M136 a136 b136 q136
                obtain ⟨q136, z136⟩ := q136
                have hS : pz_rl pz_Q8 M M136 := hS.tr z136
                have hI : pz_im M136 := hS.1 hI0
                obtain ⟨q136, s136⟩ := q136
                rw [K83] at s136
                have P136 := pq_mP_k S129 s136 (pq_Q8 z136)
                have L136 := pq_lay1_m L83 (n3 := v135.toNat) q136.1 (by first | decide | omega)
                have O136 : ∀ j : Nat, j < 5 * (M 1 15).toNat → M136 66 j = M15 66 j := fun j hj => (q136.1 j (by first | decide | omega)).trans (O83 j hj)
                refine And.intro (fun h139 => ?_) (fun h139 => ?_)
                · skip
                  have S144 := P136.1 h139
                  have L144 := L136
                  have O144 := O136
                  refine And.intro (fun h147 => ?_) (fun h147 => ?_)
                  · skip
                    refine And.intro (by first | decide | omega) ?_
                    refine And.intro rfl ?_
                    first
                      | exact ⟨⟨Or.inr rfl, Or.inl ⟨rfl, _, _, P163.1 h166, L163, pq_fr1 O163 q15.1 (by first | decide | omega) (by first | decide | omega)⟩⟩, hS⟩
                      | exact ⟨⟨Or.inl rfl, Or.inr ⟨rfl, P163.2 (by first | decide | omega)⟩⟩, hS⟩
                      | exact ⟨⟨Or.inr rfl, Or.inl ⟨rfl, _, _, pq_mP_z S144 (by first | decide | omega), L144, pq_fr1 O144 q15.1 (by first | decide | omega) (by first | decide | omega)⟩⟩, hS⟩
                      | (exfalso; omega)
                  · skip
                    refine And.intro (fun h153 => ?_) (fun h153 => ?_)
                    · skip
                      refine And.intro (by first | decide | omega) ?_
                      refine And.intro rfl ?_
                      first
                        | exact ⟨⟨Or.inr rfl, Or.inl ⟨rfl, _, _, P163.1 h166, L163, pq_fr1 O163 q15.1 (by first | decide | omega) (by first | decide | omega)⟩⟩, hS⟩
                        | exact ⟨⟨Or.inl rfl, Or.inr ⟨rfl, P163.2 (by first | decide | omega)⟩⟩, hS⟩
                        | exact ⟨⟨Or.inr rfl, Or.inl ⟨rfl, _, _, pq_mP_z S144 (by first | decide | omega), L144, pq_fr1 O144 q15.1 (by first | decide | omega) (by first | decide | omega)⟩⟩, hS⟩
                        | (exfalso; omega)
                    · skip
                      intro v159 e159 a159 b159
                      rw [pz_wi (by first | decide | omega) (by first | decide | omega)] at e159
                      clear a159 b159
                      refine And.intro (And.intro hI (And.intro (by first | decide | omega) (by first | decide | omega))) ?_
                      intro v163 M163 a163 b163 q163
                      obtain ⟨q163, z163⟩ := q163
                      have hS : pz_rl pz_Q8 M M163 := hS.tr z163
                      have hI : pz_im M163 := hS.1 hI0
                      obtain ⟨q163, s163⟩ := q163
                      have P163 := pq_mP_e S144 (by first | decide | omega) s163 (pq_Q8 z163)
                      have L163 := pq_lay1_q L144 (n4 := v159.toNat) q163.1 (by first | decide | omega)
                      have O163 : ∀ j : Nat, j < 5 * (M 1 15).toNat → M163 66 j = M15 66 j := fun j hj => (q163.1 j (by first | decide | omega)).trans (O144 j hj)
                      refine And.intro (fun h166 => ?_) (fun h166 => ?_)
                      · skip
                        refine And.intro (by first | decide | omega) ?_
                        refine And.intro rfl ?_
                        first
                          | exact ⟨⟨Or.inr rfl, Or.inl ⟨rfl, _, _, P163.1 h166, L163, pq_fr1 O163 q15.1 (by first | decide | omega) (by first | decide | omega)⟩⟩, hS⟩
                          | exact ⟨⟨Or.inl rfl, Or.inr ⟨rfl, P163.2 (by first | decide | omega)⟩⟩, hS⟩
                          | exact ⟨⟨Or.inr rfl, Or.inl ⟨rfl, _, _, pq_mP_z S144 (by first | decide | omega), L144, pq_fr1 O144 q15.1 (by first | decide | omega) (by first | decide | omega)⟩⟩, hS⟩
                          | (exfalso; omega)
                      · skip
                        refine And.intro (by first | decide | omega) ?_
                        refine And.intro rfl ?_
                        first
                          | exact ⟨⟨Or.inr rfl, Or.inl ⟨rfl, _, _, P163.1 h166, L163, pq_fr1 O163 q15.1 (by first | decide | omega) (by first | decide | omega)⟩⟩, hS⟩
                          | exact ⟨⟨Or.inl rfl, Or.inr ⟨rfl, P163.2 (by first | decide | omega)⟩⟩, hS⟩
                          | exact ⟨⟨Or.inr rfl, Or.inl ⟨rfl, _, _, pq_mP_z S144 (by first | decide | omega), L144, pq_fr1 O144 q15.1 (by first | decide | omega) (by first | decide | omega)⟩⟩, hS⟩
                          | (exfalso; omega)
                · skip
                  skip
                  refine And.intro (by first | decide | omega) ?_
                  refine And.intro rfl ?_
                  exact ⟨⟨Or.inl rfl, Or.inr ⟨rfl, P136.2 (by first | decide | omega)⟩⟩, hS⟩
            · skip
              intro v106 e106 a106 b106
              refine pz_nrc (c := 66) rfl ?_
              intro v115 e115 a115 b115
              rw [pz_wi (by first | decide | omega) (by first | decide | omega)] at e115
              clear a115 b115
              have lo116 : (0 : Int) ≤ v115 := by omega
              have tn116 : (((v115).toNat : Nat) : Int) = v115 := Int.toNat_of_nonneg lo116
              refine And.intro (lo116) (And.intro (show _ < (80 : Int) from by omega) ?_)
              intro v116 e116 a116 b116
              rw [show v115.toNat = v82.toNat by omega] at e116
              refine And.intro (fun h117 => ?_) (fun h117 => ?_)
              · skip
                refine And.intro (fun h129 => ?_) (fun h129 => ?_)
                · skip
                  have S144 := pq_mP_o S83 W44 (by first | decide | omega)
                  have L144 := L83
                  have O144 := O83
                  replace h129 : 11 ≤ v44 := by omega
                  refine And.intro (fun h147 => ?_) (fun h147 => ?_)
                  · skip
                    refine And.intro (by first | decide | omega) ?_
                    refine And.intro rfl ?_
                    first
                      | exact ⟨⟨Or.inr rfl, Or.inl ⟨rfl, _, _, P163.1 h166, L163, pq_fr1 O163 q15.1 (by first | decide | omega) (by first | decide | omega)⟩⟩, hS⟩
                      | exact ⟨⟨Or.inl rfl, Or.inr ⟨rfl, P163.2 (by first | decide | omega)⟩⟩, hS⟩
                      | exact ⟨⟨Or.inr rfl, Or.inl ⟨rfl, _, _, pq_mP_z S144 (by first | decide | omega), L144, pq_fr1 O144 q15.1 (by first | decide | omega) (by first | decide | omega)⟩⟩, hS⟩
                      | (exfalso; omega)
                  · skip
                    replace h147 : v44 ≤ 8 := by omega
                    refine And.intro (fun h153 => ?_) (fun h153 => ?_)
                    · skip
                      refine And.intro (by first | decide | omega) ?_
                      refine And.intro rfl ?_
                      first
                        | exact ⟨⟨Or.inr rfl, Or.inl ⟨rfl, _, _, P163.1 h166, L163, pq_fr1 O163 q15.1 (by first | decide | omega) (by first | decide | omega)⟩⟩, hS⟩
                        | exact ⟨⟨Or.inl rfl, Or.inr ⟨rfl, P163.2 (by first | decide | omega)⟩⟩, hS⟩
                        | exact ⟨⟨Or.inr rfl, Or.inl ⟨rfl, _, _, pq_mP_z S144 (by first | decide | omega), L144, pq_fr1 O144 q15.1 (by first | decide | omega) (by first | decide | omega)⟩⟩, hS⟩
                        | (exfalso; omega)
                    · skip
                      replace h153 : 12 ≤ v44 := by omega
                      intro v159 e159 a159 b159
                      rw [pz_wi (by first | decide | omega) (by first | decide | omega)] at e159
                      clear a159 b159
                      refine And.intro (And.intro hI (And.intro (by first | decide | omega) (by first | decide | omega))) ?_
                      intro v163 M163 a163 b163 q163
                      obtain ⟨q163, z163⟩ := q163
                      have hS : pz_rl pz_Q8 M M163 := hS.tr z163
                      have hI : pz_im M163 := hS.1 hI0
                      obtain ⟨q163, s163⟩ := q163
                      have P163 := pq_mP_e S144 (by first | decide | omega) s163 (pq_Q8 z163)
                      have L163 := pq_lay1_q L144 (n4 := v159.toNat) q163.1 (by first | decide | omega)
                      have O163 : ∀ j : Nat, j < 5 * (M 1 15).toNat → M163 66 j = M15 66 j := fun j hj => (q163.1 j (by first | decide | omega)).trans (O144 j hj)
                      refine And.intro (fun h166 => ?_) (fun h166 => ?_)
                      · skip
                        refine And.intro (by first | decide | omega) ?_
                        refine And.intro rfl ?_
                        first
                          | exact ⟨⟨Or.inr rfl, Or.inl ⟨rfl, _, _, P163.1 h166, L163, pq_fr1 O163 q15.1 (by first | decide | omega) (by first | decide | omega)⟩⟩, hS⟩
                          | exact ⟨⟨Or.inl rfl, Or.inr ⟨rfl, P163.2 (by first | decide | omega)⟩⟩, hS⟩
                          | exact ⟨⟨Or.inr rfl, Or.inl ⟨rfl, _, _, pq_mP_z S144 (by first | decide | omega), L144, pq_fr1 O144 q15.1 (by first | decide | omega) (by first | decide | omega)⟩⟩, hS⟩
                          | (exfalso; omega)
                      · skip
                        refine And.intro (by first | decide | omega) ?_
                        refine And.intro rfl ?_
                        first
                          | exact ⟨⟨Or.inr rfl, Or.inl ⟨rfl, _, _, P163.1 h166, L163, pq_fr1 O163 q15.1 (by first | decide | omega) (by first | decide | omega)⟩⟩, hS⟩
                          | exact ⟨⟨Or.inl rfl, Or.inr ⟨rfl, P163.2 (by first | decide | omega)⟩⟩, hS⟩
                          | exact ⟨⟨Or.inr rfl, Or.inl ⟨rfl, _, _, pq_mP_z S144 (by first | decide | omega), L144, pq_fr1 O144 q15.1 (by first | decide | omega) (by first | decide | omega)⟩⟩, hS⟩
                          | (exfalso; omega)
                · skip
                  have S129 := pq_mP_m S83 W44 (by first | decide | omega) (fun y => by omega)
                  intro v135 e135 a135 b135
                  rw [pz_wi (by first | decide | omega) (by first | decide | omega)] at e135
                  clear a135 b135
                  refine And.intro (And.intro hI (And.intro (by first | decide | omega) (by first | decide | omega))) ?_
                  intro v136 M136 a136 b136 q136
                  obtain ⟨q136, z136⟩ := q136
                  have hS : pz_rl pz_Q8 M M136 := hS.tr z136
                  have hI : pz_im M136 := hS.1 hI0
                  obtain ⟨q136, s136⟩ := q136
                  rw [K83] at s136
                  have P136 := pq_mP_k S129 s136 (pq_Q8 z136)
                  have L136 := pq_lay1_m L83 (n3 := v135.toNat) q136.1 (by first | decide | omega)
                  have O136 : ∀ j : Nat, j < 5 * (M 1 15).toNat → M136 66 j = M15 66 j := fun j hj => (q136.1 j (by first | decide | omega)).trans (O83 j hj)
                  refine And.intro (fun h139 => ?_) (fun h139 => ?_)
                  · skip
                    have S144 := P136.1 h139
                    have L144 := L136
                    have O144 := O136
                    refine And.intro (fun h147 => ?_) (fun h147 => ?_)
                    · skip
                      refine And.intro (by first | decide | omega) ?_
                      refine And.intro rfl ?_
                      first
                        | exact ⟨⟨Or.inr rfl, Or.inl ⟨rfl, _, _, P163.1 h166, L163, pq_fr1 O163 q15.1 (by first | decide | omega) (by first | decide | omega)⟩⟩, hS⟩
                        | exact ⟨⟨Or.inl rfl, Or.inr ⟨rfl, P163.2 (by first | decide | omega)⟩⟩, hS⟩
                        | exact ⟨⟨Or.inr rfl, Or.inl ⟨rfl, _, _, pq_mP_z S144 (by first | decide | omega), L144, pq_fr1 O144 q15.1 (by first | decide | omega) (by first | decide | omega)⟩⟩, hS⟩
                        | (exfalso; omega)
                    · skip
                      refine And.intro (fun h153 => ?_) (fun h153 => ?_)
                      · skip
                        refine And.intro (by first | decide | omega) ?_
                        refine And.intro rfl ?_
                        first
                          | exact ⟨⟨Or.inr rfl, Or.inl ⟨rfl, _, _, P163.1 h166, L163, pq_fr1 O163 q15.1 (by first | decide | omega) (by first | decide | omega)⟩⟩, hS⟩
                          | exact ⟨⟨Or.inl rfl, Or.inr ⟨rfl, P163.2 (by first | decide | omega)⟩⟩, hS⟩
                          | exact ⟨⟨Or.inr rfl, Or.inl ⟨rfl, _, _, pq_mP_z S144 (by first | decide | omega), L144, pq_fr1 O144 q15.1 (by first | decide | omega) (by first | decide | omega)⟩⟩, hS⟩
                          | (exfalso; omega)
                      · skip
                        intro v159 e159 a159 b159
                        rw [pz_wi (by first | decide | omega) (by first | decide | omega)] at e159
                        clear a159 b159
                        refine And.intro (And.intro hI (And.intro (by first | decide | omega) (by first | decide | omega))) ?_
                        intro v163 M163 a163 b163 q163
                        obtain ⟨q163, z163⟩ := q163
                        have hS : pz_rl pz_Q8 M M163 := hS.tr z163
                        have hI : pz_im M163 := hS.1 hI0
                        obtain ⟨q163, s163⟩ := q163
                        have P163 := pq_mP_e S144 (by first | decide | omega) s163 (pq_Q8 z163)
                        have L163 := pq_lay1_q L144 (n4 := v159.toNat) q163.1 (by first | decide | omega)
                        have O163 : ∀ j : Nat, j < 5 * (M 1 15).toNat → M163 66 j = M15 66 j := fun j hj => (q163.1 j (by first | decide | omega)).trans (O144 j hj)
                        refine And.intro (fun h166 => ?_) (fun h166 => ?_)
                        · skip
                          refine And.intro (by first | decide | omega) ?_
                          refine And.intro rfl ?_
                          first
                            | exact ⟨⟨Or.inr rfl, Or.inl ⟨rfl, _, _, P163.1 h166, L163, pq_fr1 O163 q15.1 (by first | decide | omega) (by first | decide | omega)⟩⟩, hS⟩
                            | exact ⟨⟨Or.inl rfl, Or.inr ⟨rfl, P163.2 (by first | decide | omega)⟩⟩, hS⟩
                            | exact ⟨⟨Or.inr rfl, Or.inl ⟨rfl, _, _, pq_mP_z S144 (by first | decide | omega), L144, pq_fr1 O144 q15.1 (by first | decide | omega) (by first | decide | omega)⟩⟩, hS⟩
                            | (exfalso; omega)
                        · skip
                          refine And.intro (by first | decide | omega) ?_
                          refine And.intro rfl ?_
                          first
                            | exact ⟨⟨Or.inr rfl, Or.inl ⟨rfl, _, _, P163.1 h166, L163, pq_fr1 O163 q15.1 (by first | decide | omega) (by first | decide | omega)⟩⟩, hS⟩
                            | exact ⟨⟨Or.inl rfl, Or.inr ⟨rfl, P163.2 (by first | decide | omega)⟩⟩, hS⟩
                            | exact ⟨⟨Or.inr rfl, Or.inl ⟨rfl, _, _, pq_mP_z S144 (by first | decide | omega), L144, pq_fr1 O144 q15.1 (by first | decide | omega) (by first | decide | omega)⟩⟩, hS⟩
                            | (exfalso; omega)
                  · skip
                    skip
                    refine And.intro (by first | decide | omega) ?_
                    refine And.intro rfl ?_
                    exact ⟨⟨Or.inl rfl, Or.inr ⟨rfl, P136.2 (by first | decide | omega)⟩⟩, hS⟩
              · skip
                refine And.intro (hI) ?_
                intro v122 M122 a122 b122 q122
                obtain ⟨q122, z122⟩ := q122
                have hS : pz_rl pz_Q8 M M122 := hS.tr (pz_rl.wk pz_wk_Q0_Q8 z122)
                have hI : pz_im M122 := hS.1 hI0
                clear a122 b122
                refine And.intro (by first | decide | omega) ?_
                refine And.intro rfl ?_
                exact ⟨⟨Or.inl (by first | decide | omega), Or.inr ⟨by omega, pq_mP_2 S83 W44 (by first | decide | omega) (by first | decide | omega) (by first | decide | omega) q122.2.1 q122.2.2⟩⟩, hS⟩
        · skip
          skip
          refine And.intro (by first | decide | omega) ?_
          refine And.intro rfl ?_
          exact ⟨⟨Or.inl rfl, Or.inr ⟨rfl, P83.2 (by first | decide | omega)⟩⟩, hS⟩
      · skip
        replace q31 := q31.resolve_left (fun z => absurd (z.1.symm.trans h34) (by decide))
        clear h34
        refine And.intro (hI) ?_
        intro v39 M39 a39 b39 q39
        obtain ⟨q39, z39⟩ := q39
        have hS : pz_rl pz_Q8 M M39 := hS.tr (pz_rl.wk pz_wk_Q0_Q8 z39)
        have hI : pz_im M39 := hS.1 hI0
        clear a39 b39
        refine And.intro (by first | decide | omega) ?_
        refine And.intro rfl ?_
        exact ⟨⟨Or.inl (by first | decide | omega), Or.inr ⟨by omega, pq_mP_d S15 pr2 (by first | decide | omega) q39.2.1 q39.2.2⟩⟩, hS⟩
    · skip
      skip
      refine And.intro (by first | decide | omega) ?_
      refine And.intro rfl ?_
      exact ⟨⟨Or.inl rfl, Or.inr ⟨rfl, P15.2 (by first | decide | omega)⟩⟩, hS⟩
theorem v_X12_aPlan {fr lo i : Nat} {own : String} (h1 : 11 + 1 ≤ fr) (h2 : 8 + (3 + 11) + 237 ≤ lo) (h3 : .methodLink own i yX12_aPlan ∈ lw_tbl) : pz_cV fr lo own i k_X12_aPlan :=
  pz_cVk (maxL := 3) (fr' := 11) (lo' := 237) 0 12 h_X12_aPlan rfl ⟨(pz_nhc_RX12 yX12_aPlan rfl).1, (pz_nhc_RX12 yX12_aPlan rfl).2, pz_ds3⟩ ⟨pz_wq1362, pz_wq1361, pz_ws27, pz_wq13⟩ (Or.inl ⟨TX12, 28, rfl⟩) (fun a M _ h => by
    have h : (match (generalizing := false) a with | [.inr (.inr (12, th))] => pz_im M ∧ M 1 15 < 16 ∧ M 1 12 = 1 | _ => False) := h
    split at h
    · exact ⟨_, _, rfl⟩
    · exact h.elim) h1 h2 h3
noncomputable def k_X12_aPhone : pz_C := (1, 1, fun a M => (match a with | [.inr (.inr (12, th))] => pz_im M ∧ M 1 15 < 16 ∧ M 1 12 = 2 | _ => False), fun a M r M' => (match a, r with | [.inr (.inr (12, th))], some (.inl v) => (((∀ j : Nat, (j : Int) < 3 * M 1 15 → M' 66 j = M 66 j) ∧ (v = 0 ∨ (v = 1 ∧ 0 ≤ M' 66 (3 * M 1 15).toNat ∧ M' 66 (3 * M 1 15).toNat ≤ 11))) ∧ pq_mr (pq_GH M) 2 M M' v) ∧ pz_rl pz_Q8 M M' | _, _ => False))
noncomputable abbrev ct_X12_aPhone : List (Bool × Nat × pz_C) := [(true, 223, k_X12_need), (true, 245, k_X12_aLink), (true, 241, k_X12_told)]
set_option maxRecDepth 100000 in
set_option maxHeartbeats 4000000 in
theorem h_X12_aPhone : pz_H yX12_aPhone cX12_aPhone 2 (some .boolean) k_X12_aPhone 11 237 := by
  refine pz_mk (own := RX12) (tb := t_X12_aPhone) (fl := pz_flf fl_RX12) (ci := pz_cif ci_RX12) (ct := pz_ctf ct_X12_aPhone) (rz := true) (pz_pfc_RX12 yX12_aPhone rfl) rfl t_X12_aPhone_ok (pz_flk fl_RX12_ok) (pz_cik ci_RX12_ok) ?_ ?_ (Or.inr ⟨rfl, rfl⟩) ?_ ?_
  · exact fun i k' h => pz_ctk (l := ct_X12_aPhone) (P := fun b i k => b = true → pz_cV 11 237 RX12 i k) (List.forall_mem_cons.mpr ⟨(fun _ => v_X12_need (by decide) (by decide) pz_wq1347), List.forall_mem_cons.mpr ⟨(fun _ => v_X12_aLink (by decide) (by decide) pz_wq1371), List.forall_mem_cons.mpr ⟨(fun _ => v_X12_told (by decide) (by decide) pz_wq1363), fun _ h => absurd h List.not_mem_nil⟩⟩⟩) true i k' h rfl
  · exact fun i k' h => pz_ctk (l := ct_X12_aPhone) (P := fun b i k => b = false → (pz_cS 11 237 RX12 i k ∨ (k = pz_kac ∧ 1 ≤ 11 ∧ 60 ≤ 237 ∧ Cond.methodLink RX12 i arraycopyName ∈ pz_tbl))) (List.forall_mem_cons.mpr ⟨((fun z => by cases z)), List.forall_mem_cons.mpr ⟨((fun z => by cases z)), List.forall_mem_cons.mpr ⟨((fun z => by cases z)), fun _ h => absurd h List.not_mem_nil⟩⟩⟩) false i k' h rfl
  · intro a M hlen hpre
    obtain ⟨th, rfl, hpre⟩ : ∃ th, a = [.inr (.inr (12, th))] ∧ (pz_im M ∧ M 1 15 < 16 ∧ M 1 12 = 2) := by
      have hpre : (match (generalizing := false) a with | [.inr (.inr (12, th))] => pz_im M ∧ M 1 15 < 16 ∧ M 1 12 = 2 | _ => False) := hpre
      split at hpre
      · exact ⟨_, rfl, hpre⟩
      · exact hpre.elim
    exact Nat.le_of_ble_eq_true rfl
  · intro a M hlen hcan hM hpre Ok hgo
    obtain ⟨th, rfl, hpre⟩ : ∃ th, a = [.inr (.inr (12, th))] ∧ (pz_im M ∧ M 1 15 < 16 ∧ M 1 12 = 2) := by
      have hpre : (match (generalizing := false) a with | [.inr (.inr (12, th))] => pz_im M ∧ M 1 15 < 16 ∧ M 1 12 = 2 | _ => False) := hpre
      split at hpre
      · exact ⟨_, rfl, hpre⟩
      · exact hpre.elim
    obtain ⟨k_th, hc_th⟩ := pz_tlm hcan
    have k_th : pz_kd th = 12 ∧ th < 231 := k_th
    have R_th := pz_kd12 k_th.1
    subst R_th
    clear k_th
    have hI : pz_im M := hpre.1
    have hI0 := hI
    have hS : pz_rl pz_Q8 M M := pz_rl.rf
    have I15 := hI.2.1.2.2.2.2.2.2.2.1
    obtain ⟨-, pr1, pr2⟩ := hpre
    refine hgo (fun _ => false) 44 0 _ [] M ?_
    intro v2 e2 a2 b2
    have I2 : 0 ≤ v2 ∧ v2 ≤ 16 := by
      rw [e2]
      exact hI.2.1.2.2.2.2.2.2.2.1
    clear a2 b2
    have N2 := hI.2.1.2.2.2.2.2.2.2.1
    intro v5 e5 a5 b5
    rw [pz_wi (by first | decide | omega) (by first | decide | omega)] at e5
    clear a5 b5
    refine And.intro (hI) ?_
    intro v10 M10 a10 b10 q10
    obtain ⟨q10, z10⟩ := q10
    have hS : pz_rl pz_Q8 M M10 := hS.tr (pz_rl.wk pz_wk_Q0_Q8 z10)
    have hI : pz_im M10 := hS.1 hI0
    obtain ⟨q10, s10⟩ := q10
    have W10 : ∀ j : Nat, (j : Int) < 3 * M 1 15 → M10 66 j = M 66 j := fun j _ => z10.2 66 j (by unfold pz_Q0; first | decide | omega)
    have K10 : M10 60 88 = M 60 88 := z10.2 60 88 (by unfold pz_Q0; first | decide | omega)
    refine And.intro (fun h13 => ?_) (fun h13 => ?_)
    · skip
      have n9 := (s10.resolve_left (fun y => absurd (y.1.symm.trans h13) (by decide))).2
      have F13 := pq_mH_0f pr2 n9.1 n9.2.1 n9.2.2
      refine And.intro (by first | decide | omega) ?_
      refine And.intro rfl ?_
      have E9 : (3 * M 1 15).toNat = v5.toNat := by omega
      have E8 : ((pq_wid 2 : Nat) : Int) = 3 := rfl
      first
        | exact ⟨⟨⟨W59, Or.inr ⟨rfl, by rw [E9, V59, V34]; exact (q18.2.resolve_left h21).2⟩⟩, Or.inl ⟨rfl, _, _, P59.1 h62, pq_lay2 (n0 := v5.toNat) (n1 := v27.toNat) (n2 := v43.toNat) (by first | decide | omega) (by first | decide | omega) (by first | decide | omega) (V59.trans V34) V59b rfl, fun j hj => W59 j (by rw [E8] at hj; exact hj)⟩⟩, hS⟩
        | exact ⟨⟨⟨W59, Or.inl rfl⟩, Or.inr ⟨rfl, P59.2 (by first | decide | omega)⟩⟩, hS⟩
        | exact ⟨⟨⟨W34, Or.inl rfl⟩, Or.inr ⟨rfl, P34.2 (by first | decide | omega)⟩⟩, hS⟩
        | exact ⟨⟨⟨W18, Or.inl rfl⟩, Or.inr ⟨rfl, F21⟩⟩, hS⟩
        | exact ⟨⟨⟨W10, Or.inl rfl⟩, Or.inr ⟨rfl, F13⟩⟩, hS⟩
    · skip
      have S13 := pq_mH_0 pr2 (q10.resolve_left h13).2.1 z10 (s10.resolve_right (fun y => h13 y.1)).2
      refine And.intro (And.intro hI (And.intro (by first | decide | omega) (by first | decide | omega))) ?_
      intro v18 M18 a18 b18 q18
      obtain ⟨q18, z18⟩ := q18
      have hS : pz_rl pz_Q8 M M18 := hS.tr z18
      have hI : pz_im M18 := hS.1 hI0
      obtain ⟨q18, s18⟩ := q18
      have W18 : ∀ j : Nat, (j : Int) < 3 * M 1 15 → M18 66 j = M 66 j := fun j hj => (q18.1 j (by first | decide | omega)).trans (W10 j hj)
      rw [K10] at s18
      have R18 : M18 1 12 = 2 := by rw [hS.2 1 12 (by unfold pz_Q8; first | decide | omega)]; exact pr2
      refine And.intro (fun h21 => ?_) (fun h21 => ?_)
      · skip
        have F21 := pq_mH_af S13 s18 h21
        refine And.intro (by first | decide | omega) ?_
        refine And.intro rfl ?_
        have E9 : (3 * M 1 15).toNat = v5.toNat := by omega
        have E8 : ((pq_wid 2 : Nat) : Int) = 3 := rfl
        first
          | exact ⟨⟨⟨W59, Or.inr ⟨rfl, by rw [E9, V59, V34]; exact (q18.2.resolve_left h21).2⟩⟩, Or.inl ⟨rfl, _, _, P59.1 h62, pq_lay2 (n0 := v5.toNat) (n1 := v27.toNat) (n2 := v43.toNat) (by first | decide | omega) (by first | decide | omega) (by first | decide | omega) (V59.trans V34) V59b rfl, fun j hj => W59 j (by rw [E8] at hj; exact hj)⟩⟩, hS⟩
          | exact ⟨⟨⟨W59, Or.inl rfl⟩, Or.inr ⟨rfl, P59.2 (by first | decide | omega)⟩⟩, hS⟩
          | exact ⟨⟨⟨W34, Or.inl rfl⟩, Or.inr ⟨rfl, P34.2 (by first | decide | omega)⟩⟩, hS⟩
          | exact ⟨⟨⟨W18, Or.inl rfl⟩, Or.inr ⟨rfl, F21⟩⟩, hS⟩
          | exact ⟨⟨⟨W10, Or.inl rfl⟩, Or.inr ⟨rfl, F13⟩⟩, hS⟩
      · skip
        have S21 := pq_mH_a S13 s18 h21 (pq_Q8 z18)
        intro v27 e27 a27 b27
        rw [pz_wi (by first | decide | omega) (by first | decide | omega)] at e27
        clear a27 b27
        refine And.intro (And.intro hI (And.intro (by first | decide | omega) (by first | decide | omega))) ?_
        intro v34 M34 a34 b34 q34
        obtain ⟨q34, z34⟩ := q34
        have hS : pz_rl pz_Q8 M M34 := hS.tr z34
        have hI : pz_im M34 := hS.1 hI0
        obtain ⟨q34, s34⟩ := q34
        have W34 : ∀ j : Nat, (j : Int) < 3 * M 1 15 → M34 66 j = M 66 j := fun j hj => (q34.1 j (by first | decide | omega)).trans (W18 j hj)
        have V34 : M34 66 v5.toNat = M18 66 v5.toNat := q34.1 _ (by first | decide | omega)
        have P34 := pq_mH_b S21 R18 s34 (pq_Q8 z34)
        have R34 : M34 1 12 = 2 := by rw [hS.2 1 12 (by unfold pz_Q8; first | decide | omega)]; exact pr2
        refine And.intro (fun h37 => ?_) (fun h37 => ?_)
        · skip
          refine And.intro (by first | decide | omega) ?_
          refine And.intro rfl ?_
          have E9 : (3 * M 1 15).toNat = v5.toNat := by omega
          have E8 : ((pq_wid 2 : Nat) : Int) = 3 := rfl
          first
            | exact ⟨⟨⟨W59, Or.inr ⟨rfl, by rw [E9, V59, V34]; exact (q18.2.resolve_left h21).2⟩⟩, Or.inl ⟨rfl, _, _, P59.1 h62, pq_lay2 (n0 := v5.toNat) (n1 := v27.toNat) (n2 := v43.toNat) (by first | decide | omega) (by first | decide | omega) (by first | decide | omega) (V59.trans V34) V59b rfl, fun j hj => W59 j (by rw [E8] at hj; exact hj)⟩⟩, hS⟩
            | exact ⟨⟨⟨W59, Or.inl rfl⟩, Or.inr ⟨rfl, P59.2 (by first | decide | omega)⟩⟩, hS⟩
            | exact ⟨⟨⟨W34, Or.inl rfl⟩, Or.inr ⟨rfl, P34.2 (by first | decide | omega)⟩⟩, hS⟩
            | exact ⟨⟨⟨W18, Or.inl rfl⟩, Or.inr ⟨rfl, F21⟩⟩, hS⟩
            | exact ⟨⟨⟨W10, Or.inl rfl⟩, Or.inr ⟨rfl, F13⟩⟩, hS⟩
        · skip
          intro v43 e43 a43 b43
          rw [pz_wi (by first | decide | omega) (by first | decide | omega)] at e43
          clear a43 b43
          refine pz_nrc (c := 66) rfl ?_
          intro v52 e52 a52 b52
          rw [pz_wi (by first | decide | omega) (by first | decide | omega)] at e52
          clear a52 b52
          have lo53 : (0 : Int) ≤ v52 := by omega
          have tn53 : (((v52).toNat : Nat) : Int) = v52 := Int.toNat_of_nonneg lo53
          refine And.intro (lo53) (And.intro (show _ < (80 : Int) from by omega) ?_)
          intro v53 e53 a53 b53
          rw [show v52.toNat = v27.toNat by omega] at e53
          have B53 := (q34.2.resolve_left h37).2
          intro v55 e55 a55 b55
          rw [pz_wi (by first | decide | omega) (by first | decide | omega)] at e55
          clear a55 b55
          refine And.intro (And.intro hI (And.intro (by first | decide | omega) (by first | decide | omega))) ?_
          intro v59 M59 a59 b59 q59
          obtain ⟨q59, z59⟩ := q59
          have hS : pz_rl pz_Q8 M M59 := hS.tr z59
          have hI : pz_im M59 := hS.1 hI0
          obtain ⟨q59, s59⟩ := q59
          have W59 : ∀ j : Nat, (j : Int) < 3 * M 1 15 → M59 66 j = M 66 j := fun j hj => (q59.1 j (by first | decide | omega)).trans (W34 j hj)
          have V59 : M59 66 v5.toNat = M34 66 v5.toNat := q59.1 _ (by first | decide | omega)
          have V59b : M59 66 v27.toNat = M34 66 v27.toNat := q59.1 _ (by first | decide | omega)
          rw [show v55 = M34 66 v27.toNat + 1 by omega] at s59
          have P59 := pq_mH_c (P34.1 h37) R34 s59 (pq_Q8 z59)
          refine And.intro (fun h62 => ?_) (fun h62 => ?_)
          · skip
            refine And.intro (by first | decide | omega) ?_
            refine And.intro rfl ?_
            have E9 : (3 * M 1 15).toNat = v5.toNat := by omega
            have E8 : ((pq_wid 2 : Nat) : Int) = 3 := rfl
            first
              | exact ⟨⟨⟨W59, Or.inr ⟨rfl, by rw [E9, V59, V34]; exact (q18.2.resolve_left h21).2⟩⟩, Or.inl ⟨rfl, _, _, P59.1 h62, pq_lay2 (n0 := v5.toNat) (n1 := v27.toNat) (n2 := v43.toNat) (by first | decide | omega) (by first | decide | omega) (by first | decide | omega) (V59.trans V34) V59b rfl, fun j hj => W59 j (by rw [E8] at hj; exact hj)⟩⟩, hS⟩
              | exact ⟨⟨⟨W59, Or.inl rfl⟩, Or.inr ⟨rfl, P59.2 (by first | decide | omega)⟩⟩, hS⟩
              | exact ⟨⟨⟨W34, Or.inl rfl⟩, Or.inr ⟨rfl, P34.2 (by first | decide | omega)⟩⟩, hS⟩
              | exact ⟨⟨⟨W18, Or.inl rfl⟩, Or.inr ⟨rfl, F21⟩⟩, hS⟩
              | exact ⟨⟨⟨W10, Or.inl rfl⟩, Or.inr ⟨rfl, F13⟩⟩, hS⟩
          · skip
            refine And.intro (by first | decide | omega) ?_
            refine And.intro rfl ?_
            have E9 : (3 * M 1 15).toNat = v5.toNat := by omega
            have E8 : ((pq_wid 2 : Nat) : Int) = 3 := rfl
            first
              | exact ⟨⟨⟨W59, Or.inr ⟨rfl, by rw [E9, V59, V34]; exact (q18.2.resolve_left h21).2⟩⟩, Or.inl ⟨rfl, _, _, P59.1 h62, pq_lay2 (n0 := v5.toNat) (n1 := v27.toNat) (n2 := v43.toNat) (by first | decide | omega) (by first | decide | omega) (by first | decide | omega) (V59.trans V34) V59b rfl, fun j hj => W59 j (by rw [E8] at hj; exact hj)⟩⟩, hS⟩
              | exact ⟨⟨⟨W59, Or.inl rfl⟩, Or.inr ⟨rfl, P59.2 (by first | decide | omega)⟩⟩, hS⟩
              | exact ⟨⟨⟨W34, Or.inl rfl⟩, Or.inr ⟨rfl, P34.2 (by first | decide | omega)⟩⟩, hS⟩
              | exact ⟨⟨⟨W18, Or.inl rfl⟩, Or.inr ⟨rfl, F21⟩⟩, hS⟩
              | exact ⟨⟨⟨W10, Or.inl rfl⟩, Or.inr ⟨rfl, F13⟩⟩, hS⟩
theorem v_X12_aPhone {fr lo i : Nat} {own : String} (h1 : 11 + 1 ≤ fr) (h2 : 8 + (2 + 11) + 237 ≤ lo) (h3 : .methodLink own i yX12_aPhone ∈ lw_tbl) : pz_cV fr lo own i k_X12_aPhone :=
  pz_cVk (maxL := 2) (fr' := 11) (lo' := 237) 0 12 h_X12_aPhone rfl ⟨(pz_nhc_RX12 yX12_aPhone rfl).1, (pz_nhc_RX12 yX12_aPhone rfl).2, pz_ds3⟩ ⟨pz_wq1378, pz_wq1377, pz_ws31, pz_wq13⟩ (Or.inl ⟨TX12, 28, rfl⟩) (fun a M _ h => by
    have h : (match (generalizing := false) a with | [.inr (.inr (12, th))] => pz_im M ∧ M 1 15 < 16 ∧ M 1 12 = 2 | _ => False) := h
    split at h
    · exact ⟨_, _, rfl⟩
    · exact h.elim) h1 h2 h3
noncomputable def k_X12_aRecord : pz_C := (1, 1, fun a M => (match a with | [.inr (.inr (12, th))] => pz_im M ∧ M 1 15 < 16 ∧ M 1 12 = 3 | _ => False), fun a M r M' => (match a, r with | [.inr (.inr (12, th))], some (.inl v) => ((v = 0 ∨ v = 1) ∧ pq_mr (pq_GD M) 3 M M' v) ∧ pz_rl pz_Q8 M M' | _, _ => False))
noncomputable abbrev ct_X12_aRecord : List (Bool × Nat × pz_C) := [(true, 241, k_X12_told), (true, 223, k_X12_need), (true, 245, k_X12_aLink)]
set_option maxRecDepth 100000 in
set_option maxHeartbeats 4000000 in
theorem h_X12_aRecord : pz_H yX12_aRecord cX12_aRecord 1 (some .boolean) k_X12_aRecord 11 237 := by
  refine pz_mk (own := RX12) (tb := t_X12_aRecord) (fl := pz_flf fl_RX12) (ci := pz_cif ci_RX12) (ct := pz_ctf ct_X12_aRecord) (rz := true) (pz_pfc_RX12 yX12_aRecord rfl) rfl t_X12_aRecord_ok (pz_flk fl_RX12_ok) (pz_cik ci_RX12_ok) ?_ ?_ (Or.inr ⟨rfl, rfl⟩) ?_ ?_
  · exact fun i k' h => pz_ctk (l := ct_X12_aRecord) (P := fun b i k => b = true → pz_cV 11 237 RX12 i k) (List.forall_mem_cons.mpr ⟨(fun _ => v_X12_told (by decide) (by decide) pz_wq1363), List.forall_mem_cons.mpr ⟨(fun _ => v_X12_need (by decide) (by decide) pz_wq1347), List.forall_mem_cons.mpr ⟨(fun _ => v_X12_aLink (by decide) (by decide) pz_wq1371), fun _ h => absurd h List.not_mem_nil⟩⟩⟩) true i k' h rfl
  · exact fun i k' h => pz_ctk (l := ct_X12_aRecord) (P := fun b i k => b = false → (pz_cS 11 237 RX12 i k ∨ (k = pz_kac ∧ 1 ≤ 11 ∧ 60 ≤ 237 ∧ Cond.methodLink RX12 i arraycopyName ∈ pz_tbl))) (List.forall_mem_cons.mpr ⟨((fun z => by cases z)), List.forall_mem_cons.mpr ⟨((fun z => by cases z)), List.forall_mem_cons.mpr ⟨((fun z => by cases z)), fun _ h => absurd h List.not_mem_nil⟩⟩⟩) false i k' h rfl
  · intro a M hlen hpre
    obtain ⟨th, rfl, hpre⟩ : ∃ th, a = [.inr (.inr (12, th))] ∧ (pz_im M ∧ M 1 15 < 16 ∧ M 1 12 = 3) := by
      have hpre : (match (generalizing := false) a with | [.inr (.inr (12, th))] => pz_im M ∧ M 1 15 < 16 ∧ M 1 12 = 3 | _ => False) := hpre
      split at hpre
      · exact ⟨_, rfl, hpre⟩
      · exact hpre.elim
    exact Nat.le_of_ble_eq_true rfl
  · intro a M hlen hcan hM hpre Ok hgo
    obtain ⟨th, rfl, hpre⟩ : ∃ th, a = [.inr (.inr (12, th))] ∧ (pz_im M ∧ M 1 15 < 16 ∧ M 1 12 = 3) := by
      have hpre : (match (generalizing := false) a with | [.inr (.inr (12, th))] => pz_im M ∧ M 1 15 < 16 ∧ M 1 12 = 3 | _ => False) := hpre
      split at hpre
      · exact ⟨_, rfl, hpre⟩
      · exact hpre.elim
    obtain ⟨k_th, hc_th⟩ := pz_tlm hcan
    have k_th : pz_kd th = 12 ∧ th < 231 := k_th
    have R_th := pz_kd12 k_th.1
    subst R_th
    clear k_th
    have hI : pz_im M := hpre.1
    have hI0 := hI
    have hS : pz_rl pz_Q8 M M := pz_rl.rf
    have I15 := hI.2.1.2.2.2.2.2.2.2.1
    obtain ⟨-, pr1, pr2⟩ := hpre
    refine hgo (fun _ => false) 29 0 _ [] M ?_
    intro v3 e3 a3 b3
    have I3 : 0 ≤ v3 ∧ v3 ≤ 16 := by
      rw [e3]
      exact hI.2.1.2.2.2.2.2.2.2.1
    clear a3 b3
    have N3 := hI.2.1.2.2.2.2.2.2.2.1
    intro v6 e6 a6 b6
    rw [pz_wi (by first | decide | omega) (by first | decide | omega)] at e6
    clear a6 b6
    refine And.intro (And.intro hI (And.intro (by first | decide | omega) (by first | decide | omega))) ?_
    intro v13 M13 a13 b13 q13
    obtain ⟨q13, z13⟩ := q13
    have hS : pz_rl pz_Q8 M M13 := hS.tr z13
    have hI : pz_im M13 := hS.1 hI0
    obtain ⟨q13, s13⟩ := q13
    have P13 := pq_mD_a pr2 s13 (pq_Q8 z13)
    have R13 : M13 1 12 = 3 := by rw [hS.2 1 12 (by unfold pz_Q8; first | decide | omega)]; exact pr2
    refine And.intro (fun h16 => ?_) (fun h16 => ?_)
    · skip
      refine And.intro (by first | decide | omega) ?_
      refine And.intro rfl ?_
      have E8 : ((pq_wid 3 : Nat) : Int) = 2 := rfl
      first
        | exact ⟨⟨Or.inr rfl, Or.inl ⟨rfl, _, _, P37.1 h40, pq_lay3 (n0 := v6.toNat) (n1 := v36.toNat) (by first | decide | omega) (by first | decide | omega) V37 rfl, fun j hj => (by rw [E8] at hj; exact (q37.1 j (by first | decide | omega)).trans ((z22.2 66 j (by unfold pz_Q0; first | decide | omega)).trans (q13.1 j (by first | decide | omega))))⟩⟩, hS⟩
        | exact ⟨⟨Or.inl rfl, Or.inr ⟨rfl, P37.2 (by first | decide | omega)⟩⟩, hS⟩
        | exact ⟨⟨Or.inl rfl, Or.inr ⟨rfl, F25⟩⟩, hS⟩
        | exact ⟨⟨Or.inl rfl, Or.inr ⟨rfl, P13.2 (by first | decide | omega)⟩⟩, hS⟩
    · skip
      refine And.intro (hI) ?_
      intro v22 M22 a22 b22 q22
      obtain ⟨q22, z22⟩ := q22
      have hS : pz_rl pz_Q8 M M22 := hS.tr (pz_rl.wk pz_wk_Q0_Q8 z22)
      have hI : pz_im M22 := hS.1 hI0
      obtain ⟨q22, s22⟩ := q22
      have K22 : M22 60 88 = M 60 88 := hS.2 60 88 (by unfold pz_Q8; first | decide | omega)
      refine And.intro (fun h25 => ?_) (fun h25 => ?_)
      · skip
        have n9 := (s22.resolve_left (fun y => absurd (y.1.symm.trans h25) (by decide))).2
        have F25 := pq_mD_bf (P13.1 h16) R13 n9.1 n9.2.1 n9.2.2
        refine And.intro (by first | decide | omega) ?_
        refine And.intro rfl ?_
        have E8 : ((pq_wid 3 : Nat) : Int) = 2 := rfl
        first
          | exact ⟨⟨Or.inr rfl, Or.inl ⟨rfl, _, _, P37.1 h40, pq_lay3 (n0 := v6.toNat) (n1 := v36.toNat) (by first | decide | omega) (by first | decide | omega) V37 rfl, fun j hj => (by rw [E8] at hj; exact (q37.1 j (by first | decide | omega)).trans ((z22.2 66 j (by unfold pz_Q0; first | decide | omega)).trans (q13.1 j (by first | decide | omega))))⟩⟩, hS⟩
          | exact ⟨⟨Or.inl rfl, Or.inr ⟨rfl, P37.2 (by first | decide | omega)⟩⟩, hS⟩
          | exact ⟨⟨Or.inl rfl, Or.inr ⟨rfl, F25⟩⟩, hS⟩
          | exact ⟨⟨Or.inl rfl, Or.inr ⟨rfl, P13.2 (by first | decide | omega)⟩⟩, hS⟩
      · skip
        have S25 := pq_mD_b (P13.1 h16) R13 (q22.resolve_left h25).2.1 z22 (s22.resolve_right (fun y => h25 y.1)).2
        intro v31 e31 a31 b31
        have I31 : 0 ≤ v31 ∧ v31 ≤ 16 := by
          rw [e31]
          exact hI.2.1.2.2.2.2.2.2.2.1
        clear a31 b31
        have N31 := hI.2.1.2.2.2.2.2.2.2.1
        rw [hS.2 1 15 (by unfold pz_Q8; first | decide | omega)] at e31
        intro v34 e34 a34 b34
        rw [pz_wi (by first | decide | omega) (by first | decide | omega)] at e34
        clear a34 b34
        intro v36 e36 a36 b36
        rw [pz_wi (by first | decide | omega) (by first | decide | omega)] at e36
        clear a36 b36
        refine And.intro (And.intro hI (And.intro (by first | decide | omega) (by first | decide | omega))) ?_
        intro v37 M37 a37 b37 q37
        obtain ⟨q37, z37⟩ := q37
        have hS : pz_rl pz_Q8 M M37 := hS.tr z37
        have hI : pz_im M37 := hS.1 hI0
        obtain ⟨q37, s37⟩ := q37
        rw [K22] at s37
        have P37 := pq_mD_c S25 s37 (pq_Q8 z37)
        have V37 : M37 66 v6.toNat = M13 66 v6.toNat := (q37.1 _ (by first | decide | omega)).trans (z22.2 66 _ (by unfold pz_Q0; first | decide | omega))
        refine And.intro (fun h40 => ?_) (fun h40 => ?_)
        · skip
          refine And.intro (by first | decide | omega) ?_
          refine And.intro rfl ?_
          have E8 : ((pq_wid 3 : Nat) : Int) = 2 := rfl
          first
            | exact ⟨⟨Or.inr rfl, Or.inl ⟨rfl, _, _, P37.1 h40, pq_lay3 (n0 := v6.toNat) (n1 := v36.toNat) (by first | decide | omega) (by first | decide | omega) V37 rfl, fun j hj => (by rw [E8] at hj; exact (q37.1 j (by first | decide | omega)).trans ((z22.2 66 j (by unfold pz_Q0; first | decide | omega)).trans (q13.1 j (by first | decide | omega))))⟩⟩, hS⟩
            | exact ⟨⟨Or.inl rfl, Or.inr ⟨rfl, P37.2 (by first | decide | omega)⟩⟩, hS⟩
            | exact ⟨⟨Or.inl rfl, Or.inr ⟨rfl, F25⟩⟩, hS⟩
            | exact ⟨⟨Or.inl rfl, Or.inr ⟨rfl, P13.2 (by first | decide | omega)⟩⟩, hS⟩
        · skip
          refine And.intro (by first | decide | omega) ?_
          refine And.intro rfl ?_
          have E8 : ((pq_wid 3 : Nat) : Int) = 2 := rfl
          first
            | exact ⟨⟨Or.inr rfl, Or.inl ⟨rfl, _, _, P37.1 h40, pq_lay3 (n0 := v6.toNat) (n1 := v36.toNat) (by first | decide | omega) (by first | decide | omega) V37 rfl, fun j hj => (by rw [E8] at hj; exact (q37.1 j (by first | decide | omega)).trans ((z22.2 66 j (by unfold pz_Q0; first | decide | omega)).trans (q13.1 j (by first | decide | omega))))⟩⟩, hS⟩
            | exact ⟨⟨Or.inl rfl, Or.inr ⟨rfl, P37.2 (by first | decide | omega)⟩⟩, hS⟩
            | exact ⟨⟨Or.inl rfl, Or.inr ⟨rfl, F25⟩⟩, hS⟩
            | exact ⟨⟨Or.inl rfl, Or.inr ⟨rfl, P13.2 (by first | decide | omega)⟩⟩, hS⟩
theorem v_X12_aRecord {fr lo i : Nat} {own : String} (h1 : 11 + 1 ≤ fr) (h2 : 8 + (1 + 11) + 237 ≤ lo) (h3 : .methodLink own i yX12_aRecord ∈ lw_tbl) : pz_cV fr lo own i k_X12_aRecord :=
  pz_cVk (maxL := 1) (fr' := 11) (lo' := 237) 0 12 h_X12_aRecord rfl ⟨(pz_nhc_RX12 yX12_aRecord rfl).1, (pz_nhc_RX12 yX12_aRecord rfl).2, pz_ds3⟩ ⟨pz_wq1382, pz_wq1381, pz_ws32, pz_wq13⟩ (Or.inl ⟨TX12, 28, rfl⟩) (fun a M _ h => by
    have h : (match (generalizing := false) a with | [.inr (.inr (12, th))] => pz_im M ∧ M 1 15 < 16 ∧ M 1 12 = 3 | _ => False) := h
    split at h
    · exact ⟨_, _, rfl⟩
    · exact h.elim) h1 h2 h3
noncomputable def k_X12_aRow : pz_C := (1, 1, fun a M => (match a with | [.inr (.inr (12, th))] => pz_im M ∧ M 1 15 < 16 ∧ (1 ≤ M 1 12 ∧ M 1 12 ≤ 3) ∧ M 1 18 = pq_bg (M 1 12) | _ => False), fun a M r M' => (match a, r with | [.inr (.inr (12, th))], some (.inl v) => (((v = 0 ∨ v = 1) ∧ (M 1 12 = 2 → (∀ j : Nat, (j : Int) < 3 * M 1 15 → M' 66 j = M 66 j) ∧ (v = 0 ∨ (v = 1 ∧ 0 ≤ M' 66 (3 * M 1 15).toNat ∧ M' 66 (3 * M 1 15).toNat ≤ 11)))) ∧ pq_aw M M' v) ∧ pz_rl pz_Q8 M M' | _, _ => False))
noncomputable abbrev ct_X12_aRow : List (Bool × Nat × pz_C) := [(true, 248, k_X12_aPlan), (true, 251, k_X12_aPhone), (true, 254, k_X12_aRecord), (true, 223, k_X12_need)]
set_option maxRecDepth 100000 in
set_option maxHeartbeats 4000000 in
theorem h_X12_aRow : pz_H yX12_aRow cX12_aRow 1 (some .boolean) k_X12_aRow 12 259 := by
  refine pz_mk (own := RX12) (tb := t_X12_aRow) (fl := pz_flf fl_RX12) (ci := pz_cif ci_RX12) (ct := pz_ctf ct_X12_aRow) (rz := true) (pz_pfc_RX12 yX12_aRow rfl) rfl t_X12_aRow_ok (pz_flk fl_RX12_ok) (pz_cik ci_RX12_ok) ?_ ?_ (Or.inr ⟨rfl, rfl⟩) ?_ ?_
  · exact fun i k' h => pz_ctk (l := ct_X12_aRow) (P := fun b i k => b = true → pz_cV 12 259 RX12 i k) (List.forall_mem_cons.mpr ⟨(fun _ => v_X12_aPlan (by decide) (by decide) pz_wq1359), List.forall_mem_cons.mpr ⟨(fun _ => v_X12_aPhone (by decide) (by decide) pz_wq1375), List.forall_mem_cons.mpr ⟨(fun _ => v_X12_aRecord (by decide) (by decide) pz_wq1379), List.forall_mem_cons.mpr ⟨(fun _ => v_X12_need (by decide) (by decide) pz_wq1347), fun _ h => absurd h List.not_mem_nil⟩⟩⟩⟩) true i k' h rfl
  · exact fun i k' h => pz_ctk (l := ct_X12_aRow) (P := fun b i k => b = false → (pz_cS 12 259 RX12 i k ∨ (k = pz_kac ∧ 1 ≤ 12 ∧ 60 ≤ 259 ∧ Cond.methodLink RX12 i arraycopyName ∈ pz_tbl))) (List.forall_mem_cons.mpr ⟨((fun z => by cases z)), List.forall_mem_cons.mpr ⟨((fun z => by cases z)), List.forall_mem_cons.mpr ⟨((fun z => by cases z)), List.forall_mem_cons.mpr ⟨((fun z => by cases z)), fun _ h => absurd h List.not_mem_nil⟩⟩⟩⟩) false i k' h rfl
  · intro a M hlen hpre
    obtain ⟨th, rfl, hpre⟩ : ∃ th, a = [.inr (.inr (12, th))] ∧ (pz_im M ∧ M 1 15 < 16 ∧ (1 ≤ M 1 12 ∧ M 1 12 ≤ 3) ∧ M 1 18 = pq_bg (M 1 12)) := by
      have hpre : (match (generalizing := false) a with | [.inr (.inr (12, th))] => pz_im M ∧ M 1 15 < 16 ∧ (1 ≤ M 1 12 ∧ M 1 12 ≤ 3) ∧ M 1 18 = pq_bg (M 1 12) | _ => False) := hpre
      split at hpre
      · exact ⟨_, rfl, hpre⟩
      · exact hpre.elim
    exact Nat.le_of_ble_eq_true rfl
  · intro a M hlen hcan hM hpre Ok hgo
    obtain ⟨th, rfl, hpre⟩ : ∃ th, a = [.inr (.inr (12, th))] ∧ (pz_im M ∧ M 1 15 < 16 ∧ (1 ≤ M 1 12 ∧ M 1 12 ≤ 3) ∧ M 1 18 = pq_bg (M 1 12)) := by
      have hpre : (match (generalizing := false) a with | [.inr (.inr (12, th))] => pz_im M ∧ M 1 15 < 16 ∧ (1 ≤ M 1 12 ∧ M 1 12 ≤ 3) ∧ M 1 18 = pq_bg (M 1 12) | _ => False) := hpre
      split at hpre
      · exact ⟨_, rfl, hpre⟩
      · exact hpre.elim
    obtain ⟨k_th, hc_th⟩ := pz_tlm hcan
    have k_th : pz_kd th = 12 ∧ th < 231 := k_th
    have R_th := pz_kd12 k_th.1
    subst R_th
    clear k_th
    have hI : pz_im M := hpre.1
    have hI0 := hI
    have hS : pz_rl pz_Q8 M M := pz_rl.rf
    have I15 := hI.2.1.2.2.2.2.2.2.2.1
    obtain ⟨-, pr1, pr2, pr3⟩ := hpre
    refine hgo (fun _ => false) 29 0 _ [] M ?_
    intro v1 e1 a1 b1
    refine And.intro (fun h5 => ?_) (fun h5 => ?_)
    · skip
      intro v19 e19 a19 b19
      refine And.intro (fun h23 => ?_) (fun h23 => ?_)
      · skip
        refine And.intro (And.intro hI (And.intro (by first | decide | omega) (by first | decide | omega))) ?_
        intro v37 M37 a37 b37 q37
        obtain ⟨q37, z37⟩ := q37
        have hS : pz_rl pz_Q8 M M37 := hS.tr z37
        have hI : pz_im M37 := hS.1 hI0
        obtain ⟨q37, s37⟩ := q37
        refine And.intro (fun h40 => ?_) (fun h40 => ?_)
        · skip
          refine And.intro (by first | decide | omega) ?_
          refine And.intro rfl ?_
          first
            | exact ⟨⟨⟨Or.inr rfl, fun q => absurd q (by first | decide | omega)⟩, pq_aw_y s9 h12 (by first | decide | omega) (pq_hG1 (by first | decide | omega) pr3) (q47.resolve_left h50).2.1 z47 (s47.resolve_right (fun y => h50 y.1)).2⟩, hS⟩
            | (have n9 := (s47.resolve_left (fun y => absurd (y.1.symm.trans h50) (by decide))).2
               exact ⟨⟨⟨Or.inl rfl, fun q => absurd q (by first | decide | omega)⟩, pq_aw_n s9 h12 (pq_hG1 (by first | decide | omega) pr3) n9.1 n9.2.1 n9.2.2⟩, hS⟩)
            | exact ⟨⟨⟨Or.inl rfl, fun q => absurd q (by first | decide | omega)⟩, pq_aw_b s9 h12 (pq_hG1 (by first | decide | omega) pr3)⟩, hS⟩
            | exact ⟨⟨⟨Or.inr rfl, fun _ => ⟨fun j hj => (z47.2 66 j (by unfold pz_Q0; first | decide | omega)).trans (q27.1 j hj), Or.inr ⟨rfl, by rw [z47.2 66 _ (by unfold pz_Q0; first | decide | omega)]; exact (q27.2.resolve_left h30).2⟩⟩⟩, pq_aw_y s27 h30 (by first | decide | omega) (pq_hG2 (by first | decide | omega) pr3) (q47.resolve_left h50).2.1 z47 (s47.resolve_right (fun y => h50 y.1)).2⟩, hS⟩
            | (have n9 := (s47.resolve_left (fun y => absurd (y.1.symm.trans h50) (by decide))).2
               exact ⟨⟨⟨Or.inl rfl, fun _ => ⟨fun j hj => (z47.2 66 j (by unfold pz_Q0; first | decide | omega)).trans (q27.1 j hj), Or.inl rfl⟩⟩, pq_aw_n s27 h30 (pq_hG2 (by first | decide | omega) pr3) n9.1 n9.2.1 n9.2.2⟩, hS⟩)
            | exact ⟨⟨⟨Or.inl rfl, fun _ => ⟨q27.1, Or.inl rfl⟩⟩, pq_aw_b s27 h30 (pq_hG2 (by first | decide | omega) pr3)⟩, hS⟩
            | exact ⟨⟨⟨Or.inr rfl, fun q => absurd q (by first | decide | omega)⟩, pq_aw_y s37 h40 (by first | decide | omega) (pq_hG3 (by first | decide | omega) pr3) (q47.resolve_left h50).2.1 z47 (s47.resolve_right (fun y => h50 y.1)).2⟩, hS⟩
            | (have n9 := (s47.resolve_left (fun y => absurd (y.1.symm.trans h50) (by decide))).2
               exact ⟨⟨⟨Or.inl rfl, fun q => absurd q (by first | decide | omega)⟩, pq_aw_n s37 h40 (pq_hG3 (by first | decide | omega) pr3) n9.1 n9.2.1 n9.2.2⟩, hS⟩)
            | exact ⟨⟨⟨Or.inl rfl, fun q => absurd q (by first | decide | omega)⟩, pq_aw_b s37 h40 (pq_hG3 (by first | decide | omega) pr3)⟩, hS⟩
        · skip
          refine And.intro (hI) ?_
          intro v47 M47 a47 b47 q47
          obtain ⟨q47, z47⟩ := q47
          have hS : pz_rl pz_Q8 M M47 := hS.tr (pz_rl.wk pz_wk_Q0_Q8 z47)
          have hI : pz_im M47 := hS.1 hI0
          obtain ⟨q47, s47⟩ := q47
          have f47 := pz_q0f z47
          obtain ⟨f47a, f47b, f47c⟩ := f47
          refine And.intro (fun h50 => ?_) (fun h50 => ?_)
          · skip
            refine And.intro (by first | decide | omega) ?_
            refine And.intro rfl ?_
            first
              | exact ⟨⟨⟨Or.inr rfl, fun q => absurd q (by first | decide | omega)⟩, pq_aw_y s9 h12 (by first | decide | omega) (pq_hG1 (by first | decide | omega) pr3) (q47.resolve_left h50).2.1 z47 (s47.resolve_right (fun y => h50 y.1)).2⟩, hS⟩
              | (have n9 := (s47.resolve_left (fun y => absurd (y.1.symm.trans h50) (by decide))).2
                 exact ⟨⟨⟨Or.inl rfl, fun q => absurd q (by first | decide | omega)⟩, pq_aw_n s9 h12 (pq_hG1 (by first | decide | omega) pr3) n9.1 n9.2.1 n9.2.2⟩, hS⟩)
              | exact ⟨⟨⟨Or.inl rfl, fun q => absurd q (by first | decide | omega)⟩, pq_aw_b s9 h12 (pq_hG1 (by first | decide | omega) pr3)⟩, hS⟩
              | exact ⟨⟨⟨Or.inr rfl, fun _ => ⟨fun j hj => (z47.2 66 j (by unfold pz_Q0; first | decide | omega)).trans (q27.1 j hj), Or.inr ⟨rfl, by rw [z47.2 66 _ (by unfold pz_Q0; first | decide | omega)]; exact (q27.2.resolve_left h30).2⟩⟩⟩, pq_aw_y s27 h30 (by first | decide | omega) (pq_hG2 (by first | decide | omega) pr3) (q47.resolve_left h50).2.1 z47 (s47.resolve_right (fun y => h50 y.1)).2⟩, hS⟩
              | (have n9 := (s47.resolve_left (fun y => absurd (y.1.symm.trans h50) (by decide))).2
                 exact ⟨⟨⟨Or.inl rfl, fun _ => ⟨fun j hj => (z47.2 66 j (by unfold pz_Q0; first | decide | omega)).trans (q27.1 j hj), Or.inl rfl⟩⟩, pq_aw_n s27 h30 (pq_hG2 (by first | decide | omega) pr3) n9.1 n9.2.1 n9.2.2⟩, hS⟩)
              | exact ⟨⟨⟨Or.inl rfl, fun _ => ⟨q27.1, Or.inl rfl⟩⟩, pq_aw_b s27 h30 (pq_hG2 (by first | decide | omega) pr3)⟩, hS⟩
              | exact ⟨⟨⟨Or.inr rfl, fun q => absurd q (by first | decide | omega)⟩, pq_aw_y s37 h40 (by first | decide | omega) (pq_hG3 (by first | decide | omega) pr3) (q47.resolve_left h50).2.1 z47 (s47.resolve_right (fun y => h50 y.1)).2⟩, hS⟩
              | (have n9 := (s47.resolve_left (fun y => absurd (y.1.symm.trans h50) (by decide))).2
                 exact ⟨⟨⟨Or.inl rfl, fun q => absurd q (by first | decide | omega)⟩, pq_aw_n s37 h40 (pq_hG3 (by first | decide | omega) pr3) n9.1 n9.2.1 n9.2.2⟩, hS⟩)
              | exact ⟨⟨⟨Or.inl rfl, fun q => absurd q (by first | decide | omega)⟩, pq_aw_b s37 h40 (pq_hG3 (by first | decide | omega) pr3)⟩, hS⟩
          · skip
            refine And.intro (by first | decide | omega) ?_
            refine And.intro rfl ?_
            first
              | exact ⟨⟨⟨Or.inr rfl, fun q => absurd q (by first | decide | omega)⟩, pq_aw_y s9 h12 (by first | decide | omega) (pq_hG1 (by first | decide | omega) pr3) (q47.resolve_left h50).2.1 z47 (s47.resolve_right (fun y => h50 y.1)).2⟩, hS⟩
              | (have n9 := (s47.resolve_left (fun y => absurd (y.1.symm.trans h50) (by decide))).2
                 exact ⟨⟨⟨Or.inl rfl, fun q => absurd q (by first | decide | omega)⟩, pq_aw_n s9 h12 (pq_hG1 (by first | decide | omega) pr3) n9.1 n9.2.1 n9.2.2⟩, hS⟩)
              | exact ⟨⟨⟨Or.inl rfl, fun q => absurd q (by first | decide | omega)⟩, pq_aw_b s9 h12 (pq_hG1 (by first | decide | omega) pr3)⟩, hS⟩
              | exact ⟨⟨⟨Or.inr rfl, fun _ => ⟨fun j hj => (z47.2 66 j (by unfold pz_Q0; first | decide | omega)).trans (q27.1 j hj), Or.inr ⟨rfl, by rw [z47.2 66 _ (by unfold pz_Q0; first | decide | omega)]; exact (q27.2.resolve_left h30).2⟩⟩⟩, pq_aw_y s27 h30 (by first | decide | omega) (pq_hG2 (by first | decide | omega) pr3) (q47.resolve_left h50).2.1 z47 (s47.resolve_right (fun y => h50 y.1)).2⟩, hS⟩
              | (have n9 := (s47.resolve_left (fun y => absurd (y.1.symm.trans h50) (by decide))).2
                 exact ⟨⟨⟨Or.inl rfl, fun _ => ⟨fun j hj => (z47.2 66 j (by unfold pz_Q0; first | decide | omega)).trans (q27.1 j hj), Or.inl rfl⟩⟩, pq_aw_n s27 h30 (pq_hG2 (by first | decide | omega) pr3) n9.1 n9.2.1 n9.2.2⟩, hS⟩)
              | exact ⟨⟨⟨Or.inl rfl, fun _ => ⟨q27.1, Or.inl rfl⟩⟩, pq_aw_b s27 h30 (pq_hG2 (by first | decide | omega) pr3)⟩, hS⟩
              | exact ⟨⟨⟨Or.inr rfl, fun q => absurd q (by first | decide | omega)⟩, pq_aw_y s37 h40 (by first | decide | omega) (pq_hG3 (by first | decide | omega) pr3) (q47.resolve_left h50).2.1 z47 (s47.resolve_right (fun y => h50 y.1)).2⟩, hS⟩
              | (have n9 := (s47.resolve_left (fun y => absurd (y.1.symm.trans h50) (by decide))).2
                 exact ⟨⟨⟨Or.inl rfl, fun q => absurd q (by first | decide | omega)⟩, pq_aw_n s37 h40 (pq_hG3 (by first | decide | omega) pr3) n9.1 n9.2.1 n9.2.2⟩, hS⟩)
              | exact ⟨⟨⟨Or.inl rfl, fun q => absurd q (by first | decide | omega)⟩, pq_aw_b s37 h40 (pq_hG3 (by first | decide | omega) pr3)⟩, hS⟩
      · skip
        refine And.intro (And.intro hI (And.intro (by first | decide | omega) (by first | decide | omega))) ?_
        intro v27 M27 a27 b27 q27
        obtain ⟨q27, z27⟩ := q27
        have hS : pz_rl pz_Q8 M M27 := hS.tr z27
        have hI : pz_im M27 := hS.1 hI0
        obtain ⟨q27, s27⟩ := q27
        refine And.intro (fun h30 => ?_) (fun h30 => ?_)
        · skip
          refine And.intro (by first | decide | omega) ?_
          refine And.intro rfl ?_
          first
            | exact ⟨⟨⟨Or.inr rfl, fun q => absurd q (by first | decide | omega)⟩, pq_aw_y s9 h12 (by first | decide | omega) (pq_hG1 (by first | decide | omega) pr3) (q47.resolve_left h50).2.1 z47 (s47.resolve_right (fun y => h50 y.1)).2⟩, hS⟩
            | (have n9 := (s47.resolve_left (fun y => absurd (y.1.symm.trans h50) (by decide))).2
               exact ⟨⟨⟨Or.inl rfl, fun q => absurd q (by first | decide | omega)⟩, pq_aw_n s9 h12 (pq_hG1 (by first | decide | omega) pr3) n9.1 n9.2.1 n9.2.2⟩, hS⟩)
            | exact ⟨⟨⟨Or.inl rfl, fun q => absurd q (by first | decide | omega)⟩, pq_aw_b s9 h12 (pq_hG1 (by first | decide | omega) pr3)⟩, hS⟩
            | exact ⟨⟨⟨Or.inr rfl, fun _ => ⟨fun j hj => (z47.2 66 j (by unfold pz_Q0; first | decide | omega)).trans (q27.1 j hj), Or.inr ⟨rfl, by rw [z47.2 66 _ (by unfold pz_Q0; first | decide | omega)]; exact (q27.2.resolve_left h30).2⟩⟩⟩, pq_aw_y s27 h30 (by first | decide | omega) (pq_hG2 (by first | decide | omega) pr3) (q47.resolve_left h50).2.1 z47 (s47.resolve_right (fun y => h50 y.1)).2⟩, hS⟩
            | (have n9 := (s47.resolve_left (fun y => absurd (y.1.symm.trans h50) (by decide))).2
               exact ⟨⟨⟨Or.inl rfl, fun _ => ⟨fun j hj => (z47.2 66 j (by unfold pz_Q0; first | decide | omega)).trans (q27.1 j hj), Or.inl rfl⟩⟩, pq_aw_n s27 h30 (pq_hG2 (by first | decide | omega) pr3) n9.1 n9.2.1 n9.2.2⟩, hS⟩)
            | exact ⟨⟨⟨Or.inl rfl, fun _ => ⟨q27.1, Or.inl rfl⟩⟩, pq_aw_b s27 h30 (pq_hG2 (by first | decide | omega) pr3)⟩, hS⟩
            | exact ⟨⟨⟨Or.inr rfl, fun q => absurd q (by first | decide | omega)⟩, pq_aw_y s37 h40 (by first | decide | omega) (pq_hG3 (by first | decide | omega) pr3) (q47.resolve_left h50).2.1 z47 (s47.resolve_right (fun y => h50 y.1)).2⟩, hS⟩
            | (have n9 := (s47.resolve_left (fun y => absurd (y.1.symm.trans h50) (by decide))).2
               exact ⟨⟨⟨Or.inl rfl, fun q => absurd q (by first | decide | omega)⟩, pq_aw_n s37 h40 (pq_hG3 (by first | decide | omega) pr3) n9.1 n9.2.1 n9.2.2⟩, hS⟩)
            | exact ⟨⟨⟨Or.inl rfl, fun q => absurd q (by first | decide | omega)⟩, pq_aw_b s37 h40 (pq_hG3 (by first | decide | omega) pr3)⟩, hS⟩
        · skip
          refine And.intro (hI) ?_
          intro v47 M47 a47 b47 q47
          obtain ⟨q47, z47⟩ := q47
          have hS : pz_rl pz_Q8 M M47 := hS.tr (pz_rl.wk pz_wk_Q0_Q8 z47)
          have hI : pz_im M47 := hS.1 hI0
          obtain ⟨q47, s47⟩ := q47
          have f47 := pz_q0f z47
          obtain ⟨f47a, f47b, f47c⟩ := f47
          refine And.intro (fun h50 => ?_) (fun h50 => ?_)
          · skip
            refine And.intro (by first | decide | omega) ?_
            refine And.intro rfl ?_
            first
              | exact ⟨⟨⟨Or.inr rfl, fun q => absurd q (by first | decide | omega)⟩, pq_aw_y s9 h12 (by first | decide | omega) (pq_hG1 (by first | decide | omega) pr3) (q47.resolve_left h50).2.1 z47 (s47.resolve_right (fun y => h50 y.1)).2⟩, hS⟩
              | (have n9 := (s47.resolve_left (fun y => absurd (y.1.symm.trans h50) (by decide))).2
                 exact ⟨⟨⟨Or.inl rfl, fun q => absurd q (by first | decide | omega)⟩, pq_aw_n s9 h12 (pq_hG1 (by first | decide | omega) pr3) n9.1 n9.2.1 n9.2.2⟩, hS⟩)
              | exact ⟨⟨⟨Or.inl rfl, fun q => absurd q (by first | decide | omega)⟩, pq_aw_b s9 h12 (pq_hG1 (by first | decide | omega) pr3)⟩, hS⟩
              | exact ⟨⟨⟨Or.inr rfl, fun _ => ⟨fun j hj => (z47.2 66 j (by unfold pz_Q0; first | decide | omega)).trans (q27.1 j hj), Or.inr ⟨rfl, by rw [z47.2 66 _ (by unfold pz_Q0; first | decide | omega)]; exact (q27.2.resolve_left h30).2⟩⟩⟩, pq_aw_y s27 h30 (by first | decide | omega) (pq_hG2 (by first | decide | omega) pr3) (q47.resolve_left h50).2.1 z47 (s47.resolve_right (fun y => h50 y.1)).2⟩, hS⟩
              | (have n9 := (s47.resolve_left (fun y => absurd (y.1.symm.trans h50) (by decide))).2
                 exact ⟨⟨⟨Or.inl rfl, fun _ => ⟨fun j hj => (z47.2 66 j (by unfold pz_Q0; first | decide | omega)).trans (q27.1 j hj), Or.inl rfl⟩⟩, pq_aw_n s27 h30 (pq_hG2 (by first | decide | omega) pr3) n9.1 n9.2.1 n9.2.2⟩, hS⟩)
              | exact ⟨⟨⟨Or.inl rfl, fun _ => ⟨q27.1, Or.inl rfl⟩⟩, pq_aw_b s27 h30 (pq_hG2 (by first | decide | omega) pr3)⟩, hS⟩
              | exact ⟨⟨⟨Or.inr rfl, fun q => absurd q (by first | decide | omega)⟩, pq_aw_y s37 h40 (by first | decide | omega) (pq_hG3 (by first | decide | omega) pr3) (q47.resolve_left h50).2.1 z47 (s47.resolve_right (fun y => h50 y.1)).2⟩, hS⟩
              | (have n9 := (s47.resolve_left (fun y => absurd (y.1.symm.trans h50) (by decide))).2
                 exact ⟨⟨⟨Or.inl rfl, fun q => absurd q (by first | decide | omega)⟩, pq_aw_n s37 h40 (pq_hG3 (by first | decide | omega) pr3) n9.1 n9.2.1 n9.2.2⟩, hS⟩)
              | exact ⟨⟨⟨Or.inl rfl, fun q => absurd q (by first | decide | omega)⟩, pq_aw_b s37 h40 (pq_hG3 (by first | decide | omega) pr3)⟩, hS⟩
          · skip
            refine And.intro (by first | decide | omega) ?_
            refine And.intro rfl ?_
            first
              | exact ⟨⟨⟨Or.inr rfl, fun q => absurd q (by first | decide | omega)⟩, pq_aw_y s9 h12 (by first | decide | omega) (pq_hG1 (by first | decide | omega) pr3) (q47.resolve_left h50).2.1 z47 (s47.resolve_right (fun y => h50 y.1)).2⟩, hS⟩
              | (have n9 := (s47.resolve_left (fun y => absurd (y.1.symm.trans h50) (by decide))).2
                 exact ⟨⟨⟨Or.inl rfl, fun q => absurd q (by first | decide | omega)⟩, pq_aw_n s9 h12 (pq_hG1 (by first | decide | omega) pr3) n9.1 n9.2.1 n9.2.2⟩, hS⟩)
              | exact ⟨⟨⟨Or.inl rfl, fun q => absurd q (by first | decide | omega)⟩, pq_aw_b s9 h12 (pq_hG1 (by first | decide | omega) pr3)⟩, hS⟩
              | exact ⟨⟨⟨Or.inr rfl, fun _ => ⟨fun j hj => (z47.2 66 j (by unfold pz_Q0; first | decide | omega)).trans (q27.1 j hj), Or.inr ⟨rfl, by rw [z47.2 66 _ (by unfold pz_Q0; first | decide | omega)]; exact (q27.2.resolve_left h30).2⟩⟩⟩, pq_aw_y s27 h30 (by first | decide | omega) (pq_hG2 (by first | decide | omega) pr3) (q47.resolve_left h50).2.1 z47 (s47.resolve_right (fun y => h50 y.1)).2⟩, hS⟩
              | (have n9 := (s47.resolve_left (fun y => absurd (y.1.symm.trans h50) (by decide))).2
                 exact ⟨⟨⟨Or.inl rfl, fun _ => ⟨fun j hj => (z47.2 66 j (by unfold pz_Q0; first | decide | omega)).trans (q27.1 j hj), Or.inl rfl⟩⟩, pq_aw_n s27 h30 (pq_hG2 (by first | decide | omega) pr3) n9.1 n9.2.1 n9.2.2⟩, hS⟩)
              | exact ⟨⟨⟨Or.inl rfl, fun _ => ⟨q27.1, Or.inl rfl⟩⟩, pq_aw_b s27 h30 (pq_hG2 (by first | decide | omega) pr3)⟩, hS⟩
              | exact ⟨⟨⟨Or.inr rfl, fun q => absurd q (by first | decide | omega)⟩, pq_aw_y s37 h40 (by first | decide | omega) (pq_hG3 (by first | decide | omega) pr3) (q47.resolve_left h50).2.1 z47 (s47.resolve_right (fun y => h50 y.1)).2⟩, hS⟩
              | (have n9 := (s47.resolve_left (fun y => absurd (y.1.symm.trans h50) (by decide))).2
                 exact ⟨⟨⟨Or.inl rfl, fun q => absurd q (by first | decide | omega)⟩, pq_aw_n s37 h40 (pq_hG3 (by first | decide | omega) pr3) n9.1 n9.2.1 n9.2.2⟩, hS⟩)
              | exact ⟨⟨⟨Or.inl rfl, fun q => absurd q (by first | decide | omega)⟩, pq_aw_b s37 h40 (pq_hG3 (by first | decide | omega) pr3)⟩, hS⟩
    · skip
      refine And.intro (And.intro hI (And.intro (by first | decide | omega) (by first | decide | omega))) ?_
      intro v9 M9 a9 b9 q9
      obtain ⟨q9, z9⟩ := q9
      have hS : pz_rl pz_Q8 M M9 := hS.tr z9
      have hI : pz_im M9 := hS.1 hI0
      obtain ⟨q9, s9⟩ := q9
      refine And.intro (fun h12 => ?_) (fun h12 => ?_)
      · skip
        refine And.intro (by first | decide | omega) ?_
        refine And.intro rfl ?_
        first
          | exact ⟨⟨⟨Or.inr rfl, fun q => absurd q (by first | decide | omega)⟩, pq_aw_y s9 h12 (by first | decide | omega) (pq_hG1 (by first | decide | omega) pr3) (q47.resolve_left h50).2.1 z47 (s47.resolve_right (fun y => h50 y.1)).2⟩, hS⟩
          | (have n9 := (s47.resolve_left (fun y => absurd (y.1.symm.trans h50) (by decide))).2
             exact ⟨⟨⟨Or.inl rfl, fun q => absurd q (by first | decide | omega)⟩, pq_aw_n s9 h12 (pq_hG1 (by first | decide | omega) pr3) n9.1 n9.2.1 n9.2.2⟩, hS⟩)
          | exact ⟨⟨⟨Or.inl rfl, fun q => absurd q (by first | decide | omega)⟩, pq_aw_b s9 h12 (pq_hG1 (by first | decide | omega) pr3)⟩, hS⟩
          | exact ⟨⟨⟨Or.inr rfl, fun _ => ⟨fun j hj => (z47.2 66 j (by unfold pz_Q0; first | decide | omega)).trans (q27.1 j hj), Or.inr ⟨rfl, by rw [z47.2 66 _ (by unfold pz_Q0; first | decide | omega)]; exact (q27.2.resolve_left h30).2⟩⟩⟩, pq_aw_y s27 h30 (by first | decide | omega) (pq_hG2 (by first | decide | omega) pr3) (q47.resolve_left h50).2.1 z47 (s47.resolve_right (fun y => h50 y.1)).2⟩, hS⟩
          | (have n9 := (s47.resolve_left (fun y => absurd (y.1.symm.trans h50) (by decide))).2
             exact ⟨⟨⟨Or.inl rfl, fun _ => ⟨fun j hj => (z47.2 66 j (by unfold pz_Q0; first | decide | omega)).trans (q27.1 j hj), Or.inl rfl⟩⟩, pq_aw_n s27 h30 (pq_hG2 (by first | decide | omega) pr3) n9.1 n9.2.1 n9.2.2⟩, hS⟩)
          | exact ⟨⟨⟨Or.inl rfl, fun _ => ⟨q27.1, Or.inl rfl⟩⟩, pq_aw_b s27 h30 (pq_hG2 (by first | decide | omega) pr3)⟩, hS⟩
          | exact ⟨⟨⟨Or.inr rfl, fun q => absurd q (by first | decide | omega)⟩, pq_aw_y s37 h40 (by first | decide | omega) (pq_hG3 (by first | decide | omega) pr3) (q47.resolve_left h50).2.1 z47 (s47.resolve_right (fun y => h50 y.1)).2⟩, hS⟩
          | (have n9 := (s47.resolve_left (fun y => absurd (y.1.symm.trans h50) (by decide))).2
             exact ⟨⟨⟨Or.inl rfl, fun q => absurd q (by first | decide | omega)⟩, pq_aw_n s37 h40 (pq_hG3 (by first | decide | omega) pr3) n9.1 n9.2.1 n9.2.2⟩, hS⟩)
          | exact ⟨⟨⟨Or.inl rfl, fun q => absurd q (by first | decide | omega)⟩, pq_aw_b s37 h40 (pq_hG3 (by first | decide | omega) pr3)⟩, hS⟩
      · skip
        refine And.intro (hI) ?_
        intro v47 M47 a47 b47 q47
        obtain ⟨q47, z47⟩ := q47
        have hS : pz_rl pz_Q8 M M47 := hS.tr (pz_rl.wk pz_wk_Q0_Q8 z47)
        have hI : pz_im M47 := hS.1 hI0
        obtain ⟨q47, s47⟩ := q47
        have f47 := pz_q0f z47
        obtain ⟨f47a, f47b, f47c⟩ := f47
        refine And.intro (fun h50 => ?_) (fun h50 => ?_)
        · skip
          refine And.intro (by first | decide | omega) ?_
          refine And.intro rfl ?_
          first
            | exact ⟨⟨⟨Or.inr rfl, fun q => absurd q (by first | decide | omega)⟩, pq_aw_y s9 h12 (by first | decide | omega) (pq_hG1 (by first | decide | omega) pr3) (q47.resolve_left h50).2.1 z47 (s47.resolve_right (fun y => h50 y.1)).2⟩, hS⟩
            | (have n9 := (s47.resolve_left (fun y => absurd (y.1.symm.trans h50) (by decide))).2
               exact ⟨⟨⟨Or.inl rfl, fun q => absurd q (by first | decide | omega)⟩, pq_aw_n s9 h12 (pq_hG1 (by first | decide | omega) pr3) n9.1 n9.2.1 n9.2.2⟩, hS⟩)
            | exact ⟨⟨⟨Or.inl rfl, fun q => absurd q (by first | decide | omega)⟩, pq_aw_b s9 h12 (pq_hG1 (by first | decide | omega) pr3)⟩, hS⟩
            | exact ⟨⟨⟨Or.inr rfl, fun _ => ⟨fun j hj => (z47.2 66 j (by unfold pz_Q0; first | decide | omega)).trans (q27.1 j hj), Or.inr ⟨rfl, by rw [z47.2 66 _ (by unfold pz_Q0; first | decide | omega)]; exact (q27.2.resolve_left h30).2⟩⟩⟩, pq_aw_y s27 h30 (by first | decide | omega) (pq_hG2 (by first | decide | omega) pr3) (q47.resolve_left h50).2.1 z47 (s47.resolve_right (fun y => h50 y.1)).2⟩, hS⟩
            | (have n9 := (s47.resolve_left (fun y => absurd (y.1.symm.trans h50) (by decide))).2
               exact ⟨⟨⟨Or.inl rfl, fun _ => ⟨fun j hj => (z47.2 66 j (by unfold pz_Q0; first | decide | omega)).trans (q27.1 j hj), Or.inl rfl⟩⟩, pq_aw_n s27 h30 (pq_hG2 (by first | decide | omega) pr3) n9.1 n9.2.1 n9.2.2⟩, hS⟩)
            | exact ⟨⟨⟨Or.inl rfl, fun _ => ⟨q27.1, Or.inl rfl⟩⟩, pq_aw_b s27 h30 (pq_hG2 (by first | decide | omega) pr3)⟩, hS⟩
            | exact ⟨⟨⟨Or.inr rfl, fun q => absurd q (by first | decide | omega)⟩, pq_aw_y s37 h40 (by first | decide | omega) (pq_hG3 (by first | decide | omega) pr3) (q47.resolve_left h50).2.1 z47 (s47.resolve_right (fun y => h50 y.1)).2⟩, hS⟩
            | (have n9 := (s47.resolve_left (fun y => absurd (y.1.symm.trans h50) (by decide))).2
               exact ⟨⟨⟨Or.inl rfl, fun q => absurd q (by first | decide | omega)⟩, pq_aw_n s37 h40 (pq_hG3 (by first | decide | omega) pr3) n9.1 n9.2.1 n9.2.2⟩, hS⟩)
            | exact ⟨⟨⟨Or.inl rfl, fun q => absurd q (by first | decide | omega)⟩, pq_aw_b s37 h40 (pq_hG3 (by first | decide | omega) pr3)⟩, hS⟩
        · skip
          refine And.intro (by first | decide | omega) ?_
          refine And.intro rfl ?_
          first
            | exact ⟨⟨⟨Or.inr rfl, fun q => absurd q (by first | decide | omega)⟩, pq_aw_y s9 h12 (by first | decide | omega) (pq_hG1 (by first | decide | omega) pr3) (q47.resolve_left h50).2.1 z47 (s47.resolve_right (fun y => h50 y.1)).2⟩, hS⟩
            | (have n9 := (s47.resolve_left (fun y => absurd (y.1.symm.trans h50) (by decide))).2
               exact ⟨⟨⟨Or.inl rfl, fun q => absurd q (by first | decide | omega)⟩, pq_aw_n s9 h12 (pq_hG1 (by first | decide | omega) pr3) n9.1 n9.2.1 n9.2.2⟩, hS⟩)
            | exact ⟨⟨⟨Or.inl rfl, fun q => absurd q (by first | decide | omega)⟩, pq_aw_b s9 h12 (pq_hG1 (by first | decide | omega) pr3)⟩, hS⟩
            | exact ⟨⟨⟨Or.inr rfl, fun _ => ⟨fun j hj => (z47.2 66 j (by unfold pz_Q0; first | decide | omega)).trans (q27.1 j hj), Or.inr ⟨rfl, by rw [z47.2 66 _ (by unfold pz_Q0; first | decide | omega)]; exact (q27.2.resolve_left h30).2⟩⟩⟩, pq_aw_y s27 h30 (by first | decide | omega) (pq_hG2 (by first | decide | omega) pr3) (q47.resolve_left h50).2.1 z47 (s47.resolve_right (fun y => h50 y.1)).2⟩, hS⟩
            | (have n9 := (s47.resolve_left (fun y => absurd (y.1.symm.trans h50) (by decide))).2
               exact ⟨⟨⟨Or.inl rfl, fun _ => ⟨fun j hj => (z47.2 66 j (by unfold pz_Q0; first | decide | omega)).trans (q27.1 j hj), Or.inl rfl⟩⟩, pq_aw_n s27 h30 (pq_hG2 (by first | decide | omega) pr3) n9.1 n9.2.1 n9.2.2⟩, hS⟩)
            | exact ⟨⟨⟨Or.inl rfl, fun _ => ⟨q27.1, Or.inl rfl⟩⟩, pq_aw_b s27 h30 (pq_hG2 (by first | decide | omega) pr3)⟩, hS⟩
            | exact ⟨⟨⟨Or.inr rfl, fun q => absurd q (by first | decide | omega)⟩, pq_aw_y s37 h40 (by first | decide | omega) (pq_hG3 (by first | decide | omega) pr3) (q47.resolve_left h50).2.1 z47 (s47.resolve_right (fun y => h50 y.1)).2⟩, hS⟩
            | (have n9 := (s47.resolve_left (fun y => absurd (y.1.symm.trans h50) (by decide))).2
               exact ⟨⟨⟨Or.inl rfl, fun q => absurd q (by first | decide | omega)⟩, pq_aw_n s37 h40 (pq_hG3 (by first | decide | omega) pr3) n9.1 n9.2.1 n9.2.2⟩, hS⟩)
            | exact ⟨⟨⟨Or.inl rfl, fun q => absurd q (by first | decide | omega)⟩, pq_aw_b s37 h40 (pq_hG3 (by first | decide | omega) pr3)⟩, hS⟩
theorem v_X12_aRow {fr lo i : Nat} {own : String} (h1 : 12 + 1 ≤ fr) (h2 : 8 + (1 + 11) + 259 ≤ lo) (h3 : .methodLink own i yX12_aRow ∈ lw_tbl) : pz_cV fr lo own i k_X12_aRow :=
  pz_cVk (maxL := 1) (fr' := 12) (lo' := 259) 0 12 h_X12_aRow rfl ⟨(pz_nhc_RX12 yX12_aRow rfl).1, (pz_nhc_RX12 yX12_aRow rfl).2, pz_ds3⟩ ⟨pz_wq1358, pz_wq1357, pz_ws26, pz_wq13⟩ (Or.inl ⟨TX12, 28, rfl⟩) (fun a M _ h => by
    have h : (match (generalizing := false) a with | [.inr (.inr (12, th))] => pz_im M ∧ M 1 15 < 16 ∧ (1 ≤ M 1 12 ∧ M 1 12 ≤ 3) ∧ M 1 18 = pq_bg (M 1 12) | _ => False) := h
    split at h
    · exact ⟨_, _, rfl⟩
    · exact h.elim) h1 h2 h3
noncomputable def k_X12_readsRows : pz_C := (1, 1, fun a M => (match a with | [.inr (.inr (12, th))] => pz_im M ∧ 1 ≤ M 1 12 ∧ M 1 12 ≤ 3 | _ => False), fun a M r M' => (match a, r with | [.inr (.inr (12, th))], some (.inl v) => ((v = 0 ∨ (v = 1 ∧ (M 1 12 = 2 → ∀ r : Int, 0 ≤ r → r < M' 1 15 → 0 ≤ M' 66 (3 * r).toNat ∧ M' 66 (3 * r).toNat ≤ 11))) ∧ ((v = 1 ∧ pq_QE M M') ∨ (v = 0 ∧ pq_QB M M'))) ∧ pz_rl pz_Q2 M M' | _, _ => False))
noncomputable abbrev ct_X12_readsRows : List (Bool × Nat × pz_C) := [(true, 188, k_X12_bad), (true, 257, k_X12_aRow)]
theorem pz_wk_Q8_Q2 : ∀ b j, pz_Q8 b j → pz_Q2 b j := by
  intro b j q
  unfold pz_Q8 at q
  unfold pz_Q2
  omega
theorem pz_wk_Q0_Q2 : ∀ b j, pz_Q0 b j → pz_Q2 b j := by
  intro b j q
  unfold pz_Q0 at q
  unfold pz_Q2
  omega
set_option maxRecDepth 100000 in
set_option maxHeartbeats 4000000 in
theorem h_X12_readsRows : pz_H yX12_readsRows cX12_readsRows 3 (some .boolean) k_X12_readsRows 13 279 := by
  refine pz_mk (own := RX12) (tb := t_X12_readsRows) (fl := pz_flf fl_RX12) (ci := pz_cif ci_RX12) (ct := pz_ctf ct_X12_readsRows) (rz := true) (pz_pfc_RX12 yX12_readsRows rfl) rfl t_X12_readsRows_ok (pz_flk fl_RX12_ok) (pz_cik ci_RX12_ok) ?_ ?_ (Or.inr ⟨rfl, rfl⟩) ?_ ?_
  · exact fun i k' h => pz_ctk (l := ct_X12_readsRows) (P := fun b i k => b = true → pz_cV 13 279 RX12 i k) (List.forall_mem_cons.mpr ⟨(fun _ => v_X12_bad (by decide) (by decide) pz_wq1311), List.forall_mem_cons.mpr ⟨(fun _ => v_X12_aRow (by decide) (by decide) pz_wq1355), fun _ h => absurd h List.not_mem_nil⟩⟩) true i k' h rfl
  · exact fun i k' h => pz_ctk (l := ct_X12_readsRows) (P := fun b i k => b = false → (pz_cS 13 279 RX12 i k ∨ (k = pz_kac ∧ 1 ≤ 13 ∧ 60 ≤ 279 ∧ Cond.methodLink RX12 i arraycopyName ∈ pz_tbl))) (List.forall_mem_cons.mpr ⟨((fun z => by cases z)), List.forall_mem_cons.mpr ⟨((fun z => by cases z)), fun _ h => absurd h List.not_mem_nil⟩⟩) false i k' h rfl
  · intro a M hlen hpre
    obtain ⟨th, rfl, hpre⟩ : ∃ th, a = [.inr (.inr (12, th))] ∧ (pz_im M ∧ 1 ≤ M 1 12 ∧ M 1 12 ≤ 3) := by
      have hpre : (match (generalizing := false) a with | [.inr (.inr (12, th))] => pz_im M ∧ 1 ≤ M 1 12 ∧ M 1 12 ≤ 3 | _ => False) := hpre
      split at hpre
      · exact ⟨_, rfl, hpre⟩
      · exact hpre.elim
    exact Nat.le_of_ble_eq_true rfl
  · intro a M hlen hcan hM hpre Ok hgo
    obtain ⟨th, rfl, hpre⟩ : ∃ th, a = [.inr (.inr (12, th))] ∧ (pz_im M ∧ 1 ≤ M 1 12 ∧ M 1 12 ≤ 3) := by
      have hpre : (match (generalizing := false) a with | [.inr (.inr (12, th))] => pz_im M ∧ 1 ≤ M 1 12 ∧ M 1 12 ≤ 3 | _ => False) := hpre
      split at hpre
      · exact ⟨_, rfl, hpre⟩
      · exact hpre.elim
    obtain ⟨k_th, hc_th⟩ := pz_tlm hcan
    have k_th : pz_kd th = 12 ∧ th < 231 := k_th
    have R_th := pz_kd12 k_th.1
    subst R_th
    clear k_th
    have hI : pz_im M := hpre.1
    have hI0 := hI
    have hS : pz_rl pz_Q2 M M := pz_rl.rf
    obtain ⟨-, pr1, pr2⟩ := hpre
    have L36 : ∀ (fu : Nat) (x1 : Int) (x2 : Int) (N36 : pz_M), (17 - N36 1 15 + x2).toNat < fu → (pz_rl pz_Q2 M N36) → (x2 = 0 ∨ x2 = 1) → (x1 = pq_bg (M 1 12)) → (x2 = 1 → M 1 12 = 2 → ∀ r : Int, 0 ≤ r → r < N36 1 15 → 0 ≤ N36 66 (3 * r).toNat ∧ N36 66 (3 * r).toNat ≤ 11) → (x2 = 1 → pq_QN M N36) → (x2 = 0 → pq_QB M N36) → Ok 36 [some (.inr (.inr (12, 1))), some (.inl x1), some (.inl x2)] [] N36 := by
      intro fu
      induction fu with
      | zero => exact fun _ _ _ hn => absurd hn (Nat.not_lt_zero _)
      | succ fu ih36 =>
        intro x1 x2 N36 hn36 hS g36_1 g36_2 g36_3 g36_4 g36_5
        have hI : pz_im N36 := hS.1 hI0
        have I15 := hI.2.1.2.2.2.2.2.2.2.1
        have F12 : N36 1 12 = M 1 12 := hS.2 1 12 (by unfold pz_Q2; first | decide | omega)
        refine hgo (fun p => Nat.beq p 36) 58 36 _ _ _ ?_
        refine And.intro (fun h37 => ?_) (fun h37 => ?_)
        · skip
          refine And.intro (by first | decide | omega) ?_
          refine And.intro rfl ?_
          refine ⟨?_, hS⟩
          first
            | exact ⟨Or.inl (by first | decide | omega), Or.inr ⟨by omega, g36_5 (by first | decide | omega)⟩⟩
            | (have h : x2 = 1 := by omega
               exact ⟨Or.inr ⟨h, g36_3 h⟩, Or.inl ⟨h, pq_QN_z (g36_4 h) (by first | decide | omega)⟩⟩)
        · skip
          intro v41 e41 a41 b41
          refine And.intro (fun h44 => ?_) (fun h44 => ?_)
          · skip
            refine And.intro (by first | decide | omega) ?_
            refine And.intro rfl ?_
            refine ⟨?_, hS⟩
            first
              | exact ⟨Or.inl (by first | decide | omega), Or.inr ⟨by omega, g36_5 (by first | decide | omega)⟩⟩
              | (have h : x2 = 1 := by omega
                 exact ⟨Or.inr ⟨h, g36_3 h⟩, Or.inl ⟨h, pq_QN_z (g36_4 h) (by first | decide | omega)⟩⟩)
          · skip
            intro v48 e48 a48 b48
            refine And.intro (fun h52 => ?_) (fun h52 => ?_)
            · skip
              intro v62 e62 a62 b62
              have I62 : 0 ≤ v62 ∧ v62 ≤ 16 := by
                rw [e62]
                exact hI.2.1.2.2.2.2.2.2.2.1
              clear a62 b62
              have N62 := hI.2.1.2.2.2.2.2.2.2.1
              refine And.intro (fun h67 => ?_) (fun h67 => ?_)
              · skip
                replace h67 : v62 ≤ 15 := by omega
                refine And.intro (And.intro hI (And.intro (by first | decide | omega) (And.intro (And.intro (by first | decide | omega) (by first | decide | omega)) (by rw [F12]; omega)))) ?_
                intro v77 M77 a77 b77 q77
                obtain ⟨q77, z77⟩ := q77
                have hS : pz_rl pz_Q2 M M77 := hS.tr (pz_rl.wk pz_wk_Q8_Q2 z77)
                have hI : pz_im M77 := hS.1 hI0
                obtain ⟨q77, s77⟩ := q77
                have A77 := z77.2 1 15 (by unfold pz_Q8; first | decide | omega)
                intro v83 e83 a83 b83
                have I83 : 0 ≤ v83 ∧ v83 ≤ 16 := by
                  rw [e83]
                  exact hI.2.1.2.2.2.2.2.2.2.1
                clear a83 b83
                have N83 := hI.2.1.2.2.2.2.2.2.2.1
                refine And.intro (fun h87 => ?_) (fun h87 => ?_)
                · skip
                  intro v95 e95 a95 b95
                  rw [pz_wi (by first | decide | omega) (by first | decide | omega)] at e95
                  clear a95 b95
                  intro M96 e96
                  have hS : pz_rl pz_Q2 M M96 := by
                    rw [e96]
                    exact pz_rl_u hS (by unfold pz_Q2; decide) (pz_iom_15 (by first | decide | omega))
                  have hI : pz_im M96 := hS.1 hI0
                  have T96_0 : M96 1 15 = v95 := by rw [e96]; exact pz_uu
                  have G96 : v77 = 1 → M 1 12 = 2 → ∀ r : Int, 0 ≤ r → r < M96 1 15 → 0 ≤ M96 66 (3 * r).toNat ∧ M96 66 (3 * r).toNat ≤ 11 := by
                    intro a b r r0 r1
                    have E9 : ∀ j, M96 66 j = M77 66 j := fun j => by rw [e96]; exact pz_una (by decide)
                    rw [E9]
                    have q9 := q77.2 (by first | decide | omega)
                    rcases Int.lt_or_le r (N36 1 15) with h9 | h9
                    · rw [q9.1 _ (by first | decide | omega)]
                      exact g36_3 (by first | decide | omega) b r r0 h9
                    · rw [show r = N36 1 15 by omega]
                      exact (q9.2.resolve_left (by first | decide | omega)).2
                  have Q96 : v77 = 1 → pq_QN M M96 := fun a => pq_QN_s (g36_4 (by first | decide | omega)) (show M 1 12 = 1 ∨ M 1 12 = 2 ∨ M 1 12 = 3 by omega) (pq_hk (show M 1 12 = 1 ∨ M 1 12 = 2 ∨ M 1 12 = 3 by omega)) (by first | decide | omega) (by first | decide | omega) (by first | decide | omega) s77 (by first | decide | omega) (pq_Q8 z77) (z77.2 60 88 (by unfold pz_Q8; first | decide | omega)) e96 (by first | decide | omega)
                  have B96 : v77 = 0 → pq_QB M M96 := fun a => pq_QN_b (g36_4 (by first | decide | omega)) (pq_hk (show M 1 12 = 1 ∨ M 1 12 = 2 ∨ M 1 12 = 3 by omega)) (by first | decide | omega) (by first | decide | omega) (by first | decide | omega) s77 a e96
                  exact ih36 _ _ _ (by first | decide | omega) hS (by first | omega | assumption | exact (fun y => absurd y (by decide)) | exact pq_bg1 (by first | decide | omega) | exact pq_bg2 (by first | decide | omega) | exact pq_bg3 (by first | decide | omega)) (by first | omega | assumption | exact (fun y => absurd y (by decide)) | exact pq_bg1 (by first | decide | omega) | exact pq_bg2 (by first | decide | omega) | exact pq_bg3 (by first | decide | omega)) (by first | omega | assumption | exact (fun y => absurd y (by decide)) | exact pq_bg1 (by first | decide | omega) | exact pq_bg2 (by first | decide | omega) | exact pq_bg3 (by first | decide | omega)) (by first | omega | assumption | exact (fun y => absurd y (by decide)) | exact pq_bg1 (by first | decide | omega) | exact pq_bg2 (by first | decide | omega) | exact pq_bg3 (by first | decide | omega)) (by first | omega | assumption | exact (fun y => absurd y (by decide)) | exact pq_bg1 (by first | decide | omega) | exact pq_bg2 (by first | decide | omega) | exact pq_bg3 (by first | decide | omega))
                · skip
                  intro v95 e95 a95 b95
                  rw [pz_wi (by first | decide | omega) (by first | decide | omega)] at e95
                  clear a95 b95
                  intro M96 e96
                  have hS : pz_rl pz_Q2 M M96 := by
                    rw [e96]
                    exact pz_rl_u hS (by unfold pz_Q2; decide) (pz_iom_15 (by first | decide | omega))
                  have hI : pz_im M96 := hS.1 hI0
                  have T96_0 : M96 1 15 = v95 := by rw [e96]; exact pz_uu
                  have G96 : v77 = 1 → M 1 12 = 2 → ∀ r : Int, 0 ≤ r → r < M96 1 15 → 0 ≤ M96 66 (3 * r).toNat ∧ M96 66 (3 * r).toNat ≤ 11 := by
                    intro a b r r0 r1
                    have E9 : ∀ j, M96 66 j = M77 66 j := fun j => by rw [e96]; exact pz_una (by decide)
                    rw [E9]
                    have q9 := q77.2 (by first | decide | omega)
                    rcases Int.lt_or_le r (N36 1 15) with h9 | h9
                    · rw [q9.1 _ (by first | decide | omega)]
                      exact g36_3 (by first | decide | omega) b r r0 h9
                    · rw [show r = N36 1 15 by omega]
                      exact (q9.2.resolve_left (by first | decide | omega)).2
                  have Q96 : v77 = 1 → pq_QN M M96 := fun a => pq_QN_s (g36_4 (by first | decide | omega)) (show M 1 12 = 1 ∨ M 1 12 = 2 ∨ M 1 12 = 3 by omega) (pq_hk (show M 1 12 = 1 ∨ M 1 12 = 2 ∨ M 1 12 = 3 by omega)) (by first | decide | omega) (by first | decide | omega) (by first | decide | omega) s77 (by first | decide | omega) (pq_Q8 z77) (z77.2 60 88 (by unfold pz_Q8; first | decide | omega)) e96 (by first | decide | omega)
                  have B96 : v77 = 0 → pq_QB M M96 := fun a => pq_QN_b (g36_4 (by first | decide | omega)) (pq_hk (show M 1 12 = 1 ∨ M 1 12 = 2 ∨ M 1 12 = 3 by omega)) (by first | decide | omega) (by first | decide | omega) (by first | decide | omega) s77 a e96
                  exact ih36 _ _ _ (by first | decide | omega) hS (by first | omega | assumption | exact (fun y => absurd y (by decide)) | exact pq_bg1 (by first | decide | omega) | exact pq_bg2 (by first | decide | omega) | exact pq_bg3 (by first | decide | omega)) (by first | omega | assumption | exact (fun y => absurd y (by decide)) | exact pq_bg1 (by first | decide | omega) | exact pq_bg2 (by first | decide | omega) | exact pq_bg3 (by first | decide | omega)) (by first | omega | assumption | exact (fun y => absurd y (by decide)) | exact pq_bg1 (by first | decide | omega) | exact pq_bg2 (by first | decide | omega) | exact pq_bg3 (by first | decide | omega)) (by first | omega | assumption | exact (fun y => absurd y (by decide)) | exact pq_bg1 (by first | decide | omega) | exact pq_bg2 (by first | decide | omega) | exact pq_bg3 (by first | decide | omega)) (by first | omega | assumption | exact (fun y => absurd y (by decide)) | exact pq_bg1 (by first | decide | omega) | exact pq_bg2 (by first | decide | omega) | exact pq_bg3 (by first | decide | omega))
              · skip
                refine And.intro (hI) ?_
                intro v72 M72 a72 b72 q72
                obtain ⟨q72, z72⟩ := q72
                have hS : pz_rl pz_Q2 M M72 := hS.tr (pz_rl.wk pz_wk_Q0_Q2 z72)
                have hI : pz_im M72 := hS.1 hI0
                clear a72 b72
                refine And.intro (by first | decide | omega) ?_
                refine And.intro rfl ?_
                exact ⟨⟨Or.inl (by first | decide | omega), Or.inr ⟨by omega, pq_QN_m (g36_4 (by first | decide | omega)) (pq_hk (show M 1 12 = 1 ∨ M 1 12 = 2 ∨ M 1 12 = 3 by omega)) (by first | decide | omega) (by first | decide | omega) (by first | decide | omega) q72.2.1 q72.2.2⟩⟩, hS⟩
            · skip
              refine And.intro (hI) ?_
              intro v57 M57 a57 b57 q57
              obtain ⟨q57, z57⟩ := q57
              have hS : pz_rl pz_Q2 M M57 := hS.tr (pz_rl.wk pz_wk_Q0_Q2 z57)
              have hI : pz_im M57 := hS.1 hI0
              clear a57 b57
              refine And.intro (by first | decide | omega) ?_
              refine And.intro rfl ?_
              exact ⟨⟨Or.inl (by first | decide | omega), Or.inr ⟨by omega, pq_QN_w (g36_4 (by first | decide | omega)) (pq_hk (show M 1 12 = 1 ∨ M 1 12 = 2 ∨ M 1 12 = 3 by omega)) (by first | decide | omega) (by first | decide | omega) q57.2.1 q57.2.2⟩⟩, hS⟩
    refine hgo (fun p => Nat.beq p 36) 58 0 _ [] M ?_
    intro M2 e2
    have hS : pz_rl pz_Q2 M M2 := by
      rw [e2]
      exact pz_rl_u hS (by unfold pz_Q2; decide) (pz_iom_15 (by first | decide | omega))
    have hI : pz_im M2 := hS.1 hI0
    have T2_0 : M2 1 15 = (0) := by rw [e2]; exact pz_uu
    have G2 : (1 : Int) = 1 → M 1 12 = 2 → ∀ r : Int, 0 ≤ r → r < M2 1 15 → 0 ≤ M2 66 (3 * r).toNat ∧ M2 66 (3 * r).toNat ≤ 11 := fun _ _ r r0 r1 => absurd r1 (by first | decide | omega)
    have Q2 : (1 : Int) = 1 → pq_QN M M2 := fun _ => pq_QN_0 e2
    intro v6 e6 a6 b6
    rw [hS.2 1 12 (by unfold pz_Q2; first | decide | omega)] at e6
    refine And.intro (fun h10 => ?_) (fun h10 => ?_)
    · skip
      intro v19 e19 a19 b19
      rw [hS.2 1 12 (by unfold pz_Q2; first | decide | omega)] at e19
      refine And.intro (fun h23 => ?_) (fun h23 => ?_)
      · skip
        exact L36 _ _ _ _ (Nat.lt_succ_self _) hS (by first | omega | assumption | exact (fun y => absurd y (by decide)) | exact pq_bg1 (by first | decide | omega) | exact pq_bg2 (by first | decide | omega) | exact pq_bg3 (by first | decide | omega)) (by first | omega | assumption | exact (fun y => absurd y (by decide)) | exact pq_bg1 (by first | decide | omega) | exact pq_bg2 (by first | decide | omega) | exact pq_bg3 (by first | decide | omega)) (by first | omega | assumption | exact (fun y => absurd y (by decide)) | exact pq_bg1 (by first | decide | omega) | exact pq_bg2 (by first | decide | omega) | exact pq_bg3 (by first | decide | omega)) (by first | omega | assumption | exact (fun y => absurd y (by decide)) | exact pq_bg1 (by first | decide | omega) | exact pq_bg2 (by first | decide | omega) | exact pq_bg3 (by first | decide | omega)) (by first | omega | assumption | exact (fun y => absurd y (by decide)) | exact pq_bg1 (by first | decide | omega) | exact pq_bg2 (by first | decide | omega) | exact pq_bg3 (by first | decide | omega))
      · skip
        exact L36 _ _ _ _ (Nat.lt_succ_self _) hS (by first | omega | assumption | exact (fun y => absurd y (by decide)) | exact pq_bg1 (by first | decide | omega) | exact pq_bg2 (by first | decide | omega) | exact pq_bg3 (by first | decide | omega)) (by first | omega | assumption | exact (fun y => absurd y (by decide)) | exact pq_bg1 (by first | decide | omega) | exact pq_bg2 (by first | decide | omega) | exact pq_bg3 (by first | decide | omega)) (by first | omega | assumption | exact (fun y => absurd y (by decide)) | exact pq_bg1 (by first | decide | omega) | exact pq_bg2 (by first | decide | omega) | exact pq_bg3 (by first | decide | omega)) (by first | omega | assumption | exact (fun y => absurd y (by decide)) | exact pq_bg1 (by first | decide | omega) | exact pq_bg2 (by first | decide | omega) | exact pq_bg3 (by first | decide | omega)) (by first | omega | assumption | exact (fun y => absurd y (by decide)) | exact pq_bg1 (by first | decide | omega) | exact pq_bg2 (by first | decide | omega) | exact pq_bg3 (by first | decide | omega))
    · skip
      exact L36 _ _ _ _ (Nat.lt_succ_self _) hS (by first | omega | assumption | exact (fun y => absurd y (by decide)) | exact pq_bg1 (by first | decide | omega) | exact pq_bg2 (by first | decide | omega) | exact pq_bg3 (by first | decide | omega)) (by first | omega | assumption | exact (fun y => absurd y (by decide)) | exact pq_bg1 (by first | decide | omega) | exact pq_bg2 (by first | decide | omega) | exact pq_bg3 (by first | decide | omega)) (by first | omega | assumption | exact (fun y => absurd y (by decide)) | exact pq_bg1 (by first | decide | omega) | exact pq_bg2 (by first | decide | omega) | exact pq_bg3 (by first | decide | omega)) (by first | omega | assumption | exact (fun y => absurd y (by decide)) | exact pq_bg1 (by first | decide | omega) | exact pq_bg2 (by first | decide | omega) | exact pq_bg3 (by first | decide | omega)) (by first | omega | assumption | exact (fun y => absurd y (by decide)) | exact pq_bg1 (by first | decide | omega) | exact pq_bg2 (by first | decide | omega) | exact pq_bg3 (by first | decide | omega))
theorem v_X12_readsRows {fr lo i : Nat} {own : String} (h1 : 13 + 1 ≤ fr) (h2 : 8 + (3 + 11) + 279 ≤ lo) (h3 : .methodLink own i yX12_readsRows ∈ lw_tbl) : pz_cV fr lo own i k_X12_readsRows :=
  pz_cVk (maxL := 3) (fr' := 13) (lo' := 279) 0 12 h_X12_readsRows rfl ⟨(pz_nhc_RX12 yX12_readsRows rfl).1, (pz_nhc_RX12 yX12_readsRows rfl).2, pz_ds3⟩ ⟨pz_wq1354, pz_wq1353, pz_ws25, pz_wq13⟩ (Or.inl ⟨TX12, 28, rfl⟩) (fun a M _ h => by
    have h : (match (generalizing := false) a with | [.inr (.inr (12, th))] => pz_im M ∧ 1 ≤ M 1 12 ∧ M 1 12 ≤ 3 | _ => False) := h
    split at h
    · exact ⟨_, _, rfl⟩
    · exact h.elim) h1 h2 h3
