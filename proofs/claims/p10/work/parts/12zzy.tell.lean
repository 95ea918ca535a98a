section
/-! the class' teller: what it writes, where it reads, what it has laid -/
def pq_Pp (b j : Nat) : Prop := (b = 5 ∧ 3 ≤ j ∧ j ≠ 8 ∧ j ≠ 9) ∨ (b = 12 ∧ j = 1) ∨ b = 43
def pq_Pl (b j : Nat) : Prop := (b = 5 ∧ 3 ≤ j ∧ j ≠ 8 ∧ j ≠ 9) ∨ b = 12 ∨ b = 19 ∨ b = 26 ∨ (39 ≤ b ∧ b ≤ 44)
def pq_Po (b j : Nat) : Prop := pq_Pp b j ∨ (b = 5 ∧ j = 9)
def pq_pr (P : Nat → Nat → Prop) (M M' : pz_M) : Prop := (pz_ic M → pz_ic M') ∧ ∀ b j : Nat, ¬ P b j → M' b j = M b j
theorem pq_pr.rf {P : Nat → Nat → Prop} {M : pz_M} : pq_pr P M M := ⟨id, fun _ _ _ => rfl⟩
theorem pq_pr.tr {P : Nat → Nat → Prop} {M M' M'' : pz_M} (h : pq_pr P M M') (h' : pq_pr P M' M'') : pq_pr P M M'' := ⟨fun q => h'.1 (h.1 q), fun b j q => (h'.2 b j q).trans (h.2 b j q)⟩
theorem pq_pr_u {P : Nat → Nat → Prop} {M M' : pz_M} {a k : Nat} {v : Int} (hs : pq_pr P M M') (hp : P a k) (h : pz_iok a k v) : pq_pr P M (pz_u M' a k v) := by
  refine ⟨fun q => pz_ic_u h (hs.1 q), fun b j hb => ?_⟩
  rcases pz_uv M' a k v b j with ⟨rfl, rfl, -⟩ | ⟨-, q1⟩
  · exact absurd hp hb
  · rw [q1]
    exact hs.2 b j hb
theorem pq_pr.po {M M' : pz_M} (h : pq_pr pq_Pp M M') : pq_pr pq_Po M M' := ⟨h.1, fun b j q => h.2 b j (fun z => q (Or.inl z))⟩
theorem pq_pr.pp {M M' : pz_M} (h : pq_pr pq_Po M M') (e : M' 5 9 = M 5 9) : pq_pr pq_Pp M M' := ⟨h.1, fun b j q => by
  by_cases z : b = 5 ∧ j = 9
  · rw [z.1, z.2]; exact e
  · exact h.2 b j (fun y => y.elim q z)⟩
theorem pq_pr.T {M M' : pz_M} (h : pq_pr pq_Po M M') : M' 49 = M 49 ∧ M' 50 = M 50 ∧ M' 51 = M 51 ∧ M' 5 8 = M 5 8 := ⟨funext fun j => h.2 49 j (by unfold pq_Po pq_Pp; omega), funext fun j => h.2 50 j (by unfold pq_Po pq_Pp; omega), funext fun j => h.2 51 j (by unfold pq_Po pq_Pp; omega), h.2 5 8 (by unfold pq_Po pq_Pp; omega)⟩
/-- it looks at token i -/
def pq_la (M : pz_M) (i : Int) : pz_M := pz_u (pz_u (pz_u M 5 5 i) 5 6 (M 49 i.toNat)) 5 7 (M 50 i.toNat)
theorem pq_la_o {M : pz_M} {i : Int} {b j : Nat} (h : ¬ (b = 5 ∧ 5 ≤ j ∧ j ≤ 7)) : pq_la M i b j = M b j := by
  unfold pq_la
  rw [pz_une (by omega), pz_une (by omega), pz_une (by omega)]
def pq_cu (M : pz_M) : Prop := 0 ≤ M 5 5 ∧ M 5 6 = M 49 (M 5 5).toNat ∧ M 5 7 = M 50 (M 5 5).toNat ∧ ∃ c : Nat, c ≤ 400 ∧ M 5 5 ≤ c ∧ M 49 c = 101
def pq_cq (M : pz_M) : Prop := pq_cu M ∧ 0 ≤ M 12 1 ∧ M 12 1 ≤ M 5 5
theorem pq_cu_b {M : pz_M} (h : pq_cu M) : 0 ≤ M 5 5 ∧ M 5 5 ≤ 400 ∧ (M 5 6 ≠ 101 → M 5 5 ≤ 399) := by
  obtain ⟨h0, h1, h2, c, h3, h4, h5⟩ := h
  refine ⟨h0, by omega, fun q => ?_⟩
  by_cases z : (M 5 5).toNat = c
  · rw [z, h5] at h1
    omega
  · omega
theorem pq_cu_la {M M' : pz_M} {i : Int} (h : pq_cu M) (ht : M 5 6 ≠ 101) (hi : i = M 5 5 + 1) (e : (0 ≤ i ∧ i ≤ 400 ∧ M' = pq_la M i) ∨ (¬ (0 ≤ i ∧ i ≤ 400) ∧ M' = M)) : pq_cu M' ∧ M' 5 5 = M 5 5 + 1 ∧ M' 12 1 = M 12 1 ∧ M' 43 = M 43 ∧ M' 5 3 = M 5 3 ∧ M' 5 4 = M 5 4 := by
  have b := pq_cu_b h
  obtain ⟨h0, h1, h2, c, h3, h4, h5⟩ := h
  rcases e with ⟨a1, a2, a3⟩ | ⟨a1, -⟩
  · have e5 : M' 5 5 = M 5 5 + 1 := by
      rw [a3, ← hi]
      unfold pq_la
      rw [pz_une (by omega), pz_une (by omega), pz_uu]
    have e49 : M' 49 = M 49 := funext fun j => by rw [a3]; exact pq_la_o (by omega)
    have e50 : M' 50 = M 50 := funext fun j => by rw [a3]; exact pq_la_o (by omega)
    refine ⟨⟨by omega, ?_, ?_, c, h3, ?_, by rw [e49]; exact h5⟩, e5, by rw [a3]; exact pq_la_o (by omega), funext fun j => by rw [a3]; exact pq_la_o (by omega), by rw [a3]; exact pq_la_o (by omega), by rw [a3]; exact pq_la_o (by omega)⟩
    · rw [e49, e5, ← hi, a3]
      unfold pq_la
      rw [pz_une (by omega), pz_uu]
    · rw [e50, e5, ← hi, a3]
      unfold pq_la
      rw [pz_uu]
    · by_cases z : (M 5 5).toNat = c
      · rw [z, h5] at h1
        omega
      · omega
  · omega
def pq_fs (M N : pz_M) : Prop := N 5 3 = M 5 3 ∧ N 5 4 = M 5 4
theorem pq_fs.tr {M N K : pz_M} (h : pq_fs M N) (h' : pq_fs N K) : pq_fs M K := ⟨h'.1.trans h.1, h'.2.trans h.2⟩
/-- L was laid behind what lay there -/
def pq_cp (L : List Int) (M M' : pz_M) : Prop := M' 12 1 = M 12 1 + (L.length : Int) ∧ (∀ k : Nat, (k : Int) < M 12 1 → M' 43 k = M 43 k) ∧ (∀ k : Nat, k < L.length → M' 43 ((M 12 1).toNat + k) = L.getD k 0) ∧ pq_fs M M'
theorem pq_cp_0 {M M' : pz_M} (h : M' 12 1 = M 12 1) (h2 : M' 43 = M 43) (h3 : pq_fs M M') : pq_cp [] M M' := ⟨by rw [h]; exact (Int.add_zero _).symm, fun k _ => by rw [h2], fun k hk => absurd hk (Nat.not_lt_zero _), h3⟩
theorem pq_cp.tr {L L' : List Int} {M M1 M2 : pz_M} (h0 : 0 ≤ M 12 1) (h : pq_cp L M M1) (h' : pq_cp L' M1 M2) : pq_cp (L ++ L') M M2 := by
  obtain ⟨a1, a2, a3, a4⟩ := h
  obtain ⟨b1, b2, b3, b4⟩ := h'
  refine ⟨by rw [b1, a1, List.length_append]; omega, fun k hk => (b2 k (by omega)).trans (a2 k hk), fun k hk => ?_, a4.tr b4⟩
  rw [List.length_append] at hk
  by_cases q : k < L.length
  · rw [b2 _ (by omega), a3 k q, List.getD_eq_getElem?_getD, List.getD_eq_getElem?_getD, List.getElem?_append_left q]
  · rw [List.getD_eq_getElem?_getD, List.getElem?_append_right (by omega), ← List.getD_eq_getElem?_getD, ← b3 (k - L.length) (by omega)]
    congr 1
    omega
theorem pq_cp_put {M M' : pz_M} {x : Int} (h0 : 0 ≤ M 12 1) (e : M' = pz_u (pz_u M 43 (M 12 1).toNat x) 12 1 (M 12 1 + 1)) : pq_cp [x] M M' := by
  refine ⟨by rw [e, pz_uu]; rfl, fun k hk => ?_, fun k hk => ?_, by rw [e, pz_una (by decide), pz_una (by decide)], by rw [e, pz_una (by decide), pz_una (by decide)]⟩
  · rw [e, pz_une (by omega), pz_une (by omega)]
  · have hk : k = 0 := by
      have : k < 1 := hk
      omega
    subst hk
    rw [e, pz_une (by omega)]
    exact pz_uu
theorem pq_cp.la {L : List Int} {M M1 M2 : pz_M} (h : pq_cp L M M1) (e1 : M2 12 1 = M1 12 1) (e2 : M2 43 = M1 43) (e3 : pq_fs M1 M2) : pq_cp L M M2 := ⟨by rw [e1]; exact h.1, fun k hk => by rw [e2]; exact h.2.1 k hk, fun k hk => by rw [e2]; exact h.2.2.1 k hk, h.2.2.2.tr e3⟩
/-- what a method of that kind has found -/
def pq_cg (K d : Nat) (M M' : pz_M) (v : Int) : Prop := (v = 1 ∧ ∃ (j : Nat) (o : List (Int × Int)), pz_gr (M 49) (M 50) K d (M 5 5).toNat (.ok j o) ∧ M' 5 5 = (j : Int) ∧ pq_cu M' ∧ pq_cp (pz_fl o) M M') ∨ (v = 0 ∧ ∃ (k : Int) (j : Nat), pz_gr (M 49) (M 50) K d (M 5 5).toNat (.bad k j) ∧ M' 5 3 = k ∧ M' 5 4 = M 51 j)
def pq_cgu (M M' : pz_M) (v : Int) : Prop := (v = 1 ∧ ∃ o : List (Int × Int), pz_uf (M 49) (M 50) (M 5 5).toNat = .ok ((M 5 5).toNat + 1) o ∧ M' 5 5 = M 5 5 + 1 ∧ pq_cu M' ∧ pq_cp (pz_fl o) M M') ∨ (v = 0 ∧ pz_uf (M 49) (M 50) (M 5 5).toNat = .bad 1 (M 5 5).toNat ∧ M' 5 3 = 1 ∧ M' 5 4 = M 51 (M 5 5).toNat)
/-- what waits -/
def pq_wl (w : Int) : List (Int × Int) := if w = 0 then [] else [(pz_op w, 0)]
def pq_kA (T X : Nat → Int) (i0 : Nat) (w : Int) (j : Nat) (o : List (Int × Int)) : Prop := (w = 0 ∨ w = 43 ∨ w = 45) ∧ (∀ k l, pz_gr T X 1 0 j (.bad k l) → pz_gr T X 3 0 i0 (.bad k l)) ∧ ∀ l o' r, pz_gr T X 1 0 j (.ok l o') → pz_gr T X 2 0 l r → pz_gr T X 3 0 i0 (r.app (o ++ o' ++ pq_wl w))
def pq_kB (T X : Nat → Int) (i0 : Nat) (w : Int) (j : Nat) (o : List (Int × Int)) : Prop := (w = 0 ∨ w = 43 ∨ w = 45) ∧ (∀ k l, pz_gr T X 0 0 j (.bad k l) → pz_gr T X 3 0 i0 (.bad k l)) ∧ ∀ l o' r, pz_gr T X 0 0 j (.ok l o') → pz_gr T X 2 0 l r → pz_gr T X 3 0 i0 (r.app (o ++ o' ++ pq_wl w))
def pq_kC (T X : Nat → Int) (i0 : Nat) (w : Int) (j : Nat) (o : List (Int × Int)) : Prop := (w = 0 ∨ w = 43 ∨ w = 45) ∧ ∀ r, pz_gr T X 2 0 j r → pz_gr T X 3 0 i0 (r.app (o ++ pq_wl w))
theorem pq_kA_0 {T X : Nat → Int} {i : Nat} : pq_kA T X i 0 i [] := ⟨Or.inl rfl, fun k l h => .smb h, fun l o' r h h' => by
  rw [List.nil_append, show pq_wl 0 = [] from rfl, List.append_nil]
  exact .sms h h'⟩
theorem pq_kA_u {T X : Nat → Int} {i j l : Nat} {w : Int} {o o' : List (Int × Int)} (h : pq_kA T X i w j o) (u : pz_uf T X j = .ok l o') : pq_kB T X i w l (o ++ o') := ⟨h.1, fun k l' q => h.2.1 k l' (.pdu u q), fun l' o2 r q q' => by
  have := h.2.2 l' (o' ++ o2) r (.pdu u q) q'
  rw [List.append_assoc o o' o2]
  exact this⟩
theorem pq_kB_m {T X : Nat → Int} {i j l : Nat} {w : Int} {o o' : List (Int × Int)} (h : pq_kB T X i w j o) (t : T j = 42) (u : pz_uf T X (j + 1) = .ok l o') : pq_kB T X i w l (o ++ (o' ++ [(25, 0)])) := ⟨h.1, fun k l' q => h.2.1 k l' (.ptm t u q), fun l' o2 r q q' => by
  have := h.2.2 l' ((o' ++ [(25, 0)]) ++ o2) r (.ptm t u q) q'
  rw [List.append_assoc o (o' ++ [(25, 0)]) o2]
  exact this⟩
theorem pq_kB_d {T X : Nat → Int} {i j : Nat} {w : Int} {o : List (Int × Int)} (h : pq_kB T X i w j o) (t : T j = 47) (t2 : T (j + 1) = 100) (x : X (j + 1) ≠ 0) : pq_kB T X i w (j + 2) (o ++ [(26, X (j + 1))]) := ⟨h.1, fun k l' q => h.2.1 k l' (.ptd t t2 x q), fun l' o2 r q q' => by
  have := h.2.2 l' ([(26, X (j + 1))] ++ o2) r (.ptd t t2 x q) q'
  rw [List.append_assoc o [(26, X (j + 1))] o2]
  exact this⟩
theorem pq_kB_0 {T X : Nat → Int} {i j : Nat} {w : Int} {o : List (Int × Int)} (h : pq_kB T X i w j o) (t : T j ≠ 42) (t2 : T j ≠ 47) : pq_kC T X i w j o := ⟨h.1, fun r q => by
  have := h.2.2 j [] r (.pt0 t t2) q
  rw [List.append_nil] at this
  exact this⟩
theorem pq_kC_s {T X : Nat → Int} {i j : Nat} {w : Int} {o : List (Int × Int)} (h : pq_kC T X i w j o) (t : T j = 43 ∨ T j = 45) : pq_kA T X i (T j) (j + 1) (o ++ pq_wl w) := ⟨Or.inr t, fun k l q => h.2 _ (.stb t q), fun l o' r q q' => by
  have := h.2 _ (.sts t q q')
  rw [pz_app_app] at this
  rw [List.append_assoc (o ++ pq_wl w) o' (pq_wl (T j)), show pq_wl (T j) = [(pz_op (T j), 0)] from if_neg (by omega)]
  exact this⟩
theorem pq_kC_e {T X : Nat → Int} {i j : Nat} {w : Int} {o : List (Int × Int)} (h : pq_kC T X i w j o) (t : T j ≠ 43) (t2 : T j ≠ 45) : pz_gr T X 3 0 i (.ok j (o ++ pq_wl w)) := by
  have := h.2 _ (.st0 t t2)
  have e : (pz_res.ok j []).app (o ++ pq_wl w) = .ok j (o ++ pq_wl w) := by
    show pz_res.ok j ((o ++ pq_wl w) ++ []) = _
    rw [List.append_nil]
  rw [e] at this
  exact this
/-- the states of a sum that is read -/
def pq_sA (M N : pz_M) (w : Int) : Prop := pq_cu N ∧ ((w = 0 ∧ N 12 1 ≤ N 5 5) ∨ (w ≠ 0 ∧ N 12 1 + 1 ≤ N 5 5)) ∧ 0 ≤ N 12 1 ∧ ∃ o, pq_kA (M 49) (M 50) (M 5 5).toNat w (N 5 5).toNat o ∧ pq_cp (pz_fl o) M N
def pq_sB (M N : pz_M) (w : Int) : Prop := pq_cu N ∧ ((w = 0 ∧ N 12 1 ≤ N 5 5) ∨ (w ≠ 0 ∧ N 12 1 + 1 ≤ N 5 5)) ∧ 0 ≤ N 12 1 ∧ ∃ o, pq_kB (M 49) (M 50) (M 5 5).toNat w (N 5 5).toNat o ∧ pq_cp (pz_fl o) M N
def pq_sC (M N : pz_M) (w : Int) : Prop := pq_cu N ∧ ((w = 0 ∧ N 12 1 ≤ N 5 5) ∨ (w ≠ 0 ∧ N 12 1 + 1 ≤ N 5 5)) ∧ 0 ≤ N 12 1 ∧ ∃ o, pq_kC (M 49) (M 50) (M 5 5).toNat w (N 5 5).toNat o ∧ pq_cp (pz_fl o) M N
def pq_sD (M N : pz_M) (w : Int) : Prop := pq_cu N ∧ N 12 1 ≤ N 5 5 ∧ 0 ≤ N 12 1 ∧ ∃ o o', (w = 0 ∨ w = 43 ∨ w = 45) ∧ o' = o ++ pq_wl w ∧ pq_kC (M 49) (M 50) (M 5 5).toNat w (N 5 5).toNat o ∧ pq_cp (pz_fl o') M N
theorem pq_cq.cq {M : pz_M} (h : pq_cu M) (h2 : 0 ≤ M 12 1) (h3 : M 12 1 ≤ M 5 5) : pq_cq M := ⟨h, h2, h3⟩
theorem pq_sA_0 {M : pz_M} (h : pq_cq M) : pq_sA M M 0 := ⟨h.1, Or.inl ⟨rfl, h.2.2⟩, h.2.1, [], pq_kA_0, pq_cp_0 rfl rfl ⟨rfl, rfl⟩⟩
theorem pq_uf_len {T X : Nat → Int} {i j : Nat} {o : List (Int × Int)} (h : pz_uf T X i = .ok j o) : (pz_fl o).length = 1 := by
  unfold pz_uf at h
  split at h
  · cases h; rfl
  · split at h
    · cases h
      rw [pz_fl_one]
      unfold pz_fl1
      rw [if_neg (by omega), if_pos (by omega)]
      rfl
    · cases h
theorem pq_sA_u {M N N1 : pz_M} {w v : Int} (h : pq_sA M N w) (hT : N 49 = M 49 ∧ N 50 = M 50) (h0 : 0 ≤ M 12 1) (s : pq_cgu N N1 v) (hv : ¬ v = 0) : pq_sB M N1 w := by
  obtain ⟨a1, a2, a3, o, a4, a5⟩ := h
  rcases s with ⟨-, o', b1, b2, b3, b4⟩ | ⟨s, -⟩
  · rw [hT.1, hT.2] at b1
    have l := pq_uf_len b1
    have l2 := b4.1
    refine ⟨b3, by omega, by omega, o ++ o', ?_, by rw [pz_fl_app]; exact a5.tr h0 b4⟩
    rw [show (N1 5 5).toNat = (N 5 5).toNat + 1 by have := a1.1; omega]
    exact pq_kA_u a4 b1
  · exact absurd s hv
theorem pq_sA_b {M N N1 : pz_M} {w v : Int} (h : pq_sA M N w) (hT : N 49 = M 49 ∧ N 50 = M 50 ∧ N 51 = M 51) (s : pq_cgu N N1 v) (hv : v = 0) : pq_cg 3 0 M N1 0 := by
  obtain ⟨a1, a2, a3, o, a4, a5⟩ := h
  rcases s with ⟨s, -⟩ | ⟨-, b1, b2, b3⟩
  · omega
  · rw [hT.1, hT.2.1] at b1
    exact Or.inr ⟨rfl, 1, _, a4.2.1 _ _ (.pdb b1), b2, by rw [b3, hT.2.2]⟩
def pq_put (N N' : pz_M) (x : Int) : Prop := (N 12 1 < 400 ∧ N' = pz_u (pz_u N 43 (N 12 1).toNat x) 12 1 (N 12 1 + 1)) ∨ (¬ N 12 1 < 400 ∧ N' = N)
theorem pq_put_s {N N' : pz_M} {x : Int} (h : pq_put N N' x) (h0 : 0 ≤ N 12 1) (h1 : N 12 1 < 400) (c : pq_cu N) : pq_cu N' ∧ N' 5 5 = N 5 5 ∧ N' 12 1 = N 12 1 + 1 ∧ pq_cp [x] N N' := by
  rcases h with ⟨-, e⟩ | ⟨e, -⟩
  · have u : ∀ b j, b ≠ 43 → b ≠ 12 → N' b j = N b j := fun b j y y2 => by rw [e, pz_una y2, pz_una y]
    have u5 : ∀ j, N' 5 j = N 5 j := fun j => u 5 j (by omega) (by omega)
    refine ⟨?_, u5 5, by rw [e, pz_uu], pq_cp_put h0 e⟩
    obtain ⟨y1, y2, y3, y4⟩ := c
    unfold pq_cu
    rw [u5, u5, u5, show N' 49 = N 49 from funext fun j => u 49 j (by omega) (by omega), show N' 50 = N 50 from funext fun j => u 50 j (by omega) (by omega)]
    exact ⟨y1, y2, y3, y4⟩
  · exact absurd h1 e
/-- what a wrong place leaves -/
def pq_wr (N N' : pz_M) (f : Int) : Prop := N' 5 3 = f ∧ (0 ≤ N 5 5 → N 5 5 ≤ 400 → N' 5 4 = N 51 (N 5 5).toNat)
theorem pq_cg_w {K d j : Nat} {M N N' : pz_M} {k : Int} (h : pq_wr N N' k) (c : pq_cu N) (hT : N 51 = M 51) (hj : (N 5 5).toNat = j) (g : pz_gr (M 49) (M 50) K d (M 5 5).toNat (.bad k j)) : pq_cg K d M N' 0 := by
  have b := pq_cu_b c
  exact Or.inr ⟨rfl, k, j, g, h.1, by rw [h.2 (by omega) (by omega), hT, hj]⟩
theorem pq_cu_1 {N N1 : pz_M} (c : pq_cu N) (e : N1 5 5 = N 5 5 + 1) : (N1 5 5).toNat = (N 5 5).toNat + 1 := by
  have := c.1
  omega
theorem pq_cu_T {M N : pz_M} (c : pq_cu N) (hT : N 49 = M 49) : M 49 (N 5 5).toNat = N 5 6 := by rw [← hT]; exact c.2.1.symm
theorem pq_cu_X {M N : pz_M} (c : pq_cu N) (hT : N 50 = M 50) : M 50 (N 5 5).toNat = N 5 7 := by rw [← hT]; exact c.2.2.1.symm
def pq_T3 (M N : pz_M) : Prop := N 49 = M 49 ∧ N 50 = M 50 ∧ N 51 = M 51
def pq_nx (N N1 : pz_M) : Prop := pq_cu N1 ∧ N1 5 5 = N 5 5 + 1 ∧ N1 12 1 = N 12 1 ∧ N1 43 = N 43 ∧ pq_fs N N1
/-- behind * or / a unit is wrong, or is none -/
theorem pq_sB_u {M N N1 N2 : pz_M} {w v : Int} (h : pq_sB M N w) (hT : pq_T3 M N) (hT1 : pq_T3 M N1) (t : N 5 6 = 42 ∨ (N 5 6 = 47 ∧ N1 5 6 = 100 ∧ N1 5 7 ≠ 0)) (c1 : pq_nx N N1) (s : pq_cgu N1 N2 v) (hv : v = 0) : pq_cg 3 0 M N2 0 := by
  obtain ⟨a1, a2, a3, o, a4, a5⟩ := h
  obtain ⟨d1, d2, d3, d4, d5⟩ := c1
  rcases s with ⟨s, -⟩ | ⟨-, b1, b2, b3⟩
  · omega
  · rw [hT1.1, hT1.2.1] at b1
    have tj := pq_cu_T a1 hT.1
    have e := pq_cu_1 a1 d2
    rcases t with t | ⟨t, t2, -⟩
    · rw [e] at b1 b3
      exact Or.inr ⟨rfl, 1, _, a4.2.1 _ _ (.ptmb (by rw [tj, t]) b1), b2, by rw [b3, hT1.2.2]⟩
    · have tj1 := pq_cu_T d1 hT1.1
      unfold pz_uf at b1
      rw [if_pos (by rw [tj1, t2])] at b1
      cases b1
theorem pq_sB_w {M N N1 N2 : pz_M} {w k : Int} (h : pq_sB M N w) (hT : pq_T3 M N) (hT1 : pq_T3 M N1) (t : N 5 6 = 47) (t2 : (N1 5 6 ≠ 100 ∧ k = 1) ∨ (N1 5 6 = 100 ∧ N1 5 7 = 0 ∧ k = 2)) (c1 : pq_nx N N1) (s : pq_wr N1 N2 k) : pq_cg 3 0 M N2 0 := by
  obtain ⟨a1, a2, a3, o, a4, a5⟩ := h
  obtain ⟨d1, d2, d3, d4, d5⟩ := c1
  have tj := pq_cu_T a1 hT.1
  have tj1 := pq_cu_T d1 hT1.1
  have xj1 := pq_cu_X d1 hT1.2.1
  have e := pq_cu_1 a1 d2
  rw [e] at tj1 xj1
  rcases t2 with ⟨y, rfl⟩ | ⟨y, y2, rfl⟩
  · exact pq_cg_w s d1 hT1.2.2 e (a4.2.1 _ _ (.ptn (by rw [tj, t]) (by rw [tj1]; exact y)))
  · exact pq_cg_w s d1 hT1.2.2 e (a4.2.1 _ _ (.ptz (by rw [tj, t]) (by rw [tj1, y]) (by rw [xj1, y2])))
theorem pq_sB_x {M N N1 N2 N3 : pz_M} {w v x : Int} (h : pq_sB M N w) (hT : pq_T3 M N) (hT1 : pq_T3 M N1) (h0 : 0 ≤ M 12 1) (t : (N 5 6 = 42 ∧ x = -43) ∨ (N 5 6 = 47 ∧ x = -48 ∧ N1 5 6 = 100 ∧ N1 5 7 ≠ 0)) (c1 : pq_nx N N1) (s : pq_cgu N1 N2 v) (hv : ¬ v = 0) (e : pq_put N2 N3 x) : pq_sB M N3 w ∧ N3 5 5 = N 5 5 + 2 := by
  obtain ⟨a1, a2, a3, o, a4, a5⟩ := h
  obtain ⟨d1, d2, d3, d4, d5⟩ := c1
  rcases s with ⟨-, o', b1, b2, b3, b4⟩ | ⟨s, -⟩
  · rw [hT1.1, hT1.2.1] at b1
    have l := pq_uf_len b1
    have l2 := b4.1
    have hb := pq_cu_b b3
    obtain ⟨f1, f2, f3, f4⟩ := pq_put_s e (by omega) (by omega) b3
    have tj := pq_cu_T a1 hT.1
    have e1 := pq_cu_1 a1 d2
    have b5 : pq_cp (pz_fl o') N N2 := ⟨by rw [b4.1, d3], fun k hk => by rw [b4.2.1 k (by omega), d4], fun k hk => by rw [← d3]; exact b4.2.2.1 k hk, d5.tr b4.2.2.2⟩
    have q := (a5.tr h0 b5).tr h0 f4
    refine ⟨⟨f1, by omega, by omega, ?_⟩, by omega⟩
    have ej : (N3 5 5).toNat = (N 5 5).toNat + 1 + 1 := by have := a1.1; omega
    rw [ej]
    rw [e1] at b1
    rcases t with ⟨t, rfl⟩ | ⟨t, rfl, t2, t3⟩
    · refine ⟨_, pq_kB_m a4 (by rw [tj, t]) b1, ?_⟩
      rw [pz_fl_app, pz_fl_app, ← List.append_assoc]
      exact q
    · have tj1 := pq_cu_T d1 hT1.1
      have xj1 := pq_cu_X d1 hT1.2.1
      rw [e1] at tj1 xj1
      refine ⟨_, pq_kB_d a4 (by rw [tj, t]) (by rw [tj1, t2]) (by rw [xj1]; exact t3), ?_⟩
      unfold pz_uf at b1
      rw [if_pos (by rw [tj1, t2])] at b1
      cases b1
      rw [pz_fl_app]
      rw [List.append_assoc] at q
      exact q
  · exact absurd s hv
theorem pq_sB_0 {M N : pz_M} {w : Int} (h : pq_sB M N w) (hT : pq_T3 M N) (t : N 5 6 ≠ 42 ∧ N 5 6 ≠ 47) : pq_sC M N w := by
  obtain ⟨a1, a2, a3, o, a4, a5⟩ := h
  have tj := pq_cu_T a1 hT.1
  exact ⟨a1, a2, a3, o, pq_kB_0 a4 (by rw [tj]; exact t.1) (by rw [tj]; exact t.2), a5⟩
theorem pq_sC_0 {M N : pz_M} (h : pq_sC M N 0) : pq_sD M N 0 := by
  obtain ⟨a1, a2, a3, o, a4, a5⟩ := h
  exact ⟨a1, by omega, a3, o, o, a4.1, by rw [show pq_wl 0 = [] from rfl, List.append_nil], a4, a5⟩
theorem pq_sC_p {M N N1 : pz_M} {w x : Int} (h : pq_sC M N w) (h0 : 0 ≤ M 12 1) (hw : ¬ w = 0) (hx : x = -w - 1) (e : pq_put N N1 x) : pq_sD M N1 w := by
  obtain ⟨a1, a2, a3, o, a4, a5⟩ := h
  have hb := pq_cu_b a1
  obtain ⟨f1, f2, f3, f4⟩ := pq_put_s e a3 (by omega) a1
  refine ⟨f1, by omega, by omega, o, o ++ pq_wl w, a4.1, rfl, by rw [f2]; exact a4, ?_⟩
  have g : pz_fl (pq_wl w) = [x] := by
    rw [hx]
    rcases a4.1 with rfl | rfl | rfl
    · exact absurd rfl hw
    · rfl
    · rfl
  rw [pz_fl_app, g]
  exact a5.tr h0 f4
theorem pq_sD_e {M N : pz_M} {w : Int} (h : pq_sD M N w) (hT : pq_T3 M N) (t : N 5 6 ≠ 43 ∧ N 5 6 ≠ 45) : pq_cg 3 0 M N 1 := by
  obtain ⟨a1, a2, a3, o, o', a9, a8, a4, a5⟩ := h
  have tj := pq_cu_T a1 hT.1
  have g := pq_kC_e a4 (by rw [tj]; exact t.1) (by rw [tj]; exact t.2)
  rw [← a8] at g
  exact Or.inl ⟨rfl, _, _, g, by have := a1.1; omega, a1, a5⟩
theorem pq_sD_n {M N N1 : pz_M} {w w' : Int} (h : pq_sD M N w) (hT : pq_T3 M N) (t : N 5 6 = 43 ∨ N 5 6 = 45) (c1 : pq_nx N N1) (hw : w' = N 5 6) : pq_sA M N1 w' := by
  obtain ⟨a1, a2, a3, o, o', a9, a8, a4, a5⟩ := h
  obtain ⟨d1, d2, d3, d4, d5⟩ := c1
  have tj := pq_cu_T a1 hT.1
  have g := pq_kC_s a4 (by rw [tj]; exact t)
  rw [← a8, tj, ← hw] at g
  refine ⟨d1, by omega, by omega, o', ?_, a5.la d3 d4 d5⟩
  rw [pq_cu_1 a1 d2]
  exact g
theorem pz_not {x : Int} (h1 : -2147483648 ≤ x) (h2 : x ≤ 2147483647) : (Int32.ofInt x ^^^ Int32.ofInt (-1)).toInt = -x - 1 := by
  have e : Int32.ofInt x ^^^ Int32.ofInt (-1) = ~~~ (Int32.ofInt x) := by
    apply Int32.toBitVec_inj.mp
    show (Int32.ofInt x).toBitVec ^^^ (BitVec.allOnes 32) = ~~~ (Int32.ofInt x).toBitVec
    rw [BitVec.xor_allOnes]
  have e2 : Int32.ofInt x = Int32.ofInt x := rfl
  rw [e]
  have e3 : ~~~ (Int32.ofInt x) = Int32.ofInt (-x - 1) := by
    rw [Int32.not_eq_neg_sub, Int32.ofInt_sub, Int32.ofInt_neg]
    rfl
  rw [e3]
  exact Int32.toInt_ofInt_of_le (by omega) (by omega)
theorem pq_T3_of {M N : pz_M} (h : pq_pr pq_Pp M N) : pq_T3 M N := ⟨h.po.T.1, h.po.T.2.1, h.po.T.2.2.1⟩
theorem pq_T3_po {M N : pz_M} (h : pq_pr pq_Po M N) : pq_T3 M N := ⟨h.T.1, h.T.2.1, h.T.2.2.1⟩
theorem pq_sA.cq {M N : pz_M} {w : Int} (h : pq_sA M N w) : pq_cq N := ⟨h.1, h.2.2.1, by have := h.2.1; omega⟩
theorem pq_sB.cq {M N : pz_M} {w : Int} (h : pq_sB M N w) : pq_cq N := ⟨h.1, h.2.2.1, by have := h.2.1; omega⟩
theorem pq_sC.cq {M N : pz_M} {w : Int} (h : pq_sC M N w) : pq_cq N := ⟨h.1, h.2.2.1, by have := h.2.1; omega⟩
theorem pq_sC_w {M N : pz_M} {w : Int} (h : pq_sC M N w) : w = 0 ∨ w = 43 ∨ w = 45 := by
  obtain ⟨-, -, -, o, h, -⟩ := h
  exact h.1
theorem pq_nx.cq {N N1 : pz_M} (h : pq_nx N N1) (c : pq_cq N) : pq_cq N1 := by
  obtain ⟨a, b, d, -⟩ := h
  have c2 := c.2
  exact ⟨a, by omega, by omega⟩
theorem pq_cgu_1 {N N1 : pz_M} {v : Int} (h : pq_cgu N N1 v) (hv : ¬ v = 0) : N1 5 5 = N 5 5 + 1 := by
  rcases h with ⟨-, o, -, h, -⟩ | ⟨h, -⟩
  · exact h
  · exact absurd h hv
theorem pq_sC_0' {M N : pz_M} {w : Int} (h : pq_sC M N w) (hw : w = 0) : pq_sD M N w := by
  subst hw
  exact pq_sC_0 h
theorem pq_u_ok {M N N1 : pz_M} {x i : Int} {o : List (Int × Int)} (hq : pq_cq M) (e : pq_put M N x) (hu : pz_uf (M 49) (M 50) (M 5 5).toNat = .ok ((M 5 5).toNat + 1) o) (hx : pz_fl o = [x]) (ht : M 5 6 ≠ 101) (hi : i = N 5 5 + 1) (l : (0 ≤ i ∧ i ≤ 400 ∧ N1 = pq_la N i) ∨ (¬ (0 ≤ i ∧ i ≤ 400) ∧ N1 = N)) : pq_cgu M N1 1 := by
  have b := pq_cu_b hq.1
  have b2 := hq.2
  obtain ⟨f1, f2, f3, f4⟩ := pq_put_s e (by omega) (by omega) hq.1
  have ht2 : N 5 6 ≠ 101 := by
    rcases e with ⟨-, e⟩ | ⟨e, -⟩
    · rw [e, pz_una (by decide), pz_una (by decide)]
      exact ht
    · omega
  obtain ⟨g1, g2, g3, g4, g5⟩ := pq_cu_la f1 ht2 hi l
  refine Or.inl ⟨rfl, o, hu, by omega, g1, ?_⟩
  rw [hx]
  exact f4.la g3 g4 g5
theorem pq_u_bad {M N : pz_M} {v : Int} (hq : pq_cu M) (t : M 5 6 ≠ 100 ∧ ¬ (8 ≤ M 5 6 ∧ M 5 6 ≤ 16)) (w : v = 0 ∧ pq_wr M N 1) : pq_cgu M N v := by
  have b := pq_cu_b hq
  refine Or.inr ⟨w.1, ?_, w.2.1, w.2.2 (by omega) (by omega)⟩
  unfold pz_uf
  rw [if_neg (by rw [← hq.2.1]; exact t.1), if_neg (by rw [← hq.2.1]; exact t.2)]
theorem pq_u_n {M : pz_M} (hq : pq_cu M) (t : M 5 6 = 100) : pz_uf (M 49) (M 50) (M 5 5).toNat = .ok ((M 5 5).toNat + 1) [(0, M 5 7)] := by
  unfold pz_uf
  rw [if_pos (by rw [← hq.2.1]; exact t), hq.2.2.1]
theorem pq_u_w {M : pz_M} (hq : pq_cu M) (t : 8 ≤ M 5 6 ∧ M 5 6 ≤ 16) : pz_uf (M 49) (M 50) (M 5 5).toNat = .ok ((M 5 5).toNat + 1) [(M 5 6 - 7, 0)] := by
  unfold pz_uf
  rw [if_neg (by rw [← hq.2.1]; omega), if_pos (by rw [← hq.2.1]; exact t), hq.2.1]
theorem pq_u_wl {t x : Int} (h : 8 ≤ t ∧ t ≤ 16) (e : x = -t - 1) : pz_fl [(t - 7, 0)] = [x] := by
  rw [pz_fl_one]
  unfold pz_fl1
  rw [if_neg (by show ¬ t - 7 = 0; omega), if_pos (by show t - 7 < 10; omega)]
  show [-(t - 7 + 8)] = [x]
  rw [e]
  congr 1
  omega
/-- ( or not begins -/
def pq_op1 (M N : pz_M) : Prop := pq_T3 M N ∧ pq_nx M N ∧ N 5 9 = M 5 9 + 1
theorem pq_d9 {M N : pz_M} {w : Int} (e : N = pz_u M 5 9 w) : pq_T3 M N ∧ N 5 5 = M 5 5 ∧ N 12 1 = M 12 1 ∧ N 43 = M 43 ∧ N 5 3 = M 5 3 ∧ N 5 4 = M 5 4 ∧ N 5 6 = M 5 6 ∧ (pq_cu M → pq_cu N) := by
  have u : ∀ b j, ¬ (b = 5 ∧ j = 9) → N b j = M b j := fun b j q => by rw [e]; exact pz_une q
  have t : pq_T3 M N := ⟨funext fun j => u 49 j (by omega), funext fun j => u 50 j (by omega), funext fun j => u 51 j (by omega)⟩
  refine ⟨t, u 5 5 (by omega), u 12 1 (by omega), funext fun j => u 43 j (by omega), u 5 3 (by omega), u 5 4 (by omega), u 5 6 (by omega), fun c => ?_⟩
  obtain ⟨y1, y2, y3, y4⟩ := c
  unfold pq_cu
  rw [u 5 5 (by omega), u 5 6 (by omega), u 5 7 (by omega), t.1, t.2.1]
  exact ⟨y1, y2, y3, y4⟩
theorem pq_put_b {N N' : pz_M} {x : Int} (h : pq_put N N' x) : N' 5 3 = N 5 3 ∧ N' 5 4 = N 5 4 := by
  rcases h with ⟨-, e⟩ | ⟨-, e⟩
  · rw [e, pz_una (by decide), pz_una (by decide), pz_una (by decide), pz_una (by decide)]
    exact ⟨rfl, rfl⟩
  · rw [e]
    exact ⟨rfl, rfl⟩
theorem pq_con_x {M N : pz_M} {d : Nat} (c : pq_cu M) (t : M 5 6 = 7 ∨ M 5 6 = 40) (hd : 8 ≤ d) (w : pq_wr M N 3) : pq_cg 4 d M N 0 := by
  have tj := pq_cu_T c (rfl : M 49 = M 49)
  exact pq_cg_w w c rfl rfl (.onx (by omega) hd)
theorem pq_con_nb {M N N1 N2 : pz_M} {d : Nat} {v w : Int} (c : pq_cu M) (o1 : pq_op1 M N) (t : M 5 6 = 7) (hd : (d : Int) = M 5 9 ∧ d < 8) (s : pq_cg 4 (N 5 9).toNat N N1 v) (hv : v = 0) (e : N2 = pz_u N1 5 9 w) : pq_cg 4 d M N2 0 := by
  have tj := pq_cu_T c (rfl : M 49 = M 49)
  obtain ⟨⟨t1, t2, t3⟩, ⟨n1, n2, n3, n4, n5⟩, h9⟩ := o1
  have e1 := pq_cu_1 c n2
  obtain ⟨-, -, -, -, f3, f4, -, -⟩ := pq_d9 e
  rcases s with ⟨a, -⟩ | ⟨-, k, j, a, b1, b2⟩
  · omega
  · rw [t1, t2, e1, show (N 5 9).toNat = d + 1 by omega] at a
    rw [t3] at b2
    exact Or.inr ⟨rfl, k, j, .onnb (by omega) hd.2 a, by rw [f3]; exact b1, by rw [f4]; exact b2⟩
theorem pq_con_pb {M N N1 N2 : pz_M} {d : Nat} {v w : Int} (c : pq_cu M) (o1 : pq_op1 M N) (t : M 5 6 = 40) (hd : (d : Int) = M 5 9 ∧ d < 8) (s : pq_cg 8 (N 5 9).toNat N N1 v) (hv : v = 0) (e : N2 = pz_u N1 5 9 w) : pq_cg 4 d M N2 0 := by
  have tj := pq_cu_T c (rfl : M 49 = M 49)
  obtain ⟨⟨t1, t2, t3⟩, ⟨n1, n2, n3, n4, n5⟩, h9⟩ := o1
  have e1 := pq_cu_1 c n2
  obtain ⟨-, -, -, -, f3, f4, -, -⟩ := pq_d9 e
  rcases s with ⟨a, -⟩ | ⟨-, k, j, a, b1, b2⟩
  · omega
  · rw [t1, t2, e1, show (N 5 9).toNat = d + 1 by omega] at a
    rw [t3] at b2
    exact Or.inr ⟨rfl, k, j, .onpb (by omega) hd.2 a, by rw [f3]; exact b1, by rw [f4]; exact b2⟩
theorem pq_con_n {M N N1 N2 N3 : pz_M} {d : Nat} {v w : Int} (c : pq_cq M) (o1 : pq_op1 M N) (t : M 5 6 = 7) (hd : (d : Int) = M 5 9 ∧ d < 8) (s : pq_cg 4 (N 5 9).toNat N N1 v) (hv : ¬ v = 0) (e : N2 = pz_u N1 5 9 w) (p : pq_put N2 N3 (-8)) : pq_cg 4 d M N3 1 := by
  have tj := pq_cu_T c.1 (rfl : M 49 = M 49)
  obtain ⟨⟨t1, t2, t3⟩, ⟨n1, n2, n3, n4, n5⟩, h9⟩ := o1
  have e1 := pq_cu_1 c.1 n2
  have c2 := c.2
  obtain ⟨-, f1, f2, f5, f3, f4, -, f6⟩ := pq_d9 e
  rcases s with ⟨-, j, o, a, b1, b2, b3⟩ | ⟨a, -⟩
  · have l := pz_gr_len a j o rfl
    have l1 := b3.1
    have lt := (pz_gr_lt a j o rfl).2 (by omega)
    rw [t1, t2, e1, show (N 5 9).toNat = d + 1 by omega] at a
    have hb := pq_cu_b b2
    obtain ⟨g1, g2, g3, g4⟩ := pq_put_s p (by omega) (by omega) (f6 b2)
    have b4 : pq_cp (pz_fl o) M N2 := ⟨by rw [f2, b3.1, n3], fun k hk => by rw [f5, b3.2.1 k (by omega), n4], fun k hk => by rw [f5, ← n3]; exact b3.2.2.1 k hk, (n5.tr b3.2.2.2).tr ⟨f3, f4⟩⟩
    refine Or.inl ⟨rfl, j, _, .onn (by omega) hd.2 a, by rw [g2, f1]; exact b1, g1, ?_⟩
    rw [pz_fl_app]
    exact b4.tr c2.1 g4
  · exact absurd a hv
theorem pq_con_pc {M N N1 N2 N3 : pz_M} {d : Nat} {v w : Int} (c : pq_cu M) (o1 : pq_op1 M N) (t : M 5 6 = 40) (hd : (d : Int) = M 5 9 ∧ d < 8) (s : pq_cg 8 (N 5 9).toNat N N1 v) (hv : ¬ v = 0) (hT : pq_T3 M N1) (x : N1 5 6 ≠ 41) (wr : pq_wr N1 N2 1) (e : N3 = pz_u N2 5 9 w) : pq_cg 4 d M N3 0 := by
  have tj := pq_cu_T c (rfl : M 49 = M 49)
  obtain ⟨⟨t1, t2, t3⟩, ⟨n1, n2, n3, n4, n5⟩, h9⟩ := o1
  have e1 := pq_cu_1 c n2
  obtain ⟨-, -, -, -, f3, f4, -, -⟩ := pq_d9 e
  rcases s with ⟨-, j, o, a, b1, b2, b3⟩ | ⟨a, -⟩
  · rw [t1, t2, e1, show (N 5 9).toNat = d + 1 by omega] at a
    have tj2 := pq_cu_T b2 hT.1
    have ej : (N1 5 5).toNat = j := by omega
    rw [ej] at tj2
    have g := pq_cg_w wr b2 hT.2.2 ej (.onpc (by omega) hd.2 a (by omega))
    rcases g with ⟨g, -⟩ | ⟨-, k, l, g1, g2, g3⟩
    · omega
    · exact Or.inr ⟨rfl, k, l, g1, by rw [f3]; exact g2, by rw [f4]; exact g3⟩
  · exact absurd a hv
theorem pq_con_p {M N N1 N2 N3 : pz_M} {d : Nat} {v w : Int} (c : pq_cq M) (o1 : pq_op1 M N) (t : M 5 6 = 40) (hd : (d : Int) = M 5 9 ∧ d < 8) (s : pq_cg 8 (N 5 9).toNat N N1 v) (hv : ¬ v = 0) (hT : pq_T3 M N1) (x : N1 5 6 = 41) (nx : pq_nx N1 N2) (e : N3 = pz_u N2 5 9 w) : pq_cg 4 d M N3 1 := by
  have tj := pq_cu_T c.1 (rfl : M 49 = M 49)
  obtain ⟨⟨t1, t2, t3⟩, ⟨n1, n2, n3, n4, n5⟩, h9⟩ := o1
  have e1 := pq_cu_1 c.1 n2
  obtain ⟨m1, m2, m3, m4, m5⟩ := nx
  obtain ⟨-, f1, f2, f5, f3, f4, -, f6⟩ := pq_d9 e
  rcases s with ⟨-, j, o, a, b1, b2, b3⟩ | ⟨a, -⟩
  · rw [t1, t2, e1, show (N 5 9).toNat = d + 1 by omega] at a
    have tj2 := pq_cu_T b2 hT.1
    rw [show (N1 5 5).toNat = j by omega] at tj2
    exact Or.inl ⟨rfl, j + 1, o, .onp (by omega) hd.2 a (by omega), by omega, f6 m1, ⟨by rw [f2, m3, b3.1, n3], fun k hk => by rw [f5, m4, b3.2.1 k (by omega), n4], fun k hk => by rw [f5, m4, ← n3]; exact b3.2.2.1 k hk, ((n5.tr b3.2.2.2).tr m5).tr ⟨f3, f4⟩⟩⟩
  · exact absurd a hv
theorem pq_con_s {M N : pz_M} {d : Nat} {v : Int} (c : pq_cu M) (t : M 5 6 ≠ 7 ∧ M 5 6 ≠ 40) (s : pq_cg 3 0 M N v) (hv : v = 0) : pq_cg 4 d M N 0 := by
  have tj := pq_cu_T c (rfl : M 49 = M 49)
  rcases s with ⟨a, -⟩ | ⟨-, k, j, a, b1, b2⟩
  · omega
  · exact Or.inr ⟨rfl, k, j, .ons (by omega) (by omega) a, b1, b2⟩
theorem pq_con_r {M N N1 : pz_M} {d : Nat} {v : Int} (c : pq_cu M) (t : M 5 6 ≠ 7 ∧ M 5 6 ≠ 40) (s : pq_cg 3 0 M N v) (hv : ¬ v = 0) (hT : pq_T3 M N) (x : ¬ (60 ≤ N 5 6 ∧ N 5 6 ≤ 62)) (wr : pq_wr N N1 1) : pq_cg 4 d M N1 0 := by
  have tj := pq_cu_T c (rfl : M 49 = M 49)
  rcases s with ⟨-, j, o, a, b1, b2, b3⟩ | ⟨a, -⟩
  · have tj2 := pq_cu_T b2 hT.1
    have ej : (N 5 5).toNat = j := by omega
    rw [ej] at tj2
    exact pq_cg_w wr b2 hT.2.2 ej (.onr (by omega) (by omega) a (by omega))
  · exact absurd a hv
/-- behind the sign of a test -/
theorem pq_con_q {M N N1 N2 N3 : pz_M} {d : Nat} {v v2 x : Int} (c : pq_cq M) (t : M 5 6 ≠ 7 ∧ M 5 6 ≠ 40) (s : pq_cg 3 0 M N v) (hv : ¬ v = 0) (hT : pq_T3 M N) (y : 60 ≤ N 5 6 ∧ N 5 6 ≤ 62) (nx : pq_nx N N1) (hT1 : pq_T3 M N1) (s2 : pq_cg 3 0 N1 N2 v2) (hx : x = -(N 5 6) - 1) (p : pq_put N2 N3 x) : pq_cg 4 d M N3 v2 := by
  have tj := pq_cu_T c.1 (rfl : M 49 = M 49)
  have c2 := c.2
  rcases s with ⟨-, j, o, a, b1, b2, b3⟩ | ⟨a, -⟩
  · have tj2 := pq_cu_T b2 hT.1
    have ej : (N 5 5).toNat = j := by omega
    obtain ⟨m1, m2, m3, m4, m5⟩ := nx
    have e1 := pq_cu_1 b2 m2
    rw [ej] at tj2 e1
    have l0 := pz_gr_len a j o rfl
    have k0 := b3.1
    rcases s2 with ⟨w, l, o2, f, g1, g2, g3⟩ | ⟨w, k, l, f, g1, g2⟩
    · have l1 := pz_gr_len f l o2 rfl
      have k1 := g3.1
      rw [hT1.1, hT1.2.1, e1] at f
      have hb := pq_cu_b g2
      have g5 : pq_cp (pz_fl o2) N N2 := ⟨by rw [g3.1, m3], fun k hk => by rw [g3.2.1 k (by omega), m4], fun k hk => by rw [← m3]; exact g3.2.2.1 k hk, m5.tr g3.2.2.2⟩
      have hc := c.1.1
      obtain ⟨h1, h2, h3, h4⟩ := pq_put_s p (by omega) (by omega) g2
      refine Or.inl ⟨w, l, _, .onq (by omega) (by omega) a (by omega) f, by rw [h2]; exact g1, h1, ?_⟩
      have ef : pz_fl [(pz_op (M 49 j), 0)] = [x] := by
        rw [tj2, hx]
        have : N 5 6 = 60 ∨ N 5 6 = 61 ∨ N 5 6 = 62 := by omega
        rcases this with q | q | q <;> rw [q] <;> rfl
      rw [pz_fl_app, pz_fl_app, ef]
      exact (b3.tr c2.1 g5).tr c2.1 h4
    · rw [hT1.1, hT1.2.1, e1] at f
      rw [hT1.2.2] at g2
      obtain ⟨p1, p2⟩ := pq_put_b p
      exact Or.inr ⟨w, k, l, .ont (by omega) (by omega) a (by omega) f, by rw [p1]; exact g1, by rw [p2]; exact g2⟩
  · exact absurd a hv
/-! tests joined by and, these by or: the class' loop -/
def pq_wa (w : Int) : List (Int × Int) := if w = 0 then [] else [(31, 0)]
def pq_wo (w : Int) : List (Int × Int) := if w = 0 then [] else [(32, 0)]
def pq_lT (T X : Nat → Int) (d i : Nat) (s : Int) (j : Nat) (o : List (Int × Int)) : Prop := ∀ r, pz_gr T X 7 d j r → pz_gr T X 8 d i (r.app (o ++ pq_wo s))
def pq_lE (T X : Nat → Int) (d i : Nat) (s : Int) (j : Nat) (o : List (Int × Int)) : Prop := (∀ k l, pz_gr T X 5 d j (.bad k l) → pz_gr T X 8 d i (.bad k l)) ∧ ∀ m p, pz_gr T X 5 d j (.ok m p) → pq_lT T X d i s m (o ++ p)
def pq_lH (T X : Nat → Int) (d i : Nat) (s w : Int) (j : Nat) (o : List (Int × Int)) : Prop := (∀ k l, pz_gr T X 4 d j (.bad k l) → pz_gr T X 8 d i (.bad k l)) ∧ ∀ l o', pz_gr T X 4 d j (.ok l o') → pq_lE T X d i s l (o ++ o' ++ pq_wa w)
theorem pq_lH_0 {T X : Nat → Int} {d i : Nat} : pq_lH T X d i 0 0 i [] := ⟨fun k l h => .anb (.evb h), fun l o' h => ⟨fun k m q => .anb (by have := pz_gr.evs h q; exact this), fun m p q r q2 => by
  have a := pz_gr.evs h q
  have := pz_gr.ans a q2
  rw [show pq_wo 0 = [] from rfl, show pq_wa 0 = [] from rfl, List.append_nil, List.append_nil, List.nil_append]
  exact this⟩⟩
theorem pq_lE_a {T X : Nat → Int} {d i j : Nat} {s : Int} {o : List (Int × Int)} (h : pq_lE T X d i s j o) (t : T j = 6) : pq_lH T X d i s 1 (j + 1) o := ⟨fun k l q => h.1 k l (.etb t q), fun l o' q => ⟨fun k m q2 => h.1 k m (by have := pz_gr.ets t q q2; exact this), fun m p q2 => by
  have := h.2 m ((o' ++ [(31, 0)]) ++ p) (by have := pz_gr.ets t q q2; exact this)
  rw [show pq_wa 1 = [(31, 0)] from rfl, List.append_assoc o o' [(31, 0)], List.append_assoc o (o' ++ [(31, 0)]) p]
  exact this⟩⟩
theorem pq_lE_0 {T X : Nat → Int} {d i j : Nat} {s : Int} {o : List (Int × Int)} (h : pq_lE T X d i s j o) (t : T j ≠ 6) : pq_lT T X d i s j o := by
  have := h.2 j [] (.et0 t)
  rw [List.append_nil] at this
  exact this
theorem pq_lT_n {T X : Nat → Int} {d i j : Nat} {s : Int} {o : List (Int × Int)} (h : pq_lT T X d i s j o) (t : T j = 5) : pq_lH T X d i 1 0 (j + 1) (o ++ pq_wo s) := ⟨fun k l q => h _ (.atb t (.evb q)), fun l o' q => ⟨fun k m q2 => h _ (.atb t (by have := pz_gr.evs q q2; exact this)), fun m p q2 r q3 => by
  have := h _ (.ats t (pz_gr.evs q q2) q3)
  rw [pz_app_app] at this
  rw [show pq_wo 1 = [(32, 0)] from rfl, show pq_wa 0 = [] from rfl, List.append_nil, List.append_assoc (o ++ pq_wo s) o' p, List.append_assoc (o ++ pq_wo s) (o' ++ p) [(32, 0)]]
  exact this⟩⟩
theorem pq_lT_e {T X : Nat → Int} {d i j : Nat} {s : Int} {o : List (Int × Int)} (h : pq_lT T X d i s j o) (t : T j ≠ 5) : pz_gr T X 8 d i (.ok j (o ++ pq_wo s)) := by
  have := h _ (.at0 t)
  have e : (pz_res.ok j []).app (o ++ pq_wo s) = .ok j (o ++ pq_wo s) := by
    show pz_res.ok j ((o ++ pq_wo s) ++ []) = _
    rw [List.append_nil]
  rw [e] at this
  exact this
def pq_cH (M N : pz_M) (d : Nat) (s w : Int) : Prop := pq_cu N ∧ 0 ≤ N 12 1 ∧ N 12 1 + s + w ≤ N 5 5 ∧ (s = 0 ∨ s = 1) ∧ (w = 0 ∨ w = 1) ∧ ∃ o, pq_lH (M 49) (M 50) d (M 5 5).toNat s w (N 5 5).toNat o ∧ pq_cp (pz_fl o) M N
def pq_cE (M N : pz_M) (d : Nat) (s : Int) : Prop := pq_cu N ∧ 0 ≤ N 12 1 ∧ N 12 1 + s ≤ N 5 5 ∧ (s = 0 ∨ s = 1) ∧ ∃ o, pq_lE (M 49) (M 50) d (M 5 5).toNat s (N 5 5).toNat o ∧ pq_cp (pz_fl o) M N
def pq_cT (M N : pz_M) (d : Nat) (s : Int) : Prop := pq_cu N ∧ 0 ≤ N 12 1 ∧ N 12 1 ≤ N 5 5 ∧ ∃ o, pq_lT (M 49) (M 50) d (M 5 5).toNat s (N 5 5).toNat o ∧ pq_cp (pz_fl (o ++ pq_wo s)) M N
theorem pq_cH.cq {M N : pz_M} {d : Nat} {s w : Int} (h : pq_cH M N d s w) : pq_cq N := by
  obtain ⟨a, b, c, e, f, -⟩ := h
  exact ⟨a, b, by omega⟩
theorem pq_cE.cq {M N : pz_M} {d : Nat} {s : Int} (h : pq_cE M N d s) : pq_cq N := by
  obtain ⟨a, b, c, e, -⟩ := h
  exact ⟨a, b, by omega⟩
theorem pq_cH_0 {M : pz_M} {d : Nat} (h : pq_cq M) : pq_cH M M d 0 0 := ⟨h.1, h.2.1, by have := h.2.2; omega, Or.inl rfl, Or.inl rfl, [], pq_lH_0, pq_cp_0 rfl rfl ⟨rfl, rfl⟩⟩
theorem pq_cH_b {M N N1 : pz_M} {d : Nat} {s w v : Int} (h : pq_cH M N d s w) (hT : pq_T3 M N) (c : pq_cg 4 d N N1 v) (hv : v = 0) : pq_cg 8 d M N1 0 := by
  obtain ⟨a1, a2, a3, a4, a5, o, a6, a7⟩ := h
  rcases c with ⟨b, -⟩ | ⟨-, k, j, b, b1, b2⟩
  · omega
  · rw [hT.1, hT.2.1] at b
    rw [hT.2.2] at b2
    exact Or.inr ⟨rfl, k, j, a6.1 k j b, b1, b2⟩
/-- behind one test; the and that waited is laid -/
theorem pq_cH_s {M N N1 N2 : pz_M} {d : Nat} {s w v : Int} (h : pq_cH M N d s w) (hT : pq_T3 M N) (c : pq_cg 4 d N N1 v) (hv : ¬ v = 0) (h0 : 0 ≤ M 12 1) (p : (w = 0 ∧ N2 = N1) ∨ (¬ w = 0 ∧ pq_put N1 N2 (-7))) : pq_cE M N2 d s ∧ N 5 5 + 1 ≤ N2 5 5 := by
  obtain ⟨a1, a2, a3, a4, a5, o, a6, a7⟩ := h
  rcases c with ⟨-, j, o', b, b1, b2, b3⟩ | ⟨b, -⟩
  · have l := pz_gr_len b j o' rfl
    have lt := (pz_gr_lt b j o' rfl).2 (by omega)
    have k := b3.1
    have a9 := a1.1
    rw [hT.1, hT.2.1] at b
    have e := a6.2 j o' b
    have q := a7.tr h0 b3
    rcases p with ⟨p1, p2⟩ | ⟨p1, p2⟩
    · rw [p2]
      rw [p1, show pq_wa 0 = [] from rfl, List.append_nil] at e
      refine ⟨⟨b2, by omega, by omega, a4, o ++ o', ?_, by rw [pz_fl_app]; exact q⟩, by omega⟩
      rw [show (N1 5 5).toNat = j by omega]
      exact e
    · have hb := pq_cu_b b2
      obtain ⟨g1, g2, g3, g4⟩ := pq_put_s p2 (by omega) (by omega) b2
      rw [show pq_wa w = [(31, 0)] from if_neg p1] at e
      refine ⟨⟨g1, by omega, by omega, a4, (o ++ o') ++ [(31, 0)], ?_, ?_⟩, by omega⟩
      · rw [g2, show (N1 5 5).toNat = j by omega]
        exact e
      · rw [pz_fl_app, pz_fl_app]
        exact q.tr h0 g4
  · exact absurd b hv
theorem pq_cE_a {M N N1 : pz_M} {d : Nat} {s : Int} (h : pq_cE M N d s) (hT : pq_T3 M N) (t : N 5 6 = 6) (n : pq_nx N N1) : pq_cH M N1 d s 1 := by
  obtain ⟨a1, a2, a3, a4, o, a6, a7⟩ := h
  obtain ⟨m1, m2, m3, m4, m5⟩ := n
  have tj := pq_cu_T a1 hT.1
  refine ⟨m1, by omega, by omega, a4, Or.inr rfl, o, ?_, a7.la m3 m4 m5⟩
  rw [pq_cu_1 a1 m2]
  exact pq_lE_a a6 (by omega)
theorem pq_cE_0 {M N N1 : pz_M} {d : Nat} {s : Int} (h : pq_cE M N d s) (hT : pq_T3 M N) (t : N 5 6 ≠ 6) (h0 : 0 ≤ M 12 1) (p : (s = 0 ∧ N1 = N) ∨ (¬ s = 0 ∧ pq_put N N1 (-6))) : pq_cT M N1 d s ∧ N1 5 5 = N 5 5 := by
  obtain ⟨a1, a2, a3, a4, o, a6, a7⟩ := h
  have tj := pq_cu_T a1 hT.1
  have e := pq_lE_0 a6 (by omega)
  rcases p with ⟨p1, p2⟩ | ⟨p1, p2⟩
  · rw [p2]
    refine ⟨⟨a1, a2, by omega, o, e, ?_⟩, rfl⟩
    rw [p1, show pq_wo 0 = [] from rfl, List.append_nil]
    exact a7
  · have hb := pq_cu_b a1
    obtain ⟨g1, g2, g3, g4⟩ := pq_put_s p2 (by omega) (by omega) a1
    refine ⟨⟨g1, by omega, by omega, o, by rw [g2]; exact e, ?_⟩, g2⟩
    rw [pz_fl_app, show pq_wo s = [(32, 0)] from if_neg p1]
    exact a7.tr h0 g4
theorem pq_cT_n {M N N1 : pz_M} {d : Nat} {s : Int} (h : pq_cT M N d s) (hT : pq_T3 M N) (t : N 5 6 = 5) (n : pq_nx N N1) : pq_cH M N1 d 1 0 := by
  obtain ⟨a1, a2, a3, o, a6, a7⟩ := h
  obtain ⟨m1, m2, m3, m4, m5⟩ := n
  have tj := pq_cu_T a1 hT.1
  refine ⟨m1, by omega, by omega, Or.inr rfl, Or.inl rfl, _, ?_, a7.la m3 m4 m5⟩
  rw [pq_cu_1 a1 m2]
  exact pq_lT_n a6 (by omega)
theorem pq_cT_e {M N : pz_M} {d : Nat} {s : Int} (h : pq_cT M N d s) (hT : pq_T3 M N) (t : N 5 6 ≠ 5) : pq_cg 8 d M N 1 := by
  obtain ⟨a1, a2, a3, o, a6, a7⟩ := h
  have tj := pq_cu_T a1 hT.1
  exact Or.inl ⟨rfl, _, _, pq_lT_e a6 (by omega), by have := a1.1; omega, a1, a7⟩
theorem pq_cg_1 {K d : Nat} {M N : pz_M} {v : Int} (h : pq_cg K d M N v) (hv : ¬ v = 0) : v = 1 := by
  rcases h with ⟨a, -⟩ | ⟨a, -⟩
  · exact a
  · exact absurd a hv
theorem pq_cg_01 {K d : Nat} {M N : pz_M} {v : Int} (h : pq_cg K d M N v) : v = 0 ∨ v = 1 := by
  rcases h with ⟨a, -⟩ | ⟨a, -⟩
  · exact Or.inr a
  · exact Or.inl a
theorem pq_cg_cu {K d : Nat} {M N : pz_M} {v : Int} (h : pq_cg K d M N v) (hv : ¬ v = 0) : pq_cu N := by
  rcases h with ⟨-, j, o, -, -, c, -⟩ | ⟨a, -⟩
  · exact c
  · exact absurd a hv
theorem pq_cg_cq {K d : Nat} {M N : pz_M} {v : Int} (hq : pq_cq M) (h : pq_cg K d M N v) (hv : ¬ v = 0) : pq_cq N := by
  have q1 := hq.1.1
  have q2 := hq.2
  rcases h with ⟨-, j, o, g, e, c, p⟩ | ⟨a, -⟩
  · have l := pz_gr_len g j o rfl
    have k := p.1
    exact ⟨c, by omega, by omega⟩
  · exact absurd a hv
theorem pq_la5 {N N1 : pz_M} {i : Int} (l : (0 ≤ i ∧ i ≤ 400 ∧ N1 = pq_la N i) ∨ (¬ (0 ≤ i ∧ i ≤ 400) ∧ N1 = N)) (h : 0 ≤ i ∧ i ≤ 400) : N1 5 5 = i := by
  rcases l with ⟨-, -, e⟩ | ⟨e, -⟩
  · rw [e]
    unfold pq_la
    rw [pz_une (by decide), pz_une (by decide)]
    exact pz_uu
  · exact absurd h e
theorem pq_op1_of {M N N1 : pz_M} {w i : Int} (c : pq_cu M) (e : N = pz_u M 5 9 w) (hw : w = M 5 9 + 1) (t : M 5 6 ≠ 101) (hi : i = N 5 5 + 1) (l : (0 ≤ i ∧ i ≤ 400 ∧ N1 = pq_la N i) ∨ (¬ (0 ≤ i ∧ i ≤ 400) ∧ N1 = N)) (z : pq_pr pq_Pp N N1) : pq_op1 M N1 := by
  obtain ⟨a1, a2, a3, a4, a7, a8, a5, a6⟩ := pq_d9 e
  obtain ⟨b1, b2, b3, b4, b5⟩ := pq_cu_la (a6 c) (by omega) hi l
  have t3 := pq_T3_of z
  refine ⟨⟨t3.1.trans a1.1, t3.2.1.trans a1.2.1, t3.2.2.trans a1.2.2⟩, ⟨b1, by omega, by omega, b4.trans a4, b5.1.trans a7, b5.2.trans a8⟩, ?_⟩
  rw [z.2 5 9 (by unfold pq_Pp; omega), e, pz_uu]
  exact hw
/-! the class' lines of THE LAW -/
/-- the lines ls lie in M: their words, where they begin, where their B begins, where they end, their code -/
def pq_l1 (ls : List pz_lne) (k : Nat) (w s m e : Int) : Prop := w = (ls.getD k (0, [], [])).1 ∧ s = ((pz_fl (pz_catl (ls.take k))).length : Int) ∧ m = ((pz_fl (pz_catl (ls.take k) ++ (ls.getD k (0, [], [])).2.1)).length : Int) ∧ e = ((pz_fl (pz_catl (ls.take (k + 1)))).length : Int)
def pq_lc (ls : List pz_lne) (N : pz_M) : Prop := N 12 0 = (ls.length : Int) ∧ N 12 1 = ((pz_fl (pz_catl ls)).length : Int) ∧ (∀ k : Nat, k < (pz_fl (pz_catl ls)).length → N 43 k = (pz_fl (pz_catl ls)).getD k 0) ∧ ∀ k : Nat, k < ls.length → pq_l1 ls k (N 39 k) (N 40 k) (N 41 k) (N 42 k)
theorem pq_l1_app {ls : List pz_lne} {q : pz_lne} {k : Nat} {w s m e : Int} (hk : k < ls.length) (h : pq_l1 ls k w s m e) : pq_l1 (ls ++ [q]) k w s m e := by
  obtain ⟨a, b, c, d⟩ := h
  have g : (ls ++ [q]).getD k (0, [], []) = ls.getD k (0, [], []) := by
    rw [List.getD_eq_getElem?_getD, List.getD_eq_getElem?_getD, List.getElem?_append_left hk]
  refine ⟨by rw [g]; exact a, ?_, ?_, ?_⟩
  · rw [List.take_append_of_le_length (by omega)]; exact b
  · rw [List.take_append_of_le_length (by omega), g]; exact c
  · rw [List.take_append_of_le_length (by omega)]; exact d
theorem pq_l1_new {ls : List pz_lne} {q : pz_lne} {w s m e : Int} (hw : w = q.1) (hs : s = ((pz_fl (pz_catl ls)).length : Int)) (hm : m = ((pz_fl (pz_catl ls ++ q.2.1)).length : Int)) (he : e = ((pz_fl (pz_catl (ls ++ [q]))).length : Int)) : pq_l1 (ls ++ [q]) ls.length w s m e := by
  have g : (ls ++ [q]).getD ls.length (0, [], []) = q := by
    rw [List.getD_eq_getElem?_getD, List.getElem?_append_right (Nat.le_refl _), Nat.sub_self]
    rfl
  have t : (ls ++ [q]).take ls.length = ls := by
    rw [List.take_append_of_le_length (Nat.le_refl _), List.take_length]
  have t2 : (ls ++ [q]).take (ls.length + 1) = ls ++ [q] := List.take_of_length_le (by rw [List.length_append]; exact Nat.le_refl _)
  exact ⟨by rw [g]; exact hw, by rw [t]; exact hs, by rw [t, g]; exact hm, by rw [t2]; exact he⟩
/-- a line is laid -/
def pq_add (N N' : pz_M) (p q w : Int) : Prop := N 12 0 < 16 → N' 12 0 = N 12 0 + 1 ∧ N' 39 (N 12 0).toNat = p ∧ N' 40 (N 12 0).toNat = q ∧ N' 41 (N 12 0).toNat = w ∧ N' 42 (N 12 0).toNat = N 12 1 ∧ (∀ b j : Nat, 39 ≤ b → b ≤ 42 → j ≠ (N 12 0).toNat → N' b j = N b j) ∧ (∀ b j : Nat, (b < 39 ∨ 42 < b) → ¬ (b = 12 ∧ j = 0) → N' b j = N b j)
theorem pq_lc_add {M N N' : pz_M} {ls : List pz_lne} {o p : List (Int × Int)} {x s m : Int} (h : pq_lc ls M) (hn : ls.length < 16) (f : ∀ b j : Nat, (b = 12 ∧ j = 0) ∨ (39 ≤ b ∧ b ≤ 42) → N b j = M b j) (c : pq_cp (pz_fl (o ++ p)) M N) (hs : s = M 12 1) (hm : m = M 12 1 + ((pz_fl o).length : Int)) (a : pq_add N N' x s m) : pq_lc (ls ++ [(x, o, p)]) N' := by
  obtain ⟨h1, h2, h3, h4⟩ := h
  obtain ⟨c1, c2, c3, -⟩ := c
  have n0 : N 12 0 = (ls.length : Int) := by rw [f 12 0 (Or.inl ⟨rfl, rfl⟩)]; exact h1
  obtain ⟨a1, a2, a3, a4, a5, a6, a7⟩ := a (by omega)
  have hl : (N 12 0).toNat = ls.length := by omega
  rw [hl] at a2 a3 a4 a5
  have ec : pz_fl (pz_catl (ls ++ [(x, o, p)])) = pz_fl (pz_catl ls) ++ pz_fl (o ++ p) := by
    rw [pz_catl_app, pz_catl_one, pz_fl_app]
  refine ⟨by rw [a1, n0, List.length_append]; rfl, ?_, fun k hk => ?_, fun k hk => ?_⟩
  · rw [a7 12 1 (by omega) (by omega), c1, h2, ec, List.length_append]
    omega
  · rw [a7 43 k (by omega) (by omega), ec]
    rw [ec, List.length_append] at hk
    by_cases q : k < (pz_fl (pz_catl ls)).length
    · rw [c2 k (by omega), h3 k q, List.getD_eq_getElem?_getD, List.getD_eq_getElem?_getD, List.getElem?_append_left q]
    · rw [List.getD_eq_getElem?_getD, List.getElem?_append_right (by omega), ← List.getD_eq_getElem?_getD, ← c3 _ (by omega)]
      congr 1
      omega
  · rw [List.length_append] at hk
    have hk : k < ls.length + 1 := hk
    by_cases q : k = ls.length
    · subst q
      refine pq_l1_new a2 (by rw [a3, hs]; exact h2) ?_ ?_
      · rw [a4, hm, h2, pz_fl_app, List.length_append]
        rfl
      · rw [a5, c1, h2, ec, List.length_append]
        rfl
    · rw [a6 39 k (by omega) (by omega) (by omega), a6 40 k (by omega) (by omega) (by omega), a6 41 k (by omega) (by omega) (by omega), a6 42 k (by omega) (by omega) (by omega), f 39 k (by omega), f 40 k (by omega), f 41 k (by omega), f 42 k (by omega)]
      exact pq_l1_app (by omega) (h4 k (by omega))
/-- as far as the lines are told -/
def pq_lN (M N : pz_M) (n : Int) : Prop := pq_cq N ∧ ∃ ls : List pz_lne, (ls.length : Int) = n ∧ (∀ r, pz_gl (M 49) (M 50) ls.length (N 5 5).toNat r → pz_gl (M 49) (M 50) 0 (M 5 5).toNat (r.pre ls)) ∧ pq_lc ls N ∧ pq_fs M N
def pq_lg (M N : pz_M) (v : Int) : Prop := (v = 1 ∧ ∃ ls, pz_gl (M 49) (M 50) 0 (M 5 5).toNat (.ok ls) ∧ pq_lc ls N ∧ pq_fs M N) ∨ (v = 0 ∧ ∃ k j, pz_gl (M 49) (M 50) 0 (M 5 5).toNat (.bad k j) ∧ N 5 3 = k ∧ N 5 4 = M 51 j)
theorem pq_lN_z {M N : pz_M} {n : Int} (h : pq_lN M N n) (hT : pq_T3 M N) (t : N 5 6 = 101) : pq_lg M N 1 := by
  obtain ⟨a, ls, b, c, d⟩ := h
  have tj := pq_cu_T a.1 hT.1
  have := c _ (.z (by omega))
  have e : (pz_lres.ok []).pre ls = .ok ls := by
    show pz_lres.ok (ls ++ []) = _
    rw [List.append_nil]
  rw [e] at this
  exact Or.inl ⟨rfl, ls, this, d⟩
theorem pq_lN_w {M N N1 : pz_M} {n k : Int} (h : pq_lN M N n) (hT : pq_T3 M N) (t : (N 5 6 ≠ 101 ∧ ¬ (0 ≤ N 5 6 ∧ N 5 6 ≤ 3) ∧ k = 1) ∨ (0 ≤ N 5 6 ∧ N 5 6 ≤ 3 ∧ n = 16 ∧ k = 3)) (w : pq_wr N N1 k) : pq_lg M N1 0 := by
  obtain ⟨a, ls, b, c, d⟩ := h
  have tj := pq_cu_T a.1 hT.1
  have hb := pq_cu_b a.1
  rcases t with ⟨t1, t2, rfl⟩ | ⟨t1, t2, t3, rfl⟩
  · exact Or.inr ⟨rfl, 1, _, c _ (.w (by omega) (by omega)), w.1, by rw [w.2 (by omega) (by omega), hT.2.2]⟩
  · exact Or.inr ⟨rfl, 3, _, c _ (.m (by omega) (by omega)), w.1, by rw [w.2 (by omega) (by omega), hT.2.2]⟩
/-- a line's E is wrong -/
theorem pq_lN_sb {M N N1 N2 : pz_M} {n v : Int} (h : pq_lN M N n) (hT : pq_T3 M N) (hT1 : pq_T3 M N1) (t : 0 ≤ N 5 6 ∧ N 5 6 ≤ 3) (hn : n < 16) (x : pq_nx N N1) (s : pq_cg 3 0 N1 N2 v) (hv : v = 0) : pq_lg M N2 0 := by
  obtain ⟨a, ls, b, c, d⟩ := h
  have tj := pq_cu_T a.1 hT.1
  have e1 := pq_cu_1 a.1 x.2.1
  rcases s with ⟨q, -⟩ | ⟨-, k, j, q, q1, q2⟩
  · omega
  · rw [hT1.1, hT1.2.1, e1] at q
    rw [hT1.2.2] at q2
    exact Or.inr ⟨rfl, k, j, c _ (.sb (by omega) (by omega) q), q1, q2⟩
/-- its B is -/
theorem pq_lN_wb {M N N1 N2 N3 N4 : pz_M} {n v v2 : Int} {d9 : Nat} (h : pq_lN M N n) (hT : pq_T3 M N) (hT1 : pq_T3 M N1) (t : 0 ≤ N 5 6 ∧ N 5 6 ≤ 3) (hn : n < 16) (x : pq_nx N N1) (s : pq_cg 3 0 N1 N2 v) (hv : ¬ v = 0) (hT2 : pq_T3 M N2) (t2 : N2 5 6 = 4) (x2 : pq_nx N2 N3) (hT3 : pq_T3 M N3) (s2 : pq_cg 8 d9 N3 N4 v2) (hd : d9 = 0) (hv2 : v2 = 0) : pq_lg M N4 0 := by
  subst hd
  obtain ⟨a, ls, b, c, d⟩ := h
  have tj := pq_cu_T a.1 hT.1
  have e1 := pq_cu_1 a.1 x.2.1
  rcases s with ⟨-, j, o, q, q1, q2, q3⟩ | ⟨q, -⟩
  · have tj2 := pq_cu_T q2 hT2.1
    have e2 := pq_cu_1 q2 x2.2.1
    have ej : (N2 5 5).toNat = j := by omega
    rw [ej] at tj2 e2
    rw [hT1.1, hT1.2.1, e1] at q
    rcases s2 with ⟨f, -⟩ | ⟨-, k, l, f, g1, g2⟩
    · omega
    · rw [hT3.1, hT3.2.1, e2] at f
      rw [hT3.2.2] at g2
      exact Or.inr ⟨rfl, k, l, c _ (.wb (by omega) (by omega) q (by omega) f), g1, g2⟩
  · exact absurd q hv
theorem pq_pr.pl {M M' : pz_M} (h : pq_pr pq_Pp M M') : pq_pr pq_Pl M M' := ⟨h.1, fun b j q => h.2 b j (by unfold pq_Pl at q; unfold pq_Pp; omega)⟩
theorem pq_T3_pl {M N : pz_M} (h : pq_pr pq_Pl M N) : pq_T3 M N := ⟨funext fun j => h.2 49 j (by unfold pq_Pl; omega), funext fun j => h.2 50 j (by unfold pq_Pl; omega), funext fun j => h.2 51 j (by unfold pq_Pl; omega)⟩
/-- a line's E and B are told, behind them the place -/
def pq_lM (M N0 N : pz_M) (n x s m : Int) : Prop := pq_cq N ∧ ∃ (ls : List pz_lne) (o p : List (Int × Int)), (ls.length : Int) = n ∧ (pq_lc ls N0 ∧ pq_fs M N0) ∧ pq_cp (pz_fl (o ++ p)) N0 N ∧ s = N0 12 1 ∧ m = N0 12 1 + ((pz_fl o).length : Int) ∧ (M 49 (N 5 5).toNat ≠ 59 → pz_gl (M 49) (M 50) 0 (M 5 5).toNat (.bad 1 (N 5 5).toNat)) ∧ (M 49 (N 5 5).toNat = 59 → ∀ r, pz_gl (M 49) (M 50) (ls.length + 1) ((N 5 5).toNat + 1) r → pz_gl (M 49) (M 50) 0 (M 5 5).toNat (r.pre (ls ++ [(x, o, p)])))
theorem pq_nx_cp {L : List Int} {N N1 N2 : pz_M} (x : pq_nx N N1) (h : pq_cp L N1 N2) : pq_cp L N N2 := ⟨by rw [h.1, x.2.2.1], fun k hk => by rw [h.2.1 k (by have := x.2.2.1; omega), x.2.2.2.1], fun k hk => by rw [← x.2.2.1]; exact h.2.2.1 k hk, x.2.2.2.2.tr h.2.2.2⟩
theorem pq_lM_1 {M N0 N1 N2 : pz_M} {n v s m : Int} (h : pq_lN M N0 n) (hT : pq_T3 M N0) (hT1 : pq_T3 M N1) (t : 0 ≤ N0 5 6 ∧ N0 5 6 ≤ 3) (hn : n < 16) (x : pq_nx N0 N1) (c : pq_cg 3 0 N1 N2 v) (hv : ¬ v = 0) (hT2 : pq_T3 M N2) (t2 : N2 5 6 ≠ 4) (hs : s = N1 12 1) (hm : m = N2 12 1) : pq_lM M N0 N2 n (N0 5 6) s m := by
  obtain ⟨a, ls, b, f, d⟩ := h
  have tj := pq_cu_T a.1 hT.1
  have e1 := pq_cu_1 a.1 x.2.1
  have cq := pq_cg_cq (x.cq a) c hv
  have xs := x.2.2.1
  rcases c with ⟨-, j, o, q, q1, q2, q3⟩ | ⟨q, -⟩
  · have tj2 := pq_cu_T q2 hT2.1
    have k := q3.1
    have ej : (N2 5 5).toNat = j := by omega
    rw [hT1.1, hT1.2.1, e1] at q
    rw [ej] at tj2
    refine ⟨cq, ls, o, [], b, d, by rw [List.append_nil]; exact pq_nx_cp x q3, by omega, by omega, ?_, ?_⟩
    · rw [ej]
      exact fun y => f _ (.n1 (by omega) (by omega) q (by omega) y)
    · rw [ej]
      intro y r q9
      have := f _ (.s1 (by omega) (by omega) q y q9)
      rw [pz_lpre_pre, tj] at this
      exact this
  · exact absurd q hv
theorem pq_lM_2 {M N0 N1 N2 N3 N4 : pz_M} {n v v2 s m : Int} {d9 : Nat} (h : pq_lN M N0 n) (hT : pq_T3 M N0) (hT1 : pq_T3 M N1) (t : 0 ≤ N0 5 6 ∧ N0 5 6 ≤ 3) (hn : n < 16) (x : pq_nx N0 N1) (c : pq_cg 3 0 N1 N2 v) (hv : ¬ v = 0) (hT2 : pq_T3 M N2) (t2 : N2 5 6 = 4) (x2 : pq_nx N2 N3) (hT3 : pq_T3 M N3) (c2 : pq_cg 8 d9 N3 N4 v2) (hd : d9 = 0) (hv2 : ¬ v2 = 0) (hs : s = N1 12 1) (hm : m = N2 12 1) : pq_lM M N0 N4 n (N0 5 6) s m := by
  subst hd
  obtain ⟨a, ls, b, f, d⟩ := h
  have tj := pq_cu_T a.1 hT.1
  have e1 := pq_cu_1 a.1 x.2.1
  have cq1 := pq_cg_cq (x.cq a) c hv
  have cq := pq_cg_cq (x2.cq cq1) c2 hv2
  have xs := x.2.2.1
  rcases c with ⟨-, j, o, q, q1, q2, q3⟩ | ⟨q, -⟩
  · have tj2 := pq_cu_T q2 hT2.1
    have k := q3.1
    have e2 := pq_cu_1 q2 x2.2.1
    have ej : (N2 5 5).toNat = j := by omega
    rw [hT1.1, hT1.2.1, e1] at q
    rw [ej] at tj2 e2
    rcases c2 with ⟨-, l, p, g, g1, g2, g3⟩ | ⟨g, -⟩
    · have el : (N4 5 5).toNat = l := by omega
      rw [hT3.1, hT3.2.1, e2] at g
      have h0 := a.2.1
      refine ⟨cq, ls, o, p, b, d, by rw [pz_fl_app]; exact (pq_nx_cp x q3).tr h0 (pq_nx_cp x2 g3), by omega, by omega, ?_, ?_⟩
      · rw [el]
        exact fun y => f _ (.n2 (by omega) (by omega) q (by omega) g y)
      · rw [el]
        intro y r q9
        have := f _ (.s2 (by omega) (by omega) q (by omega) g y q9)
        rw [pz_lpre_pre, tj] at this
        exact this
    · exact absurd g hv2
  · exact absurd q hv
theorem pq_add_c {N N' : pz_M} {p q w : Int} (a : pq_add N N' p q w) (h : N 12 0 < 16) : pq_T3 N N' ∧ (∀ j, N' 5 j = N 5 j) ∧ N' 12 1 = N 12 1 ∧ (pq_cu N → pq_cu N') := by
  obtain ⟨-, -, -, -, -, -, f⟩ := a h
  have t : pq_T3 N N' := ⟨funext fun j => f 49 j (by omega) (by omega), funext fun j => f 50 j (by omega) (by omega), funext fun j => f 51 j (by omega) (by omega)⟩
  have u : ∀ j, N' 5 j = N 5 j := fun j => f 5 j (by omega) (by omega)
  refine ⟨t, u, f 12 1 (by omega) (by omega), fun c => ?_⟩
  unfold pq_cu
  rw [u, u, u, t.1, t.2.1]
  exact c
theorem pq_lM_n {M N0 N N' N2 : pz_M} {n x s m : Int} (h : pq_lM M N0 N n x s m) (hn : n < 16) (f : ∀ b j : Nat, (b = 12 ∧ j = 0) ∨ (39 ≤ b ∧ b ≤ 42) → N b j = N0 b j) (hT : pq_T3 M N) (a : pq_add N N' x s m) (t : N' 5 6 = 59) (y : pq_nx N' N2) (g : ∀ b j : Nat, b ≠ 5 → N2 b j = N' b j) : pq_lN M N2 (n + 1) := by
  obtain ⟨c, ls, o, p, b, d, e, hs, hm, -, k⟩ := h
  have n0 : N 12 0 < 16 := by rw [f 12 0 (Or.inl ⟨rfl, rfl⟩), d.1.1]; omega
  obtain ⟨t3, u, u2, u3⟩ := pq_add_c a n0
  have tj := pq_cu_T c.1 hT.1
  have l := pq_lc_add d.1 (by omega) f e hs hm a
  have cu' := u3 c.1
  have cc := c.2
  have e5 := u 5
  have e6 := u 6
  refine ⟨pq_nx.cq y ⟨cu', by omega, by omega⟩, ls ++ [(x, o, p)], by rw [List.length_append]; show ((ls.length + 1 : Nat) : Int) = n + 1; omega, fun r q => ?_, ?_, (d.2.tr (e.2.2.2.tr ⟨u 3, u 4⟩)).tr y.2.2.2.2⟩
  · rw [List.length_append, pq_cu_1 cu' y.2.1, e5] at q
    exact k (by omega) r q
  · obtain ⟨l1, l2, l3, l4⟩ := l
    refine ⟨by rw [g 12 0 (by omega)]; exact l1, by rw [g 12 1 (by omega)]; exact l2, fun z hz => by rw [g 43 z (by omega)]; exact l3 z hz, fun z hz => ?_⟩
    rw [g 39 z (by omega), g 40 z (by omega), g 41 z (by omega), g 42 z (by omega)]
    exact l4 z hz
theorem pq_lM_b {M N0 N N' N2 : pz_M} {n x s m : Int} (h : pq_lM M N0 N n x s m) (n0 : N 12 0 < 16) (hT : pq_T3 M N) (a : pq_add N N' x s m) (t : N' 5 6 ≠ 59) (w : pq_wr N' N2 1) : pq_lg M N2 0 := by
  obtain ⟨c, ls, o, p, b, d, e, hs, hm, k, -⟩ := h
  obtain ⟨t3, u, u2, u3⟩ := pq_add_c a n0
  have tj := pq_cu_T c.1 hT.1
  have hb := pq_cu_b c.1
  have e5 := u 5
  have e6 := u 6
  exact Or.inr ⟨rfl, 1, _, k (by omega), w.1, by rw [w.2 (by omega) (by omega), t3.2.2, hT.2.2, e5]⟩
theorem pq_la_5 {N N1 : pz_M} {i : Int} (l : (0 ≤ i ∧ i ≤ 400 ∧ N1 = pq_la N i) ∨ (¬ (0 ≤ i ∧ i ≤ 400) ∧ N1 = N)) : ∀ b j : Nat, b ≠ 5 → N1 b j = N b j := fun b j y => by
  rcases l with ⟨-, -, e⟩ | ⟨-, e⟩
  · rw [e]
    exact pq_la_o (by omega)
  · rw [e]
theorem pq_lN_n {M N : pz_M} {n : Int} (h : pq_lN M N n) : N 12 0 = n := by
  obtain ⟨-, ls, a, -, b⟩ := h
  rw [b.1.1]
  exact a
def pq_clr (M M' : pz_M) : Prop := M' 12 0 = 0 ∧ M' 12 1 = 0 ∧ ∀ b j : Nat, ¬ (b = 12 ∧ (j = 0 ∨ j = 1)) → M' b j = M b j
theorem pq_lN_0 {M N : pz_M} (c : pq_cu M) (q : pq_clr M N) : pq_lN M N 0 := by
  obtain ⟨a, b, f⟩ := q
  have u : ∀ j, N 5 j = M 5 j := fun j => f 5 j (by omega)
  have h0 := c.1
  refine ⟨⟨?_, by omega, by rw [u]; omega⟩, [], rfl, fun r q => ?_, ⟨by rw [a]; rfl, by rw [b]; rfl, fun k hk => absurd hk (Nat.not_lt_zero _), fun k hk => absurd hk (Nat.not_lt_zero _)⟩, u 3, u 4⟩
  · unfold pq_cu
    rw [u, u, u, show N 49 = M 49 from funext fun j => f 49 j (by omega), show N 50 = M 50 from funext fun j => f 50 j (by omega)]
    exact c
  · rw [u] at q
    rw [pz_lpre_nil]
    exact q
theorem pq_add_of {M M' : pz_M} {p q w : Int} (h0 : 0 ≤ M 12 0) (e : M' = pz_u (pz_u (pz_u (pz_u (pz_u M 39 (M 12 0).toNat p) 40 (M 12 0).toNat q) 41 (M 12 0).toNat w) 42 (M 12 0).toNat (M 12 1)) 12 0 (M 12 0 + 1)) : pq_add M M' p q w := by
  intro _
  refine ⟨by rw [e, pz_uu], ?_, ?_, ?_, ?_, fun b j h1 h2 h3 => ?_, fun b j h1 h2 => ?_⟩
  · rw [e, pz_una (by decide), pz_una (by decide), pz_una (by decide), pz_una (by decide), pz_uu]
  · rw [e, pz_una (by decide), pz_una (by decide), pz_una (by decide), pz_uu]
  · rw [e, pz_una (by decide), pz_una (by decide), pz_uu]
  · rw [e, pz_una (by decide), pz_uu]
  · rw [e, pz_una (by omega), pz_unk h3, pz_unk h3, pz_unk h3, pz_unk h3]
  · rw [e, pz_une h2, pz_una (by omega), pz_una (by omega), pz_una (by omega), pz_una (by omega)]
end
