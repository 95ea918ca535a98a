section
/-! the class' teller: what it writes, where it reads, what it has laid -/
def pq_Pp (b j : Nat) : Prop := (b = 5 ∧ 3 ≤ j ∧ j ≠ 8 ∧ j ≠ 9) ∨ (b = 12 ∧ j = 1) ∨ b = 43
def pq_Pl (b j : Nat) : Prop := (b = 5 ∧ 3 ≤ j ∧ j ≠ 8 ∧ j ≠ 9) ∨ b = 12 ∨ b = 19 ∨ b = 26 ∨ (39 ≤ b ∧ b ≤ 44)
def pq_Po (b j : Nat) : Prop := pq_Pp b j ∨ (b = 5 ∧ j = 9)
def pq_pr (P : Nat → Nat → Prop) (M M' : pz_M) : Prop := (pz_ic M → pz_ic M') ∧ ∀ b j : Nat, ¬ P b j → M' b j = M b j
theorem pq_pr.rf {P : Nat → Nat → Prop} {M : pz_M} : pq_pr P M M := ⟨id, fun _ _ _ => rfl⟩
theorem pq_pr.tr {P : Nat → Nat → Prop} {M M' M'' : pz_M} (h : pq_pr P M M') (h' : pq_pr P M' M'') : pq_pr P M M'' := ⟨fun q => h'.1 (h.1 q), fun b j q => (h'.2 b j q).trans (h.2 b j q)⟩
theorem pq_pr_u {P : Nat → Nat → Prop} {M M' : pz_M} {a k : Nat} {v : Int} (hs : pq_pr P M M') (hp : P a k) (h : pz_iok a k v) : pq_pr P M (pz_u M' a k v) := by
  refine ⟨fun q => pz_ic_u h (hs.1 q), fun b j hb => ?_⟩
  rcases pz_uv M' a k v b j with ⟨rfl, rfl, -⟩ | ⟨-, q1⟩
  · exact absurd hp hb
  · rw [q1]
    exact hs.2 b j hb
theorem pq_pr.po {M M' : pz_M} (h : pq_pr pq_Pp M M') : pq_pr pq_Po M M' := ⟨h.1, fun b j q => h.2 b j (fun z => q (Or.inl z))⟩
theorem pq_pr.pp {M M' : pz_M} (h : pq_pr pq_Po M M') (e : M' 5 9 = M 5 9) : pq_pr pq_Pp M M' := ⟨h.1, fun b j q => by
  by_cases z : b = 5 ∧ j = 9
  · rw [z.1, z.2]; exact e
  · exact h.2 b j (fun y => y.elim q z)⟩
theorem pq_pr.T {M M' : pz_M} (h : pq_pr pq_Po M M') : M' 49 = M 49 ∧ M' 50 = M 50 ∧ M' 51 = M 51 ∧ M' 5 8 = M 5 8 := ⟨funext fun j => h.2 49 j (by unfold pq_Po pq_Pp; first | decide | omega), funext fun j => h.2 50 j (by unfold pq_Po pq_Pp; first | decide | omega), funext fun j => h.2 51 j (by unfold pq_Po pq_Pp; first | decide | omega), h.2 5 8 (by unfold pq_Po pq_Pp; first | decide | omega)⟩
/-- it looks at token i -/
def pq_la (M : pz_M) (i : Int) : pz_M := pz_u (pz_u (pz_u M 5 5 i) 5 6 (M 49 i.toNat)) 5 7 (M 50 i.toNat)
theorem pq_la_o {M : pz_M} {i : Int} {b j : Nat} (h : ¬ (b = 5 ∧ 5 ≤ j ∧ j ≤ 7)) : pq_la M i b j = M b j := by
  unfold pq_la
  rw [pz_une (by first | decide | omega), pz_une (by first | decide | omega), pz_une (by first | decide | omega)]
def pq_cu (M : pz_M) : Prop := 0 ≤ M 5 5 ∧ M 5 6 = M 49 (M 5 5).toNat ∧ M 5 7 = M 50 (M 5 5).toNat ∧ ∃ c : Nat, c ≤ 400 ∧ M 5 5 ≤ c ∧ M 49 c = 101
def pq_cq (M : pz_M) : Prop := pq_cu M ∧ 0 ≤ M 12 1 ∧ M 12 1 ≤ M 5 5
theorem pq_cu_b {M : pz_M} (h : pq_cu M) : 0 ≤ M 5 5 ∧ M 5 5 ≤ 400 ∧ (M 5 6 ≠ 101 → M 5 5 ≤ 399) := by
  obtain ⟨h0, h1, h2, c, h3, h4, h5⟩ := h
  refine ⟨h0, by omega, fun q => ?_⟩
  by_cases z : (M 5 5).toNat = c
  · rw [z, h5] at h1
    omega
  · omega
theorem pq_cu_la {M M' : pz_M} {i : Int} (h : pq_cu M) (ht : M 5 6 ≠ 101) (hi : i = M 5 5 + 1) (e : (0 ≤ i ∧ i ≤ 400 ∧ M' = pq_la M i) ∨ (¬ (0 ≤ i ∧ i ≤ 400) ∧ M' = M)) : pq_cu M' ∧ M' 5 5 = M 5 5 + 1 ∧ M' 12 1 = M 12 1 ∧ M' 43 = M 43 ∧ M' 5 3 = M 5 3 ∧ M' 5 4 = M 5 4 := by
  have b := pq_cu_b h
  obtain ⟨h0, h1, h2, c, h3, h4, h5⟩ := h
  rcases e with ⟨a1, a2, a3⟩ | ⟨a1, -⟩
  · have e5 : M' 5 5 = M 5 5 + 1 := by
      rw [a3, ← hi]
      unfold pq_la
      rw [pz_une (by first | decide | omega), pz_une (by first | decide | omega), pz_uu]
    have e49 : M' 49 = M 49 := funext fun j => by rw [a3]; exact pq_la_o (by first | decide | omega)
    have e50 : M' 50 = M 50 := funext fun j => by rw [a3]; exact pq_la_o (by first | decide | omega)
    refine ⟨⟨by omega, ?_, ?_, c, h3, ?_, by rw [e49]; exact h5⟩, e5, by rw [a3]; exact pq_la_o (by first | decide | omega), funext fun j => by rw [a3]; exact pq_la_o (by first | decide | omega), by rw [a3]; exact pq_la_o (by first | decide | omega), by rw [a3]; exact pq_la_o (by first | decide | omega)⟩
    · rw [e49, e5, ← hi, a3]
      unfold pq_la
      rw [pz_une (by first | decide | omega), pz_uu]
    · rw [e50, e5, ← hi, a3]
      unfold pq_la
      rw [pz_uu]
    · by_cases z : (M 5 5).toNat = c
      · rw [z, h5] at h1
        omega
      · omega
  · omega
def pq_fs (M N : pz_M) : Prop := N 5 3 = M 5 3 ∧ N 5 4 = M 5 4
theorem pq_fs.tr {M N K : pz_M} (h : pq_fs M N) (h' : pq_fs N K) : pq_fs M K := ⟨h'.1.trans h.1, h'.2.trans h.2⟩
/-- L was laid behind what lay there -/
def pq_cp (L : List Int) (M M' : pz_M) : Prop := M' 12 1 = M 12 1 + (L.length : Int) ∧ (∀ k : Nat, (k : Int) < M 12 1 → M' 43 k = M 43 k) ∧ (∀ k : Nat, k < L.length → M' 43 ((M 12 1).toNat + k) = L.getD k 0) ∧ pq_fs M M'
theorem pq_cp_0 {M M' : pz_M} (h : M' 12 1 = M 12 1) (h2 : M' 43 = M 43) (h3 : pq_fs M M') : pq_cp [] M M' := ⟨by rw [h]; exact (Int.add_zero _).symm, fun k _ => by rw [h2], fun k hk => absurd hk (Nat.not_lt_zero _), h3⟩
theorem pq_cp.tr {L L' : List Int} {M M1 M2 : pz_M} (h0 : 0 ≤ M 12 1) (h : pq_cp L M M1) (h' : pq_cp L' M1 M2) : pq_cp (L ++ L') M M2 := by
  obtain ⟨a1, a2, a3, a4⟩ := h
  obtain ⟨b1, b2, b3, b4⟩ := h'
  refine ⟨by rw [b1, a1, List.length_append]; omega, fun k hk => (b2 k (by first | decide | omega)).trans (a2 k hk), fun k hk => ?_, a4.tr b4⟩
  rw [List.length_append] at hk
  by_cases q : k < L.length
  · rw [b2 _ (by first | decide | omega), a3 k q, List.getD_eq_getElem?_getD, List.getD_eq_getElem?_getD, List.getElem?_append_left q]
  · rw [List.getD_eq_getElem?_getD, List.getElem?_append_right (by first | decide | omega), ← List.getD_eq_getElem?_getD, ← b3 (k - L.length) (by first | decide | omega)]
    congr 1
    omega
theorem pq_cp_put {M M' : pz_M} {x : Int} (h0 : 0 ≤ M 12 1) (e : M' = pz_u (pz_u M 43 (M 12 1).toNat x) 12 1 (M 12 1 + 1)) : pq_cp [x] M M' := by
  refine ⟨by rw [e, pz_uu]; rfl, fun k hk => ?_, fun k hk => ?_, by rw [e, pz_una (by decide), pz_una (by decide)], by rw [e, pz_una (by decide), pz_una (by decide)]⟩
  · rw [e, pz_une (by first | decide | omega), pz_une (by first | decide | omega)]
  · have hk : k = 0 := by
      have : k < 1 := hk
      omega
    subst hk
    rw [e, pz_une (by first | decide | omega)]
    exact pz_uu
theorem pq_cp.la {L : List Int} {M M1 M2 : pz_M} (h : pq_cp L M M1) (e1 : M2 12 1 = M1 12 1) (e2 : M2 43 = M1 43) (e3 : pq_fs M1 M2) : pq_cp L M M2 := ⟨by rw [e1]; exact h.1, fun k hk => by rw [e2]; exact h.2.1 k hk, fun k hk => by rw [e2]; exact h.2.2.1 k hk, h.2.2.2.tr e3⟩
/-- what a method of that kind has found -/
def pq_cg (K d : Nat) (M M' : pz_M) (v : Int) : Prop := (v = 1 ∧ ∃ (j : Nat) (o : List (Int × Int)), pz_gr (M 49) (M 50) K d (M 5 5).toNat (.ok j o) ∧ M' 5 5 = (j : Int) ∧ pq_cu M' ∧ pq_cp (pz_fl o) M M') ∨ (v = 0 ∧ ∃ (k : Int) (j : Nat), pz_gr (M 49) (M 50) K d (M 5 5).toNat (.bad k j) ∧ M' 5 3 = k ∧ M' 5 4 = M 51 j)
def pq_cgu (M M' : pz_M) (v : Int) : Prop := (v = 1 ∧ ∃ o : List (Int × Int), pz_uf (M 49) (M 50) (M 5 5).toNat = .ok ((M 5 5).toNat + 1) o ∧ M' 5 5 = M 5 5 + 1 ∧ pq_cu M' ∧ pq_cp (pz_fl o) M M') ∨ (v = 0 ∧ pz_uf (M 49) (M 50) (M 5 5).toNat = .bad 1 (M 5 5).toNat ∧ M' 5 3 = 1 ∧ M' 5 4 = M 51 (M 5 5).toNat)
/-- what waits -/
def pq_wl (w : Int) : List (Int × Int) := if w = 0 then [] else [(pz_op w, 0)]
def pq_kA (T X : Nat → Int) (i0 : Nat) (w : Int) (j : Nat) (o : List (Int × Int)) : Prop := (w = 0 ∨ w = 43 ∨ w = 45) ∧ (∀ k l, pz_gr T X 1 0 j (.bad k l) → pz_gr T X 3 0 i0 (.bad k l)) ∧ ∀ l o' r, pz_gr T X 1 0 j (.ok l o') → pz_gr T X 2 0 l r → pz_gr T X 3 0 i0 (r.app (o ++ o' ++ pq_wl w))
def pq_kB (T X : Nat → Int) (i0 : Nat) (w : Int) (j : Nat) (o : List (Int × Int)) : Prop := (w = 0 ∨ w = 43 ∨ w = 45) ∧ (∀ k l, pz_gr T X 0 0 j (.bad k l) → pz_gr T X 3 0 i0 (.bad k l)) ∧ ∀ l o' r, pz_gr T X 0 0 j (.ok l o') → pz_gr T X 2 0 l r → pz_gr T X 3 0 i0 (r.app (o ++ o' ++ pq_wl w))
def pq_kC (T X : Nat → Int) (i0 : Nat) (w : Int) (j : Nat) (o : List (Int × Int)) : Prop := (w = 0 ∨ w = 43 ∨ w = 45) ∧ ∀ r, pz_gr T X 2 0 j r → pz_gr T X 3 0 i0 (r.app (o ++ pq_wl w))
theorem pq_kA_0 {T X : Nat → Int} {i : Nat} : pq_kA T X i 0 i [] := ⟨Or.inl rfl, fun k l h => .smb h, fun l o' r h h' => by
  rw [List.nil_append, show pq_wl 0 = [] from rfl, List.append_nil]
  exact .sms h h'⟩
theorem pq_kA_u {T X : Nat → Int} {i j l : Nat} {w : Int} {o o' : List (Int × Int)} (h : pq_kA T X i w j o) (u : pz_uf T X j = .ok l o') : pq_kB T X i w l (o ++ o') := ⟨h.1, fun k l' q => h.2.1 k l' (.pdu u q), fun l' o2 r q q' => by
  have := h.2.2 l' (o' ++ o2) r (.pdu u q) q'
  rw [List.append_assoc o o' o2]
  exact this⟩
theorem pq_kB_m {T X : Nat → Int} {i j l : Nat} {w : Int} {o o' : List (Int × Int)} (h : pq_kB T X i w j o) (t : T j = 42) (u : pz_uf T X (j + 1) = .ok l o') : pq_kB T X i w l (o ++ (o' ++ [(25, 0)])) := ⟨h.1, fun k l' q => h.2.1 k l' (.ptm t u q), fun l' o2 r q q' => by
  have := h.2.2 l' ((o' ++ [(25, 0)]) ++ o2) r (.ptm t u q) q'
  rw [List.append_assoc o (o' ++ [(25, 0)]) o2]
  exact this⟩
theorem pq_kB_d {T X : Nat → Int} {i j : Nat} {w : Int} {o : List (Int × Int)} (h : pq_kB T X i w j o) (t : T j = 47) (t2 : T (j + 1) = 100) (x : X (j + 1) ≠ 0) : pq_kB T X i w (j + 2) (o ++ [(26, X (j + 1))]) := ⟨h.1, fun k l' q => h.2.1 k l' (.ptd t t2 x q), fun l' o2 r q q' => by
  have := h.2.2 l' ([(26, X (j + 1))] ++ o2) r (.ptd t t2 x q) q'
  rw [List.append_assoc o [(26, X (j + 1))] o2]
  exact this⟩
theorem pq_kB_0 {T X : Nat → Int} {i j : Nat} {w : Int} {o : List (Int × Int)} (h : pq_kB T X i w j o) (t : T j ≠ 42) (t2 : T j ≠ 47) : pq_kC T X i w j o := ⟨h.1, fun r q => by
  have := h.2.2 j [] r (.pt0 t t2) q
  rw [List.append_nil] at this
  exact this⟩
theorem pq_kC_s {T X : Nat → Int} {i j : Nat} {w : Int} {o : List (Int × Int)} (h : pq_kC T X i w j o) (t : T j = 43 ∨ T j = 45) : pq_kA T X i (T j) (j + 1) (o ++ pq_wl w) := ⟨Or.inr t, fun k l q => h.2 _ (.stb t q), fun l o' r q q' => by
  have := h.2 _ (.sts t q q')
  rw [pz_app_app] at this
  rw [List.append_assoc (o ++ pq_wl w) o' (pq_wl (T j)), show pq_wl (T j) = [(pz_op (T j), 0)] from if_neg (by first | decide | omega)]
  exact this⟩
theorem pq_kC_e {T X : Nat → Int} {i j : Nat} {w : Int} {o : List (Int × Int)} (h : pq_kC T X i w j o) (t : T j ≠ 43) (t2 : T j ≠ 45) : pz_gr T X 3 0 i (.ok j (o ++ pq_wl w)) := by
  have := h.2 _ (.st0 t t2)
  have e : (pz_res.ok j []).app (o ++ pq_wl w) = .ok j (o ++ pq_wl w) := by
    show pz_res.ok j ((o ++ pq_wl w) ++ []) = _
    rw [List.append_nil]
  rw [e] at this
  exact this
/-- the states of a sum that is read -/
def pq_sA (M N : pz_M) (w : Int) : Prop := pq_cu N ∧ ((w = 0 ∧ N 12 1 ≤ N 5 5) ∨ (w ≠ 0 ∧ N 12 1 + 1 ≤ N 5 5)) ∧ 0 ≤ N 12 1 ∧ ∃ o, pq_kA (M 49) (M 50) (M 5 5).toNat w (N 5 5).toNat o ∧ pq_cp (pz_fl o) M N
def pq_sB (M N : pz_M) (w : Int) : Prop := pq_cu N ∧ ((w = 0 ∧ N 12 1 ≤ N 5 5) ∨ (w ≠ 0 ∧ N 12 1 + 1 ≤ N 5 5)) ∧ 0 ≤ N 12 1 ∧ ∃ o, pq_kB (M 49) (M 50) (M 5 5).toNat w (N 5 5).toNat o ∧ pq_cp (pz_fl o) M N
def pq_sC (M N : pz_M) (w : Int) : Prop := pq_cu N ∧ ((w = 0 ∧ N 12 1 ≤ N 5 5) ∨ (w ≠ 0 ∧ N 12 1 + 1 ≤ N 5 5)) ∧ 0 ≤ N 12 1 ∧ ∃ o, pq_kC (M 49) (M 50) (M 5 5).toNat w (N 5 5).toNat o ∧ pq_cp (pz_fl o) M N
def pq_sD (M N : pz_M) (w : Int) : Prop := pq_cu N ∧ N 12 1 ≤ N 5 5 ∧ 0 ≤ N 12 1 ∧ ∃ o o', (w = 0 ∨ w = 43 ∨ w = 45) ∧ o' = o ++ pq_wl w ∧ pq_kC (M 49) (M 50) (M 5 5).toNat w (N 5 5).toNat o ∧ pq_cp (pz_fl o') M N
theorem pq_cq.cq {M : pz_M} (h : pq_cu M) (h2 : 0 ≤ M 12 1) (h3 : M 12 1 ≤ M 5 5) : pq_cq M := ⟨h, h2, h3⟩
theorem pq_sA_0 {M : pz_M} (h : pq_cq M) : pq_sA M M 0 := ⟨h.1, Or.inl ⟨rfl, h.2.2⟩, h.2.1, [], pq_kA_0, pq_cp_0 rfl rfl ⟨rfl, rfl⟩⟩
theorem pq_uf_len {T X : Nat → Int} {i j : Nat} {o : List (Int × Int)} (h : pz_uf T X i = .ok j o) : (pz_fl o).length = 1 := by
  unfold pz_uf at h
  split at h
  · cases h; rfl
  · split at h
    · cases h
      rw [pz_fl_one]
      unfold pz_fl1
      rw [if_neg (by first | decide | omega), if_pos (by first | decide | omega)]
      rfl
    · cases h
theorem pq_sA_u {M N N1 : pz_M} {w v : Int} (h : pq_sA M N w) (hT : N 49 = M 49 ∧ N 50 = M 50) (h0 : 0 ≤ M 12 1) (s : pq_cgu N N1 v) (hv : ¬ v = 0) : pq_sB M N1 w := by
  obtain ⟨a1, a2, a3, o, a4, a5⟩ := h
  rcases s with ⟨-, o', b1, b2, b3, b4⟩ | ⟨s, -⟩
  · rw [hT.1, hT.2] at b1
    have l := pq_uf_len b1
    have l2 := b4.1
    refine ⟨b3, by omega, by omega, o ++ o', ?_, by rw [pz_fl_app]; exact a5.tr h0 b4⟩
    rw [show (N1 5 5).toNat = (N 5 5).toNat + 1 by have := a1.1; omega]
    exact pq_kA_u a4 b1
  · exact absurd s hv
theorem pq_sA_b {M N N1 : pz_M} {w v : Int} (h : pq_sA M N w) (hT : N 49 = M 49 ∧ N 50 = M 50 ∧ N 51 = M 51) (s : pq_cgu N N1 v) (hv : v = 0) : pq_cg 3 0 M N1 0 := by
  obtain ⟨a1, a2, a3, o, a4, a5⟩ := h
  rcases s with ⟨s, -⟩ | ⟨-, b1, b2, b3⟩
  · omega
  · rw [hT.1, hT.2.1] at b1
    exact Or.inr ⟨rfl, 1, _, a4.2.1 _ _ (.pdb b1), b2, by rw [b3, hT.2.2]⟩
def pq_put (N N' : pz_M) (x : Int) : Prop := (N 12 1 < 400 ∧ N' = pz_u (pz_u N 43 (N 12 1).toNat x) 12 1 (N 12 1 + 1)) ∨ (¬ N 12 1 < 400 ∧ N' = N)
theorem pq_put_s {N N' : pz_M} {x : Int} (h : pq_put N N' x) (h0 : 0 ≤ N 12 1) (h1 : N 12 1 < 400) (c : pq_cu N) : pq_cu N' ∧ N' 5 5 = N 5 5 ∧ N' 12 1 = N 12 1 + 1 ∧ pq_cp [x] N N' := by
  rcases h with ⟨-, e⟩ | ⟨e, -⟩
  · have u : ∀ b j, b ≠ 43 → b ≠ 12 → N' b j = N b j := fun b j y y2 => by rw [e, pz_una y2, pz_una y]
    have u5 : ∀ j, N' 5 j = N 5 j := fun j => u 5 j (by first | decide | omega) (by first | decide | omega)
    refine ⟨?_, u5 5, by rw [e, pz_uu], pq_cp_put h0 e⟩
    obtain ⟨y1, y2, y3, y4⟩ := c
    unfold pq_cu
    rw [u5, u5, u5, show N' 49 = N 49 from funext fun j => u 49 j (by first | decide | omega) (by first | decide | omega), show N' 50 = N 50 from funext fun j => u 50 j (by first | decide | omega) (by first | decide | omega)]
    exact ⟨y1, y2, y3, y4⟩
  · exact absurd h1 e
/-- what a wrong place leaves -/
def pq_wr (N N' : pz_M) (f : Int) : Prop := N' 5 3 = f ∧ (0 ≤ N 5 5 → N 5 5 ≤ 400 → N' 5 4 = N 51 (N 5 5).toNat)
theorem pq_cg_w {K d j : Nat} {M N N' : pz_M} {k : Int} (h : pq_wr N N' k) (c : pq_cu N) (hT : N 51 = M 51) (hj : (N 5 5).toNat = j) (g : pz_gr (M 49) (M 50) K d (M 5 5).toNat (.bad k j)) : pq_cg K d M N' 0 := by
  have b := pq_cu_b c
  exact Or.inr ⟨rfl, k, j, g, h.1, by rw [h.2 (by first | decide | omega) (by first | decide | omega), hT, hj]⟩
theorem pq_cu_1 {N N1 : pz_M} (c : pq_cu N) (e : N1 5 5 = N 5 5 + 1) : (N1 5 5).toNat = (N 5 5).toNat + 1 := by
  have := c.1
  omega
theorem pq_cu_T {M N : pz_M} (c : pq_cu N) (hT : N 49 = M 49) : M 49 (N 5 5).toNat = N 5 6 := by rw [← hT]; exact c.2.1.symm
theorem pq_cu_X {M N : pz_M} (c : pq_cu N) (hT : N 50 = M 50) : M 50 (N 5 5).toNat = N 5 7 := by rw [← hT]; exact c.2.2.1.symm
def pq_T3 (M N : pz_M) : Prop := N 49 = M 49 ∧ N 50 = M 50 ∧ N 51 = M 51
def pq_nx (N N1 : pz_M) : Prop := pq_cu N1 ∧ N1 5 5 = N 5 5 + 1 ∧ N1 12 1 = N 12 1 ∧ N1 43 = N 43 ∧ pq_fs N N1
/-- behind * or / a unit is wrong, or is none -/
theorem pq_sB_u {M N N1 N2 : pz_M} {w v : Int} (h : pq_sB M N w) (hT : pq_T3 M N) (hT1 : pq_T3 M N1) (t : N 5 6 = 42 ∨ (N 5 6 = 47 ∧ N1 5 6 = 100 ∧ N1 5 7 ≠ 0)) (c1 : pq_nx N N1) (s : pq_cgu N1 N2 v) (hv : v = 0) : pq_cg 3 0 M N2 0 := by
  obtain ⟨a1, a2, a3, o, a4, a5⟩ := h
  obtain ⟨d1, d2, d3, d4, d5⟩ := c1
  rcases s with ⟨s, -⟩ | ⟨-, b1, b2, b3⟩
  · omega
  · rw [hT1.1, hT1.2.1] at b1
    have tj := pq_cu_T a1 hT.1
    have e := pq_cu_1 a1 d2
    rcases t with t | ⟨t, t2, -⟩
    · rw [e] at b1 b3
      exact Or.inr ⟨rfl, 1, _, a4.2.1 _ _ (.ptmb (by rw [tj, t]) b1), b2, by rw [b3, hT1.2.2]⟩
    · have tj1 := pq_cu_T d1 hT1.1
      unfold pz_uf at b1
      rw [if_pos (by rw [tj1, t2])] at b1
      cases b1
theorem pq_sB_w {M N N1 N2 : pz_M} {w k : Int} (h : pq_sB M N w) (hT : pq_T3 M N) (hT1 : pq_T3 M N1) (t : N 5 6 = 47) (t2 : (N1 5 6 ≠ 100 ∧ k = 1) ∨ (N1 5 6 = 100 ∧ N1 5 7 = 0 ∧ k = 2)) (c1 : pq_nx N N1) (s : pq_wr N1 N2 k) : pq_cg 3 0 M N2 0 := by
  obtain ⟨a1, a2, a3, o, a4, a5⟩ := h
  obtain ⟨d1, d2, d3, d4, d5⟩ := c1
  have tj := pq_cu_T a1 hT.1
  have tj1 := pq_cu_T d1 hT1.1
  have xj1 := pq_cu_X d1 hT1.2.1
  have e := pq_cu_1 a1 d2
  rw [e] at tj1 xj1
  rcases t2 with ⟨y, rfl⟩ | ⟨y, y2, rfl⟩
  · exact pq_cg_w s d1 hT1.2.2 e (a4.2.1 _ _ (.ptn (by rw [tj, t]) (by rw [tj1]; exact y)))
  · exact pq_cg_w s d1 hT1.2.2 e (a4.2.1 _ _ (.ptz (by rw [tj, t]) (by rw [tj1, y]) (by rw [xj1, y2])))
theorem pq_sB_x {M N N1 N2 N3 : pz_M} {w v x : Int} (h : pq_sB M N w) (hT : pq_T3 M N) (hT1 : pq_T3 M N1) (h0 : 0 ≤ M 12 1) (t : (N 5 6 = 42 ∧ x = -43) ∨ (N 5 6 = 47 ∧ x = -48 ∧ N1 5 6 = 100 ∧ N1 5 7 ≠ 0)) (c1 : pq_nx N N1) (s : pq_cgu N1 N2 v) (hv : ¬ v = 0) (e : pq_put N2 N3 x) : pq_sB M N3 w ∧ N3 5 5 = N 5 5 + 2 := by
  obtain ⟨a1, a2, a3, o, a4, a5⟩ := h
  obtain ⟨d1, d2, d3, d4, d5⟩ := c1
  rcases s with ⟨-, o', b1, b2, b3, b4⟩ | ⟨s, -⟩
  · rw [hT1.1, hT1.2.1] at b1
    have l := pq_uf_len b1
    have l2 := b4.1
    have hb := pq_cu_b b3
    obtain ⟨f1, f2, f3, f4⟩ := pq_put_s e (by first | decide | omega) (by first | decide | omega) b3
    have tj := pq_cu_T a1 hT.1
    have e1 := pq_cu_1 a1 d2
    have b5 : pq_cp (pz_fl o') N N2 := ⟨by rw [b4.1, d3], fun k hk => by rw [b4.2.1 k (by first | decide | omega), d4], fun k hk => by rw [← d3]; exact b4.2.2.1 k hk, d5.tr b4.2.2.2⟩
    have q := (a5.tr h0 b5).tr h0 f4
    refine ⟨⟨f1, by omega, by omega, ?_⟩, by omega⟩
    have ej : (N3 5 5).toNat = (N 5 5).toNat + 1 + 1 := by have := a1.1; omega
    rw [ej]
    rw [e1] at b1
    rcases t with ⟨t, rfl⟩ | ⟨t, rfl, t2, t3⟩
    · refine ⟨_, pq_kB_m a4 (by rw [tj, t]) b1, ?_⟩
      rw [pz_fl_app, pz_fl_app, ← List.append_assoc]
      exact q
    · have tj1 := pq_cu_T d1 hT1.1
      have xj1 := pq_cu_X d1 hT1.2.1
      rw [e1] at tj1 xj1
      refine ⟨_, pq_kB_d a4 (by rw [tj, t]) (by rw [tj1, t2]) (by rw [xj1]; exact t3), ?_⟩
      unfold pz_uf at b1
      rw [if_pos (by rw [tj1, t2])] at b1
      cases b1
      rw [pz_fl_app]
      rw [List.append_assoc] at q
      exact q
  · exact absurd s hv
theorem pq_sB_0 {M N : pz_M} {w : Int} (h : pq_sB M N w) (hT : pq_T3 M N) (t : N 5 6 ≠ 42 ∧ N 5 6 ≠ 47) : pq_sC M N w := by
  obtain ⟨a1, a2, a3, o, a4, a5⟩ := h
  have tj := pq_cu_T a1 hT.1
  exact ⟨a1, a2, a3, o, pq_kB_0 a4 (by rw [tj]; exact t.1) (by rw [tj]; exact t.2), a5⟩
theorem pq_sC_0 {M N : pz_M} (h : pq_sC M N 0) : pq_sD M N 0 := by
  obtain ⟨a1, a2, a3, o, a4, a5⟩ := h
  exact ⟨a1, by omega, a3, o, o, a4.1, by rw [show pq_wl 0 = [] from rfl, List.append_nil], a4, a5⟩
theorem pq_sC_p {M N N1 : pz_M} {w x : Int} (h : pq_sC M N w) (h0 : 0 ≤ M 12 1) (hw : ¬ w = 0) (hx : x = -w - 1) (e : pq_put N N1 x) : pq_sD M N1 w := by
  obtain ⟨a1, a2, a3, o, a4, a5⟩ := h
  have hb := pq_cu_b a1
  obtain ⟨f1, f2, f3, f4⟩ := pq_put_s e a3 (by first | decide | omega) a1
  refine ⟨f1, by omega, by omega, o, o ++ pq_wl w, a4.1, rfl, by rw [f2]; exact a4, ?_⟩
  have g : pz_fl (pq_wl w) = [x] := by
    rw [hx]
    rcases a4.1 with rfl | rfl | rfl
    · exact absurd rfl hw
    · rfl
    · rfl
  rw [pz_fl_app, g]
  exact a5.tr h0 f4
theorem pq_sD_e {M N : pz_M} {w : Int} (h : pq_sD M N w) (hT : pq_T3 M N) (t : N 5 6 ≠ 43 ∧ N 5 6 ≠ 45) : pq_cg 3 0 M N 1 := by
  obtain ⟨a1, a2, a3, o, o', a9, a8, a4, a5⟩ := h
  have tj := pq_cu_T a1 hT.1
  have g := pq_kC_e a4 (by rw [tj]; exact t.1) (by rw [tj]; exact t.2)
  rw [← a8] at g
  exact Or.inl ⟨rfl, _, _, g, by have := a1.1; omega, a1, a5⟩
theorem pq_sD_n {M N N1 : pz_M} {w w' : Int} (h : pq_sD M N w) (hT : pq_T3 M N) (t : N 5 6 = 43 ∨ N 5 6 = 45) (c1 : pq_nx N N1) (hw : w' = N 5 6) : pq_sA M N1 w' := by
  obtain ⟨a1, a2, a3, o, o', a9, a8, a4, a5⟩ := h
  obtain ⟨d1, d2, d3, d4, d5⟩ := c1
  have tj := pq_cu_T a1 hT.1
  have g := pq_kC_s a4 (by rw [tj]; exact t)
  rw [← a8, tj, ← hw] at g
  refine ⟨d1, by omega, by omega, o', ?_, a5.la d3 d4 d5⟩
  rw [pq_cu_1 a1 d2]
  exact g
theorem pz_not {x : Int} (h1 : -2147483648 ≤ x) (h2 : x ≤ 2147483647) : (Int32.ofInt x ^^^ Int32.ofInt (-1)).toInt = -x - 1 := by
  have e : Int32.ofInt x ^^^ Int32.ofInt (-1) = ~~~ (Int32.ofInt x) := by
    apply Int32.toBitVec_inj.mp
    show (Int32.ofInt x).toBitVec ^^^ (BitVec.allOnes 32) = ~~~ (Int32.ofInt x).toBitVec
    rw [BitVec.xor_allOnes]
  have e2 : Int32.ofInt x = Int32.ofInt x := rfl
  rw [e]
  have e3 : ~~~ (Int32.ofInt x) = Int32.ofInt (-x - 1) := by
    rw [Int32.not_eq_neg_sub, Int32.ofInt_sub, Int32.ofInt_neg]
    rfl
  rw [e3]
  exact Int32.toInt_ofInt_of_le (by first | decide | omega) (by first | decide | omega)
theorem pq_T3_of {M N : pz_M} (h : pq_pr pq_Pp M N) : pq_T3 M N := ⟨h.po.T.1, h.po.T.2.1, h.po.T.2.2.1⟩
theorem pq_T3_po {M N : pz_M} (h : pq_pr pq_Po M N) : pq_T3 M N := ⟨h.T.1, h.T.2.1, h.T.2.2.1⟩
theorem pq_sA.cq {M N : pz_M} {w : Int} (h : pq_sA M N w) : pq_cq N := ⟨h.1, h.2.2.1, by have := h.2.1; omega⟩
theorem pq_sB.cq {M N : pz_M} {w : Int} (h : pq_sB M N w) : pq_cq N := ⟨h.1, h.2.2.1, by have := h.2.1; omega⟩
theorem pq_sC.cq {M N : pz_M} {w : Int} (h : pq_sC M N w) : pq_cq N := ⟨h.1, h.2.2.1, by have := h.2.1; omega⟩
theorem pq_sC_w {M N : pz_M} {w : Int} (h : pq_sC M N w) : w = 0 ∨ w = 43 ∨ w = 45 := by
  obtain ⟨-, -, -, o, h, -⟩ := h
  exact h.1
theorem pq_nx.cq {N N1 : pz_M} (h : pq_nx N N1) (c : pq_cq N) : pq_cq N1 := by
  obtain ⟨a, b, d, -⟩ := h
  have c2 := c.2
  exact ⟨a, by omega, by omega⟩
theorem pq_cgu_1 {N N1 : pz_M} {v : Int} (h : pq_cgu N N1 v) (hv : ¬ v = 0) : N1 5 5 = N 5 5 + 1 := by
  rcases h with ⟨-, o, -, h, -⟩ | ⟨h, -⟩
  · exact h
  · exact absurd h hv
theorem pq_sC_0' {M N : pz_M} {w : Int} (h : pq_sC M N w) (hw : w = 0) : pq_sD M N w := by
  subst hw
  exact pq_sC_0 h
theorem pq_u_ok {M N N1 : pz_M} {x i : Int} {o : List (Int × Int)} (hq : pq_cq M) (e : pq_put M N x) (hu : pz_uf (M 49) (M 50) (M 5 5).toNat = .ok ((M 5 5).toNat + 1) o) (hx : pz_fl o = [x]) (ht : M 5 6 ≠ 101) (hi : i = N 5 5 + 1) (l : (0 ≤ i ∧ i ≤ 400 ∧ N1 = pq_la N i) ∨ (¬ (0 ≤ i ∧ i ≤ 400) ∧ N1 = N)) : pq_cgu M N1 1 := by
  have b := pq_cu_b hq.1
  have b2 := hq.2
  obtain ⟨f1, f2, f3, f4⟩ := pq_put_s e (by first | decide | omega) (by first | decide | omega) hq.1
  have ht2 : N 5 6 ≠ 101 := by
    rcases e with ⟨-, e⟩ | ⟨e, -⟩
    · rw [e, pz_una (by decide), pz_una (by decide)]
      exact ht
    · omega
  obtain ⟨g1, g2, g3, g4, g5⟩ := pq_cu_la f1 ht2 hi l
  refine Or.inl ⟨rfl, o, hu, by omega, g1, ?_⟩
  rw [hx]
  exact f4.la g3 g4 g5
theorem pq_u_bad {M N : pz_M} {v : Int} (hq : pq_cu M) (t : M 5 6 ≠ 100 ∧ ¬ (8 ≤ M 5 6 ∧ M 5 6 ≤ 16)) (w : v = 0 ∧ pq_wr M N 1) : pq_cgu M N v := by
  have b := pq_cu_b hq
  refine Or.inr ⟨w.1, ?_, w.2.1, w.2.2 (by first | decide | omega) (by first | decide | omega)⟩
  unfold pz_uf
  rw [if_neg (by rw [← hq.2.1]; exact t.1), if_neg (by rw [← hq.2.1]; exact t.2)]
theorem pq_u_n {M : pz_M} (hq : pq_cu M) (t : M 5 6 = 100) : pz_uf (M 49) (M 50) (M 5 5).toNat = .ok ((M 5 5).toNat + 1) [(0, M 5 7)] := by
  unfold pz_uf
  rw [if_pos (by rw [← hq.2.1]; exact t), hq.2.2.1]
theorem pq_u_w {M : pz_M} (hq : pq_cu M) (t : 8 ≤ M 5 6 ∧ M 5 6 ≤ 16) : pz_uf (M 49) (M 50) (M 5 5).toNat = .ok ((M 5 5).toNat + 1) [(M 5 6 - 7, 0)] := by
  unfold pz_uf
  rw [if_neg (by rw [← hq.2.1]; omega), if_pos (by rw [← hq.2.1]; exact t), hq.2.1]
theorem pq_u_wl {t x : Int} (h : 8 ≤ t ∧ t ≤ 16) (e : x = -t - 1) : pz_fl [(t - 7, 0)] = [x] := by
  rw [pz_fl_one]
  unfold pz_fl1
  rw [if_neg (by show ¬ t - 7 = 0; omega), if_pos (by show t - 7 < 10; omega)]
  show [-(t - 7 + 8)] = [x]
  rw [e]
  congr 1
  omega
/-- ( or not begins -/
def pq_op1 (M N : pz_M) : Prop := pq_T3 M N ∧ pq_nx M N ∧ N 5 9 = M 5 9 + 1
theorem pq_d9 {M N : pz_M} {w : Int} (e : N = pz_u M 5 9 w) : pq_T3 M N ∧ N 5 5 = M 5 5 ∧ N 12 1 = M 12 1 ∧ N 43 = M 43 ∧ N 5 3 = M 5 3 ∧ N 5 4 = M 5 4 ∧ N 5 6 = M 5 6 ∧ (pq_cu M → pq_cu N) := by
  have u : ∀ b j, ¬ (b = 5 ∧ j = 9) → N b j = M b j := fun b j q => by rw [e]; exact pz_une q
  have t : pq_T3 M N := ⟨funext fun j => u 49 j (by first | decide | omega), funext fun j => u 50 j (by first | decide | omega), funext fun j => u 51 j (by first | decide | omega)⟩
  refine ⟨t, u 5 5 (by first | decide | omega), u 12 1 (by first | decide | omega), funext fun j => u 43 j (by first | decide | omega), u 5 3 (by first | decide | omega), u 5 4 (by first | decide | omega), u 5 6 (by first | decide | omega), fun c => ?_⟩
  obtain ⟨y1, y2, y3, y4⟩ := c
  unfold pq_cu
  rw [u 5 5 (by first | decide | omega), u 5 6 (by first | decide | omega), u 5 7 (by first | decide | omega), t.1, t.2.1]
  exact ⟨y1, y2, y3, y4⟩
theorem pq_put_b {N N' : pz_M} {x : Int} (h : pq_put N N' x) : N' 5 3 = N 5 3 ∧ N' 5 4 = N 5 4 := by
  rcases h with ⟨-, e⟩ | ⟨-, e⟩
  · rw [e, pz_una (by decide), pz_una (by decide), pz_una (by decide), pz_una (by decide)]
    exact ⟨rfl, rfl⟩
  · rw [e]
    exact ⟨rfl, rfl⟩
theorem pq_con_x {M N : pz_M} {d : Nat} (c : pq_cu M) (t : M 5 6 = 7 ∨ M 5 6 = 40) (hd : 8 ≤ d) (w : pq_wr M N 3) : pq_cg 4 d M N 0 := by
  have tj := pq_cu_T c (rfl : M 49 = M 49)
  exact pq_cg_w w c rfl rfl (.onx (by first | decide | omega) hd)
theorem pq_con_nb {M N N1 N2 : pz_M} {d : Nat} {v w : Int} (c : pq_cu M) (o1 : pq_op1 M N) (t : M 5 6 = 7) (hd : (d : Int) = M 5 9 ∧ d < 8) (s : pq_cg 4 (N 5 9).toNat N N1 v) (hv : v = 0) (e : N2 = pz_u N1 5 9 w) : pq_cg 4 d M N2 0 := by
  have tj := pq_cu_T c (rfl : M 49 = M 49)
  obtain ⟨⟨t1, t2, t3⟩, ⟨n1, n2, n3, n4, n5⟩, h9⟩ := o1
  have e1 := pq_cu_1 c n2
  obtain ⟨-, -, -, -, f3, f4, -, -⟩ := pq_d9 e
  rcases s with ⟨a, -⟩ | ⟨-, k, j, a, b1, b2⟩
  · omega
  · rw [t1, t2, e1, show (N 5 9).toNat = d + 1 by omega] at a
    rw [t3] at b2
    exact Or.inr ⟨rfl, k, j, .onnb (by first | decide | omega) hd.2 a, by rw [f3]; exact b1, by rw [f4]; exact b2⟩
theorem pq_con_pb {M N N1 N2 : pz_M} {d : Nat} {v w : Int} (c : pq_cu M) (o1 : pq_op1 M N) (t : M 5 6 = 40) (hd : (d : Int) = M 5 9 ∧ d < 8) (s : pq_cg 8 (N 5 9).toNat N N1 v) (hv : v = 0) (e : N2 = pz_u N1 5 9 w) : pq_cg 4 d M N2 0 := by
  have tj := pq_cu_T c (rfl : M 49 = M 49)
  obtain ⟨⟨t1, t2, t3⟩, ⟨n1, n2, n3, n4, n5⟩, h9⟩ := o1
  have e1 := pq_cu_1 c n2
  obtain ⟨-, -, -, -, f3, f4, -, -⟩ := pq_d9 e
  rcases s with ⟨a, -⟩ | ⟨-, k, j, a, b1, b2⟩
  · omega
  · rw [t1, t2, e1, show (N 5 9).toNat = d + 1 by omega] at a
    rw [t3] at b2
    exact Or.inr ⟨rfl, k, j, .onpb (by first | decide | omega) hd.2 a, by rw [f3]; exact b1, by rw [f4]; exact b2⟩
theorem pq_con_n {M N N1 N2 N3 : pz_M} {d : Nat} {v w : Int} (c : pq_cq M) (o1 : pq_op1 M N) (t : M 5 6 = 7) (hd : (d : Int) = M 5 9 ∧ d < 8) (s : pq_cg 4 (N 5 9).toNat N N1 v) (hv : ¬ v = 0) (e : N2 = pz_u N1 5 9 w) (p : pq_put N2 N3 (-8)) : pq_cg 4 d M N3 1 := by
  have tj := pq_cu_T c.1 (rfl : M 49 = M 49)
  obtain ⟨⟨t1, t2, t3⟩, ⟨n1, n2, n3, n4, n5⟩, h9⟩ := o1
  have e1 := pq_cu_1 c.1 n2
  have c2 := c.2
  obtain ⟨-, f1, f2, f5, f3, f4, -, f6⟩ := pq_d9 e
  rcases s with ⟨-, j, o, a, b1, b2, b3⟩ | ⟨a, -⟩
  · have l := pz_gr_len a j o rfl
    have l1 := b3.1
    have lt := (pz_gr_lt a j o rfl).2 (by first | decide | omega)
    rw [t1, t2, e1, show (N 5 9).toNat = d + 1 by omega] at a
    have hb := pq_cu_b b2
    obtain ⟨g1, g2, g3, g4⟩ := pq_put_s p (by first | decide | omega) (by first | decide | omega) (f6 b2)
    have b4 : pq_cp (pz_fl o) M N2 := ⟨by rw [f2, b3.1, n3], fun k hk => by rw [f5, b3.2.1 k (by first | decide | omega), n4], fun k hk => by rw [f5, ← n3]; exact b3.2.2.1 k hk, (n5.tr b3.2.2.2).tr ⟨f3, f4⟩⟩
    refine Or.inl ⟨rfl, j, _, .onn (by first | decide | omega) hd.2 a, by rw [g2, f1]; exact b1, g1, ?_⟩
    rw [pz_fl_app]
    exact b4.tr c2.1 g4
  · exact absurd a hv
theorem pq_con_pc {M N N1 N2 N3 : pz_M} {d : Nat} {v w : Int} (c : pq_cu M) (o1 : pq_op1 M N) (t : M 5 6 = 40) (hd : (d : Int) = M 5 9 ∧ d < 8) (s : pq_cg 8 (N 5 9).toNat N N1 v) (hv : ¬ v = 0) (hT : pq_T3 M N1) (x : N1 5 6 ≠ 41) (wr : pq_wr N1 N2 1) (e : N3 = pz_u N2 5 9 w) : pq_cg 4 d M N3 0 := by
  have tj := pq_cu_T c (rfl : M 49 = M 49)
  obtain ⟨⟨t1, t2, t3⟩, ⟨n1, n2, n3, n4, n5⟩, h9⟩ := o1
  have e1 := pq_cu_1 c n2
  obtain ⟨-, -, -, -, f3, f4, -, -⟩ := pq_d9 e
  rcases s with ⟨-, j, o, a, b1, b2, b3⟩ | ⟨a, -⟩
  · rw [t1, t2, e1, show (N 5 9).toNat = d + 1 by omega] at a
    have tj2 := pq_cu_T b2 hT.1
    have ej : (N1 5 5).toNat = j := by omega
    rw [ej] at tj2
    have g := pq_cg_w wr b2 hT.2.2 ej (.onpc (by first | decide | omega) hd.2 a (by first | decide | omega))
    rcases g with ⟨g, -⟩ | ⟨-, k, l, g1, g2, g3⟩
    · omega
    · exact Or.inr ⟨rfl, k, l, g1, by rw [f3]; exact g2, by rw [f4]; exact g3⟩
  · exact absurd a hv
theorem pq_con_p {M N N1 N2 N3 : pz_M} {d : Nat} {v w : Int} (c : pq_cq M) (o1 : pq_op1 M N) (t : M 5 6 = 40) (hd : (d : Int) = M 5 9 ∧ d < 8) (s : pq_cg 8 (N 5 9).toNat N N1 v) (hv : ¬ v = 0) (hT : pq_T3 M N1) (x : N1 5 6 = 41) (nx : pq_nx N1 N2) (e : N3 = pz_u N2 5 9 w) : pq_cg 4 d M N3 1 := by
  have tj := pq_cu_T c.1 (rfl : M 49 = M 49)
  obtain ⟨⟨t1, t2, t3⟩, ⟨n1, n2, n3, n4, n5⟩, h9⟩ := o1
  have e1 := pq_cu_1 c.1 n2
  obtain ⟨m1, m2, m3, m4, m5⟩ := nx
  obtain ⟨-, f1, f2, f5, f3, f4, -, f6⟩ := pq_d9 e
  rcases s with ⟨-, j, o, a, b1, b2, b3⟩ | ⟨a, -⟩
  · rw [t1, t2, e1, show (N 5 9).toNat = d + 1 by omega] at a
    have tj2 := pq_cu_T b2 hT.1
    rw [show (N1 5 5).toNat = j by omega] at tj2
    exact Or.inl ⟨rfl, j + 1, o, .onp (by first | decide | omega) hd.2 a (by first | decide | omega), by omega, f6 m1, ⟨by rw [f2, m3, b3.1, n3], fun k hk => by rw [f5, m4, b3.2.1 k (by first | decide | omega), n4], fun k hk => by rw [f5, m4, ← n3]; exact b3.2.2.1 k hk, ((n5.tr b3.2.2.2).tr m5).tr ⟨f3, f4⟩⟩⟩
  · exact absurd a hv
theorem pq_con_s {M N : pz_M} {d : Nat} {v : Int} (c : pq_cu M) (t : M 5 6 ≠ 7 ∧ M 5 6 ≠ 40) (s : pq_cg 3 0 M N v) (hv : v = 0) : pq_cg 4 d M N 0 := by
  have tj := pq_cu_T c (rfl : M 49 = M 49)
  rcases s with ⟨a, -⟩ | ⟨-, k, j, a, b1, b2⟩
  · omega
  · exact Or.inr ⟨rfl, k, j, .ons (by first | decide | omega) (by first | decide | omega) a, b1, b2⟩
theorem pq_con_r {M N N1 : pz_M} {d : Nat} {v : Int} (c : pq_cu M) (t : M 5 6 ≠ 7 ∧ M 5 6 ≠ 40) (s : pq_cg 3 0 M N v) (hv : ¬ v = 0) (hT : pq_T3 M N) (x : ¬ (60 ≤ N 5 6 ∧ N 5 6 ≤ 62)) (wr : pq_wr N N1 1) : pq_cg 4 d M N1 0 := by
  have tj := pq_cu_T c (rfl : M 49 = M 49)
  rcases s with ⟨-, j, o, a, b1, b2, b3⟩ | ⟨a, -⟩
  · have tj2 := pq_cu_T b2 hT.1
    have ej : (N 5 5).toNat = j := by omega
    rw [ej] at tj2
    exact pq_cg_w wr b2 hT.2.2 ej (.onr (by first | decide | omega) (by first | decide | omega) a (by first | decide | omega))
  · exact absurd a hv
/-- behind the sign of a test -/
theorem pq_con_q {M N N1 N2 N3 : pz_M} {d : Nat} {v v2 x : Int} (c : pq_cq M) (t : M 5 6 ≠ 7 ∧ M 5 6 ≠ 40) (s : pq_cg 3 0 M N v) (hv : ¬ v = 0) (hT : pq_T3 M N) (y : 60 ≤ N 5 6 ∧ N 5 6 ≤ 62) (nx : pq_nx N N1) (hT1 : pq_T3 M N1) (s2 : pq_cg 3 0 N1 N2 v2) (hx : x = -(N 5 6) - 1) (p : pq_put N2 N3 x) : pq_cg 4 d M N3 v2 := by
  have tj := pq_cu_T c.1 (rfl : M 49 = M 49)
  have c2 := c.2
  rcases s with ⟨-, j, o, a, b1, b2, b3⟩ | ⟨a, -⟩
  · have tj2 := pq_cu_T b2 hT.1
    have ej : (N 5 5).toNat = j := by omega
    obtain ⟨m1, m2, m3, m4, m5⟩ := nx
    have e1 := pq_cu_1 b2 m2
    rw [ej] at tj2 e1
    have l0 := pz_gr_len a j o rfl
    have k0 := b3.1
    rcases s2 with ⟨w, l, o2, f, g1, g2, g3⟩ | ⟨w, k, l, f, g1, g2⟩
    · have l1 := pz_gr_len f l o2 rfl
      have k1 := g3.1
      rw [hT1.1, hT1.2.1, e1] at f
      have hb := pq_cu_b g2
      have g5 : pq_cp (pz_fl o2) N N2 := ⟨by rw [g3.1, m3], fun k hk => by rw [g3.2.1 k (by first | decide | omega), m4], fun k hk => by rw [← m3]; exact g3.2.2.1 k hk, m5.tr g3.2.2.2⟩
      have hc := c.1.1
      obtain ⟨h1, h2, h3, h4⟩ := pq_put_s p (by first | decide | omega) (by first | decide | omega) g2
      refine Or.inl ⟨w, l, _, .onq (by first | decide | omega) (by first | decide | omega) a (by first | decide | omega) f, by rw [h2]; exact g1, h1, ?_⟩
      have ef : pz_fl [(pz_op (M 49 j), 0)] = [x] := by
        rw [tj2, hx]
        have : N 5 6 = 60 ∨ N 5 6 = 61 ∨ N 5 6 = 62 := by omega
        rcases this with q | q | q <;> rw [q] <;> rfl
      rw [pz_fl_app, pz_fl_app, ef]
      exact (b3.tr c2.1 g5).tr c2.1 h4
    · rw [hT1.1, hT1.2.1, e1] at f
      rw [hT1.2.2] at g2
      obtain ⟨p1, p2⟩ := pq_put_b p
      exact Or.inr ⟨w, k, l, .ont (by first | decide | omega) (by first | decide | omega) a (by first | decide | omega) f, by rw [p1]; exact g1, by rw [p2]; exact g2⟩
  · exact absurd a hv
/-! tests joined by and, these by or: the class' loop -/
def pq_wa (w : Int) : List (Int × Int) := if w = 0 then [] else [(31, 0)]
def pq_wo (w : Int) : List (Int × Int) := if w = 0 then [] else [(32, 0)]
def pq_lT (T X : Nat → Int) (d i : Nat) (s : Int) (j : Nat) (o : List (Int × Int)) : Prop := ∀ r, pz_gr T X 7 d j r → pz_gr T X 8 d i (r.app (o ++ pq_wo s))
def pq_lE (T X : Nat → Int) (d i : Nat) (s : Int) (j : Nat) (o : List (Int × Int)) : Prop := (∀ k l, pz_gr T X 5 d j (.bad k l) → pz_gr T X 8 d i (.bad k l)) ∧ ∀ m p, pz_gr T X 5 d j (.ok m p) → pq_lT T X d i s m (o ++ p)
def pq_lH (T X : Nat → Int) (d i : Nat) (s w : Int) (j : Nat) (o : List (Int × Int)) : Prop := (∀ k l, pz_gr T X 4 d j (.bad k l) → pz_gr T X 8 d i (.bad k l)) ∧ ∀ l o', pz_gr T X 4 d j (.ok l o') → pq_lE T X d i s l (o ++ o' ++ pq_wa w)
theorem pq_lH_0 {T X : Nat → Int} {d i : Nat} : pq_lH T X d i 0 0 i [] := ⟨fun k l h => .anb (.evb h), fun l o' h => ⟨fun k m q => .anb (by have := pz_gr.evs h q; exact this), fun m p q r q2 => by
  have a := pz_gr.evs h q
  have := pz_gr.ans a q2
  rw [show pq_wo 0 = [] from rfl, show pq_wa 0 = [] from rfl, List.append_nil, List.append_nil, List.nil_append]
  exact this⟩⟩
theorem pq_lE_a {T X : Nat → Int} {d i j : Nat} {s : Int} {o : List (Int × Int)} (h : pq_lE T X d i s j o) (t : T j = 6) : pq_lH T X d i s 1 (j + 1) o := ⟨fun k l q => h.1 k l (.etb t q), fun l o' q => ⟨fun k m q2 => h.1 k m (by have := pz_gr.ets t q q2; exact this), fun m p q2 => by
  have := h.2 m ((o' ++ [(31, 0)]) ++ p) (by have := pz_gr.ets t q q2; exact this)
  rw [show pq_wa 1 = [(31, 0)] from rfl, List.append_assoc o o' [(31, 0)], List.append_assoc o (o' ++ [(31, 0)]) p]
  exact this⟩⟩
theorem pq_lE_0 {T X : Nat → Int} {d i j : Nat} {s : Int} {o : List (Int × Int)} (h : pq_lE T X d i s j o) (t : T j ≠ 6) : pq_lT T X d i s j o := by
  have := h.2 j [] (.et0 t)
  rw [List.append_nil] at this
  exact this
theorem pq_lT_n {T X : Nat → Int} {d i j : Nat} {s : Int} {o : List (Int × Int)} (h : pq_lT T X d i s j o) (t : T j = 5) : pq_lH T X d i 1 0 (j + 1) (o ++ pq_wo s) := ⟨fun k l q => h _ (.atb t (.evb q)), fun l o' q => ⟨fun k m q2 => h _ (.atb t (by have := pz_gr.evs q q2; exact this)), fun m p q2 r q3 => by
  have := h _ (.ats t (pz_gr.evs q q2) q3)
  rw [pz_app_app] at this
  rw [show pq_wo 1 = [(32, 0)] from rfl, show pq_wa 0 = [] from rfl, List.append_nil, List.append_assoc (o ++ pq_wo s) o' p, List.append_assoc (o ++ pq_wo s) (o' ++ p) [(32, 0)]]
  exact this⟩⟩
theorem pq_lT_e {T X : Nat → Int} {d i j : Nat} {s : Int} {o : List (Int × Int)} (h : pq_lT T X d i s j o) (t : T j ≠ 5) : pz_gr T X 8 d i (.ok j (o ++ pq_wo s)) := by
  have := h _ (.at0 t)
  have e : (pz_res.ok j []).app (o ++ pq_wo s) = .ok j (o ++ pq_wo s) := by
    show pz_res.ok j ((o ++ pq_wo s) ++ []) = _
    rw [List.append_nil]
  rw [e] at this
  exact this
def pq_cH (M N : pz_M) (d : Nat) (s w : Int) : Prop := pq_cu N ∧ 0 ≤ N 12 1 ∧ N 12 1 + s + w ≤ N 5 5 ∧ (s = 0 ∨ s = 1) ∧ (w = 0 ∨ w = 1) ∧ ∃ o, pq_lH (M 49) (M 50) d (M 5 5).toNat s w (N 5 5).toNat o ∧ pq_cp (pz_fl o) M N
def pq_cE (M N : pz_M) (d : Nat) (s : Int) : Prop := pq_cu N ∧ 0 ≤ N 12 1 ∧ N 12 1 + s ≤ N 5 5 ∧ (s = 0 ∨ s = 1) ∧ ∃ o, pq_lE (M 49) (M 50) d (M 5 5).toNat s (N 5 5).toNat o ∧ pq_cp (pz_fl o) M N
def pq_cT (M N : pz_M) (d : Nat) (s : Int) : Prop := pq_cu N ∧ 0 ≤ N 12 1 ∧ N 12 1 ≤ N 5 5 ∧ ∃ o, pq_lT (M 49) (M 50) d (M 5 5).toNat s (N 5 5).toNat o ∧ pq_cp (pz_fl (o ++ pq_wo s)) M N
theorem pq_cH.cq {M N : pz_M} {d : Nat} {s w : Int} (h : pq_cH M N d s w) : pq_cq N := by
  obtain ⟨a, b, c, e, f, -⟩ := h
  exact ⟨a, b, by omega⟩
theorem pq_cE.cq {M N : pz_M} {d : Nat} {s : Int} (h : pq_cE M N d s) : pq_cq N := by
  obtain ⟨a, b, c, e, -⟩ := h
  exact ⟨a, b, by omega⟩
theorem pq_cH_0 {M : pz_M} {d : Nat} (h : pq_cq M) : pq_cH M M d 0 0 := ⟨h.1, h.2.1, by have := h.2.2; omega, Or.inl rfl, Or.inl rfl, [], pq_lH_0, pq_cp_0 rfl rfl ⟨rfl, rfl⟩⟩
theorem pq_cH_b {M N N1 : pz_M} {d : Nat} {s w v : Int} (h : pq_cH M N d s w) (hT : pq_T3 M N) (c : pq_cg 4 d N N1 v) (hv : v = 0) : pq_cg 8 d M N1 0 := by
  obtain ⟨a1, a2, a3, a4, a5, o, a6, a7⟩ := h
  rcases c with ⟨b, -⟩ | ⟨-, k, j, b, b1, b2⟩
  · omega
  · rw [hT.1, hT.2.1] at b
    rw [hT.2.2] at b2
    exact Or.inr ⟨rfl, k, j, a6.1 k j b, b1, b2⟩
/-- behind one test; the and that waited is laid -/
theorem pq_cH_s {M N N1 N2 : pz_M} {d : Nat} {s w v : Int} (h : pq_cH M N d s w) (hT : pq_T3 M N) (c : pq_cg 4 d N N1 v) (hv : ¬ v = 0) (h0 : 0 ≤ M 12 1) (p : (w = 0 ∧ N2 = N1) ∨ (¬ w = 0 ∧ pq_put N1 N2 (-7))) : pq_cE M N2 d s ∧ N 5 5 + 1 ≤ N2 5 5 := by
  obtain ⟨a1, a2, a3, a4, a5, o, a6, a7⟩ := h
  rcases c with ⟨-, j, o', b, b1, b2, b3⟩ | ⟨b, -⟩
  · have l := pz_gr_len b j o' rfl
    have lt := (pz_gr_lt b j o' rfl).2 (by first | decide | omega)
    have k := b3.1
    have a9 := a1.1
    rw [hT.1, hT.2.1] at b
    have e := a6.2 j o' b
    have q := a7.tr h0 b3
    rcases p with ⟨p1, p2⟩ | ⟨p1, p2⟩
    · rw [p2]
      rw [p1, show pq_wa 0 = [] from rfl, List.append_nil] at e
      refine ⟨⟨b2, by omega, by omega, a4, o ++ o', ?_, by rw [pz_fl_app]; exact q⟩, by omega⟩
      rw [show (N1 5 5).toNat = j by omega]
      exact e
    · have hb := pq_cu_b b2
      obtain ⟨g1, g2, g3, g4⟩ := pq_put_s p2 (by first | decide | omega) (by first | decide | omega) b2
      rw [show pq_wa w = [(31, 0)] from if_neg p1] at e
      refine ⟨⟨g1, by omega, by omega, a4, (o ++ o') ++ [(31, 0)], ?_, ?_⟩, by omega⟩
      · rw [g2, show (N1 5 5).toNat = j by omega]
        exact e
      · rw [pz_fl_app, pz_fl_app]
        exact q.tr h0 g4
  · exact absurd b hv
theorem pq_cE_a {M N N1 : pz_M} {d : Nat} {s : Int} (h : pq_cE M N d s) (hT : pq_T3 M N) (t : N 5 6 = 6) (n : pq_nx N N1) : pq_cH M N1 d s 1 := by
  obtain ⟨a1, a2, a3, a4, o, a6, a7⟩ := h
  obtain ⟨m1, m2, m3, m4, m5⟩ := n
  have tj := pq_cu_T a1 hT.1
  refine ⟨m1, by omega, by omega, a4, Or.inr rfl, o, ?_, a7.la m3 m4 m5⟩
  rw [pq_cu_1 a1 m2]
  exact pq_lE_a a6 (by first | decide | omega)
theorem pq_cE_0 {M N N1 : pz_M} {d : Nat} {s : Int} (h : pq_cE M N d s) (hT : pq_T3 M N) (t : N 5 6 ≠ 6) (h0 : 0 ≤ M 12 1) (p : (s = 0 ∧ N1 = N) ∨ (¬ s = 0 ∧ pq_put N N1 (-6))) : pq_cT M N1 d s ∧ N1 5 5 = N 5 5 := by
  obtain ⟨a1, a2, a3, a4, o, a6, a7⟩ := h
  have tj := pq_cu_T a1 hT.1
  have e := pq_lE_0 a6 (by first | decide | omega)
  rcases p with ⟨p1, p2⟩ | ⟨p1, p2⟩
  · rw [p2]
    refine ⟨⟨a1, a2, by omega, o, e, ?_⟩, rfl⟩
    rw [p1, show pq_wo 0 = [] from rfl, List.append_nil]
    exact a7
  · have hb := pq_cu_b a1
    obtain ⟨g1, g2, g3, g4⟩ := pq_put_s p2 (by first | decide | omega) (by first | decide | omega) a1
    refine ⟨⟨g1, by omega, by omega, o, by rw [g2]; exact e, ?_⟩, g2⟩
    rw [pz_fl_app, show pq_wo s = [(32, 0)] from if_neg p1]
    exact a7.tr h0 g4
theorem pq_cT_n {M N N1 : pz_M} {d : Nat} {s : Int} (h : pq_cT M N d s) (hT : pq_T3 M N) (t : N 5 6 = 5) (n : pq_nx N N1) : pq_cH M N1 d 1 0 := by
  obtain ⟨a1, a2, a3, o, a6, a7⟩ := h
  obtain ⟨m1, m2, m3, m4, m5⟩ := n
  have tj := pq_cu_T a1 hT.1
  refine ⟨m1, by omega, by omega, Or.inr rfl, Or.inl rfl, _, ?_, a7.la m3 m4 m5⟩
  rw [pq_cu_1 a1 m2]
  exact pq_lT_n a6 (by first | decide | omega)
theorem pq_cT_e {M N : pz_M} {d : Nat} {s : Int} (h : pq_cT M N d s) (hT : pq_T3 M N) (t : N 5 6 ≠ 5) : pq_cg 8 d M N 1 := by
  obtain ⟨a1, a2, a3, o, a6, a7⟩ := h
  have tj := pq_cu_T a1 hT.1
  exact Or.inl ⟨rfl, _, _, pq_lT_e a6 (by first | decide | omega), by have := a1.1; omega, a1, a7⟩
theorem pq_cg_1 {K d : Nat} {M N : pz_M} {v : Int} (h : pq_cg K d M N v) (hv : ¬ v = 0) : v = 1 := by
  rcases h with ⟨a, -⟩ | ⟨a, -⟩
  · exact a
  · exact absurd a hv
theorem pq_cg_01 {K d : Nat} {M N : pz_M} {v : Int} (h : pq_cg K d M N v) : v = 0 ∨ v = 1 := by
  rcases h with ⟨a, -⟩ | ⟨a, -⟩
  · exact Or.inr a
  · exact Or.inl a
theorem pq_cg_cu {K d : Nat} {M N : pz_M} {v : Int} (h : pq_cg K d M N v) (hv : ¬ v = 0) : pq_cu N := by
  rcases h with ⟨-, j, o, -, -, c, -⟩ | ⟨a, -⟩
  · exact c
  · exact absurd a hv
theorem pq_cg_cq {K d : Nat} {M N : pz_M} {v : Int} (hq : pq_cq M) (h : pq_cg K d M N v) (hv : ¬ v = 0) : pq_cq N := by
  have q1 := hq.1.1
  have q2 := hq.2
  rcases h with ⟨-, j, o, g, e, c, p⟩ | ⟨a, -⟩
  · have l := pz_gr_len g j o rfl
    have k := p.1
    exact ⟨c, by omega, by omega⟩
  · exact absurd a hv
theorem pq_la5 {N N1 : pz_M} {i : Int} (l : (0 ≤ i ∧ i ≤ 400 ∧ N1 = pq_la N i) ∨ (¬ (0 ≤ i ∧ i ≤ 400) ∧ N1 = N)) (h : 0 ≤ i ∧ i ≤ 400) : N1 5 5 = i := by
  rcases l with ⟨-, -, e⟩ | ⟨e, -⟩
  · rw [e]
    unfold pq_la
    rw [pz_une (by decide), pz_une (by decide)]
    exact pz_uu
  · exact absurd h e
theorem pq_op1_of {M N N1 : pz_M} {w i : Int} (c : pq_cu M) (e : N = pz_u M 5 9 w) (hw : w = M 5 9 + 1) (t : M 5 6 ≠ 101) (hi : i = N 5 5 + 1) (l : (0 ≤ i ∧ i ≤ 400 ∧ N1 = pq_la N i) ∨ (¬ (0 ≤ i ∧ i ≤ 400) ∧ N1 = N)) (z : pq_pr pq_Pp N N1) : pq_op1 M N1 := by
  obtain ⟨a1, a2, a3, a4, a7, a8, a5, a6⟩ := pq_d9 e
  obtain ⟨b1, b2, b3, b4, b5⟩ := pq_cu_la (a6 c) (by first | decide | omega) hi l
  have t3 := pq_T3_of z
  refine ⟨⟨t3.1.trans a1.1, t3.2.1.trans a1.2.1, t3.2.2.trans a1.2.2⟩, ⟨b1, by omega, by omega, b4.trans a4, b5.1.trans a7, b5.2.trans a8⟩, ?_⟩
  rw [z.2 5 9 (by unfold pq_Pp; first | decide | omega), e, pz_uu]
  exact hw
/-! the class' lines of THE LAW -/
/-- the lines ls lie in M: their words, where they begin, where their B begins, where they end, their code -/
def pq_l1 (ls : List pz_lne) (k : Nat) (w s m e : Int) : Prop := w = (ls.getD k (0, [], [])).1 ∧ s = ((pz_fl (pz_catl (ls.take k))).length : Int) ∧ m = ((pz_fl (pz_catl (ls.take k) ++ (ls.getD k (0, [], [])).2.1)).length : Int) ∧ e = ((pz_fl (pz_catl (ls.take (k + 1)))).length : Int)
def pq_lc (ls : List pz_lne) (N : pz_M) : Prop := N 12 0 = (ls.length : Int) ∧ N 12 1 = ((pz_fl (pz_catl ls)).length : Int) ∧ (∀ k : Nat, k < (pz_fl (pz_catl ls)).length → N 43 k = (pz_fl (pz_catl ls)).getD k 0) ∧ ∀ k : Nat, k < ls.length → pq_l1 ls k (N 39 k) (N 40 k) (N 41 k) (N 42 k)
theorem pq_l1_app {ls : List pz_lne} {q : pz_lne} {k : Nat} {w s m e : Int} (hk : k < ls.length) (h : pq_l1 ls k w s m e) : pq_l1 (ls ++ [q]) k w s m e := by
  obtain ⟨a, b, c, d⟩ := h
  have g : (ls ++ [q]).getD k (0, [], []) = ls.getD k (0, [], []) := by
    rw [List.getD_eq_getElem?_getD, List.getD_eq_getElem?_getD, List.getElem?_append_left hk]
  refine ⟨by rw [g]; exact a, ?_, ?_, ?_⟩
  · rw [List.take_append_of_le_length (by first | decide | omega)]; exact b
  · rw [List.take_append_of_le_length (by first | decide | omega), g]; exact c
  · rw [List.take_append_of_le_length (by first | decide | omega)]; exact d
theorem pq_l1_new {ls : List pz_lne} {q : pz_lne} {w s m e : Int} (hw : w = q.1) (hs : s = ((pz_fl (pz_catl ls)).length : Int)) (hm : m = ((pz_fl (pz_catl ls ++ q.2.1)).length : Int)) (he : e = ((pz_fl (pz_catl (ls ++ [q]))).length : Int)) : pq_l1 (ls ++ [q]) ls.length w s m e := by
  have g : (ls ++ [q]).getD ls.length (0, [], []) = q := by
    rw [List.getD_eq_getElem?_getD, List.getElem?_append_right (Nat.le_refl _), Nat.sub_self]
    rfl
  have t : (ls ++ [q]).take ls.length = ls := by
    rw [List.take_append_of_le_length (Nat.le_refl _), List.take_length]
  have t2 : (ls ++ [q]).take (ls.length + 1) = ls ++ [q] := List.take_of_length_le (by rw [List.length_append]; exact Nat.le_refl _)
  exact ⟨by rw [g]; exact hw, by rw [t]; exact hs, by rw [t, g]; exact hm, by rw [t2]; exact he⟩
/-- a line is laid -/
def pq_add (N N' : pz_M) (p q w : Int) : Prop := N 12 0 < 16 → N' 12 0 = N 12 0 + 1 ∧ N' 39 (N 12 0).toNat = p ∧ N' 40 (N 12 0).toNat = q ∧ N' 41 (N 12 0).toNat = w ∧ N' 42 (N 12 0).toNat = N 12 1 ∧ (∀ b j : Nat, 39 ≤ b → b ≤ 42 → j ≠ (N 12 0).toNat → N' b j = N b j) ∧ (∀ b j : Nat, (b < 39 ∨ 42 < b) → ¬ (b = 12 ∧ j = 0) → N' b j = N b j)
theorem pq_lc_add {M N N' : pz_M} {ls : List pz_lne} {o p : List (Int × Int)} {x s m : Int} (h : pq_lc ls M) (hn : ls.length < 16) (f : ∀ b j : Nat, (b = 12 ∧ j = 0) ∨ (39 ≤ b ∧ b ≤ 42) → N b j = M b j) (c : pq_cp (pz_fl (o ++ p)) M N) (hs : s = M 12 1) (hm : m = M 12 1 + ((pz_fl o).length : Int)) (a : pq_add N N' x s m) : pq_lc (ls ++ [(x, o, p)]) N' := by
  obtain ⟨h1, h2, h3, h4⟩ := h
  obtain ⟨c1, c2, c3, -⟩ := c
  have n0 : N 12 0 = (ls.length : Int) := by rw [f 12 0 (Or.inl ⟨rfl, rfl⟩)]; exact h1
  obtain ⟨a1, a2, a3, a4, a5, a6, a7⟩ := a (by first | decide | omega)
  have hl : (N 12 0).toNat = ls.length := by omega
  rw [hl] at a2 a3 a4 a5
  have ec : pz_fl (pz_catl (ls ++ [(x, o, p)])) = pz_fl (pz_catl ls) ++ pz_fl (o ++ p) := by
    rw [pz_catl_app, pz_catl_one, pz_fl_app]
  refine ⟨by rw [a1, n0, List.length_append]; rfl, ?_, fun k hk => ?_, fun k hk => ?_⟩
  · rw [a7 12 1 (by first | decide | omega) (by first | decide | omega), c1, h2, ec, List.length_append]
    omega
  · rw [a7 43 k (by first | decide | omega) (by first | decide | omega), ec]
    rw [ec, List.length_append] at hk
    by_cases q : k < (pz_fl (pz_catl ls)).length
    · rw [c2 k (by first | decide | omega), h3 k q, List.getD_eq_getElem?_getD, List.getD_eq_getElem?_getD, List.getElem?_append_left q]
    · rw [List.getD_eq_getElem?_getD, List.getElem?_append_right (by first | decide | omega), ← List.getD_eq_getElem?_getD, ← c3 _ (by first | decide | omega)]
      congr 1
      omega
  · rw [List.length_append] at hk
    have hk : k < ls.length + 1 := hk
    by_cases q : k = ls.length
    · subst q
      refine pq_l1_new a2 (by rw [a3, hs]; exact h2) ?_ ?_
      · rw [a4, hm, h2, pz_fl_app, List.length_append]
        rfl
      · rw [a5, c1, h2, ec, List.length_append]
        rfl
    · rw [a6 39 k (by first | decide | omega) (by first | decide | omega) (by first | decide | omega), a6 40 k (by first | decide | omega) (by first | decide | omega) (by first | decide | omega), a6 41 k (by first | decide | omega) (by first | decide | omega) (by first | decide | omega), a6 42 k (by first | decide | omega) (by first | decide | omega) (by first | decide | omega), f 39 k (by first | decide | omega), f 40 k (by first | decide | omega), f 41 k (by first | decide | omega), f 42 k (by first | decide | omega)]
      exact pq_l1_app (by first | decide | omega) (h4 k (by first | decide | omega))
/-- as far as the lines are told -/
def pq_lN (M N : pz_M) (n : Int) : Prop := pq_cq N ∧ ∃ ls : List pz_lne, (ls.length : Int) = n ∧ (∀ r, pz_gl (M 49) (M 50) ls.length (N 5 5).toNat r → pz_gl (M 49) (M 50) 0 (M 5 5).toNat (r.pre ls)) ∧ pq_lc ls N ∧ pq_fs M N
def pq_lg (M N : pz_M) (v : Int) : Prop := (v = 1 ∧ ∃ ls, pz_gl (M 49) (M 50) 0 (M 5 5).toNat (.ok ls) ∧ pq_lc ls N ∧ pq_fs M N) ∨ (v = 0 ∧ ∃ k j, pz_gl (M 49) (M 50) 0 (M 5 5).toNat (.bad k j) ∧ N 5 3 = k ∧ N 5 4 = M 51 j)
theorem pq_lN_z {M N : pz_M} {n : Int} (h : pq_lN M N n) (hT : pq_T3 M N) (t : N 5 6 = 101) : pq_lg M N 1 := by
  obtain ⟨a, ls, b, c, d⟩ := h
  have tj := pq_cu_T a.1 hT.1
  have := c _ (.z (by first | decide | omega))
  have e : (pz_lres.ok []).pre ls = .ok ls := by
    show pz_lres.ok (ls ++ []) = _
    rw [List.append_nil]
  rw [e] at this
  exact Or.inl ⟨rfl, ls, this, d⟩
theorem pq_lN_w {M N N1 : pz_M} {n k : Int} (h : pq_lN M N n) (hT : pq_T3 M N) (t : (N 5 6 ≠ 101 ∧ ¬ (0 ≤ N 5 6 ∧ N 5 6 ≤ 3) ∧ k = 1) ∨ (0 ≤ N 5 6 ∧ N 5 6 ≤ 3 ∧ n = 16 ∧ k = 3)) (w : pq_wr N N1 k) : pq_lg M N1 0 := by
  obtain ⟨a, ls, b, c, d⟩ := h
  have tj := pq_cu_T a.1 hT.1
  have hb := pq_cu_b a.1
  rcases t with ⟨t1, t2, rfl⟩ | ⟨t1, t2, t3, rfl⟩
  · exact Or.inr ⟨rfl, 1, _, c _ (.w (by first | decide | omega) (by first | decide | omega)), w.1, by rw [w.2 (by first | decide | omega) (by first | decide | omega), hT.2.2]⟩
  · exact Or.inr ⟨rfl, 3, _, c _ (.m (by first | decide | omega) (by first | decide | omega)), w.1, by rw [w.2 (by first | decide | omega) (by first | decide | omega), hT.2.2]⟩
/-- a line's E is wrong -/
theorem pq_lN_sb {M N N1 N2 : pz_M} {n v : Int} (h : pq_lN M N n) (hT : pq_T3 M N) (hT1 : pq_T3 M N1) (t : 0 ≤ N 5 6 ∧ N 5 6 ≤ 3) (hn : n < 16) (x : pq_nx N N1) (s : pq_cg 3 0 N1 N2 v) (hv : v = 0) : pq_lg M N2 0 := by
  obtain ⟨a, ls, b, c, d⟩ := h
  have tj := pq_cu_T a.1 hT.1
  have e1 := pq_cu_1 a.1 x.2.1
  rcases s with ⟨q, -⟩ | ⟨-, k, j, q, q1, q2⟩
  · omega
  · rw [hT1.1, hT1.2.1, e1] at q
    rw [hT1.2.2] at q2
    exact Or.inr ⟨rfl, k, j, c _ (.sb (by first | decide | omega) (by first | decide | omega) q), q1, q2⟩
/-- its B is -/
theorem pq_lN_wb {M N N1 N2 N3 N4 : pz_M} {n v v2 : Int} {d9 : Nat} (h : pq_lN M N n) (hT : pq_T3 M N) (hT1 : pq_T3 M N1) (t : 0 ≤ N 5 6 ∧ N 5 6 ≤ 3) (hn : n < 16) (x : pq_nx N N1) (s : pq_cg 3 0 N1 N2 v) (hv : ¬ v = 0) (hT2 : pq_T3 M N2) (t2 : N2 5 6 = 4) (x2 : pq_nx N2 N3) (hT3 : pq_T3 M N3) (s2 : pq_cg 8 d9 N3 N4 v2) (hd : d9 = 0) (hv2 : v2 = 0) : pq_lg M N4 0 := by
  subst hd
  obtain ⟨a, ls, b, c, d⟩ := h
  have tj := pq_cu_T a.1 hT.1
  have e1 := pq_cu_1 a.1 x.2.1
  rcases s with ⟨-, j, o, q, q1, q2, q3⟩ | ⟨q, -⟩
  · have tj2 := pq_cu_T q2 hT2.1
    have e2 := pq_cu_1 q2 x2.2.1
    have ej : (N2 5 5).toNat = j := by omega
    rw [ej] at tj2 e2
    rw [hT1.1, hT1.2.1, e1] at q
    rcases s2 with ⟨f, -⟩ | ⟨-, k, l, f, g1, g2⟩
    · omega
    · rw [hT3.1, hT3.2.1, e2] at f
      rw [hT3.2.2] at g2
      exact Or.inr ⟨rfl, k, l, c _ (.wb (by first | decide | omega) (by first | decide | omega) q (by first | decide | omega) f), g1, g2⟩
  · exact absurd q hv
theorem pq_pr.pl {M M' : pz_M} (h : pq_pr pq_Pp M M') : pq_pr pq_Pl M M' := ⟨h.1, fun b j q => h.2 b j (by unfold pq_Pl at q; unfold pq_Pp; omega)⟩
theorem pq_T3_pl {M N : pz_M} (h : pq_pr pq_Pl M N) : pq_T3 M N := ⟨funext fun j => h.2 49 j (by unfold pq_Pl; first | decide | omega), funext fun j => h.2 50 j (by unfold pq_Pl; first | decide | omega), funext fun j => h.2 51 j (by unfold pq_Pl; first | decide | omega)⟩
/-- a line's E and B are told, behind them the place -/
def pq_lM (M N0 N : pz_M) (n x s m : Int) : Prop := pq_cq N ∧ ∃ (ls : List pz_lne) (o p : List (Int × Int)), (ls.length : Int) = n ∧ (pq_lc ls N0 ∧ pq_fs M N0) ∧ pq_cp (pz_fl (o ++ p)) N0 N ∧ s = N0 12 1 ∧ m = N0 12 1 + ((pz_fl o).length : Int) ∧ (M 49 (N 5 5).toNat ≠ 59 → pz_gl (M 49) (M 50) 0 (M 5 5).toNat (.bad 1 (N 5 5).toNat)) ∧ (M 49 (N 5 5).toNat = 59 → ∀ r, pz_gl (M 49) (M 50) (ls.length + 1) ((N 5 5).toNat + 1) r → pz_gl (M 49) (M 50) 0 (M 5 5).toNat (r.pre (ls ++ [(x, o, p)])))
theorem pq_nx_cp {L : List Int} {N N1 N2 : pz_M} (x : pq_nx N N1) (h : pq_cp L N1 N2) : pq_cp L N N2 := ⟨by rw [h.1, x.2.2.1], fun k hk => by rw [h.2.1 k (by have := x.2.2.1; omega), x.2.2.2.1], fun k hk => by rw [← x.2.2.1]; exact h.2.2.1 k hk, x.2.2.2.2.tr h.2.2.2⟩
theorem pq_lM_1 {M N0 N1 N2 : pz_M} {n v s m : Int} (h : pq_lN M N0 n) (hT : pq_T3 M N0) (hT1 : pq_T3 M N1) (t : 0 ≤ N0 5 6 ∧ N0 5 6 ≤ 3) (hn : n < 16) (x : pq_nx N0 N1) (c : pq_cg 3 0 N1 N2 v) (hv : ¬ v = 0) (hT2 : pq_T3 M N2) (t2 : N2 5 6 ≠ 4) (hs : s = N1 12 1) (hm : m = N2 12 1) : pq_lM M N0 N2 n (N0 5 6) s m := by
  obtain ⟨a, ls, b, f, d⟩ := h
  have tj := pq_cu_T a.1 hT.1
  have e1 := pq_cu_1 a.1 x.2.1
  have cq := pq_cg_cq (x.cq a) c hv
  have xs := x.2.2.1
  rcases c with ⟨-, j, o, q, q1, q2, q3⟩ | ⟨q, -⟩
  · have tj2 := pq_cu_T q2 hT2.1
    have k := q3.1
    have ej : (N2 5 5).toNat = j := by omega
    rw [hT1.1, hT1.2.1, e1] at q
    rw [ej] at tj2
    refine ⟨cq, ls, o, [], b, d, by rw [List.append_nil]; exact pq_nx_cp x q3, by omega, by omega, ?_, ?_⟩
    · rw [ej]
      exact fun y => f _ (.n1 (by first | decide | omega) (by first | decide | omega) q (by first | decide | omega) y)
    · rw [ej]
      intro y r q9
      have := f _ (.s1 (by first | decide | omega) (by first | decide | omega) q y q9)
      rw [pz_lpre_pre, tj] at this
      exact this
  · exact absurd q hv
theorem pq_lM_2 {M N0 N1 N2 N3 N4 : pz_M} {n v v2 s m : Int} {d9 : Nat} (h : pq_lN M N0 n) (hT : pq_T3 M N0) (hT1 : pq_T3 M N1) (t : 0 ≤ N0 5 6 ∧ N0 5 6 ≤ 3) (hn : n < 16) (x : pq_nx N0 N1) (c : pq_cg 3 0 N1 N2 v) (hv : ¬ v = 0) (hT2 : pq_T3 M N2) (t2 : N2 5 6 = 4) (x2 : pq_nx N2 N3) (hT3 : pq_T3 M N3) (c2 : pq_cg 8 d9 N3 N4 v2) (hd : d9 = 0) (hv2 : ¬ v2 = 0) (hs : s = N1 12 1) (hm : m = N2 12 1) : pq_lM M N0 N4 n (N0 5 6) s m := by
  subst hd
  obtain ⟨a, ls, b, f, d⟩ := h
  have tj := pq_cu_T a.1 hT.1
  have e1 := pq_cu_1 a.1 x.2.1
  have cq1 := pq_cg_cq (x.cq a) c hv
  have cq := pq_cg_cq (x2.cq cq1) c2 hv2
  have xs := x.2.2.1
  rcases c with ⟨-, j, o, q, q1, q2, q3⟩ | ⟨q, -⟩
  · have tj2 := pq_cu_T q2 hT2.1
    have k := q3.1
    have e2 := pq_cu_1 q2 x2.2.1
    have ej : (N2 5 5).toNat = j := by omega
    rw [hT1.1, hT1.2.1, e1] at q
    rw [ej] at tj2 e2
    rcases c2 with ⟨-, l, p, g, g1, g2, g3⟩ | ⟨g, -⟩
    · have el : (N4 5 5).toNat = l := by omega
      rw [hT3.1, hT3.2.1, e2] at g
      have h0 := a.2.1
      refine ⟨cq, ls, o, p, b, d, by rw [pz_fl_app]; exact (pq_nx_cp x q3).tr h0 (pq_nx_cp x2 g3), by omega, by omega, ?_, ?_⟩
      · rw [el]
        exact fun y => f _ (.n2 (by first | decide | omega) (by first | decide | omega) q (by first | decide | omega) g y)
      · rw [el]
        intro y r q9
        have := f _ (.s2 (by first | decide | omega) (by first | decide | omega) q (by first | decide | omega) g y q9)
        rw [pz_lpre_pre, tj] at this
        exact this
    · exact absurd g hv2
  · exact absurd q hv
theorem pq_add_c {N N' : pz_M} {p q w : Int} (a : pq_add N N' p q w) (h : N 12 0 < 16) : pq_T3 N N' ∧ (∀ j, N' 5 j = N 5 j) ∧ N' 12 1 = N 12 1 ∧ (pq_cu N → pq_cu N') := by
  obtain ⟨-, -, -, -, -, -, f⟩ := a h
  have t : pq_T3 N N' := ⟨funext fun j => f 49 j (by first | decide | omega) (by first | decide | omega), funext fun j => f 50 j (by first | decide | omega) (by first | decide | omega), funext fun j => f 51 j (by first | decide | omega) (by first | decide | omega)⟩
  have u : ∀ j, N' 5 j = N 5 j := fun j => f 5 j (by first | decide | omega) (by first | decide | omega)
  refine ⟨t, u, f 12 1 (by first | decide | omega) (by first | decide | omega), fun c => ?_⟩
  unfold pq_cu
  rw [u, u, u, t.1, t.2.1]
  exact c
theorem pq_lM_n {M N0 N N' N2 : pz_M} {n x s m : Int} (h : pq_lM M N0 N n x s m) (hn : n < 16) (f : ∀ b j : Nat, (b = 12 ∧ j = 0) ∨ (39 ≤ b ∧ b ≤ 42) → N b j = N0 b j) (hT : pq_T3 M N) (a : pq_add N N' x s m) (t : N' 5 6 = 59) (y : pq_nx N' N2) (g : ∀ b j : Nat, b ≠ 5 → N2 b j = N' b j) : pq_lN M N2 (n + 1) := by
  obtain ⟨c, ls, o, p, b, d, e, hs, hm, -, k⟩ := h
  have n0 : N 12 0 < 16 := by rw [f 12 0 (Or.inl ⟨rfl, rfl⟩), d.1.1]; omega
  obtain ⟨t3, u, u2, u3⟩ := pq_add_c a n0
  have tj := pq_cu_T c.1 hT.1
  have l := pq_lc_add d.1 (by first | decide | omega) f e hs hm a
  have cu' := u3 c.1
  have cc := c.2
  have e5 := u 5
  have e6 := u 6
  refine ⟨pq_nx.cq y ⟨cu', by omega, by omega⟩, ls ++ [(x, o, p)], by rw [List.length_append]; show ((ls.length + 1 : Nat) : Int) = n + 1; omega, fun r q => ?_, ?_, (d.2.tr (e.2.2.2.tr ⟨u 3, u 4⟩)).tr y.2.2.2.2⟩
  · rw [List.length_append, pq_cu_1 cu' y.2.1, e5] at q
    exact k (by first | decide | omega) r q
  · obtain ⟨l1, l2, l3, l4⟩ := l
    refine ⟨by rw [g 12 0 (by first | decide | omega)]; exact l1, by rw [g 12 1 (by first | decide | omega)]; exact l2, fun z hz => by rw [g 43 z (by first | decide | omega)]; exact l3 z hz, fun z hz => ?_⟩
    rw [g 39 z (by first | decide | omega), g 40 z (by first | decide | omega), g 41 z (by first | decide | omega), g 42 z (by first | decide | omega)]
    exact l4 z hz
theorem pq_lM_b {M N0 N N' N2 : pz_M} {n x s m : Int} (h : pq_lM M N0 N n x s m) (n0 : N 12 0 < 16) (hT : pq_T3 M N) (a : pq_add N N' x s m) (t : N' 5 6 ≠ 59) (w : pq_wr N' N2 1) : pq_lg M N2 0 := by
  obtain ⟨c, ls, o, p, b, d, e, hs, hm, k, -⟩ := h
  obtain ⟨t3, u, u2, u3⟩ := pq_add_c a n0
  have tj := pq_cu_T c.1 hT.1
  have hb := pq_cu_b c.1
  have e5 := u 5
  have e6 := u 6
  exact Or.inr ⟨rfl, 1, _, k (by first | decide | omega), w.1, by rw [w.2 (by first | decide | omega) (by first | decide | omega), t3.2.2, hT.2.2, e5]⟩
theorem pq_la_5 {N N1 : pz_M} {i : Int} (l : (0 ≤ i ∧ i ≤ 400 ∧ N1 = pq_la N i) ∨ (¬ (0 ≤ i ∧ i ≤ 400) ∧ N1 = N)) : ∀ b j : Nat, b ≠ 5 → N1 b j = N b j := fun b j y => by
  rcases l with ⟨-, -, e⟩ | ⟨-, e⟩
  · rw [e]
    exact pq_la_o (by first | decide | omega)
  · rw [e]
theorem pq_lN_n {M N : pz_M} {n : Int} (h : pq_lN M N n) : N 12 0 = n := by
  obtain ⟨-, ls, a, -, b⟩ := h
  rw [b.1.1]
  exact a
def pq_clr (M M' : pz_M) : Prop := M' 12 0 = 0 ∧ M' 12 1 = 0 ∧ ∀ b j : Nat, ¬ (b = 12 ∧ (j = 0 ∨ j = 1)) → M' b j = M b j
theorem pq_lN_0 {M N : pz_M} (c : pq_cu M) (q : pq_clr M N) : pq_lN M N 0 := by
  obtain ⟨a, b, f⟩ := q
  have u : ∀ j, N 5 j = M 5 j := fun j => f 5 j (by first | decide | omega)
  have h0 := c.1
  refine ⟨⟨?_, by omega, by rw [u]; omega⟩, [], rfl, fun r q => ?_, ⟨by rw [a]; rfl, by rw [b]; rfl, fun k hk => absurd hk (Nat.not_lt_zero _), fun k hk => absurd hk (Nat.not_lt_zero _)⟩, u 3, u 4⟩
  · unfold pq_cu
    rw [u, u, u, show N 49 = M 49 from funext fun j => f 49 j (by first | decide | omega), show N 50 = M 50 from funext fun j => f 50 j (by first | decide | omega)]
    exact c
  · rw [u] at q
    rw [pz_lpre_nil]
    exact q
theorem pq_add_of {M M' : pz_M} {p q w : Int} (h0 : 0 ≤ M 12 0) (e : M' = pz_u (pz_u (pz_u (pz_u (pz_u M 39 (M 12 0).toNat p) 40 (M 12 0).toNat q) 41 (M 12 0).toNat w) 42 (M 12 0).toNat (M 12 1)) 12 0 (M 12 0 + 1)) : pq_add M M' p q w := by
  intro _
  refine ⟨by rw [e, pz_uu], ?_, ?_, ?_, ?_, fun b j h1 h2 h3 => ?_, fun b j h1 h2 => ?_⟩
  · rw [e, pz_una (by decide), pz_una (by decide), pz_una (by decide), pz_una (by decide), pz_uu]
  · rw [e, pz_una (by decide), pz_una (by decide), pz_una (by decide), pz_uu]
  · rw [e, pz_una (by decide), pz_una (by decide), pz_uu]
  · rw [e, pz_una (by decide), pz_uu]
  · rw [e, pz_una (by first | decide | omega), pz_unk h3, pz_unk h3, pz_unk h3, pz_unk h3]
  · rw [e, pz_une h2, pz_una (by first | decide | omega), pz_una (by first | decide | omega), pz_una (by first | decide | omega), pz_una (by first | decide | omega)]
end
section
/-! the class' rows -/
def pq_nm (M N : pz_M) (lo hi v : Int) : Prop := (M 5 6 = 100 ∧ lo ≤ M 5 7 ∧ M 5 7 ≤ hi ∧ v = M 5 7 ∧ pq_nx M N) ∨ (v = -1 ∧ ((M 5 6 ≠ 100 ∧ pq_wr M N 1) ∨ (M 5 6 = 100 ∧ ¬ (lo ≤ M 5 7 ∧ M 5 7 ≤ hi) ∧ pq_wr M N 2)))
/-- o tokens behind where M is -/
def pq_go (o : Nat) (M N : pz_M) : Prop := pq_cu N ∧ 0 ≤ M 5 5 ∧ N 5 5 = M 5 5 + (o : Int) ∧ pq_pr pq_Pp M N ∧ pq_fs M N
theorem pq_go_0 {M : pz_M} (c : pq_cu M) : pq_go 0 M M := ⟨c, c.1, by omega, pq_pr.rf, rfl, rfl⟩
theorem pq_go_t {o : Nat} {M N : pz_M} (h : pq_go o M N) : M 49 ((M 5 5).toNat + o) = N 5 6 ∧ M 50 ((M 5 5).toNat + o) = N 5 7 := by
  obtain ⟨c, h0, e, z, fs⟩ := h
  have t := pq_T3_of z
  have i : (M 5 5).toNat + o = (N 5 5).toNat := by omega
  rw [i]
  exact ⟨pq_cu_T c t.1, pq_cu_X c t.2.1⟩
theorem pq_go_x {o : Nat} {M N N1 : pz_M} (h : pq_go o M N) (n : pq_nx N N1) (z : pq_pr pq_Pp N N1) : pq_go (o + 1) M N1 := by
  have n2 := n.2.1
  have h2 := h.2.2.1
  exact ⟨n.1, h.2.1, by omega, h.2.2.2.1.tr z, h.2.2.2.2.tr n.2.2.2.2⟩
theorem pq_go_8 {o : Nat} {M N : pz_M} (h : pq_go o M N) : N 5 8 = M 5 8 := h.2.2.2.1.2 5 8 (by unfold pq_Pp; first | decide | omega)
theorem pq_go_y {o : Nat} {M N N1 : pz_M} {lo hi v : Int} (h : pq_go o M N) (q : pq_nm N N1 lo hi v) (hv : v ≠ -1) (z : pq_pr pq_Pp N N1) : pq_go (o + 1) M N1 ∧ (∀ F : Int → pz_rw, pz_nu (M 49) (M 50) lo hi ((M 5 5).toNat + o) F = F v) ∧ lo ≤ v ∧ v ≤ hi := by
  obtain ⟨t, x⟩ := pq_go_t h
  rcases q with ⟨a1, a2, a3, a4, a5⟩ | ⟨a, -⟩
  · refine ⟨pq_go_x h a5 z, fun F => ?_, by omega, by omega⟩
    rw [pz_nu_y (by rw [t]; exact a1) (by rw [x]; exact ⟨a2, a3⟩), x, a4]
  · exact absurd a hv
theorem pq_go_n {o : Nat} {M N N1 : pz_M} {lo hi v : Int} (h : pq_go o M N) (q : pq_nm N N1 lo hi v) (hv : v = -1) (h0 : 0 ≤ lo) : ∃ f : Int, (∀ F : Int → pz_rw, pz_nu (M 49) (M 50) lo hi ((M 5 5).toNat + o) F = .inr (f, (M 5 5).toNat + o)) ∧ pq_wr N N1 f := by
  obtain ⟨t, x⟩ := pq_go_t h
  rcases q with ⟨a1, a2, a3, a4, a5⟩ | ⟨-, ⟨a, w⟩ | ⟨a, b, w⟩⟩
  · omega
  · exact ⟨1, fun F => pz_nu_1 (by rw [t]; exact a), w⟩
  · exact ⟨2, fun F => pz_nu_2 (by rw [t]; exact a) (by rw [x]; exact b), w⟩
theorem pq_go_cy {o : Nat} {M N N1 : pz_M} {t : Int} (h : pq_go o M N) (n : N 5 6 = t ∧ pq_nx N N1 ∧ ∀ b j : Nat, b ≠ 5 → N1 b j = N b j) (z : pq_pr pq_Pp N N1) : pq_go (o + 1) M N1 ∧ ∀ F : pz_rw, pz_nd (M 49) t ((M 5 5).toNat + o) F = F :=
  ⟨pq_go_x h n.2.1 z, fun F => pz_nd_y (by rw [(pq_go_t h).1]; exact n.1)⟩
theorem pq_go_cn {o : Nat} {M N N1 : pz_M} {t : Int} (h : pq_go o M N) (n : N 5 6 ≠ t ∧ pq_wr N N1 1) : ∀ F : pz_rw, pz_nd (M 49) t ((M 5 5).toNat + o) F = .inr (1, (M 5 5).toNat + o) :=
  fun F => pz_nd_n (by rw [(pq_go_t h).1]; exact n.1)
/-- a row is laid -/
def pq_rz (l : List Int) (M N : pz_M) : Prop := M 19 0 < 16 → N 19 0 = M 19 0 + 1 ∧ (∀ j : Nat, (j : Int) < 5 * M 19 0 → N 26 j = M 26 j) ∧ ∀ c : Nat, c < 5 → N 26 ((5 * M 19 0).toNat + c) = l.getD c 0
theorem pq_rz_of {M N : pz_M} {a b c d e v : Int} {k0 k1 k2 k3 k4 : Nat} (h0 : 0 ≤ M 19 0) (hk0 : (k0 : Int) = 5 * M 19 0) (hk1 : (k1 : Int) = 5 * M 19 0 + 1) (hk2 : (k2 : Int) = 5 * M 19 0 + 2) (hk3 : (k3 : Int) = 5 * M 19 0 + 3) (hk4 : (k4 : Int) = 5 * M 19 0 + 4) (hv : v = M 19 0 + 1)
    (E : N = pz_u (pz_u (pz_u (pz_u (pz_u (pz_u M 26 k0 a) 26 k1 b) 26 k2 c) 26 k3 d) 26 k4 e) 19 0 v) : pq_rz [a, b, c, d, e] M N ∧ ∀ b j : Nat, b ≠ 19 → b ≠ 26 → N b j = M b j := by
  refine ⟨fun _ => ⟨by rw [E, pz_uu]; exact hv, fun j hj => ?_, fun q hq => ?_⟩, fun b j h1 h2 => by rw [E, pz_una h1, pz_una h2, pz_una h2, pz_una h2, pz_una h2, pz_una h2]⟩
  · rw [E, pz_una (by decide), pz_unk (by first | decide | omega), pz_unk (by first | decide | omega), pz_unk (by first | decide | omega), pz_unk (by first | decide | omega), pz_unk (by first | decide | omega)]
  · rw [E, pz_una (by decide)]
    have hq : q = 0 ∨ q = 1 ∨ q = 2 ∨ q = 3 ∨ q = 4 := by omega
    rcases hq with rfl | rfl | rfl | rfl | rfl
    · rw [pz_unk (by first | decide | omega), pz_unk (by first | decide | omega), pz_unk (by first | decide | omega), pz_unk (by first | decide | omega), show (5 * M 19 0).toNat + 0 = k0 by omega, pz_uu]
      rfl
    · rw [pz_unk (by first | decide | omega), pz_unk (by first | decide | omega), pz_unk (by first | decide | omega), show (5 * M 19 0).toNat + 1 = k1 by omega, pz_uu]
      rfl
    · rw [pz_unk (by first | decide | omega), pz_unk (by first | decide | omega), show (5 * M 19 0).toNat + 2 = k2 by omega, pz_uu]
      rfl
    · rw [pz_unk (by first | decide | omega), show (5 * M 19 0).toNat + 3 = k3 by omega, pz_uu]
      rfl
    · rw [show (5 * M 19 0).toNat + 4 = k4 by omega, pz_uu]
      rfl
/-- what a line's method has found -/
def pq_rl (g : pz_rw) (M N : pz_M) (v : Int) : Prop := (v = 1 ∧ ∃ (j : Nat) (l : List Int), g = .inl (j, l) ∧ N 5 5 = (j : Int) ∧ pq_cu N ∧ pq_rz l M N ∧ pq_fs M N) ∨ (v = 0 ∧ ∃ (f : Int) (j : Nat), g = .inr (f, j) ∧ N 5 3 = f ∧ N 5 4 = M 51 j)
theorem pq_rl_w {g : pz_rw} {o : Nat} {M N N1 : pz_M} {f : Int} (h : pq_go o M N) (hg : g = .inr (f, (M 5 5).toNat + o)) (w : pq_wr N N1 f) : pq_rl g M N1 0 := by
  obtain ⟨c, h0, e, z, fs⟩ := h
  have b := pq_cu_b c
  refine Or.inr ⟨rfl, f, _, hg, w.1, ?_⟩
  rw [w.2 (by first | decide | omega) (by first | decide | omega), (pq_T3_of z).2.2]
  congr 1
  omega
theorem pq_rl_01 {g : pz_rw} {M N : pz_M} {v : Int} (h : pq_rl g M N v) : v = 0 ∨ v = 1 := by
  rcases h with ⟨a, -⟩ | ⟨a, -⟩
  · exact Or.inr a
  · exact Or.inl a
theorem pq_cu_fr {M N : pz_M} (c : pq_cu M) (f : ∀ b j : Nat, b ≠ 19 → b ≠ 26 → N b j = M b j) : pq_cu N := by
  unfold pq_cu
  rw [f 5 5 (by decide) (by decide), f 5 6 (by decide) (by decide), f 5 7 (by decide) (by decide), show N 49 = M 49 from funext fun j => f 49 j (by decide) (by decide), show N 50 = M 50 from funext fun j => f 50 j (by decide) (by decide)]
  exact c
theorem pq_rl_y {g : pz_rw} {o : Nat} {M N N1 : pz_M} {l : List Int} (h : pq_go o M N) (hg : g = .inl ((M 5 5).toNat + o, l)) (r : pq_rz l N N1) (f : ∀ b j : Nat, b ≠ 19 → b ≠ 26 → N1 b j = N b j) : pq_rl g M N1 1 := by
  obtain ⟨c, h0, e, z, fs⟩ := h
  have e19 : N 19 0 = M 19 0 := z.2 19 0 (by unfold pq_Pp; first | decide | omega)
  have e26 : ∀ j, N 26 j = M 26 j := fun j => z.2 26 j (by unfold pq_Pp; first | decide | omega)
  refine Or.inl ⟨rfl, _, l, hg, by rw [f 5 5 (by decide) (by decide)]; omega, pq_cu_fr c f, fun y => ?_, fs.tr ⟨f 5 3 (by decide) (by decide), f 5 4 (by decide) (by decide)⟩⟩
  obtain ⟨r1, r2, r3⟩ := r (by first | decide | omega)
  rw [e19] at r1 r2 r3
  exact ⟨r1, fun j hj => (r2 j hj).trans (e26 j), r3⟩
theorem pq_rl_f {g : pz_rw} {M N N1 : pz_M} (q : pq_rl g M N 0) (f : ∀ b j : Nat, b ≠ 19 → b ≠ 26 → N1 b j = N b j) : pq_rl g M N1 0 := by
  rcases q with ⟨a, -⟩ | ⟨-, k, j, a, b, c⟩
  · omega
  · exact Or.inr ⟨rfl, k, j, a, by rw [f 5 3 (by decide) (by decide)]; exact b, by rw [f 5 4 (by decide) (by decide)]; exact c⟩
/-- a line that ends with a number -/
theorem pq_rl_e {g : pz_rw} {h9 : Int → List Int} {o : Nat} {M N N1 N2 : pz_M} {lo hi t : Int} (h : pq_go o M N) (E : g = pz_nu (M 49) (M 50) lo hi ((M 5 5).toNat + o) (fun t => .inl ((M 5 5).toNat + o + 1, h9 t))) (q : pq_nm N N1 lo hi t) (z : pq_pr pq_Pp N N1) (h0 : 0 ≤ lo) (r : pq_rz (h9 t) N1 N2) (f : ∀ b j : Nat, b ≠ 19 → b ≠ 26 → N2 b j = N1 b j) : (t ≠ -1 → pq_rl g M N2 1) ∧ (t = -1 → pq_rl g M N2 0) := by
  refine ⟨fun hv => ?_, fun hv => ?_⟩
  · obtain ⟨a, b, -, -⟩ := pq_go_y h q hv z
    exact pq_rl_y a (by rw [E]; exact b _) r f
  · obtain ⟨k, a, w⟩ := pq_go_n h q hv h0
    exact pq_rl_f (pq_rl_w h (by rw [E]; exact a _) w) f
/-- A PLAN's line behind its first LINK -/
def pq_rE (M : pz_M) (d l : Int) : Prop := pz_rp (M 5 8) (M 49) (M 50) (M 5 5).toNat = if M 49 ((M 5 5).toNat + 1) = 20 then (if M 49 ((M 5 5).toNat + 3) = 100 ∧ M 50 ((M 5 5).toNat + 3) = l then .inr (2, (M 5 5).toNat + 3) else pz_nu (M 49) (M 50) 0 (M 5 8 - 1) ((M 5 5).toNat + 3) (fun m => pz_rq (M 49) (M 50) ((M 5 5).toNat + 4) d (M 49 ((M 5 5).toNat + 1)) l m)) else pz_rq (M 49) (M 50) ((M 5 5).toNat + 3) d (M 49 ((M 5 5).toNat + 1)) l 0
def pq_pO (M N : pz_M) (d w l m : Int) : Prop := (m = -1 ∧ pq_rl (pz_rp (M 5 8) (M 49) (M 50) (M 5 5).toNat) M N 0) ∨ (m ≠ -1 ∧ ∃ o : Nat, pq_go o M N ∧ pz_rp (M 5 8) (M 49) (M 50) (M 5 5).toNat = pz_rq (M 49) (M 50) ((M 5 5).toNat + o) d w l m)
def pq_pP (M N : pz_M) (d w l m q : Int) : Prop := (q = -1 ∧ pq_rl (pz_rp (M 5 8) (M 49) (M 50) (M 5 5).toNat) M N 0) ∨ (q ≠ -1 ∧ ∃ o : Nat, pq_go o M N ∧ pz_rp (M 5 8) (M 49) (M 50) (M 5 5).toNat = .inl ((M 5 5).toNat + o, [d, w, l, m, q]))
theorem pq_pO_0 {M N : pz_M} {d w l : Int} (h : pq_go 3 M N) (E : pq_rE M d l) (tw : M 49 ((M 5 5).toNat + 1) = w) (hw : w ≠ 20) : pq_pO M N d w l 0 := Or.inr ⟨by decide, 3, h, by
  have E : _ = _ := E
  rw [E, if_neg (by first | decide | omega), tw]⟩
theorem pq_pO_o {M N N1 : pz_M} {d w l m : Int} (h : pq_go 3 M N) (E : pq_rE M d l) (tw : M 49 ((M 5 5).toNat + 1) = w) (hw : w = 20) (q : (N 5 6 = 100 ∧ N 5 7 = l ∧ m = -1 ∧ pq_wr N N1 2) ∨ (¬ (N 5 6 = 100 ∧ N 5 7 = l) ∧ pq_nm N N1 0 (M 5 8 - 1) m)) (z : pq_pr pq_Pp N N1) : pq_pO M N1 d w l m := by
  have E : _ = _ := E
  obtain ⟨t, x⟩ := pq_go_t h
  rw [if_pos (by first | decide | omega)] at E
  rcases q with ⟨a1, a2, a3, a4⟩ | ⟨a1, a2⟩
  · rw [if_pos ⟨by omega, by omega⟩] at E
    exact Or.inl ⟨a3, pq_rl_w h E a4⟩
  · rw [if_neg (fun y => a1 ⟨by omega, by omega⟩)] at E
    by_cases hv : m = -1
    · obtain ⟨f, g, w'⟩ := pq_go_n h a2 hv (by decide)
      exact Or.inl ⟨hv, pq_rl_w h (by rw [E]; exact g _) w'⟩
    · obtain ⟨g1, g2, -, -⟩ := pq_go_y h a2 hv z
      refine Or.inr ⟨hv, 4, g1, ?_⟩
      rw [E, ← tw]
      exact g2 _
theorem pq_pP_q {M N N1 : pz_M} {d w l m v : Int} {o : Nat} (h : pq_go o M N) (E : pz_rp (M 5 8) (M 49) (M 50) (M 5 5).toNat = pz_rq (M 49) (M 50) ((M 5 5).toNat + o) d w l m) (hw : w = 18 ∨ w = 20) (q : pq_nm N N1 1 99 v) (z : pq_pr pq_Pp N N1) : pq_pP M N1 d w l m v := by
  unfold pz_rq at E
  rw [if_pos hw] at E
  by_cases hv : v = -1
  · obtain ⟨f, g, w'⟩ := pq_go_n h q hv (by decide)
    exact Or.inl ⟨hv, pq_rl_w h (by rw [E]; exact g _) w'⟩
  · obtain ⟨a, b, -, -⟩ := pq_go_y h q hv z
    refine Or.inr ⟨hv, o + 1, a, ?_⟩
    rw [E]
    exact b _
theorem pq_pP_0 {M N : pz_M} {d w l m : Int} {o : Nat} (h : pq_go o M N) (E : pz_rp (M 5 8) (M 49) (M 50) (M 5 5).toNat = pz_rq (M 49) (M 50) ((M 5 5).toNat + o) d w l m) (hw : ¬ (w = 18 ∨ w = 20)) : pq_pP M N d w l m 0 := by
  unfold pz_rq at E
  rw [if_neg hw] at E
  exact Or.inr ⟨by decide, o, h, E⟩
theorem pq_pP_e {M N N1 : pz_M} {d w l m q : Int} (h : pq_pP M N d w l m q) (r : pq_rz [d, w, l, m, q] N N1) (f : ∀ b j : Nat, b ≠ 19 → b ≠ 26 → N1 b j = N b j) : (q ≠ -1 → pq_rl (pz_rp (M 5 8) (M 49) (M 50) (M 5 5).toNat) M N1 1) ∧ (q = -1 → pq_rl (pz_rp (M 5 8) (M 49) (M 50) (M 5 5).toNat) M N1 0) := by
  rcases h with ⟨a, b⟩ | ⟨a, o, b, c⟩
  · exact ⟨fun y => absurd a y, fun _ => pq_rl_f b f⟩
  · exact ⟨fun _ => pq_rl_y b c r f, fun y => absurd y a⟩
/-! the lines of a TEXT -/
def pq_rc (ls : List (List Int)) (N : pz_M) : Prop := N 19 0 = (ls.length : Int) ∧ ∀ k c : Nat, k < ls.length → c < 5 → N 26 (5 * k + c) = (ls.getD k []).getD c 0
theorem pq_rc_s {ls : List (List Int)} {l : List Int} {N N1 : pz_M} (h : pq_rc ls N) (hl : ls.length < 16) (r : pq_rz l N N1) : pq_rc (ls ++ [l]) N1 := by
  obtain ⟨a, b⟩ := h
  obtain ⟨r1, r2, r3⟩ := r (by first | decide | omega)
  refine ⟨by rw [r1, a, List.length_append]; rfl, fun k c hk hc => ?_⟩
  rw [List.length_append] at hk
  have hk : k < ls.length + 1 := hk
  by_cases q : k = ls.length
  · have e : (ls ++ [l]).getD k [] = l := by
      rw [List.getD_eq_getElem?_getD, List.getElem?_append_right (by first | decide | omega), show k - ls.length = 0 by omega]
      rfl
    rw [e, show 5 * k + c = (5 * N 19 0).toNat + c by omega]
    exact r3 c hc
  · have e : (ls ++ [l]).getD k [] = ls.getD k [] := by
      rw [List.getD_eq_getElem?_getD, List.getElem?_append_left (by first | decide | omega), ← List.getD_eq_getElem?_getD]
    rw [e, r2 _ (by first | decide | omega)]
    exact b k c (by first | decide | omega) hc
theorem pq_rc_cg {ls : List (List Int)} {N N1 : pz_M} (h : pq_rc ls N) (e : N1 19 0 = N 19 0) (e2 : ∀ j, N1 26 j = N 26 j) : pq_rc ls N1 := ⟨by rw [e]; exact h.1, fun k c hk hc => by rw [e2]; exact h.2 k c hk hc⟩
def pq_rG (k : Int) (M : pz_M) (f i : Nat) : pz_rws := pz_gw (pz_fw k) (pz_row k (M 5 8) (M 49) (M 50)) (M 49) f i
def pq_rg (k : Int) (M N : pz_M) (v : Int) : Prop := (v = 1 ∧ ∃ ls : List (List Int), pq_rG k M 16 (M 5 5).toNat = .inl ls ∧ pq_rc ls N ∧ pq_fs M N) ∨ (v = 0 ∧ ∃ (f : Int) (j : Nat), pq_rG k M 16 (M 5 5).toNat = .inr (f, j) ∧ N 5 3 = f ∧ N 5 4 = M 51 j)
def pq_rn (k : Int) (M N : pz_M) (n : Int) : Prop := pq_cu N ∧ pq_T3 M N ∧ N 5 8 = M 5 8 ∧ ∃ ls : List (List Int), (ls.length : Int) = n ∧ ls.length ≤ 16 ∧ pq_rG k M 16 (M 5 5).toNat = pz_pres ls (pq_rG k M (16 - ls.length) (N 5 5).toNat) ∧ pq_rc ls N ∧ pq_fs M N
theorem pq_rn_0 {k : Int} {M N : pz_M} (c : pq_cu M) (e : N = pz_u M 19 0 0) : pq_rn k M N 0 := by
  have f : ∀ b j, b ≠ 19 → b ≠ 26 → N b j = M b j := fun b j q _ => by rw [e, pz_una q]
  refine ⟨pq_cu_fr c f, ⟨funext fun j => f 49 j (by decide) (by decide), funext fun j => f 50 j (by decide) (by decide), funext fun j => f 51 j (by decide) (by decide)⟩, f 5 8 (by decide) (by decide), [], rfl, by decide, ?_, ⟨by rw [e, pz_uu]; rfl, fun k c hk => absurd hk (Nat.not_lt_zero _)⟩, f 5 3 (by decide) (by decide), f 5 4 (by decide) (by decide)⟩
  rw [f 5 5 (by decide) (by decide), pz_pres_nil]
  rfl
theorem pq_rn_z {k n : Int} {M N : pz_M} (h : pq_rn k M N n) (t : N 5 6 = 101) : pq_rg k M N 1 := by
  obtain ⟨c, T, e, ls, a, b, d, r⟩ := h
  have tj := pq_cu_T c T.1
  refine Or.inl ⟨rfl, ls, ?_, r⟩
  rw [d]
  unfold pq_rG
  rw [pz_gw_z (by rw [tj]; exact t)]
  show (Sum.inl (ls ++ []) : pz_rws) = _
  rw [List.append_nil]
theorem pq_rg_w {k n f : Int} {M N N1 : pz_M} (h : pq_rn k M N n) (g : pq_rG k M (16 - n.toNat) (N 5 5).toNat = .inr (f, (N 5 5).toNat)) (w : pq_wr N N1 f) : pq_rg k M N1 0 := by
  obtain ⟨c, T, e, ls, a, b, d, r⟩ := h
  have hb := pq_cu_b c
  refine Or.inr ⟨rfl, f, _, ?_, w.1, by rw [w.2 (by first | decide | omega) (by first | decide | omega), T.2.2]⟩
  rw [d, show 16 - ls.length = 16 - n.toNat by omega, g]
  rfl
theorem pq_rn_w {k n : Int} {M N N1 : pz_M} (h : pq_rn k M N n) (t : N 5 6 ≠ 101) (t2 : N 5 6 ≠ pz_fw k) (w : pq_wr N N1 1) : pq_rg k M N1 0 := by
  have tj := pq_cu_T h.1 h.2.1.1
  exact pq_rg_w h (pz_gw_w (by rw [tj]; exact t) (by rw [tj]; exact t2)) w
theorem pq_rn_m {k n : Int} {M N N1 : pz_M} (h : pq_rn k M N n) (hn : n = 16) (t : N 5 6 ≠ 101) (t2 : N 5 6 = pz_fw k) (w : pq_wr N N1 3) : pq_rg k M N1 0 := by
  have tj := pq_cu_T h.1 h.2.1.1
  exact pq_rg_w h (pz_gw_m (by first | decide | omega) (by rw [tj]; exact t) (by rw [tj]; exact t2)) w
/-- behind a line: whether it is good -/
def pq_rv (k : Int) (M N : pz_M) (n s : Int) : Prop := (s = 0 ∧ pq_rg k M N 0) ∨ (s = 1 ∧ pq_cu N ∧ pq_T3 M N ∧ N 5 8 = M 5 8 ∧ ∃ (ls : List (List Int)) (l : List Int), (ls.length : Int) = n ∧ ls.length < 16 ∧ pq_rG k M 16 (M 5 5).toNat = pz_pres ls (pz_gs (M 49) (.inl ((N 5 5).toNat, l)) (pq_rG k M (15 - ls.length))) ∧ pq_rc (ls ++ [l]) N ∧ pq_fs M N)
theorem pq_rn_r {k n v : Int} {M N N1 N2 : pz_M} (h : pq_rn k M N n) (hn : n < 16) (t : N 5 6 ≠ 101) (t2 : N 5 6 = pz_fw k) (x : pq_nx N N1) (z : pq_pr pq_Pp N N1) (r : pq_rl (pz_row k (N1 5 8) (N1 49) (N1 50) (N1 5 5).toNat) N1 N2 v) (T2 : pq_T3 M N2) (e2 : N2 5 8 = M 5 8) : pq_rv k M N2 n v := by
  obtain ⟨c, T, e, ls, a, b, d, r0⟩ := h
  have tj := pq_cu_T c T.1
  have z3 := pq_T3_of z
  have e1 : N1 5 8 = M 5 8 := (z.2 5 8 (by unfold pq_Pp; first | decide | omega)).trans e
  have ei := pq_cu_1 c x.2.1
  rw [e1, z3.1, z3.2.1, T.1, T.2.1, ei] at r
  have g : pq_rG k M (16 - ls.length) (N 5 5).toNat = pz_gs (M 49) (pz_row k (M 5 8) (M 49) (M 50) ((N 5 5).toNat + 1)) (pq_rG k M (15 - ls.length)) := pz_gw_s (by first | decide | omega) (by rw [tj]; exact t) (by rw [tj]; exact t2)
  rcases r with ⟨w, j, l, r1, r2, r3, r4, r5⟩ | ⟨w, f, j, r1, r2, r3⟩
  · refine Or.inr ⟨w, r3, T2, e2, ls, l, a, by omega, ?_, ?_, r0.2.tr (x.2.2.2.2.tr r5)⟩
    · rw [d, g, r1, show (N2 5 5).toNat = j by omega]
    · refine pq_rc_s (pq_rc_cg r0.1 (z.2 19 0 (by unfold pq_Pp; first | decide | omega)) (fun j => z.2 26 j (by unfold pq_Pp; first | decide | omega))) (by first | decide | omega) r4
  · refine Or.inl ⟨w, Or.inr ⟨rfl, f, j, ?_, r2, by rw [r3, z3.2.2, T.2.2]⟩⟩
    rw [d, g, r1]
    rfl
theorem pq_rv_b {k n s : Int} {M N : pz_M} (h : pq_rv k M N n s) (hs : s = 0) : pq_rg k M N 0 := by
  rcases h with ⟨-, a⟩ | ⟨a, -⟩
  · exact a
  · omega
theorem pq_rv_c {k n s : Int} {M N : pz_M} (h : pq_rv k M N n s) (hs : ¬ s = 0) : pq_cu N := by
  rcases h with ⟨a, -⟩ | ⟨-, a, -⟩
  · exact absurd a hs
  · exact a
theorem pq_rv_n {k n s : Int} {M N N1 : pz_M} (h : pq_rv k M N n s) (hs : ¬ s = 0) (t : N 5 6 ≠ 59) (w : pq_wr N N1 1) : pq_rg k M N1 0 := by
  rcases h with ⟨a, -⟩ | ⟨-, c, T, e, ls, l, a, b, d, r⟩
  · exact absurd a hs
  · have tj := pq_cu_T c T.1
    have hb := pq_cu_b c
    refine Or.inr ⟨rfl, 1, (N 5 5).toNat, ?_, w.1, by rw [w.2 (by first | decide | omega) (by first | decide | omega), T.2.2]⟩
    rw [d]
    show pz_pres ls (if M 49 (N 5 5).toNat = 59 then _ else _) = _
    rw [if_neg (by rw [tj]; exact t)]
    rfl
theorem pq_rv_y {k n s : Int} {M N N1 : pz_M} (h : pq_rv k M N n s) (hs : ¬ s = 0) (t : N 5 6 = 59) (x : pq_nx N N1) (z : pq_pr pq_Pp N N1) : pq_rn k M N1 (n + 1) := by
  rcases h with ⟨a, -⟩ | ⟨-, c, T, e, ls, l, a, b, d, r⟩
  · exact absurd a hs
  · have tj := pq_cu_T c T.1
    have z3 := pq_T3_of z
    refine ⟨x.1, ⟨z3.1.trans T.1, z3.2.1.trans T.2.1, z3.2.2.trans T.2.2⟩, (z.2 5 8 (by unfold pq_Pp; first | decide | omega)).trans e, ls ++ [l], by rw [List.length_append]; show ((ls.length + 1 : Nat) : Int) = n + 1; omega, by rw [List.length_append]; exact b, ?_, pq_rc_cg r.1 (z.2 19 0 (by unfold pq_Pp; first | decide | omega)) (fun j => z.2 26 j (by unfold pq_Pp; first | decide | omega)), r.2.tr x.2.2.2.2⟩
    rw [d, pq_cu_1 c x.2.1, List.length_append, ← pz_pres_pres]
    show pz_pres ls (if M 49 (N 5 5).toNat = 59 then _ else _) = _
    rw [if_pos (by rw [tj]; exact t), show 16 - (ls.length + [l].length) = 15 - ls.length by show 16 - (ls.length + 1) = _; omega]
theorem pz_fw1 {k : Int} (h : k = 1) : (17 : Int) = pz_fw k := by subst h; rfl
theorem pz_fw2 {k : Int} (h : k = 2) : (8 : Int) = pz_fw k := by subst h; rfl
theorem pz_fw3 {k : Int} (h : k = 3) : (13 : Int) = pz_fw k := by subst h; rfl
theorem pz_row1 {k n : Int} {T X : Nat → Int} {i : Nat} (h : k = 1) : pz_row k n T X i = pz_rp n T X i := if_pos h
theorem pz_row2 {k n : Int} {T X : Nat → Int} {i : Nat} (h : k = 2) : pz_row k n T X i = pz_rh n T X i := by subst h; rfl
theorem pz_row3 {k n : Int} {T X : Nat → Int} {i : Nat} (h : k = 3) : pz_row k n T X i = pz_rd n T X i := by subst h; rfl
/-! what is taken over: rows, a law, all TEXTS -/
def pz_t6 (r o : Nat) (M N : pz_M) : Prop := N r 0 = M o 0 ∧ (∀ j : Nat, j < 80 → N (r + 7) j = M (o + 7) j) ∧ ∀ b j : Nat, ¬ (b = r ∧ j = 0) → b ≠ r + 7 → N b j = M b j
theorem pz_t6_of {r o : Nat} {M M1 N : pz_M} {v : Int} {a1 a2 sp dp n : Nat} (hr : 13 ≤ r ∧ r < 20) (ho : 13 ≤ o ∧ o < 20) (e : M1 = pz_u M r 0 v) (hv : v = M o 0) (h1 : a1 = o + 7) (h2 : a2 = r + 7) (hs : sp = 0) (hd : dp = 0) (hn : n = 80) (z : N = pz_cpy M1 a1 sp a2 dp n) : pz_t6 r o M N := by
  subst hs; subst hd; subst hn
  refine ⟨?_, fun j hj => ?_, fun b j q1 q2 => ?_⟩
  · rw [z]
    unfold pz_cpy
    rw [if_neg (by first | decide | omega), e, pz_uu, hv]
  · rw [z]
    unfold pz_cpy
    rw [if_pos (by first | decide | omega), e, pz_una (by first | decide | omega), h1, show 0 + (j - 0) = j by omega]
  · rw [z]
    unfold pz_cpy
    rw [if_neg (by first | decide | omega), e, pz_une q1]
/-- the arrays of law g -/
def pz_lb3 (g : Nat) : Nat := 27 + 6 * (g - 10)
def pz_t3 (g o : Nat) (M N : pz_M) : Prop := N g 0 = M o 0 ∧ N g 1 = M o 1 ∧ (∀ k j : Nat, k < 4 → j < 16 → N (pz_lb3 g + k) j = M (pz_lb3 o + k) j) ∧ (∀ j : Nat, j < 400 → N (pz_lb3 g + 4) j = M (pz_lb3 o + 4) j) ∧ ∀ b j : Nat, ¬ (b = g ∧ (j = 0 ∨ j = 1)) → b < pz_lb3 g ∨ pz_lb3 g + 4 < b → N b j = M b j
theorem pz_cpy_i {M : pz_M} {a1 a2 n j : Nat} (h : j < n) : pz_cpy M a1 0 a2 0 n a2 j = M a1 j := by
  unfold pz_cpy
  rw [if_pos ⟨rfl, Nat.zero_le _, by omega⟩, show 0 + (j - 0) = j by omega]
theorem pz_cpy_o {M : pz_M} {a1 sp a2 dp n b j : Nat} (h : b ≠ a2) : pz_cpy M a1 sp a2 dp n b j = M b j := by
  unfold pz_cpy
  rw [if_neg (fun z => h z.1)]
theorem pz_t3_of {g o : Nat} {M M1 M2 N0 N1 N2 N3 N : pz_M} {v w : Int} {s0 s1 s2 s3 s4 d0 d1 d2 d3 d4 : Nat} (hg : 10 ≤ g ∧ g < 13) (ho : 10 ≤ o ∧ o < 13) (hne : g ≠ o) (e : M1 = pz_u M g 0 v) (hv : v = M o 0) (e2 : M2 = pz_u M1 g 1 w) (hw : w = M1 o 1)
    (a0 : s0 = pz_lb3 o) (a1 : s1 = pz_lb3 o + 1) (a2 : s2 = pz_lb3 o + 2) (a3 : s3 = pz_lb3 o + 3) (a4 : s4 = pz_lb3 o + 4) (b0 : d0 = pz_lb3 g) (b1 : d1 = pz_lb3 g + 1) (b2 : d2 = pz_lb3 g + 2) (b3 : d3 = pz_lb3 g + 3) (b4 : d4 = pz_lb3 g + 4)
    (z0 : N0 = pz_cpy M2 s0 0 d0 0 16) (z1 : N1 = pz_cpy N0 s1 0 d1 0 16) (z2 : N2 = pz_cpy N1 s2 0 d2 0 16) (z3 : N3 = pz_cpy N2 s3 0 d3 0 16) (z4 : N = pz_cpy N3 s4 0 d4 0 400) : pz_t3 g o M N := by
  have lb : pz_lb3 g = 27 + 6 * (g - 10) := rfl
  have lo : pz_lb3 o = 27 + 6 * (o - 10) := rfl
  have f2 : ∀ b j, ¬ (b = g ∧ (j = 0 ∨ j = 1)) → M2 b j = M b j := fun b j q => by rw [e2, pz_une (by first | decide | omega), e, pz_une (by first | decide | omega)]
  have fo : ∀ k j : Nat, k < 5 → M2 (pz_lb3 o + k) j = M (pz_lb3 o + k) j := fun k j hk => f2 _ j (by first | decide | omega)
  have n4 : ∀ b j, b ≠ d4 → N b j = N3 b j := fun b j q => by rw [z4]; exact pz_cpy_o q
  have n3 : ∀ b j, b ≠ d3 → N3 b j = N2 b j := fun b j q => by rw [z3]; exact pz_cpy_o q
  have n2 : ∀ b j, b ≠ d2 → N2 b j = N1 b j := fun b j q => by rw [z2]; exact pz_cpy_o q
  have n1 : ∀ b j, b ≠ d1 → N1 b j = N0 b j := fun b j q => by rw [z1]; exact pz_cpy_o q
  have n0 : ∀ b j, b ≠ d0 → N0 b j = M2 b j := fun b j q => by rw [z0]; exact pz_cpy_o q
  refine ⟨?_, ?_, fun k j hk hj => ?_, fun j hj => ?_, fun b j q1 q2 => ?_⟩
  · rw [n4 _ _ (by first | decide | omega), n3 _ _ (by first | decide | omega), n2 _ _ (by first | decide | omega), n1 _ _ (by first | decide | omega), n0 _ _ (by first | decide | omega), e2, pz_une (by first | decide | omega), e, pz_uu, hv]
  · rw [n4 _ _ (by first | decide | omega), n3 _ _ (by first | decide | omega), n2 _ _ (by first | decide | omega), n1 _ _ (by first | decide | omega), n0 _ _ (by first | decide | omega), e2, pz_uu, hw, e, pz_une (by first | decide | omega)]
  · have hk : k = 0 ∨ k = 1 ∨ k = 2 ∨ k = 3 := by omega
    rcases hk with rfl | rfl | rfl | rfl
    · rw [n4 _ _ (by first | decide | omega), n3 _ _ (by first | decide | omega), n2 _ _ (by first | decide | omega), n1 _ _ (by first | decide | omega), show pz_lb3 g + 0 = d0 by omega, z0, pz_cpy_i hj, show s0 = pz_lb3 o + 0 by omega]
      exact fo 0 j (by first | decide | omega)
    · rw [n4 _ _ (by first | decide | omega), n3 _ _ (by first | decide | omega), n2 _ _ (by first | decide | omega), ← b1, z1, pz_cpy_i hj, n0 _ _ (by first | decide | omega), a1]
      exact fo 1 j (by first | decide | omega)
    · rw [n4 _ _ (by first | decide | omega), n3 _ _ (by first | decide | omega), ← b2, z2, pz_cpy_i hj, n1 _ _ (by first | decide | omega), n0 _ _ (by first | decide | omega), a2]
      exact fo 2 j (by first | decide | omega)
    · rw [n4 _ _ (by first | decide | omega), ← b3, z3, pz_cpy_i hj, n2 _ _ (by first | decide | omega), n1 _ _ (by first | decide | omega), n0 _ _ (by first | decide | omega), a3]
      exact fo 3 j (by first | decide | omega)
  · rw [← b4, z4, pz_cpy_i hj, n3 _ _ (by first | decide | omega), n2 _ _ (by first | decide | omega), n1 _ _ (by first | decide | omega), n0 _ _ (by first | decide | omega), a4]
    exact fo 4 j (by first | decide | omega)
  · rw [n4 _ _ (by first | decide | omega), n3 _ _ (by first | decide | omega), n2 _ _ (by first | decide | omega), n1 _ _ (by first | decide | omega), n0 _ _ (by first | decide | omega)]
    exact f2 b j q1
def pz_td (d b : Nat) : Prop := b = d + 2 ∨ (27 + 6 * (d - 8) ≤ b ∧ b ≤ 31 + 6 * (d - 8)) ∨ (13 + 3 * (d - 8) ≤ b ∧ b ≤ 15 + 3 * (d - 8)) ∨ (20 + 3 * (d - 8) ≤ b ∧ b ≤ 22 + 3 * (d - 8))
def pz_Tc (d s : Nat) (M N : pz_M) : Prop := (∀ j : Nat, j < 2 → N (d + 2) j = M (s + 2) j) ∧ (∀ k j : Nat, k < 4 → j < 16 → N (27 + 6 * (d - 8) + k) j = M (27 + 6 * (s - 8) + k) j) ∧ (∀ j : Nat, j < 400 → N (31 + 6 * (d - 8)) j = M (31 + 6 * (s - 8)) j) ∧ (∀ k : Nat, k < 3 → N (13 + 3 * (d - 8) + k) 0 = M (13 + 3 * (s - 8) + k) 0) ∧ (∀ k j : Nat, k < 3 → j < 80 → N (20 + 3 * (d - 8) + k) j = M (20 + 3 * (s - 8) + k) j) ∧ ∀ b j : Nat, ¬ pz_td d b → N b j = M b j
theorem pz_Tc_of {d s g g' p p' q q' r r' : Nat} {M M1 M2 M3 N : pz_M} (h : (d = 8 ∧ s = 9) ∨ (d = 9 ∧ s = 8)) (a : g = d + 2) (a' : g' = s + 2) (b : p = 13 + 3 * (d - 8)) (b' : p' = 13 + 3 * (s - 8)) (c : q = 14 + 3 * (d - 8)) (c' : q' = 14 + 3 * (s - 8)) (e : r = 15 + 3 * (d - 8)) (e' : r' = 15 + 3 * (s - 8))
    (t1 : pz_t3 g g' M M1) (t2 : pz_t6 p p' M1 M2) (t3 : pz_t6 q q' M2 M3) (t4 : pz_t6 r r' M3 N) : pz_Tc d s M N := by
  obtain ⟨x1, x2, x3, x4, x5⟩ := t1
  obtain ⟨y1, y2, y3⟩ := t2
  obtain ⟨z1, z2, z3⟩ := t3
  obtain ⟨w1, w2, w3⟩ := t4
  have lg : pz_lb3 g = 27 + 6 * (d - 8) := by unfold pz_lb3; omega
  have lg' : pz_lb3 g' = 27 + 6 * (s - 8) := by unfold pz_lb3; omega
  rw [lg, lg'] at x3 x4
  rw [lg] at x5
  refine ⟨fun j hj => ?_, fun k j hk hj => ?_, fun j hj => ?_, fun k hk => ?_, fun k j hk hj => ?_, fun b0 j hb => ?_⟩
  · rw [w3 _ _ (by first | decide | omega) (by first | decide | omega), z3 _ _ (by first | decide | omega) (by first | decide | omega), y3 _ _ (by first | decide | omega) (by first | decide | omega), ← a, ← a']
    have hj : j = 0 ∨ j = 1 := by omega
    rcases hj with rfl | rfl
    · exact x1
    · exact x2
  · rw [w3 _ _ (by first | decide | omega) (by first | decide | omega), z3 _ _ (by first | decide | omega) (by first | decide | omega), y3 _ _ (by first | decide | omega) (by first | decide | omega)]
    exact x3 k j hk hj
  · rw [w3 _ _ (by first | decide | omega) (by first | decide | omega), z3 _ _ (by first | decide | omega) (by first | decide | omega), y3 _ _ (by first | decide | omega) (by first | decide | omega), show 31 + 6 * (d - 8) = 27 + 6 * (d - 8) + 4 by omega, show 31 + 6 * (s - 8) = 27 + 6 * (s - 8) + 4 by omega]
    exact x4 j hj
  · have hk : k = 0 ∨ k = 1 ∨ k = 2 := by omega
    rcases hk with rfl | rfl | rfl
    · rw [w3 _ _ (by first | decide | omega) (by first | decide | omega), z3 _ _ (by first | decide | omega) (by first | decide | omega), show 13 + 3 * (d - 8) + 0 = p by omega, y1, x5 _ _ (by first | decide | omega) (by first | decide | omega), show 13 + 3 * (s - 8) + 0 = p' by omega]
    · rw [w3 _ _ (by first | decide | omega) (by first | decide | omega), show 13 + 3 * (d - 8) + 1 = q by omega, z1, y3 _ _ (by first | decide | omega) (by first | decide | omega), x5 _ _ (by first | decide | omega) (by first | decide | omega), show 13 + 3 * (s - 8) + 1 = q' by omega]
    · rw [show 13 + 3 * (d - 8) + 2 = r by omega, w1, z3 _ _ (by first | decide | omega) (by first | decide | omega), y3 _ _ (by first | decide | omega) (by first | decide | omega), x5 _ _ (by first | decide | omega) (by first | decide | omega), show 13 + 3 * (s - 8) + 2 = r' by omega]
  · have hk : k = 0 ∨ k = 1 ∨ k = 2 := by omega
    rcases hk with rfl | rfl | rfl
    · rw [w3 _ _ (by first | decide | omega) (by first | decide | omega), z3 _ _ (by first | decide | omega) (by first | decide | omega), show 20 + 3 * (d - 8) + 0 = p + 7 by omega, y2 j hj, x5 _ _ (by first | decide | omega) (by first | decide | omega), show 20 + 3 * (s - 8) + 0 = p' + 7 by omega]
    · rw [w3 _ _ (by first | decide | omega) (by first | decide | omega), show 20 + 3 * (d - 8) + 1 = q + 7 by omega, z2 j hj, y3 _ _ (by first | decide | omega) (by first | decide | omega), x5 _ _ (by first | decide | omega) (by first | decide | omega), show 20 + 3 * (s - 8) + 1 = q' + 7 by omega]
    · rw [show 20 + 3 * (d - 8) + 2 = r + 7 by omega, w2 j hj, z3 _ _ (by first | decide | omega) (by first | decide | omega), y3 _ _ (by first | decide | omega) (by first | decide | omega), x5 _ _ (by first | decide | omega) (by first | decide | omega), show 20 + 3 * (s - 8) + 2 = r' + 7 by omega]
  · unfold pz_td at hb
    rw [w3 _ _ (by first | decide | omega) (by first | decide | omega), z3 _ _ (by first | decide | omega) (by first | decide | omega), y3 _ _ (by first | decide | omega) (by first | decide | omega), x5 _ _ (by first | decide | omega) (by first | decide | omega)]
/-- what THE IMAGE does to the TEXTS -/
def pz_Ti (d s : Nat) (M N : pz_M) : Prop := (∀ j : Nat, j < 2 → N (d + 2) j = M (s + 2) j) ∧ (∀ k j : Nat, k < 4 → j < 16 → N (27 + 6 * (d - 8) + k) j = M (27 + 6 * (s - 8) + k) j) ∧ (∀ j : Nat, j < 400 → N (31 + 6 * (d - 8)) j = M (31 + 6 * (s - 8)) j) ∧ (∀ k : Nat, k < 3 → N (13 + 3 * (d - 8) + k) 0 = M (13 + 3 * (s - 8) + k) 0) ∧ (∀ k j : Nat, k < 3 → j < 80 → N (20 + 3 * (d - 8) + k) j = M (20 + 3 * (s - 8) + k) j) ∧ ∀ b j : Nat, 10 ≤ b → b ≤ 37 → ¬ pz_td d b → N b j = M b j
theorem pz_Ti_of {d s : Nat} {M M1 M2 N : pz_M} (h : (d = 8 ∧ s = 9) ∨ (d = 9 ∧ s = 8)) (q : pz_Tc d s M1 M2) (f1 : ∀ b j : Nat, 10 ≤ b → b ≤ 37 → M1 b j = M b j) (f2 : ∀ b j : Nat, 10 ≤ b → b ≤ 37 → N b j = M2 b j) : pz_Ti d s M N := by
  obtain ⟨q1, q2, q3, q4, q5, q6⟩ := q
  refine ⟨fun j hj => ?_, fun k j hk hj => ?_, fun j hj => ?_, fun k hk => ?_, fun k j hk hj => ?_, fun b j h1 h2 h3 => ?_⟩
  · rw [f2 _ _ (by first | decide | omega) (by first | decide | omega), q1 j hj, f1 _ _ (by first | decide | omega) (by first | decide | omega)]
  · rw [f2 _ _ (by first | decide | omega) (by first | decide | omega), q2 k j hk hj, f1 _ _ (by first | decide | omega) (by first | decide | omega)]
  · rw [f2 _ _ (by first | decide | omega) (by first | decide | omega), q3 j hj, f1 _ _ (by first | decide | omega) (by first | decide | omega)]
  · rw [f2 _ _ (by first | decide | omega) (by first | decide | omega), q4 k hk, f1 _ _ (by first | decide | omega) (by first | decide | omega)]
  · rw [f2 _ _ (by first | decide | omega) (by first | decide | omega), q5 k j hk hj, f1 _ _ (by first | decide | omega) (by first | decide | omega)]
  · rw [f2 b j h1 h2, q6 b j h3, f1 b j h1 h2]
theorem pz_img_x {A B C X Y : Prop} (h : A ∨ (B ∧ X) ∨ (C ∧ Y)) : A ∨ B ∨ C := by
  rcases h with h | ⟨h, -⟩ | ⟨h, -⟩
  · exact Or.inl h
  · exact Or.inr (Or.inl h)
  · exact Or.inr (Or.inr h)
theorem pz_rf6 {o : Nat} (h : 13 ≤ o ∧ o < 20) : pz_rf o 1 = o + 7 := by
  have h : o = 13 ∨ o = 14 ∨ o = 15 ∨ o = 16 ∨ o = 17 ∨ o = 18 ∨ o = 19 := by omega
  rcases h with rfl | rfl | rfl | rfl | rfl | rfl | rfl <;> rfl
theorem pz_rf3 {o : Nat} (h : 10 ≤ o ∧ o < 13) : pz_rf o 2 = pz_lb3 o ∧ pz_rf o 3 = pz_lb3 o + 1 ∧ pz_rf o 4 = pz_lb3 o + 2 ∧ pz_rf o 5 = pz_lb3 o + 3 ∧ pz_rf o 6 = pz_lb3 o + 4 := by
  have h : o = 10 ∨ o = 11 ∨ o = 12 := by omega
  rcases h with rfl | rfl | rfl <;> exact ⟨rfl, rfl, rfl, rfl, rfl⟩
theorem pz_rf10 {t : Nat} (h : t = 8 ∨ t = 9) : pz_rf t 0 = t + 2 ∧ pz_rf t 1 = 13 + 3 * (t - 8) ∧ pz_rf t 2 = 14 + 3 * (t - 8) ∧ pz_rf t 3 = 15 + 3 * (t - 8) := by
  rcases h with rfl | rfl <;> exact ⟨rfl, rfl, rfl, rfl⟩
theorem pz_rf37 {g : Nat} (h : 10 ≤ g ∧ g < 13) : pz_rf g 7 = 32 + 6 * (g - 10) := by
  have h : g = 10 ∨ g = 11 ∨ g = 12 := by omega
  rcases h with rfl | rfl | rfl <;> rfl
/-! a TEXT is told -/
def pq_Pt (b j : Nat) : Prop := (b = 3 ∧ j = 2) ∨ (b = 4 ∧ j = 1) ∨ (b = 5 ∧ 3 ≤ j) ∨ (b = 7 ∧ j = 0) ∨ b = 10 ∨ (12 ≤ b ∧ b ≤ 15) ∨ (19 ≤ b ∧ b ≤ 22) ∨ (26 ≤ b ∧ b ≤ 31) ∨ (39 ≤ b ∧ b ≤ 44) ∨ (49 ≤ b ∧ b ≤ 51)
theorem pq_pr.pt {M M' : pz_M} (h : pq_pr pq_Pp M M') : pq_pr pq_Pt M M' := ⟨h.1, fun b j q => h.2 b j (by unfold pq_Pt at q; unfold pq_Pp; omega)⟩
theorem pq_pr.plt {M M' : pz_M} (h : pq_pr pq_Pl M M') : pq_pr pq_Pt M M' := ⟨h.1, fun b j q => h.2 b j (by unfold pq_Pt at q; unfold pq_Pl; omega)⟩
/-- N's tokens are those of M's tape -/
def pq_tT (M N : pz_M) (c : Nat) : Prop := c ≤ 400 ∧ pz_agr c (pz_T (M 48) (M 4 1).toNat) (pz_XV (M 48) (M 4 1).toNat) (N 49) (N 50) ∧ ∀ j : Nat, j ≤ c → N 51 j = (pz_tp (M 48) (M 4 1).toNat j : Int)
theorem pq_tT_of {M M1 N : pz_M} (e1 : M1 48 = M 48) (e2 : M1 4 1 = M 4 1) (h : ∃ c : Nat, c ≤ 400 ∧ pz_tp (M1 48) (M1 4 1).toNat c = (M1 4 1).toNat ∧ pz_tks (M1 48) (M1 4 1).toNat ((c : Int) + 1) N ∧ pz_fr M1 N) : ∃ c : Nat, pq_tT M N c := by
  obtain ⟨c, h1, h2, h3, h4⟩ := h
  rw [e1, e2] at h2 h3
  refine ⟨c, h1, ⟨?_, fun k hk => ?_⟩, fun j hj => ?_⟩
  · unfold pz_T pz_tt
    rw [if_pos (by first | decide | omega)]
  · have := h3 k (by first | decide | omega)
    exact ⟨this.2.1, this.2.2⟩
  · exact (h3 j (by first | decide | omega)).1
theorem pq_tT_cg {M N N' : pz_M} {c : Nat} (h : pq_tT M N c) (e : N' 49 = N 49) (e2 : N' 50 = N 50) (e3 : N' 51 = N 51) : pq_tT M N' c := by
  unfold pq_tT
  rw [e, e2, e3]
  exact h
theorem pq_cu_0 {M N N1 : pz_M} {c : Nat} (h : pq_tT M N c) (l : (0 ≤ (0 : Int) ∧ (0 : Int) ≤ 400 ∧ N1 = pq_la N 0) ∨ (¬ (0 ≤ (0 : Int) ∧ (0 : Int) ≤ 400) ∧ N1 = N)) : pq_cu N1 ∧ N1 5 5 = 0 ∧ pq_tT M N1 c := by
  rcases l with ⟨-, -, e⟩ | ⟨e, -⟩
  · have u : ∀ b j, ¬ (b = 5 ∧ 5 ≤ j ∧ j ≤ 7) → N1 b j = N b j := fun b j q => by rw [e]; exact pq_la_o q
    have e49 : N1 49 = N 49 := funext fun j => u 49 j (by first | decide | omega)
    have e50 : N1 50 = N 50 := funext fun j => u 50 j (by first | decide | omega)
    have e5 : N1 5 5 = 0 := by
      rw [e]
      unfold pq_la
      rw [pz_une (by first | decide | omega), pz_une (by first | decide | omega), pz_uu]
    refine ⟨⟨by omega, ?_, ?_, c, h.1, by omega, ?_⟩, e5, pq_tT_cg h e49 e50 (funext fun j => u 51 j (by first | decide | omega))⟩
    · rw [e49, e5, e]
      unfold pq_la
      rw [pz_une (by first | decide | omega), pz_uu]
    · rw [e50, e5, e]
      unfold pq_la
      rw [pz_uu]
    · rw [e49, (h.2.1.2 c (Nat.le_refl _)).1, h.2.1.1]
  · omega
/-- the TEXTS' cells -/
def pq_xc (b : Nat) : Prop := b = 10 ∨ (13 ≤ b ∧ b ≤ 15) ∨ (20 ≤ b ∧ b ≤ 22) ∨ (27 ≤ b ∧ b ≤ 31)
def pq_lt (ls : List pz_lne) (N : pz_M) : Prop := N 10 0 = (ls.length : Int) ∧ N 10 1 = ((pz_fl (pz_catl ls)).length : Int) ∧ (∀ k : Nat, k < (pz_fl (pz_catl ls)).length → N 31 k = (pz_fl (pz_catl ls)).getD k 0) ∧ ∀ k : Nat, k < ls.length → pq_l1 ls k (N 27 k) (N 28 k) (N 29 k) (N 30 k)
def pq_rt (q : Nat) (ls : List (List Int)) (N : pz_M) : Prop := N (12 + q) 0 = (ls.length : Int) ∧ ∀ k c : Nat, k < ls.length → c < 5 → N (19 + q) (5 * k + c) = (ls.getD k []).getD c 0
def pq_e0 (M N : pz_M) (v : Int) : Prop := ∃ (c : Nat) (T X : Nat → Int), pz_agr c (pz_T (M 48) (M 4 1).toNat) (pz_XV (M 48) (M 4 1).toNat) T X ∧ ((∃ ls : List pz_lne, pz_gl T X 0 0 (.ok ls) ∧ v = (ls.length : Int) ∧ N 5 3 = 0 ∧ N 5 4 = -1 ∧ pq_lt ls N ∧ ∀ b j : Nat, (13 ≤ b ∧ b ≤ 15) ∨ (20 ≤ b ∧ b ≤ 22) → N b j = M b j) ∨
  (∃ (f : Int) (j : Nat), pz_gl T X 0 0 (.bad f j) ∧ v = -1 ∧ N 5 3 = f ∧ N 5 4 = (pz_tp (M 48) (M 4 1).toNat j : Int) ∧ ∀ b j : Nat, pq_xc b → N b j = M b j))
def pq_e1 (k l : Int) (M N : pz_M) (v : Int) : Prop := ∃ (c : Nat) (T X : Nat → Int), pz_agr c (pz_T (M 48) (M 4 1).toNat) (pz_XV (M 48) (M 4 1).toNat) T X ∧ ((∃ ls : List (List Int), pz_gw (pz_fw k) (pz_row k l T X) T 16 0 = .inl ls ∧ v = (ls.length : Int) ∧ ls.length ≤ 16 ∧ N 5 3 = 0 ∧ N 5 4 = -1 ∧ pq_rt k.toNat ls N ∧ ∀ b j : Nat, pq_xc b → b ≠ 12 + k.toNat → b ≠ 19 + k.toNat → N b j = M b j) ∨
  (∃ (f : Int) (j : Nat), pz_gw (pz_fw k) (pz_row k l T X) T 16 0 = .inr (f, j) ∧ v = -1 ∧ N 5 3 = f ∧ N 5 4 = (pz_tp (M 48) (M 4 1).toNat j : Int) ∧ ∀ b j : Nat, pq_xc b → N b j = M b j))
def pq_e2 (M N : pz_M) (v : Int) : Prop := v = -1 ∧ N 5 3 = 0 ∧ N 5 4 = -1 ∧ ∀ b j : Nat, pq_xc b → N b j = M b j
def pq_te (k l : Int) (M N : pz_M) (v : Int) : Prop := (k = 0 → pq_e0 M N v) ∧ (1 ≤ k ∧ k ≤ 3 → pq_e1 k l M N v) ∧ (¬ (0 ≤ k ∧ k ≤ 3) → pq_e2 M N v)
theorem pq_te_cg {k l v : Int} {M N N' : pz_M} (h : pq_te k l M N v) (e : ∀ b j : Nat, b ≠ 3 → b ≠ 7 → N' b j = N b j) : pq_te k l M N' v := by
  obtain ⟨h1, h2, h3⟩ := h
  have x : ∀ b j : Nat, pq_xc b → N' b j = N b j := fun b j q => e b j (by unfold pq_xc at q; first | decide | omega) (by unfold pq_xc at q; first | decide | omega)
  refine ⟨fun q => ?_, fun q => ?_, fun q => ?_⟩
  · obtain ⟨c, T, X, a, b⟩ := h1 q
    refine ⟨c, T, X, a, ?_⟩
    rcases b with ⟨ls, b1, b2, b3, b4, ⟨b5, b6, b7, b8⟩, b9⟩ | ⟨f, j, b1, b2, b3, b4, b5⟩
    · refine Or.inl ⟨ls, b1, b2, by rw [e 5 3 (by decide) (by decide)]; exact b3, by rw [e 5 4 (by decide) (by decide)]; exact b4, ⟨by rw [e 10 0 (by decide) (by decide)]; exact b5, by rw [e 10 1 (by decide) (by decide)]; exact b6, fun k hk => by rw [e 31 k (by decide) (by decide)]; exact b7 k hk, fun k hk => ?_⟩, fun b j y => (e b j (by first | decide | omega) (by first | decide | omega)).trans (b9 b j y)⟩
      rw [e 27 k (by decide) (by decide), e 28 k (by decide) (by decide), e 29 k (by decide) (by decide), e 30 k (by decide) (by decide)]
      exact b8 k hk
    · exact Or.inr ⟨f, j, b1, b2, by rw [e 5 3 (by decide) (by decide)]; exact b3, by rw [e 5 4 (by decide) (by decide)]; exact b4, fun b j y => (x b j y).trans (b5 b j y)⟩
  · obtain ⟨c, T, X, a, b⟩ := h2 q
    refine ⟨c, T, X, a, ?_⟩
    rcases b with ⟨ls, b1, b2, b0, b3, b4, ⟨b5, b6⟩, b9⟩ | ⟨f, j, b1, b2, b3, b4, b5⟩
    · exact Or.inl ⟨ls, b1, b2, b0, by rw [e 5 3 (by decide) (by decide)]; exact b3, by rw [e 5 4 (by decide) (by decide)]; exact b4, ⟨by rw [e _ 0 (by first | decide | omega) (by first | decide | omega)]; exact b5, fun k c hk hc => by rw [e _ _ (by first | decide | omega) (by first | decide | omega)]; exact b6 k c hk hc⟩, fun b j y y2 y3 => (x b j y).trans (b9 b j y y2 y3)⟩
    · exact Or.inr ⟨f, j, b1, b2, by rw [e 5 3 (by decide) (by decide)]; exact b3, by rw [e 5 4 (by decide) (by decide)]; exact b4, fun b j y => (x b j y).trans (b5 b j y)⟩
  · obtain ⟨a, b, c, d⟩ := h3 q
    exact ⟨a, by rw [e 5 3 (by decide) (by decide)]; exact b, by rw [e 5 4 (by decide) (by decide)]; exact c, fun b j y => (x b j y).trans (d b j y)⟩
/-- THE LAW is told -/
theorem pq_e0_y {M N N1 N2 : pz_M} {c : Nat} {v : Int} (hI : pz_ic N1) (t : pq_tT M N c) (h5 : N 5 5 = 0) (g : pq_lg N N1 v) (hv : ¬ v = 0) (f1 : N1 5 3 = 0 ∧ N1 5 4 = -1) (q : pz_t3 10 12 N1 N2) (x : ∀ b j : Nat, (13 ≤ b ∧ b ≤ 15) ∨ (20 ≤ b ∧ b ≤ 22) → N1 b j = M b j) : pq_e0 M N2 (N1 12 0) := by
  obtain ⟨q1, q2, q3, q4, q5⟩ := q
  have lb : pz_lb3 10 = 27 := rfl
  have lc : pz_lb3 12 = 39 := rfl
  rw [lb, lc] at q3 q4
  rw [lb] at q5
  have i := hI.2.2.2.1 12 (by decide) (by decide)
  rcases g with ⟨-, ls, g1, ⟨g2, g3, g4, g5⟩, -⟩ | ⟨g1, -⟩
  · rw [h5] at g1
    refine ⟨c, N 49, N 50, t.2.1, Or.inl ⟨ls, g1, g2, ?_, ?_, ⟨by rw [q1]; exact g2, by rw [q2]; exact g3, fun k hk => ?_, fun k hk => ?_⟩, fun b j y => (q5 b j (by first | decide | omega) (by first | decide | omega)).trans (x b j y)⟩⟩
    · rw [q5 5 3 (by first | decide | omega) (by first | decide | omega)]; exact f1.1
    · rw [q5 5 4 (by first | decide | omega) (by first | decide | omega)]; exact f1.2
    · exact (q4 k (by first | decide | omega)).trans (g4 k hk)
    · have a0 := q3 0 k (by first | decide | omega) (by first | decide | omega)
      have a1 := q3 1 k (by first | decide | omega) (by first | decide | omega)
      have a2 := q3 2 k (by first | decide | omega) (by first | decide | omega)
      have a3 := q3 3 k (by first | decide | omega) (by first | decide | omega)
      have a0 : N2 27 k = N1 39 k := a0
      have a1 : N2 28 k = N1 40 k := a1
      have a2 : N2 29 k = N1 41 k := a2
      have a3 : N2 30 k = N1 42 k := a3
      rw [a0, a1, a2, a3]
      exact g5 k hk
  · exact absurd g1 hv
theorem pq_e0_n {M N N1 : pz_M} {c : Nat} {v : Int} (t : pq_tT M N c) (h5 : N 5 5 = 0) (g : pq_lg N N1 v) (hv : v = 0) (x : ∀ b j : Nat, pq_xc b → N1 b j = M b j) : pq_e0 M N1 (-1) := by
  rcases g with ⟨g1, -⟩ | ⟨-, f, j, g1, g2, g3⟩
  · omega
  · rw [h5] at g1
    have tc : N 49 c = 101 := by rw [(t.2.1.2 c (Nat.le_refl _)).1, t.2.1.1]
    have l := pz_gl_le tc g1 (Nat.zero_le _) f j rfl
    exact ⟨c, N 49, N 50, t.2.1, Or.inr ⟨f, j, g1, rfl, g2, by rw [g3]; exact t.2.2 j l, x⟩⟩
/-- another TEXT is told -/
theorem pq_e1_y {k l v : Int} {M N N1 N2 : pz_M} {c q : Nat} (hI : pz_ic N1) (t : pq_tT M N c) (h5 : N 5 5 = 0) (h8 : N 5 8 = l) (g : pq_rg k N N1 v) (hv : ¬ v = 0) (f1 : N1 5 3 = 0 ∧ N1 5 4 = -1) (hq : (q : Int) = 12 + k) (hk : 1 ≤ k ∧ k ≤ 3) (z : pz_t6 q 19 N1 N2) (x : ∀ b j : Nat, pq_xc b → N1 b j = M b j) : pq_e1 k l M N2 (N1 19 0) := by
  obtain ⟨z1, z2, z3⟩ := z
  have i := hI.2.2.1 19 (by decide) (by decide)
  rcases g with ⟨-, ls, g1, ⟨g2, g3⟩, -⟩ | ⟨g1, -⟩
  · unfold pq_rG at g1
    rw [h5, h8] at g1
    refine ⟨c, N 49, N 50, t.2.1, Or.inl ⟨ls, g1, g2, by omega, ?_, ?_, ⟨?_, fun r d hr hd => ?_⟩, fun b j y y2 y3 => (z3 b j (by first | decide | omega) (by first | decide | omega)).trans (x b j y)⟩⟩
    · rw [z3 5 3 (by first | decide | omega) (by first | decide | omega)]; exact f1.1
    · rw [z3 5 4 (by first | decide | omega) (by first | decide | omega)]; exact f1.2
    · rw [show 12 + k.toNat = q by omega, z1]
      exact g2
    · rw [show 19 + k.toNat = q + 7 by omega, z2 _ (by first | decide | omega)]
      exact g3 r d hr hd
  · exact absurd g1 hv
theorem pq_e1_n {k l v : Int} {M N N1 : pz_M} {c : Nat} (t : pq_tT M N c) (h5 : N 5 5 = 0) (h8 : N 5 8 = l) (g : pq_rg k N N1 v) (hv : v = 0) (x : ∀ b j : Nat, pq_xc b → N1 b j = M b j) : pq_e1 k l M N1 (-1) := by
  rcases g with ⟨g1, -⟩ | ⟨-, f, j, g1, g2, g3⟩
  · omega
  · unfold pq_rG at g1
    rw [h5, h8] at g1
    have tc : N 49 c = 101 := by rw [(t.2.1.2 c (Nat.le_refl _)).1, t.2.1.1]
    have le := pz_gw_le tc 16 0 (Nat.zero_le _) f j g1
    exact ⟨c, N 49, N 50, t.2.1, Or.inr ⟨f, j, g1, rfl, g2, by rw [g3]; exact t.2.2 j le, x⟩⟩
end
section
/-! the bytes of the TAPE: signed in the class, unsigned in the model -/
def pz_sr (p s : Int) : Int := (Int32.ofInt p >>> (Int32.ofInt s &&& 31)).toInt
def pz_i8 (x : Int) : Int := (Int32.ofInt x).toInt8.toInt32.toInt
def pz_a8 (x : Int) : Int := (Int32.ofInt x &&& Int32.ofInt 255).toInt
theorem pz_by8 (x : Int) : -128 ≤ pz_i8 x ∧ pz_i8 x ≤ 127 ∧ pz_a8 x = pz_i8 x % 256 := by
  have b := pz_i2b x
  refine ⟨b.1, b.2, ?_⟩
  generalize hy : Int32.ofInt x = y
  have e1 : pz_i8 x % 256 = y.toInt % 256 := by
    unfold pz_i8
    rw [hy, Int8.toInt_toInt32, Int32.toInt_toInt8]
    exact Int.bmod_emod
  have h : (y &&& Int32.ofInt 255).toBitVec.toNat = y.toBitVec.toNat % 256 := by
    show (y.toBitVec &&& (255#32)).toNat = _
    rw [BitVec.toNat_and]
    exact Nat.and_two_pow_sub_one_eq_mod _ 8
  have e2 : (y &&& Int32.ofInt 255).toInt = ((y &&& Int32.ofInt 255).toBitVec.toNat : Int) := by
    show (y &&& Int32.ofInt 255).toBitVec.toInt = _
    rw [BitVec.toInt_eq_toNat_cond, if_pos (by first | decide | omega)]
  have e3 : y.toInt % 256 = ((y.toBitVec.toNat % 256 : Nat) : Int) := by
    show y.toBitVec.toInt % 256 = _
    rw [BitVec.toInt_eq_toNat_cond]
    split <;> omega
  unfold pz_a8
  rw [hy, e1, e2, h, e3]
def pz_sel (i : Nat) (p q w s u : Int) : Int := if i < 4 then p else if i < 8 then q else if i < 12 then w else if i < 16 then s else u
/-- four bytes are put; twenty -/
def pz_pt4 (x : Int) (M N : pz_M) : Prop := M 4 1 + 4 ≤ 400 → N 4 1 = M 4 1 + 4 ∧ (∀ k : Nat, (k : Int) < M 4 1 → N 48 k = M 48 k) ∧ ∀ i : Nat, i < 4 → N 48 ((M 4 1).toNat + i) = pz_i8 (pz_sr x (24 - 8 * (i : Int)))
def pz_fc (M N : pz_M) (x y : Int) : Prop := M 4 1 + 4 ≤ 400 → (∀ k : Nat, (k : Int) < M 4 1 → N 48 k = M 48 k) ∧ ∀ i : Nat, (i : Int) < (24 - y) / 8 → N 48 ((M 4 1).toNat + i) = pz_i8 (pz_sr x (24 - 8 * (i : Int)))
theorem pz_fc_0 {M : pz_M} {x : Int} : pz_fc M M x 24 := fun _ => ⟨fun _ _ => rfl, fun i hi => absurd hi (by first | decide | omega)⟩
theorem pz_fc_v {M N : pz_M} {x y : Int} (h : ¬ M 4 1 + 4 ≤ 400) : pz_fc M N x y := fun q => absurd q h
theorem pz_fc_s {M N N1 N2 : pz_M} {x y y' v w b : Int} {k : Nat} (h : pz_fc M N x y) (h0 : 0 ≤ M 4 1) (hy : 0 ≤ y) (hy2 : y ≤ 24) (h8 : (y + 8) % 8 = 0) (e4 : N 4 1 = min (M 4 1 + (24 - y) / 8) 400) (hk : (k : Int) = N 4 1) (ev : v = pz_sr x y) (eb : b = pz_i8 v) (e1 : N1 = pz_u N 48 k b) (e2 : N2 = pz_u N1 4 1 w) (hy' : y' = y - 8) : pz_fc M N2 x y' := by
  intro q
  obtain ⟨a, c⟩ := h q
  have f : ∀ j, N2 48 j = if j = k then b else N 48 j := fun j => by
    rw [e2, pz_una (by decide), e1]
    unfold pz_u
    by_cases z : j = k
    · rw [if_pos ⟨rfl, z⟩, if_pos z]
    · rw [if_neg (fun y => z y.2), if_neg z]
  refine ⟨fun j hj => ?_, fun i hi => ?_⟩
  · rw [f, if_neg (by first | decide | omega)]
    exact a j hj
  · rw [f]
    by_cases z : (i : Int) = (24 - y) / 8
    · rw [if_pos (by first | decide | omega), eb, ev, show y = 24 - 8 * (i : Int) by omega]
    · rw [if_neg (by first | decide | omega)]
      exact c i (by first | decide | omega)
theorem pz_pt4_of {M N : pz_M} {x y : Int} (h : pz_fc M N x y) (hy : y = -8) (e4 : N 4 1 = min (M 4 1 + (24 - y) / 8) 400) : pz_pt4 x M N := by
  intro q
  obtain ⟨a, c⟩ := h q
  exact ⟨by omega, a, fun i hi => c i (by first | decide | omega)⟩
def pz_fb (M N : pz_M) (p q w s u : Int) : Prop := (∀ k : Nat, (k : Int) < M 4 1 → N 48 k = M 48 k) ∧ ∀ i : Nat, i < 20 → N 48 ((M 4 1).toNat + i) = pz_i8 (pz_sr (pz_sel i p q w s u) (24 - 8 * ((i % 4 : Nat) : Int)))
theorem pz_fb_of {M N1 N2 N3 N4 N5 : pz_M} {p q w s u : Int} (h : M 4 1 + 20 ≤ 400) (h0 : 0 ≤ M 4 1) (a1 : pz_pt4 p M N1) (a2 : pz_pt4 q N1 N2) (a3 : pz_pt4 w N2 N3) (a4 : pz_pt4 s N3 N4) (a5 : pz_pt4 u N4 N5) : N5 4 1 = M 4 1 + 20 ∧ pz_fb M N5 p q w s u := by
  obtain ⟨b1, c1, d1⟩ := a1 (by first | decide | omega)
  obtain ⟨b2, c2, d2⟩ := a2 (by first | decide | omega)
  obtain ⟨b3, c3, d3⟩ := a3 (by first | decide | omega)
  obtain ⟨b4, c4, d4⟩ := a4 (by first | decide | omega)
  obtain ⟨b5, c5, d5⟩ := a5 (by first | decide | omega)
  refine ⟨by omega, fun k hk => ?_, fun i hi => ?_⟩
  · rw [c5 k (by first | decide | omega), c4 k (by first | decide | omega), c3 k (by first | decide | omega), c2 k (by first | decide | omega), c1 k hk]
  · have hi : i < 4 ∨ (4 ≤ i ∧ i < 8) ∨ (8 ≤ i ∧ i < 12) ∨ (12 ≤ i ∧ i < 16) ∨ (16 ≤ i ∧ i < 20) := by omega
    unfold pz_sel
    rcases hi with hi | hi | hi | hi | hi
    · rw [c5 _ (by first | decide | omega), c4 _ (by first | decide | omega), c3 _ (by first | decide | omega), c2 _ (by first | decide | omega), if_pos (by first | decide | omega), d1 i hi, show ((i % 4 : Nat) : Int) = (i : Int) by omega]
    · rw [c5 _ (by first | decide | omega), c4 _ (by first | decide | omega), c3 _ (by first | decide | omega), if_neg (by first | decide | omega), if_pos (by first | decide | omega), show (M 4 1).toNat + i = (N1 4 1).toNat + (i - 4) by omega, d2 (i - 4) (by first | decide | omega), show ((i % 4 : Nat) : Int) = ((i - 4 : Nat) : Int) by omega]
    · rw [c5 _ (by first | decide | omega), c4 _ (by first | decide | omega), if_neg (by first | decide | omega), if_neg (by first | decide | omega), if_pos (by first | decide | omega), show (M 4 1).toNat + i = (N2 4 1).toNat + (i - 8) by omega, d3 (i - 8) (by first | decide | omega), show ((i % 4 : Nat) : Int) = ((i - 8 : Nat) : Int) by omega]
    · rw [c5 _ (by first | decide | omega), if_neg (by first | decide | omega), if_neg (by first | decide | omega), if_neg (by first | decide | omega), if_pos (by first | decide | omega), show (M 4 1).toNat + i = (N3 4 1).toNat + (i - 12) by omega, d4 (i - 12) (by first | decide | omega), show ((i % 4 : Nat) : Int) = ((i - 12 : Nat) : Int) by omega]
    · rw [if_neg (by first | decide | omega), if_neg (by first | decide | omega), if_neg (by first | decide | omega), if_neg (by first | decide | omega), show (M 4 1).toNat + i = (N4 4 1).toNat + (i - 16) by omega, d5 (i - 16) (by first | decide | omega), show ((i % 4 : Nat) : Int) = ((i - 16 : Nat) : Int) by omega]
def pz_fm (M N : pz_M) (n p q w s u : Int) : Prop := (∀ k : Nat, (k : Int) < M 1 16 → N 67 k = M 67 k) ∧ ∀ i : Nat, (i : Int) < n → N 67 ((M 1 16).toNat + i) = pz_a8 (pz_sr (pz_sel i p q w s u) (24 - 8 * ((i % 4 : Nat) : Int)))
theorem pz_fm_0 {M : pz_M} {p q w s u : Int} : pz_fm M M 0 p q w s u := ⟨fun _ _ => rfl, fun i hi => absurd hi (by first | decide | omega)⟩
theorem pz_fm_s {M N N1 N2 : pz_M} {n n' p q w s u c x y b z : Int} {k : Nat} (h : pz_fm M N n p q w s u) (h0 : 0 ≤ M 1 16) (hn : 0 ≤ n) (hk : (k : Int) = M 1 16 + n) (hc : c = pz_sel n.toNat p q w s u) (hx : x = 24 - 8 * (n % 4)) (hy : y = pz_sr c x) (hb : b = pz_a8 y) (e1 : N1 = pz_u N 67 k b) (e2 : N2 = pz_u N1 1 16 z) (hn' : n' = n + 1) : pz_fm M N2 n' p q w s u := by
  obtain ⟨a, d⟩ := h
  have f : ∀ j, N2 67 j = if j = k then b else N 67 j := fun j => by
    rw [e2, pz_una (by decide), e1]
    unfold pz_u
    by_cases z : j = k
    · rw [if_pos ⟨rfl, z⟩, if_pos z]
    · rw [if_neg (fun y => z y.2), if_neg z]
  refine ⟨fun j hj => ?_, fun i hi => ?_⟩
  · rw [f, if_neg (by first | decide | omega)]
    exact a j hj
  · rw [f]
    by_cases z : (i : Int) = n
    · rw [if_pos (by first | decide | omega), hb, hy, hc, hx, show n.toNat = i by omega, show ((i % 4 : Nat) : Int) = n % 4 by omega]
    · rw [if_neg (by first | decide | omega)]
      exact d i (by first | decide | omega)
theorem pz_sel_1 {n : Nat} {p q w s u : Int} (h : n < 4) : p = pz_sel n p q w s u := (if_pos h).symm
theorem pz_sel_2 {n : Nat} {p q w s u : Int} (h : 4 ≤ n ∧ n < 8) : q = pz_sel n p q w s u := by
  unfold pz_sel
  rw [if_neg (by first | decide | omega), if_pos (by first | decide | omega)]
theorem pz_sel_3 {n : Nat} {p q w s u : Int} (h : 8 ≤ n ∧ n < 12) : w = pz_sel n p q w s u := by
  unfold pz_sel
  rw [if_neg (by first | decide | omega), if_neg (by first | decide | omega), if_pos (by first | decide | omega)]
theorem pz_sel_4 {n : Nat} {p q w s u : Int} (h : 12 ≤ n ∧ n < 16) : s = pz_sel n p q w s u := by
  unfold pz_sel
  rw [if_neg (by first | decide | omega), if_neg (by first | decide | omega), if_neg (by first | decide | omega), if_pos (by first | decide | omega)]
theorem pz_sel_5 {n : Nat} {p q w s u : Int} (h : 16 ≤ n) : u = pz_sel n p q w s u := by
  unfold pz_sel
  rw [if_neg (by first | decide | omega), if_neg (by first | decide | omega), if_neg (by first | decide | omega), if_neg (by first | decide | omega)]
def pq_Pf (b j : Nat) : Prop := (b = 4 ∧ j = 1) ∨ b = 48
end
section
/-! sets of LINKS as numbers; the rows of RECORDS and PHONES -/
def pz_zs (v : Int) (f : Nat → Bool) : Prop := ∃ s : Nat, v = (s : Int) ∧ s < 4096 ∧ ∀ k : Nat, s.testBit k = f k
theorem pz_sb_cg {v : Int} {f g : Nat → Bool} (h : pz_zs v f) (e : ∀ k, f k = g k) : pz_zs v g := by
  obtain ⟨s, a, b, c⟩ := h
  exact ⟨s, a, b, fun k => (c k).trans (e k)⟩
theorem pz_sb_ext {v w : Int} {f g : Nat → Bool} (h : pz_zs v f) (h' : pz_zs w g) (e : ∀ k, f k = g k) : v = w := by
  obtain ⟨s, a, b, c⟩ := h
  obtain ⟨t, a', b', c'⟩ := h'
  have : s = t := Nat.eq_of_testBit_eq (fun k => by rw [c, c', e])
  rw [a, a', this]
theorem pz_sb_r {v : Int} {f : Nat → Bool} (h : pz_zs v f) : 0 ≤ v ∧ v < 4096 := by
  obtain ⟨s, a, b, c⟩ := h
  omega
theorem pz_sb_hi {v : Int} {f : Nat → Bool} {k : Nat} (h : pz_zs v f) (hk : 12 ≤ k) : f k = false := by
  obtain ⟨s, a, b, c⟩ := h
  rw [← c]
  exact Nat.testBit_lt_two_pow (Nat.lt_of_lt_of_le b (Nat.pow_le_pow_right (n := 2) (i := 12) (by decide) hk))
theorem pz_sb_0 : pz_zs 0 (fun _ => false) := ⟨0, rfl, by decide, fun k => Nat.zero_testBit k⟩
theorem pz_i32_n {z : Int32} {r : Nat} (h : z.toBitVec.toNat = r) (hr : r < 4096) : z.toInt = (r : Int) := by
  show z.toBitVec.toInt = _
  rw [BitVec.toInt_eq_toNat_cond, h, if_pos (by first | decide | omega)]
theorem pz_n12s {s : Nat} (h : s < 4096) : (Int32.ofInt (s : Int)).toBitVec.toNat = s := by
  rw [pz_n12 (by first | decide | omega) (by first | decide | omega)]
  exact Int.toNat_natCast s
theorem pz_sb_or {x y : Int} {f g : Nat → Bool} (hx : pz_zs x f) (hy : pz_zs y g) : pz_zs (Int32.ofInt x ||| Int32.ofInt y).toInt (fun k => f k || g k) := by
  obtain ⟨s, rfl, s1, s2⟩ := hx
  obtain ⟨t, rfl, t1, t2⟩ := hy
  have l : s ||| t < 4096 := Nat.or_lt_two_pow (n := 12) s1 t1
  refine ⟨s ||| t, pz_i32_n ?_ l, l, fun k => by rw [Nat.testBit_or, s2, t2]⟩
  show ((Int32.ofInt (s : Int)).toBitVec ||| (Int32.ofInt (t : Int)).toBitVec).toNat = _
  rw [BitVec.toNat_or, pz_n12s s1, pz_n12s t1]
theorem pz_sb_and {x y : Int} {f g : Nat → Bool} (hx : pz_zs x f) (hy : pz_zs y g) : pz_zs (Int32.ofInt x &&& Int32.ofInt y).toInt (fun k => f k && g k) := by
  obtain ⟨s, rfl, s1, s2⟩ := hx
  obtain ⟨t, rfl, t1, t2⟩ := hy
  have l : s &&& t < 4096 := Nat.lt_of_le_of_lt Nat.and_le_left s1
  refine ⟨s &&& t, pz_i32_n ?_ l, l, fun k => by rw [Nat.testBit_and, s2, t2]⟩
  show ((Int32.ofInt (s : Int)).toBitVec &&& (Int32.ofInt (t : Int)).toBitVec).toNat = _
  rw [BitVec.toNat_and, pz_n12s s1, pz_n12s t1]
theorem pz_sb_xor {x y : Int} {f g : Nat → Bool} (hx : pz_zs x f) (hy : pz_zs y g) : pz_zs (Int32.ofInt x ^^^ Int32.ofInt y).toInt (fun k => Bool.xor (f k) (g k)) := by
  obtain ⟨s, rfl, s1, s2⟩ := hx
  obtain ⟨t, rfl, t1, t2⟩ := hy
  have l : s ^^^ t < 4096 := Nat.xor_lt_two_pow (n := 12) s1 t1
  refine ⟨s ^^^ t, pz_i32_n ?_ l, l, fun k => by rw [Nat.testBit_xor, s2, t2]⟩
  show ((Int32.ofInt (s : Int)).toBitVec ^^^ (Int32.ofInt (t : Int)).toBitVec).toNat = _
  rw [BitVec.toNat_xor, pz_n12s s1, pz_n12s t1]
theorem pz_shv {i : Int} (h0 : 0 ≤ i) (h1 : i ≤ 12) : (Int32.ofInt 1 <<< (Int32.ofInt i &&& 31)).toInt = ((2 ^ i.toNat : Nat) : Int) := by
  have h : i = 0 ∨ i = 1 ∨ i = 2 ∨ i = 3 ∨ i = 4 ∨ i = 5 ∨ i = 6 ∨ i = 7 ∨ i = 8 ∨ i = 9 ∨ i = 10 ∨ i = 11 ∨ i = 12 := by omega
  rcases h with rfl | rfl | rfl | rfl | rfl | rfl | rfl | rfl | rfl | rfl | rfl | rfl | rfl <;> decide +kernel
theorem pz_sb_1 {i : Int} (h0 : 0 ≤ i) (h1 : i ≤ 11) : pz_zs (Int32.ofInt 1 <<< (Int32.ofInt i &&& 31)).toInt (fun k => decide (i.toNat = k)) :=
  ⟨2 ^ i.toNat, pz_shv h0 (by first | decide | omega), Nat.pow_lt_pow_right (n := 12) (by decide) (by first | decide | omega), fun _ => Nat.testBit_two_pow⟩
theorem pz_sb_all {n y v : Int} (h0 : 0 ≤ n) (h1 : n ≤ 12) (hy : y = (Int32.ofInt 1 <<< (Int32.ofInt n &&& 31)).toInt) (hv : v = y - 1) : pz_zs v (fun k => decide (k < n.toNat)) := by
  have p : 0 < 2 ^ n.toNat := Nat.two_pow_pos _
  have q : 2 ^ n.toNat ≤ 2 ^ 12 := Nat.pow_le_pow_right (by decide) (by first | decide | omega)
  rw [pz_shv h0 h1] at hy
  refine ⟨2 ^ n.toNat - 1, by omega, by omega, fun k => Nat.testBit_two_pow_sub_one _ _⟩
theorem pz_m1 : (Int32.ofInt (-1)).toBitVec = BitVec.allOnes 32 := by decide
theorem pz_sb_an {x y v w : Int} {f g : Nat → Bool} (hx : pz_zs x f) (hy : pz_zs y g) (hw : w = (Int32.ofInt y ^^^ Int32.ofInt (-1)).toInt) (hv : v = (Int32.ofInt x &&& Int32.ofInt w).toInt) : pz_zs v (fun k => f k && !g k) := by
  obtain ⟨s, rfl, s1, s2⟩ := hx
  obtain ⟨t, rfl, t1, t2⟩ := hy
  rw [hw, Int32.ofInt_toInt] at hv
  rw [hv]
  have le : ((Int32.ofInt (s : Int)).toBitVec &&& ((Int32.ofInt (t : Int)).toBitVec ^^^ (Int32.ofInt (-1)).toBitVec)).toNat ≤ s := by
    rw [BitVec.toNat_and, pz_n12s s1]
    exact Nat.and_le_left
  refine ⟨_, pz_i32_n (r := ((Int32.ofInt (s : Int)).toBitVec &&& ((Int32.ofInt (t : Int)).toBitVec ^^^ (Int32.ofInt (-1)).toBitVec)).toNat) rfl (by first | decide | omega), by omega, fun k => ?_⟩
  show Nat.testBit _ k = (f k && !g k)
  rw [BitVec.toNat_and, BitVec.toNat_xor, pz_n12s s1, pz_n12s t1, Nat.testBit_and, Nat.testBit_xor, s2, t2, pz_m1, BitVec.toNat_allOnes, Nat.testBit_two_pow_sub_one]
  by_cases hk : k < 32
  · rw [decide_eq_true hk]
    cases f k <;> cases g k <;> rfl
  · have z : f k = false := by
      rw [← s2]
      exact Nat.testBit_lt_two_pow (Nat.lt_of_lt_of_le s1 (Nat.pow_le_pow_right (n := 2) (i := 12) (by decide) (by first | decide | omega)))
    rw [z]
    rfl
/-- the bit of a LINK -/
theorem pz_ni {z : Int32} {r : Nat} (h : z.toBitVec.toNat = r) (hr : r < 2147483648) : z.toInt = (r : Int) := by
  show z.toBitVec.toInt = _
  rw [BitVec.toInt_eq_toNat_cond, h, if_pos (by first | decide | omega)]
theorem pz_nn {y : Nat} (h : y < 2147483648) : (Int32.ofInt (y : Int)).toBitVec.toNat = y := by
  rw [Int32.ofInt_eq_ofNat]
  exact pk_tn (n := y) (by first | decide | omega)
theorem pz_srs {i : Int} (h0 : 0 ≤ i) (h1 : i ≤ 12) : ((Int32.ofInt i &&& 31).toBitVec.smod 32).toNat = i.toNat := by
  have h : i = 0 ∨ i = 1 ∨ i = 2 ∨ i = 3 ∨ i = 4 ∨ i = 5 ∨ i = 6 ∨ i = 7 ∨ i = 8 ∨ i = 9 ∨ i = 10 ∨ i = 11 ∨ i = 12 := by omega
  rcases h with rfl | rfl | rfl | rfl | rfl | rfl | rfl | rfl | rfl | rfl | rfl | rfl | rfl <;> decide +kernel
theorem pz_sb_at {x i v w : Int} {f : Nat → Bool} (hx : pz_zs x f) (h0 : 0 ≤ i) (h1 : i ≤ 12) (hw : w = (Int32.ofInt x >>> (Int32.ofInt i &&& 31)).toInt) (hv : v = (Int32.ofInt w &&& Int32.ofInt 1).toInt) : v = if f i.toNat = true then 1 else 0 := by
  obtain ⟨s, rfl, s1, s2⟩ := hx
  rw [hw, Int32.ofInt_toInt] at hv
  have n := pz_n12s s1
  have m : (Int32.ofInt (s : Int)).toBitVec.msb = false := BitVec.msb_eq_false_iff_two_mul_lt.mpr (by rw [n]; omega)
  have e : ((Int32.ofInt (s : Int) >>> (Int32.ofInt i &&& 31)) &&& Int32.ofInt 1).toBitVec.toNat = s / 2 ^ i.toNat % 2 := by
    rw [Int32.toBitVec_and, Int32.toBitVec_shiftRight, BitVec.toNat_and]
    show ((Int32.ofInt (s : Int)).toBitVec.sshiftRight ((Int32.ofInt i &&& 31).toBitVec.smod 32).toNat).toNat &&& 1 = _
    rw [BitVec.sshiftRight_eq_of_msb_false m, BitVec.toNat_ushiftRight, n, pz_srs h0 h1, Nat.and_one_is_mod, Nat.shiftRight_eq_div_pow]
  rw [hv, pz_ni e (Nat.lt_of_lt_of_le (Nat.mod_lt _ (by decide)) (by decide)), ← s2, Nat.testBit_eq_decide_div_mod_eq]
  rcases Nat.mod_two_eq_zero_or_one (s / 2 ^ i.toNat) with q | q <;> rw [q] <;> rfl
def pz_cnt (f : Nat → Bool) : Nat → Int
  | 0 => 0
  | n + 1 => pz_cnt f n + (if f n = true then 1 else 0)
theorem pz_cnt_cg {f g : Nat → Bool} : ∀ n, (∀ k, k < n → f k = g k) → pz_cnt f n = pz_cnt g n := by
  intro n
  induction n with
  | zero => intro _; rfl
  | succ n ih =>
    intro h
    show pz_cnt f n + _ = pz_cnt g n + _
    rw [ih (fun k hk => h k (by first | decide | omega)), h n (by first | decide | omega)]
theorem pz_cnt_b {f : Nat → Bool} : ∀ n : Nat, 0 ≤ pz_cnt f n ∧ pz_cnt f n ≤ (n : Int) := by
  intro n
  induction n with
  | zero => exact ⟨Int.le_refl _, Int.le_refl _⟩
  | succ n ih =>
    show 0 ≤ pz_cnt f n + _ ∧ pz_cnt f n + _ ≤ _
    split <;> omega
theorem pz_cnt_up {f : Nat → Bool} {n : Nat} : ∀ m, (∀ k, n ≤ k → f k = false) → pz_cnt f (n + m) = pz_cnt f n := by
  intro m
  induction m with
  | zero => intro _; rfl
  | succ m ih =>
    intro h
    show pz_cnt f (n + m) + (if f (n + m) = true then 1 else 0) = pz_cnt f n
    rw [ih h, h (n + m) (by first | decide | omega)]
    exact Int.add_zero _
/-- what the JDK's bitCount reckons -/
def pz_shu (y s : Int) : Int := ((Int32.ofInt y).toUInt32 >>> ((Int32.ofInt s).toUInt32 &&& Int32.toUInt32 31)).toInt32.toInt
def pz_ian (y z : Int) : Int := (Int32.ofInt y &&& Int32.ofInt z).toInt
def pz_bc1 (x : Int) : Int := pz_w (x - pz_ian (pz_shu x 1) 1431655765)
def pz_bc2 (x : Int) : Int := pz_w (pz_ian x 858993459 + pz_ian (pz_shu x 2) 858993459)
def pz_bc3 (x : Int) : Int := pz_ian (pz_w (x + pz_shu x 4)) 252645135
def pz_bc4 (x : Int) : Int := pz_w (x + pz_shu x 8)
def pz_bc5 (x : Int) : Int := pz_w (x + pz_shu x 16)
def pz_bcf (x : Int) : Int := pz_ian (pz_bc5 (pz_bc4 (pz_bc3 (pz_bc2 (pz_bc1 x))))) 63
def pz_nb1 (x : Nat) : Nat := x - ((x >>> 1) &&& 1431655765)
def pz_nb2 (x : Nat) : Nat := (x &&& 858993459) + ((x >>> 2) &&& 858993459)
def pz_nb3 (x : Nat) : Nat := (x + (x >>> 4)) &&& 252645135
def pz_nb4 (x : Nat) : Nat := x + (x >>> 8)
def pz_nb5 (x : Nat) : Nat := x + (x >>> 16)
def pz_cn (s : Nat) : Nat → Nat
  | 0 => 0
  | n + 1 => pz_cn s n + (s >>> n) % 2
abbrev pz_bck (s : Nat) : Prop := (pz_nb5 (pz_nb4 (pz_nb3 (pz_nb2 (pz_nb1 s))))) &&& 63 = pz_cn s 12
theorem pz_bc_k : ∀ a : Fin 64, ∀ b : Fin 64, pz_bck (64 * a.val + b.val) := by decide +kernel
theorem pz_cn_e {s : Nat} : ∀ n, pz_cnt (fun k => s.testBit k) n = (pz_cn s n : Int) := by
  intro n
  induction n with
  | zero => rfl
  | succ n ih =>
    show pz_cnt (fun k => s.testBit k) n + (if s.testBit n = true then 1 else 0) = ((pz_cn s n + (s >>> n) % 2 : Nat) : Int)
    rw [ih, Nat.testBit_eq_decide_div_mod_eq, Nat.shiftRight_eq_div_pow]
    rcases Nat.mod_two_eq_zero_or_one (s / 2 ^ n) with q | q <;> rw [q] <;> rfl
theorem pz_ian_n {y z : Nat} (h : y < 2147483648) (h' : z < 2147483648) : pz_ian (y : Int) (z : Int) = ((y &&& z : Nat) : Int) := by
  unfold pz_ian
  refine pz_ni ?_ (Nat.lt_of_le_of_lt Nat.and_le_left h)
  rw [Int32.toBitVec_and, BitVec.toNat_and, pz_nn h, pz_nn h']
theorem pz_shu_n {y k : Nat} (h : y < 2147483648) (hk : k = 1 ∨ k = 2 ∨ k = 4 ∨ k = 8 ∨ k = 16) : pz_shu (y : Int) (k : Int) = ((y >>> k : Nat) : Int) := by
  unfold pz_shu
  refine pz_ni ?_ (Nat.lt_of_le_of_lt (Nat.shiftRight_le y k) h)
  have key : ∀ c : UInt32, (c.toBitVec % 32).toNat = k → (((Int32.ofInt (y : Int)).toUInt32 >>> c).toInt32).toBitVec.toNat = y >>> k := fun c hc => by
    show (((Int32.ofInt (y : Int)).toUInt32 >>> c).toBitVec).toNat = y >>> k
    rw [UInt32.toBitVec_shiftRight, BitVec.ushiftRight_eq', BitVec.toNat_ushiftRight, hc]
    rw [show (Int32.ofInt (y : Int)).toUInt32.toBitVec.toNat = y from pz_nn h]
  refine key _ ?_
  rcases hk with rfl | rfl | rfl | rfl | rfl <;> decide +kernel
theorem pz_nb1_e {x : Nat} (h : x < 4096) : pz_bc1 (x : Int) = (pz_nb1 x : Int) ∧ pz_nb1 x < 4096 := by
  have a := Nat.shiftRight_le x 1
  have b := @Nat.and_le_left (x >>> 1) 1431655765
  have e : pz_shu (x : Int) 1 = ((x >>> 1 : Nat) : Int) := pz_shu_n (k := 1) (by first | decide | omega) (by first | decide | omega)
  have f : pz_ian ((x >>> 1 : Nat) : Int) 1431655765 = (((x >>> 1) &&& 1431655765 : Nat) : Int) := pz_ian_n (z := 1431655765) (by first | decide | omega) (by first | decide | omega)
  unfold pz_bc1 pz_nb1
  rw [e, f, pz_wi (by first | decide | omega) (by first | decide | omega)]
  exact ⟨by omega, by omega⟩
theorem pz_nb2_e {x : Nat} (h : x < 4096) : pz_bc2 (x : Int) = (pz_nb2 x : Int) ∧ pz_nb2 x < 8192 := by
  have a := Nat.shiftRight_le x 2
  have b := @Nat.and_le_left (x >>> 2) 858993459
  have c := @Nat.and_le_left x 858993459
  have e : pz_shu (x : Int) 2 = ((x >>> 2 : Nat) : Int) := pz_shu_n (k := 2) (by first | decide | omega) (by first | decide | omega)
  have f : pz_ian ((x >>> 2 : Nat) : Int) 858993459 = (((x >>> 2) &&& 858993459 : Nat) : Int) := pz_ian_n (z := 858993459) (by first | decide | omega) (by first | decide | omega)
  have g : pz_ian (x : Int) 858993459 = ((x &&& 858993459 : Nat) : Int) := pz_ian_n (z := 858993459) (by first | decide | omega) (by first | decide | omega)
  unfold pz_bc2 pz_nb2
  rw [e, f, g, pz_wi (by first | decide | omega) (by first | decide | omega)]
  exact ⟨by omega, by omega⟩
theorem pz_nb3_e {x : Nat} (h : x < 8192) : pz_bc3 (x : Int) = (pz_nb3 x : Int) ∧ pz_nb3 x < 16384 := by
  have a := Nat.shiftRight_le x 4
  have b := @Nat.and_le_left (x + (x >>> 4)) 252645135
  have e : pz_shu (x : Int) 4 = ((x >>> 4 : Nat) : Int) := pz_shu_n (k := 4) (by first | decide | omega) (by first | decide | omega)
  have f : pz_ian ((x + (x >>> 4) : Nat) : Int) 252645135 = (((x + (x >>> 4)) &&& 252645135 : Nat) : Int) := pz_ian_n (z := 252645135) (by first | decide | omega) (by first | decide | omega)
  unfold pz_bc3 pz_nb3
  rw [e, pz_wi (by first | decide | omega) (by first | decide | omega), show (x : Int) + ((x >>> 4 : Nat) : Int) = ((x + (x >>> 4) : Nat) : Int) by omega, f]
  exact ⟨rfl, by omega⟩
theorem pz_nb4_e {x : Nat} (h : x < 16384) : pz_bc4 (x : Int) = (pz_nb4 x : Int) ∧ pz_nb4 x < 32768 := by
  have a := Nat.shiftRight_le x 8
  have e : pz_shu (x : Int) 8 = ((x >>> 8 : Nat) : Int) := pz_shu_n (k := 8) (by first | decide | omega) (by first | decide | omega)
  unfold pz_bc4 pz_nb4
  rw [e, pz_wi (by first | decide | omega) (by first | decide | omega)]
  exact ⟨by omega, by omega⟩
theorem pz_nb5_e {x : Nat} (h : x < 32768) : pz_bc5 (x : Int) = (pz_nb5 x : Int) ∧ pz_nb5 x < 65536 := by
  have a := Nat.shiftRight_le x 16
  have e : pz_shu (x : Int) 16 = ((x >>> 16 : Nat) : Int) := pz_shu_n (k := 16) (by first | decide | omega) (by first | decide | omega)
  unfold pz_bc5 pz_nb5
  rw [e, pz_wi (by first | decide | omega) (by first | decide | omega)]
  exact ⟨by omega, by omega⟩
theorem pz_bcf_n {s : Nat} (h : s < 4096) : pz_bcf (s : Int) = pz_cnt (fun k => s.testBit k) 12 := by
  obtain ⟨e1, b1⟩ := pz_nb1_e h
  obtain ⟨e2, b2⟩ := pz_nb2_e b1
  obtain ⟨e3, b3⟩ := pz_nb3_e b2
  obtain ⟨e4, b4⟩ := pz_nb4_e b3
  obtain ⟨e5, b5⟩ := pz_nb5_e b4
  unfold pz_bcf
  rw [e1, e2, e3, e4, e5, pz_cn_e]
  have k : pz_bck (64 * (s / 64) + s % 64) := pz_bc_k ⟨s / 64, by omega⟩ ⟨s % 64, by omega⟩
  rw [show 64 * (s / 64) + s % 64 = s by omega] at k
  rw [← show _ = pz_cn s 12 from k]
  exact pz_ian_n (z := 63) (by first | decide | omega) (by first | decide | omega)
def pz_bcx (x v : Int) : Prop := ∀ f : Nat → Bool, pz_zs x f → v = pz_cnt f 12
theorem pz_bcx_of {x v : Int} (h : v = pz_bcf x) : pz_bcx x v := by
  intro f hf
  obtain ⟨s, rfl, s1, s2⟩ := hf
  rw [h, pz_bcf_n s1]
  exact pz_cnt_cg 12 (fun k _ => s2 k)
/-! the rows in the class -/
def pz_cel (M : pz_M) (r : Nat) (i j v : Int) : Prop := (0 ≤ i ∧ i < M r 0 ∧ 0 ≤ j ∧ j < 5 → v = M (r + 7) (5 * i.toNat + j.toNat)) ∧ (¬ (0 ≤ i ∧ i < M r 0 ∧ 0 ≤ j ∧ j < 5) → v = -1)
def pz_phl (g : Nat → Nat → Int) (n : Nat) (l v : Int) : Prop := (v = -1 ∧ ∀ r, r < n → g r 0 ≠ l) ∨ (0 ≤ v ∧ v < (n : Int) ∧ g v.toNat 0 = l ∧ ∀ r, v.toNat < r → r < n → g r 0 ≠ l)
def pz_ph (g : Nat → Nat → Int) (l d : Int) (c : Nat) : Nat → Int
  | 0 => d
  | n + 1 => if g n 0 = l then g n c else pz_ph g l d c n
theorem pz_ph_cg {g g' : Nat → Nat → Int} {l d : Int} {c n : Nat} (h : ∀ r, r < n → g r 0 = g' r 0 ∧ g r c = g' r c) : pz_ph g l d c n = pz_ph g' l d c n := by
  induction n with
  | zero => rfl
  | succ n ih =>
    show (if g n 0 = l then g n c else pz_ph g l d c n) = (if g' n 0 = l then g' n c else pz_ph g' l d c n)
    rw [(h n (by first | decide | omega)).1, (h n (by first | decide | omega)).2, ih (fun r hr => h r (by first | decide | omega))]
theorem pz_ph_n {g : Nat → Nat → Int} {l d : Int} {c n : Nat} (h : ∀ r, r < n → g r 0 ≠ l) : pz_ph g l d c n = d := by
  induction n with
  | zero => rfl
  | succ n ih =>
    show (if g n 0 = l then g n c else pz_ph g l d c n) = d
    rw [if_neg (h n (by first | decide | omega))]
    exact ih (fun r hr => h r (by first | decide | omega))
theorem pz_ph_y {g : Nat → Nat → Int} {l d : Int} {c v : Nat} (h : g v 0 = l) : ∀ n, v < n → (∀ r, v < r → r < n → g r 0 ≠ l) → pz_ph g l d c n = g v c := by
  intro n
  induction n with
  | zero => intro q _; omega
  | succ n ih =>
    intro q w
    show (if g n 0 = l then g n c else pz_ph g l d c n) = g v c
    by_cases e : v = n
    · rw [← e, if_pos h]
    · rw [if_neg (w n (by first | decide | omega) (by first | decide | omega))]
      exact ih (by first | decide | omega) (fun r hr hr2 => w r hr (by first | decide | omega))
theorem pz_phl_ph {g : Nat → Nat → Int} {n c : Nat} {l d v : Int} (h : pz_phl g n l v) : (v = -1 → pz_ph g l d c n = d) ∧ (v ≠ -1 → 0 ≤ v ∧ v < (n : Int) ∧ pz_ph g l d c n = g v.toNat c) := by
  rcases h with ⟨h1, h2⟩ | ⟨h1, h2, h3, h4⟩
  · exact ⟨fun _ => pz_ph_n h2, fun y => absurd h1 y⟩
  · exact ⟨fun y => by omega, fun _ => ⟨h1, h2, pz_ph_y h3 n (by first | decide | omega) h4⟩⟩
/-- the TEXTS' rows: PHONES, RECORDS -/
def pz_gph (M : pz_M) (t : Nat) (r c : Nat) : Int := M (21 + 3 * (t - 8)) (5 * r + c)
def pz_grd (M : pz_M) (t : Nat) (r c : Nat) : Int := M (22 + 3 * (t - 8)) (5 * r + c)
def pz_nph (M : pz_M) (t : Nat) : Nat := (M (14 + 3 * (t - 8)) 0).toNat
def pz_nrd (M : pz_M) (t : Nat) : Nat := (M (15 + 3 * (t - 8)) 0).toNat
theorem pz_cel_g {M : pz_M} {r a : Nat} {i j v : Int} {c : Nat} (h : pz_cel M r i j v) (h1 : 0 ≤ i ∧ i < M r 0) (hj : j = (c : Int)) (hc : c < 5) (ha : a = r + 7) : v = M a (5 * i.toNat + c) := by
  rw [h.1 ⟨h1.1, h1.2, by omega, by omega⟩, ha, hj]
  rfl
/-- records: how many, of a LINK; the set of those who wrote -/
def pz_rc0 (g : Nat → Nat → Int) (l : Int) : Nat → Int
  | 0 => 0
  | n + 1 => pz_rc0 g l n + (if g n 1 = l then 1 else 0)
def pz_rcd (g : Nat → Nat → Int) (l lo hi : Int) : Nat → Int
  | 0 => 0
  | n + 1 => pz_rcd g l lo hi n + (if g n 1 = l ∧ lo ≤ g n 0 ∧ g n 0 ≤ hi then 1 else 0)
theorem pz_rcd_b {g : Nat → Nat → Int} {l lo hi : Int} (n : Nat) : 0 ≤ pz_rcd g l lo hi n ∧ pz_rcd g l lo hi n ≤ (n : Int) := by
  induction n with
  | zero => exact ⟨Int.le_refl _, Int.le_refl _⟩
  | succ n ih =>
    show 0 ≤ pz_rcd g l lo hi n + _ ∧ pz_rcd g l lo hi n + _ ≤ _
    split <;> omega
theorem pz_rcd_cg {g g' : Nat → Nat → Int} {l lo hi : Int} : ∀ n, (∀ r, r < n → g r 0 = g' r 0 ∧ g r 1 = g' r 1) → pz_rcd g l lo hi n = pz_rcd g' l lo hi n := by
  intro n
  induction n with
  | zero => intro _; rfl
  | succ n ih =>
    intro h
    show pz_rcd g l lo hi n + _ = pz_rcd g' l lo hi n + _
    rw [ih (fun r hr => h r (by first | decide | omega)), (h n (by first | decide | omega)).1, (h n (by first | decide | omega)).2]
theorem pz_rc0_d {g : Nat → Nat → Int} {l lo hi : Int} : ∀ n, (∀ r, r < n → lo ≤ g r 0 ∧ g r 0 ≤ hi) → pz_rc0 g l n = pz_rcd g l lo hi n := by
  intro n
  induction n with
  | zero => intro _; rfl
  | succ n ih =>
    intro h
    have := h n (by first | decide | omega)
    show pz_rc0 g l n + _ = pz_rcd g l lo hi n + _
    rw [ih (fun r hr => h r (by first | decide | omega))]
    by_cases c : g n 1 = l
    · rw [if_pos c, if_pos ⟨c, this.1, this.2⟩]
    · rw [if_neg c, if_neg (fun y => c y.1)]
def pz_wrt (g : Nat → Nat → Int) (lo hi : Int) (k : Nat) : Nat → Bool
  | 0 => false
  | n + 1 => pz_wrt g lo hi k n || (decide (lo ≤ g n 0 ∧ g n 0 ≤ hi) && decide ((g n 1).toNat = k))
def pz_wrs (g : Nat → Nat → Int) (n : Nat) (lo hi v : Int) : Prop := (∀ r, r < n → 0 ≤ g r 1 ∧ g r 1 < 12) → pz_zs v (fun k => pz_wrt g lo hi k n)
theorem pz_wrs_0 {g : Nat → Nat → Int} {lo hi : Int} : pz_wrs g 0 lo hi 0 := fun _ => pz_sb_0
theorem pz_wrs_n {g : Nat → Nat → Int} {n m : Nat} {lo hi v d : Int} (hm : m = n + 1) (hd : d = g n 0) (h : ¬ (lo ≤ d ∧ d ≤ hi)) (q : pz_wrs g n lo hi v) : pz_wrs g m lo hi v := by
  subst hm
  intro w
  refine pz_sb_cg (q (fun r hr => w r (by first | decide | omega))) (fun k => ?_)
  show _ = (pz_wrt g lo hi k n || (decide (lo ≤ g n 0 ∧ g n 0 ≤ hi) && decide ((g n 1).toNat = k)))
  rw [decide_eq_false (by rw [← hd]; exact h)]
  exact (Bool.or_false _).symm
theorem pz_wrs_y {g : Nat → Nat → Int} {n m : Nat} {lo hi v d l y z : Int} (hm : m = n + 1) (hd : d = g n 0) (h : lo ≤ d ∧ d ≤ hi) (hl : l = g n 1) (hy : y = (Int32.ofInt 1 <<< (Int32.ofInt l &&& 31)).toInt) (hz : z = (Int32.ofInt v ||| Int32.ofInt y).toInt) (q : pz_wrs g n lo hi v) : pz_wrs g m lo hi z := by
  subst hm
  intro w
  have b := w n (by first | decide | omega)
  rw [hz, hy]
  refine pz_sb_cg (pz_sb_or (q (fun r hr => w r (by first | decide | omega))) (pz_sb_1 (by first | decide | omega) (by first | decide | omega))) (fun k => ?_)
  show _ = (pz_wrt g lo hi k n || (decide (lo ≤ g n 0 ∧ g n 0 ≤ hi) && decide ((g n 1).toNat = k)))
  rw [decide_eq_true (show lo ≤ g n 0 ∧ g n 0 ≤ hi by rw [← hd]; exact h), hl]
  rfl
theorem pz_wrt_d {g : Nat → Nat → Int} {lo hi : Int} {k : Nat} : ∀ n, (∀ r, r < n → 0 ≤ g r 1) → (pz_wrt g lo hi k n = true ↔ pz_rcd g k lo hi n ≠ 0) := by
  intro n
  induction n with
  | zero => intro _; exact ⟨fun y => (by cases y), fun y => absurd rfl y⟩
  | succ n ih =>
    intro h
    have i1 := ih (fun r hr => h r (by first | decide | omega))
    have h0 := h n (by first | decide | omega)
    have b := pz_rcd_b (g := g) (l := (k : Int)) (lo := lo) (hi := hi) n
    show (pz_wrt g lo hi k n || (decide (lo ≤ g n 0 ∧ g n 0 ≤ hi) && decide ((g n 1).toNat = k))) = true ↔ pz_rcd g k lo hi n + (if g n 1 = (k : Int) ∧ lo ≤ g n 0 ∧ g n 0 ≤ hi then 1 else 0) ≠ 0
    by_cases c : g n 1 = (k : Int) ∧ lo ≤ g n 0 ∧ g n 0 ≤ hi
    · rw [if_pos c, decide_eq_true c.2, decide_eq_true (show (g n 1).toNat = k by omega)]
      exact ⟨fun _ => by omega, fun _ => Bool.or_true _⟩
    · have z : (decide (lo ≤ g n 0 ∧ g n 0 ≤ hi) && decide ((g n 1).toNat = k)) = false := by
        by_cases c1 : lo ≤ g n 0 ∧ g n 0 ≤ hi
        · rw [decide_eq_false (show ¬ (g n 1).toNat = k from fun y => c ⟨by omega, c1⟩)]
          exact Bool.and_false _
        · rw [decide_eq_false c1]
          rfl
      rw [if_neg c, z, Bool.or_false, Int.add_zero]
      exact i1
theorem pz_wrt_u {g : Nat → Nat → Int} {k : Nat} {d : Int} : ∀ n, (∀ r, r < n → 0 ≤ g r 0) → (pz_wrt g 0 d k n || pz_wrt g (d + 1) (d + 1) k n) = pz_wrt g 0 (d + 1) k n := by
  intro n
  induction n with
  | zero => intro _; rfl
  | succ n ih =>
    intro h
    have i1 := ih (fun r hr => h r (by first | decide | omega))
    have h0 := h n (by first | decide | omega)
    show ((pz_wrt g 0 d k n || (decide (0 ≤ g n 0 ∧ g n 0 ≤ d) && decide ((g n 1).toNat = k))) || (pz_wrt g (d + 1) (d + 1) k n || (decide (d + 1 ≤ g n 0 ∧ g n 0 ≤ d + 1) && decide ((g n 1).toNat = k)))) = (pz_wrt g 0 (d + 1) k n || (decide (0 ≤ g n 0 ∧ g n 0 ≤ d + 1) && decide ((g n 1).toNat = k)))
    rw [← i1]
    have e : decide (0 ≤ g n 0 ∧ g n 0 ≤ d + 1) = (decide (0 ≤ g n 0 ∧ g n 0 ≤ d) || decide (d + 1 ≤ g n 0 ∧ g n 0 ≤ d + 1)) := by
      rw [← Bool.decide_or]
      exact decide_eq_decide.mpr (by first | decide | omega)
    rw [e]
    cases pz_wrt g 0 d k n <;> cases pz_wrt g (d + 1) (d + 1) k n <;> cases decide (0 ≤ g n 0 ∧ g n 0 ≤ d) <;> cases decide (d + 1 ≤ g n 0 ∧ g n 0 ≤ d + 1) <;> cases decide ((g n 1).toNat = k) <;> rfl
/-- the first with the least -/
def pz_am (h : Nat → Int) : Nat → Nat
  | 0 => 0
  | n + 1 => if h (n + 1) < h (pz_am h n) then n + 1 else pz_am h n
theorem pz_am_cg {h h' : Nat → Int} : ∀ n, (∀ k, k ≤ n → h k = h' k) → pz_am h n = pz_am h' n ∧ pz_am h n ≤ n := by
  intro n
  induction n with
  | zero => intro _; exact ⟨rfl, Nat.le_refl _⟩
  | succ n ih =>
    intro e
    obtain ⟨i1, i2⟩ := ih (fun k hk => e k (by first | decide | omega))
    show (if h (n + 1) < h (pz_am h n) then n + 1 else pz_am h n) = (if h' (n + 1) < h' (pz_am h' n) then n + 1 else pz_am h' n) ∧ (if h (n + 1) < h (pz_am h n) then n + 1 else pz_am h n) ≤ n + 1
    rw [e (n + 1) (by first | decide | omega), e (pz_am h n) (by first | decide | omega), ← i1]
    refine ⟨rfl, ?_⟩
    split <;> omega
/-- how evenly a DAY parts n LINKS -/
def pz_ev (g : Nat → Nat → Int) (m n : Nat) (d : Int) : Int := max (pz_cnt (fun k => decide (pz_rcd g k 0 d m ≠ 0)) n) ((n : Int) - pz_cnt (fun k => decide (pz_rcd g k 0 d m ≠ 0)) n)
/-! PHONE, ILL, WROTE: what each side answers -/
def pz_pn1 (M : pz_M) (i w v : Int) : Prop := (¬ (0 ≤ i ∧ i < M 71 3) → v = -1) ∧ (0 ≤ i ∧ i < M 71 3 → (w = 0 → v = pz_ph (pz_gph M 8) i 0 1 (pz_nph M 8)) ∧ (w = 1 → v = pz_ph (pz_gph M 8) i 240 2 (pz_nph M 8)) ∧ (w = 2 → v = pz_rc0 (pz_grd M 8) i (pz_nrd M 8)) ∧ (¬ (0 ≤ w ∧ w ≤ 2) → v = -1))
def pz_gmr (M : pz_M) (r c : Nat) : Int := M 60 (209 + (2 * r + c))
def pz_pn2 (M : pz_M) (i w v : Int) : Prop := (¬ (0 ≤ i ∧ i < M 60 88) → v = -1) ∧ (0 ≤ i ∧ i < M 60 88 → (w = 0 → v = M 60 (105 + 2 * i.toNat)) ∧ (w = 1 → v = M 60 (106 + 2 * i.toNat)) ∧ (w = 2 → v = pz_rcd (pz_gmr M) i 0 1000 (M 60 92).toNat) ∧ (¬ (0 ≤ w ∧ w ≤ 2) → v = -1))
def pz_ilf (M : pz_M) (a b : Int) (k : Nat) : Bool := decide (pz_rcd (pz_gmr M) (k : Int) a b (M 60 92).toNat = 0)
def pz_il2 (M : pz_M) (a k v : Int) : Prop := (¬ ((0 ≤ a ∧ a ≤ 999) ∧ 1 ≤ k ∧ k ≤ 30) → v = -1) ∧ ((0 ≤ a ∧ a ≤ 999) ∧ 1 ≤ k ∧ k ≤ 30 → pz_zs v (fun j => decide (j < (M 60 88).toNat) && pz_ilf M a (a + k - 1) j))
def pz_il1 (M : pz_M) (a k v : Int) : Prop := (¬ ((0 ≤ a ∧ a ≤ 999) ∧ 1 ≤ k ∧ k ≤ 30) → v = -1) ∧ ((0 ≤ a ∧ a ≤ 999) ∧ 1 ≤ k ∧ k ≤ 30 → (∀ r, r < pz_nrd M 8 → 0 ≤ pz_grd M 8 r 1 ∧ pz_grd M 8 r 1 < 12) → pz_zs v (fun j => decide (j < (M 71 3).toNat) && !pz_wrt (pz_grd M 8) a (a + k - 1) j (pz_nrd M 8)))
theorem pz_il_0 {M : pz_M} {a b : Int} : pz_zs 0 (fun j => decide (j < (0 : Int).toNat) && pz_ilf M a b j) := pz_sb_cg pz_sb_0 (fun k => by rw [decide_eq_false (show ¬ k < (0 : Int).toNat from Nat.not_lt_zero _)]; rfl)
theorem pz_il_s {M : pz_M} {a b x y s t z : Int} (hx : 0 ≤ x ∧ x ≤ 11) (hy : y = x + 1) (hs : pz_zs s (fun j => decide (j < x.toNat) && pz_ilf M a b j)) (ht : pz_zs t (fun j => decide (x.toNat = j) && pz_ilf M a b j)) (hz : z = (Int32.ofInt s ||| Int32.ofInt t).toInt) : pz_zs z (fun j => decide (j < y.toNat) && pz_ilf M a b j) := by
  rw [hz]
  refine pz_sb_cg (pz_sb_or hs ht) (fun k => ?_)
  show ((decide (k < x.toNat) && pz_ilf M a b k) || (decide (x.toNat = k) && pz_ilf M a b k)) = _
  have e : decide (k < y.toNat) = (decide (k < x.toNat) || decide (x.toNat = k)) := by
    rw [← Bool.decide_or]
    exact decide_eq_decide.mpr (by first | decide | omega)
  rw [e]
  cases decide (k < x.toNat) <;> cases decide (x.toNat = k) <;> cases pz_ilf M a b k <;> rfl
theorem pz_il_y {M : pz_M} {a b x v t : Int} (hx : 0 ≤ x ∧ x ≤ 11) (hv : v = pz_rcd (pz_gmr M) x a b (M 60 92).toNat) (h : v = 0) (ht : t = (Int32.ofInt 1 <<< (Int32.ofInt x &&& 31)).toInt) : pz_zs t (fun j => decide (x.toNat = j) && pz_ilf M a b j) := by
  rw [ht]
  refine pz_sb_cg (pz_sb_1 hx.1 hx.2) (fun k => ?_)
  by_cases e : x.toNat = k
  · have e2 : pz_ilf M a b k = true := by
      unfold pz_ilf
      rw [← e, show ((x.toNat : Nat) : Int) = x by omega, ← hv]
      exact decide_eq_true h
    rw [e2]
    exact (Bool.and_true _).symm
  · rw [decide_eq_false e]
    rfl
theorem pz_il_n {M : pz_M} {a b x v : Int} (hx : 0 ≤ x) (hv : v = pz_rcd (pz_gmr M) x a b (M 60 92).toNat) (h : v ≠ 0) : pz_zs 0 (fun j => decide (x.toNat = j) && pz_ilf M a b j) := by
  refine pz_sb_cg pz_sb_0 (fun k => ?_)
  by_cases e : x.toNat = k
  · have e2 : pz_ilf M a b k = false := by
      unfold pz_ilf
      rw [← e, show ((x.toNat : Nat) : Int) = x by omega, ← hv]
      exact decide_eq_false h
    rw [e2]
    exact (Bool.and_false _).symm
  · rw [decide_eq_false e]
    rfl
/-- WROTE -/
def pz_wr2 (M : pz_M) (v : Int) : Prop := (M 60 88 < 2 → v = -1) ∧ (2 ≤ M 60 88 → v = ((pz_am (fun d => pz_ev (pz_gmr M) (M 60 92).toNat (M 60 88).toNat (d : Int)) 99 : Nat) : Int))
def pz_wr1 (M : pz_M) (v : Int) : Prop := (M 71 3 < 2 → v = -1) ∧ (2 ≤ M 71 3 → (∀ r, r < pz_nrd M 8 → 0 ≤ pz_grd M 8 r 0 ∧ 0 ≤ pz_grd M 8 r 1 ∧ pz_grd M 8 r 1 < 12) → v = ((pz_am (fun d => pz_ev (pz_grd M 8) (pz_nrd M 8) (M 71 3).toNat (d : Int)) 99 : Nat) : Int))
theorem pz_cnt_s {f : Nat → Bool} {x y s t z : Int} (hx : 0 ≤ x) (hy : y = x + 1) (hs : s = pz_cnt f x.toNat) (ht : t = if f x.toNat = true then 1 else 0) (hz : z = s + t) : z = pz_cnt f y.toNat := by
  rw [show y.toNat = x.toNat + 1 by omega]
  show z = pz_cnt f x.toNat + (if f x.toNat = true then 1 else 0)
  rw [← hs, ← ht, hz]
theorem pz_ev_of {g : Nat → Nat → Int} {m n : Nat} {d c v : Int} (hc : c = pz_cnt (fun k => decide (pz_rcd g k 0 d m ≠ 0)) n) (hv : v = max c ((n : Int) - c)) : v = pz_ev g m n d := by
  unfold pz_ev
  rw [← hc]
  exact hv
/-- the class' loop over the DAYS -/
def pz_wlp (g : Nat → Nat → Int) (m n : Nat) (b l w d : Int) : Prop := (∀ r, r < m → 0 ≤ g r 0 ∧ 0 ≤ g r 1 ∧ g r 1 < 12) → pz_zs w (fun k => pz_wrt g 0 (d - 1) k m) ∧ ((d = 0 ∧ b = -1 ∧ l = 13) ∨ (1 ≤ d ∧ b = ((pz_am (fun d => pz_ev g m n (d : Int)) (d - 1).toNat : Nat) : Int) ∧ l = pz_ev g m n b))
theorem pz_wrt_z {g : Nat → Nat → Int} {k : Nat} (n : Nat) : pz_wrt g 0 (0 - 1) k n = false := by
  induction n with
  | zero => rfl
  | succ n ih =>
    show (pz_wrt g 0 (0 - 1) k n || (decide (0 ≤ g n 0 ∧ g n 0 ≤ 0 - 1) && decide ((g n 1).toNat = k))) = false
    rw [ih, decide_eq_false (by first | decide | omega)]
    rfl
theorem pz_wlp_0 {g : Nat → Nat → Int} {m n : Nat} : pz_wlp g m n (-1) 13 0 0 := fun _ => ⟨pz_sb_cg pz_sb_0 (fun k => (pz_wrt_z m).symm), Or.inl ⟨rfl, rfl, rfl⟩⟩
theorem pz_wlp_e {g : Nat → Nat → Int} {m n : Nat} {w a u c d r x y : Int} (hn : n ≤ 12) (rows : ∀ r, r < m → 0 ≤ g r 0 ∧ 0 ≤ g r 1 ∧ g r 1 < 12) (q : pz_zs w (fun k => pz_wrt g 0 d k m)) (ha : pz_zs a (fun j => decide (j < n))) (hu : u = (Int32.ofInt w &&& Int32.ofInt a).toInt) (hc : pz_bcx u c) (hr : r = pz_w ((n : Int) - c)) (hx : x = max c r) : x = pz_ev g m n d := by
  have s := pz_sb_and q ha
  rw [← hu] at s
  have c1 := hc _ s
  have c2 : pz_cnt (fun k => pz_wrt g 0 d k m && decide (k < n)) 12 = pz_cnt (fun k => decide (pz_rcd g k 0 d m ≠ 0)) n := by
    have up := pz_cnt_up (f := fun k => pz_wrt g 0 d k m && decide (k < n)) (n := n) (12 - n) (fun k hk => by
      show (pz_wrt g 0 d k m && decide (k < n)) = false
      rw [decide_eq_false (by first | decide | omega)]
      exact Bool.and_false _)
    rw [show n + (12 - n) = 12 by omega] at up
    rw [up]
    refine pz_cnt_cg n (fun k hk => ?_)
    show (pz_wrt g 0 d k m && decide (k < n)) = decide (pz_rcd g k 0 d m ≠ 0)
    rw [decide_eq_true hk, Bool.and_true]
    have i := pz_wrt_d (g := g) (lo := 0) (hi := d) (k := k) m (fun r hr => (rows r hr).2.1)
    by_cases z : pz_rcd g k 0 d m ≠ 0
    · rw [i.mpr z, decide_eq_true z]
    · rw [decide_eq_false z]
      exact Bool.eq_false_iff.mpr (fun y => z (i.mp y))
  rw [c2] at c1
  have b := pz_cnt_b (f := fun k => decide (pz_rcd g k 0 d m ≠ 0)) n
  have w1 : pz_w ((n : Int) - c) = (n : Int) - c := by unfold pz_w; omega
  exact pz_ev_of c1 (by rw [hx, hr, w1])
theorem pz_ev_b {g : Nat → Nat → Int} {m n : Nat} {d : Int} : pz_ev g m n d ≤ (n : Int) := by
  have b := pz_cnt_b (f := fun k => decide (pz_rcd g k 0 d m ≠ 0)) n
  unfold pz_ev
  omega
theorem pz_wlp_s {g : Nat → Nat → Int} {m n : Nat} {b l w d e w2 y a u c r x b2 l2 : Int} (hn : n ≤ 12) (hd : 0 ≤ d) (he : e = d + 1) (h : pz_wlp g m n b l w d) (hy : pz_wrs g m d d y) (hw : w2 = (Int32.ofInt w ||| Int32.ofInt y).toInt) (ha : pz_zs a (fun j => decide (j < n))) (hu : u = (Int32.ofInt w2 &&& Int32.ofInt a).toInt) (hc : pz_bcx u c) (hr : r = pz_w ((n : Int) - c)) (hx : x = max c r)
    (hb : (x < l ∧ b2 = d ∧ l2 = x) ∨ (¬ x < l ∧ b2 = b ∧ l2 = l)) : pz_wlp g m n b2 l2 w2 e := by
  intro rows
  obtain ⟨s, t⟩ := h rows
  have s2 : pz_zs w2 (fun k => pz_wrt g 0 d k m) := by
    rw [hw]
    refine pz_sb_cg (pz_sb_or s (hy (fun r hr => (rows r hr).2))) (fun k => ?_)
    have := pz_wrt_u (g := g) (k := k) (d := d - 1) m (fun r hr => (rows r hr).1)
    rw [show d - 1 + 1 = d by omega] at this
    exact this
  have X := pz_wlp_e (y := 0) hn rows s2 ha hu hc hr hx
  have e1 : e - 1 = d := by omega
  refine ⟨by rw [e1]; exact s2, Or.inr ⟨by omega, ?_⟩⟩
  rw [e1]
  have bd := pz_ev_b (g := g) (m := m) (n := n) (d := d)
  rcases t with ⟨t1, t2, t3⟩ | ⟨t1, t2, t3⟩
  · subst t1
    rcases hb with ⟨h1, h2, h3⟩ | ⟨h1, h2, h3⟩
    · rw [h2, h3]
      exact ⟨rfl, X⟩
    · omega
  · have ed : d.toNat = (d - 1).toNat + 1 := by omega
    have ed2 : (((d - 1).toNat + 1 : Nat) : Int) = d := by omega
    have key : pz_am (fun d => pz_ev g m n (d : Int)) d.toNat = if pz_ev g m n d < pz_ev g m n b then (d - 1).toNat + 1 else pz_am (fun d => pz_ev g m n (d : Int)) (d - 1).toNat := by
      rw [ed]
      show (if pz_ev g m n (((d - 1).toNat + 1 : Nat) : Int) < pz_ev g m n ((pz_am (fun d => pz_ev g m n (d : Int)) (d - 1).toNat : Nat) : Int) then (d - 1).toNat + 1 else pz_am (fun d => pz_ev g m n (d : Int)) (d - 1).toNat) = _
      rw [ed2, ← t2]
    rw [key]
    rcases hb with ⟨h1, h2, h3⟩ | ⟨h1, h2, h3⟩
    · rw [if_pos (by first | decide | omega), h2, h3]
      exact ⟨ed2.symm, X⟩
    · rw [if_neg (by first | decide | omega), h2, h3]
      exact ⟨t2, t3⟩
/-- the model's loop -/
theorem pz_am_s {h : Nat → Int} {b b2 d e x y : Int} (hd : 1 ≤ d) (he : e = d + 1) (hb : b = ((pz_am h (d - 1).toNat : Nat) : Int)) (hx : x = h d.toNat) (hy : y = h b.toNat) (h2 : (x < y ∧ b2 = d) ∨ (¬ x < y ∧ b2 = b)) : b2 = ((pz_am h (e - 1).toNat : Nat) : Int) := by
  rw [show (e - 1).toNat = (d - 1).toNat + 1 by omega]
  show b2 = (((if h ((d - 1).toNat + 1) < h (pz_am h (d - 1).toNat) then (d - 1).toNat + 1 else pz_am h (d - 1).toNat : Nat)) : Int)
  rw [show (d - 1).toNat + 1 = d.toNat by omega, ← hx, show pz_am h (d - 1).toNat = b.toNat by omega, ← hy]
  rcases h2 with ⟨h1, h3⟩ | ⟨h1, h3⟩
  · rw [if_pos h1]
    omega
  · rw [if_neg h1]
    omega
end
