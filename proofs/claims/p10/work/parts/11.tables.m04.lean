section
/-! the model: what stays true of its memory -/
/-- one step of a law's program on its pile: o what, x its number, d how deep before, d' behind -/
def pz_sp1 (o x d d' : Int) : Prop := (o < 23 ∧ 0 ≤ o ∧ o < 10 ∧ d' = d + 1) ∨ (o = 26 ∧ x ≠ 0 ∧ 1 ≤ d ∧ d' = d) ∨ (o = 30 ∧ 1 ≤ d ∧ d' = d) ∨ (23 ≤ o ∧ o ≠ 26 ∧ o ≠ 30 ∧ 2 ≤ d ∧ d' = d - 1)
/-- the steps from s to t leave one number more on the pile -/
def pz_sg (f : Nat → Int) (s t : Int) : Prop := s < t ∧ ∃ d : Int → Int, d s = 0 ∧ d t = 1 ∧ ∀ i, s ≤ i → i < t → 0 ≤ d i ∧ pz_sp1 (f (2 * i).toNat) (f (2 * i + 1).toNat) (d i) (d (i + 1))
theorem pz_sg_cg {f g : Nat → Int} {s t : Int} (h : pz_sg f s t) (h0 : 0 ≤ s) (he : ∀ j : Nat, 2 * s ≤ (j : Int) → (j : Int) < 2 * t → g j = f j) : pz_sg g s t := by
  obtain ⟨h1, d, h2, h3, h4⟩ := h
  refine ⟨h1, d, h2, h3, fun i q1 q2 => ?_⟩
  rw [he _ (by omega) (by omega), he _ (by omega) (by omega)]
  exact h4 i q1 q2
theorem pz_sg_1 {f : Nat → Int} {s : Int} (h : 0 ≤ f (2 * s).toNat ∧ f (2 * s).toNat < 10) : pz_sg f s (s + 1) := by
  refine ⟨by omega, fun i => i - s, by show s - s = 0; omega, by show s + 1 - s = 1; omega, fun i q1 q2 => ?_⟩
  have hi : i = s := by omega
  subst hi
  refine ⟨by show 0 ≤ i - i; omega, Or.inl ⟨by omega, h.1, h.2, ?_⟩⟩
  show i + 1 - i = i - i + 1
  omega
theorem pz_sg_u {f : Nat → Int} {s t : Int} (h : pz_sg f s t) (ho : (f (2 * t).toNat = 26 ∧ f (2 * t + 1).toNat ≠ 0) ∨ f (2 * t).toNat = 30) : pz_sg f s (t + 1) := by
  obtain ⟨h1, d, h2, h3, h4⟩ := h
  refine ⟨by omega, fun i => if i ≤ t then d i else 1, ?_, ?_, fun i q1 q2 => ?_⟩
  · show (if s ≤ t then d s else 1) = 0
    rw [if_pos (by omega), h2]
  · show (if t + 1 ≤ t then d (t + 1) else 1) = 1
    rw [if_neg (by omega)]
  · show 0 ≤ (if i ≤ t then d i else 1) ∧ pz_sp1 _ _ (if i ≤ t then d i else 1) (if i + 1 ≤ t then d (i + 1) else 1)
    rw [if_pos (show i ≤ t by omega)]
    by_cases hi : i < t
    · rw [if_pos (show i + 1 ≤ t by omega)]
      exact h4 i q1 hi
    · have hi : i = t := by omega
      subst hi
      rw [if_neg (by omega), h3]
      refine ⟨by omega, ?_⟩
      rcases ho with ⟨o1, o2⟩ | o1
      · exact Or.inr (Or.inl ⟨o1, o2, by omega, rfl⟩)
      · exact Or.inr (Or.inr (Or.inl ⟨o1, by omega, rfl⟩))
theorem pz_sg_b {f : Nat → Int} {s m t : Int} (h : pz_sg f s m) (h' : pz_sg f m t) (ho : 23 ≤ f (2 * t).toNat ∧ f (2 * t).toNat ≠ 26 ∧ f (2 * t).toNat ≠ 30) : pz_sg f s (t + 1) := by
  obtain ⟨h1, d, h2, h3, h4⟩ := h
  obtain ⟨k1, e, k2, k3, k4⟩ := h'
  refine ⟨by omega, fun i => if i < m then d i else if i ≤ t then 1 + e i else 1, ?_, ?_, fun i q1 q2 => ?_⟩
  · show (if s < m then d s else if s ≤ t then 1 + e s else 1) = 0
    rw [if_pos h1, h2]
  · show (if t + 1 < m then d (t + 1) else if t + 1 ≤ t then 1 + e (t + 1) else 1) = 1
    rw [if_neg (by omega), if_neg (by omega)]
  · show 0 ≤ (if i < m then d i else if i ≤ t then 1 + e i else 1) ∧ pz_sp1 _ _ (if i < m then d i else if i ≤ t then 1 + e i else 1) (if i + 1 < m then d (i + 1) else if i + 1 ≤ t then 1 + e (i + 1) else 1)
    by_cases hi : i < m
    · rw [if_pos hi]
      by_cases hj : i + 1 < m
      · rw [if_pos hj]
        exact h4 i q1 hi
      · have hm : i + 1 = m := by omega
        rw [if_neg hj, if_pos (show i + 1 ≤ t by omega), hm, k2]
        have := h4 i q1 hi
        rw [hm, h3] at this
        exact this
    · rw [if_neg hi, if_neg (show ¬ i + 1 < m by omega), if_pos (show i ≤ t by omega)]
      by_cases hj : i < t
      · rw [if_pos (show i + 1 ≤ t by omega)]
        obtain ⟨g1, g2⟩ := k4 i (by omega) hj
        refine ⟨by omega, ?_⟩
        unfold pz_sp1 at g2 ⊢
        omega
      · have hi : i = t := by omega
        subst hi
        rw [if_neg (show ¬ i + 1 ≤ i by omega), k3]
        exact ⟨by omega, Or.inr (Or.inr (Or.inr ⟨ho.1, ho.2.1, ho.2.2, by omega, by omega⟩))⟩
/-- a law's lines as they lie in w: from, middle, end -/
def pz_lw (M : pz_M) (a : Nat) : Prop := ∀ i : Int, 0 ≤ i → i < M a 89 → 0 ≤ M a (841 + i).toNat ∧ M a (873 + i).toNat ≤ 410 ∧ pz_sg (fun j => M a (905 + j)) (M a (841 + i).toNat) (M a (857 + i).toNat) ∧ (M a (857 + i).toNat = M a (873 + i).toNat ∨ pz_sg (fun j => M a (905 + j)) (M a (857 + i).toNat) (M a (873 + i).toNat))
def pz_iw (M : pz_M) (a : Nat) : Prop := (0 ≤ M a 88 ∧ M a 88 ≤ 12) ∧ (0 ≤ M a 89 ∧ M a 89 ≤ 16) ∧ (0 ≤ M a 90 ∧ M a 90 ≤ 16) ∧ (0 ≤ M a 92 ∧ M a 92 ≤ 16) ∧ (0 ≤ M a 3 ∧ M a 3 ≤ 150)
def pz_ix (M : pz_M) : Prop := (0 ≤ M 1 4 ∧ M 1 4 ≤ 6) ∧ (0 ≤ M 1 16 ∧ M 1 16 ≤ 400) ∧ (0 ≤ M 63 3 ∧ M 63 3 ≤ 150) ∧ (0 ≤ M 1 17 ∧ M 1 17 ≤ 400) ∧ (0 ≤ M 1 19 ∧ M 1 19 ≤ 400) ∧ (0 ≤ M 1 13 ∧ M 1 13 ≤ 16) ∧ (0 ≤ M 1 14 ∧ M 1 14 ≤ 410) ∧ (0 ≤ M 1 15 ∧ M 1 15 ≤ 16) ∧ (∀ j : Nat, j < 6 → 0 ≤ M 62 (88 * j + 3) ∧ M 62 (88 * j + 3) ≤ 150)
def pz_im (M : pz_M) : Prop := pz_iw M 60 ∧ pz_ix M ∧ pz_lw M 60 ∧ pz_iw M 61 ∧ pz_lw M 61
/-- a step of the model: its invariant and the class' memory stay; pz_sm: what is taped, too -/
def pz_mn (b j : Nat) : Prop := pz_mid b ∧ ¬ (b = 1 ∧ (j = 5 ∨ j = 23 ∨ j = 25)) ∧ b ≠ 61 ∧ b ≠ 67 ∧ ¬ (b = 60 ∧ ((88 ≤ j ∧ j ≤ 240) ∨ 841 ≤ j))
theorem pz_mn_a {a k : Nat} (h : 62 ≤ a ∧ a < 71 ∧ a ≠ 67) : pz_mn a k := ⟨Or.inr (by omega), fun q => by omega, by omega, by omega, fun q => by omega⟩
theorem pz_mn_60 {k : Nat} (h : k ≤ 87 ∨ (241 ≤ k ∧ k ≤ 840)) : pz_mn 60 k := ⟨Or.inr (by omega), fun q => by omega, by omega, by omega, fun q => by omega⟩
theorem pz_mn_1 {k : Nat} (h : k ≠ 5 ∧ k ≠ 23 ∧ k ≠ 25) : pz_mn 1 k := ⟨Or.inl rfl, fun q => by omega, by omega, by omega, fun q => by omega⟩
def pz_sn (M M' : pz_M) : Prop := (pz_im M → pz_im M') ∧ ∀ b j : Nat, ¬ pz_mn b j → M' b j = M b j
/-- the same for what may set hasImage -/
def pz_sq (M M' : pz_M) : Prop := (pz_im M → pz_im M') ∧ (∀ b j : Nat, ¬ pz_mid b → M' b j = M b j) ∧ M' 1 16 = M 1 16
def pz_sk (M M' : pz_M) : Prop := pz_sn M M' ∧ M' 1 16 = M 1 16
def pz_sm (M M' : pz_M) : Prop := pz_sk M M' ∧ M' 60 88 = M 60 88
/-- nothing changes but what P says -/
def pz_rl (P : Nat → Nat → Prop) (M M' : pz_M) : Prop := (pz_im M → pz_im M') ∧ ∀ b j : Nat, ¬ P b j → M' b j = M b j
def pz_Q0 (b j : Nat) : Prop := b = 1 ∧ 17 ≤ j ∧ j ≤ 22
def pz_Q1 (b j : Nat) : Prop := (b = 1 ∧ (j = 14 ∨ (17 ≤ j ∧ j ≤ 22) ∨ j = 24)) ∨ b = 65
def pz_Q2 (b j : Nat) : Prop := (b = 1 ∧ (j = 13 ∨ j = 14 ∨ j = 15 ∨ (17 ≤ j ∧ j ≤ 22) ∨ j = 24)) ∨ (64 ≤ b ∧ b ≤ 66)
def pz_Q3 (b j : Nat) : Prop := b = 68
def pz_Q4 (b j : Nat) : Prop := b = 68 ∨ b = 69
def pz_Q9 (b j : Nat) : Prop := b = 60 ∨ (b = 1 ∧ j = 4)
/-- what text, its pieces and feed write -/
def pz_QL (b j : Nat) : Prop := b = 60 ∧ (j = 89 ∨ 841 ≤ j)
def pz_QP (i j k : Int) (b m : Nat) : Prop := b = 60 ∧ ((m : Int) = i ∨ (j ≤ (m : Int) ∧ (m : Int) < j + 16 * k))
def pz_QU (b j : Nat) : Prop := (b = 60 ∧ ((89 ≤ j ∧ j ≤ 92) ∨ (105 ≤ j ∧ j ≤ 240) ∨ 841 ≤ j)) ∨ (b = 1 ∧ j = 4)
def pz_QT (b j : Nat) : Prop := (b = 60 ∧ ((89 ≤ j ∧ j ≤ 92) ∨ (105 ≤ j ∧ j ≤ 240) ∨ 841 ≤ j)) ∨ (b = 1 ∧ (j = 4 ∨ (12 ≤ j ∧ j ≤ 25))) ∨ (64 ≤ b ∧ b ≤ 66)
def pz_QI (b j : Nat) : Prop := b = 60 ∨ b = 61 ∨ (b = 1 ∧ (j = 4 ∨ j = 5))
def pz_QF (b j : Nat) : Prop := (b = 1 ∧ j = 16) ∨ b = 67
theorem pz_sn.rf {M : pz_M} : pz_sn M M := ⟨id, fun _ _ _ => rfl⟩
theorem pz_sn.tr {M M' M'' : pz_M} (h : pz_sn M M') (h' : pz_sn M' M'') : pz_sn M M'' := ⟨fun q => h'.1 (h.1 q), fun b j q => (h'.2 b j q).trans (h.2 b j q)⟩
theorem pz_sk.rf {M : pz_M} : pz_sk M M := ⟨pz_sn.rf, rfl⟩
theorem pz_sk.tr {M M' M'' : pz_M} (h : pz_sk M M') (h' : pz_sk M' M'') : pz_sk M M'' := ⟨h.1.tr h'.1, h'.2.trans h.2⟩
theorem pz_sm.rf {M : pz_M} : pz_sm M M := ⟨pz_sk.rf, rfl⟩
theorem pz_sm.tr {M M' M'' : pz_M} (h : pz_sm M M') (h' : pz_sm M' M'') : pz_sm M M'' := ⟨h.1.tr h'.1, h'.2.trans h.2⟩
/-- what may be put where -/
def pz_iom (a k : Nat) (v : Int) : Prop :=
  a ≠ 61 ∧ (a = 60 → k ≤ 840 ∧ k ≠ 89 ∧ (k = 88 → 0 ≤ v ∧ v ≤ 12) ∧ (k = 90 → 0 ≤ v ∧ v ≤ 16) ∧ (k = 92 → 0 ≤ v ∧ v ≤ 16) ∧ (k = 3 → 0 ≤ v ∧ v ≤ 150)) ∧ (a = 63 → k = 3 → 0 ≤ v ∧ v ≤ 150) ∧ (a = 62 → k % 88 = 3 → 0 ≤ v ∧ v ≤ 150) ∧
  (a = 1 → (k = 4 → 0 ≤ v ∧ v ≤ 6) ∧ (k = 16 → 0 ≤ v ∧ v ≤ 400) ∧ (k = 17 → 0 ≤ v ∧ v ≤ 400) ∧ (k = 19 → 0 ≤ v ∧ v ≤ 400) ∧ (k = 13 → 0 ≤ v ∧ v ≤ 16) ∧ (k = 14 → 0 ≤ v ∧ v ≤ 410) ∧ (k = 15 → 0 ≤ v ∧ v ≤ 16))
theorem pz_lw_cg {M M' : pz_M} {a : Nat} (h : pz_lw M a) (he : ∀ j, j = 89 ∨ 841 ≤ j → M' a j = M a j) : pz_lw M' a := by
  intro i q1 q2
  rw [he 89 (Or.inl rfl)] at q2
  have key := h i q1 q2
  have e : (fun j => M' a (905 + j)) = fun j => M a (905 + j) := by
    funext j
    exact he _ (Or.inr (by omega))
  rw [he _ (Or.inr (by omega)), he _ (Or.inr (by omega)), he _ (Or.inr (by omega)), e]
  exact key
theorem pz_iw_u {M : pz_M} {a k : Nat} {v : Int} (h : pz_iom a k v) (hI : pz_iw M 60) : pz_iw (pz_u M a k v) 60 := by
  obtain ⟨i1, i2, i3, i4, i5⟩ := hI
  obtain ⟨o0, o1, o2, o3, o4⟩ := h
  refine ⟨?_, ?_, ?_, ?_, ?_⟩
  · rcases pz_uv M a k v 60 88 with ⟨ha, hk, hv⟩ | ⟨-, hv⟩
    · rw [hv]
      exact (o1 ha.symm).2.2.1 hk.symm
    · rw [hv]
      exact i1
  · rcases pz_uv M a k v 60 89 with ⟨ha, hk, hv⟩ | ⟨-, hv⟩
    · rw [hv]
      exact absurd hk.symm (o1 ha.symm).2.1
    · rw [hv]
      exact i2
  · rcases pz_uv M a k v 60 90 with ⟨ha, hk, hv⟩ | ⟨-, hv⟩
    · rw [hv]
      exact (o1 ha.symm).2.2.2.1 hk.symm
    · rw [hv]
      exact i3
  · rcases pz_uv M a k v 60 92 with ⟨ha, hk, hv⟩ | ⟨-, hv⟩
    · rw [hv]
      exact (o1 ha.symm).2.2.2.2.1 hk.symm
    · rw [hv]
      exact i4
  · rcases pz_uv M a k v 60 3 with ⟨ha, hk, hv⟩ | ⟨-, hv⟩
    · rw [hv]
      exact (o1 ha.symm).2.2.2.2.2 hk.symm
    · rw [hv]
      exact i5
theorem pz_ix_u {M : pz_M} {a k : Nat} {v : Int} (h : pz_iom a k v) (hI : pz_ix M) : pz_ix (pz_u M a k v) := by
  obtain ⟨i1, i2, i3, i4, i5, i6, i7, i8, i9⟩ := hI
  obtain ⟨o0, o1, o2, o3, o4⟩ := h
  refine ⟨?_, ?_, ?_, ?_, ?_, ?_, ?_, ?_, fun j hj => ?_⟩
  · rcases pz_uv M a k v 1 4 with ⟨ha, hk, hv⟩ | ⟨-, hv⟩
    · rw [hv]
      exact (o4 ha.symm).1 hk.symm
    · rw [hv]
      exact i1
  · rcases pz_uv M a k v 1 16 with ⟨ha, hk, hv⟩ | ⟨-, hv⟩
    · rw [hv]
      exact (o4 ha.symm).2.1 hk.symm
    · rw [hv]
      exact i2
  · rcases pz_uv M a k v 63 3 with ⟨ha, hk, hv⟩ | ⟨-, hv⟩
    · rw [hv]
      exact o2 ha.symm hk.symm
    · rw [hv]
      exact i3
  · rcases pz_uv M a k v 1 17 with ⟨ha, hk, hv⟩ | ⟨-, hv⟩
    · rw [hv]
      exact (o4 ha.symm).2.2.1 hk.symm
    · rw [hv]
      exact i4
  · rcases pz_uv M a k v 1 19 with ⟨ha, hk, hv⟩ | ⟨-, hv⟩
    · rw [hv]
      exact (o4 ha.symm).2.2.2.1 hk.symm
    · rw [hv]
      exact i5
  · rcases pz_uv M a k v 1 13 with ⟨ha, hk, hv⟩ | ⟨-, hv⟩
    · rw [hv]
      exact (o4 ha.symm).2.2.2.2.1 hk.symm
    · rw [hv]
      exact i6
  · rcases pz_uv M a k v 1 14 with ⟨ha, hk, hv⟩ | ⟨-, hv⟩
    · rw [hv]
      exact (o4 ha.symm).2.2.2.2.2.1 hk.symm
    · rw [hv]
      exact i7
  · rcases pz_uv M a k v 1 15 with ⟨ha, hk, hv⟩ | ⟨-, hv⟩
    · rw [hv]
      exact (o4 ha.symm).2.2.2.2.2.2 hk.symm
    · rw [hv]
      exact i8
  · rcases pz_uv M a k v 62 (88 * j + 3) with ⟨ha, hk, hv⟩ | ⟨-, hv⟩
    · rw [hv]
      exact o3 ha.symm (by omega)
    · rw [hv]
      exact i9 j hj
theorem pz_im_u {M : pz_M} {a k : Nat} {v : Int} (h : pz_iom a k v) (hI : pz_im M) : pz_im (pz_u M a k v) := by
  obtain ⟨i1, i2, i3, i4, i5⟩ := hI
  have h61 : ∀ j, pz_u M a k v 61 j = M 61 j := fun j => pz_una (Ne.symm h.1)
  refine ⟨pz_iw_u h i1, pz_ix_u h i2, pz_lw_cg i3 (fun j hj => ?_), ?_, pz_lw_cg i5 (fun j hj => h61 j)⟩
  · rcases pz_uv M a k v 60 j with ⟨ha, hk, -⟩ | ⟨-, hv⟩
    · obtain ⟨p1, p2, -⟩ := h.2.1 ha.symm
      omega
    · exact hv
  · unfold pz_iw
    rw [h61, h61, h61, h61, h61]
    exact i4
theorem pz_sn_u {M M' : pz_M} {a k : Nat} {v : Int} (hs : pz_sn M M') (hm : pz_mn a k) (h : pz_iom a k v) : pz_sn M (pz_u M' a k v) := by
  refine ⟨fun q => pz_im_u h (hs.1 q), fun b j hb => ?_⟩
  rcases pz_uv M' a k v b j with ⟨e1, e2, -⟩ | ⟨-, e⟩
  · subst e1; subst e2
    exact absurd hm hb
  · rw [e]
    exact hs.2 b j hb
theorem pz_sq.rf {M : pz_M} : pz_sq M M := ⟨id, fun _ _ _ => rfl, rfl⟩
theorem pz_sq.tr {M M' M'' : pz_M} (h : pz_sq M M') (h' : pz_sq M' M'') : pz_sq M M'' := ⟨fun q => h'.1 (h.1 q), fun b j q => (h'.2.1 b j q).trans (h.2.1 b j q), h'.2.2.trans h.2.2⟩
theorem pz_sq_u {M M' : pz_M} {a k : Nat} {v : Int} (hs : pz_sq M M') (hm : pz_mid a) (h4 : ¬ (a = 1 ∧ k = 16)) (h : pz_iom a k v) : pz_sq M (pz_u M' a k v) := by
  refine ⟨fun q => pz_im_u h (hs.1 q), fun b j hb => ?_, ?_⟩
  · have hne : b ≠ a := fun e => hb (e ▸ hm)
    rw [pz_una hne]
    exact hs.2.1 b j hb
  · have q1 := pz_uv M' a k v 1 16
    have := hs.2.2
    omega
theorem pz_sk_u {M M' : pz_M} {a k : Nat} {v : Int} (hs : pz_sk M M') (hm : pz_mn a k) (h4 : ¬ (a = 1 ∧ k = 16)) (h : pz_iom a k v) : pz_sk M (pz_u M' a k v) := by
  refine ⟨pz_sn_u hs.1 hm h, ?_⟩
  have q1 := pz_uv M' a k v 1 16
  have := hs.2
  omega
theorem pz_sm_u {M M' : pz_M} {a k : Nat} {v : Int} (hs : pz_sm M M') (hm : pz_mn a k) (h4 : ¬ (a = 1 ∧ k = 16)) (h5 : ¬ (a = 60 ∧ k = 88)) (h : pz_iom a k v) : pz_sm M (pz_u M' a k v) := by
  refine ⟨pz_sk_u hs.1 hm h4 h, ?_⟩
  have q1 := pz_uv M' a k v 60 88
  have := hs.2
  omega
theorem pz_rl.rf {P : Nat → Nat → Prop} {M : pz_M} : pz_rl P M M := ⟨id, fun _ _ _ => rfl⟩
theorem pz_rl.tr {P : Nat → Nat → Prop} {M M' M'' : pz_M} (h : pz_rl P M M') (h' : pz_rl P M' M'') : pz_rl P M M'' := ⟨fun q => h'.1 (h.1 q), fun b j q => (h'.2 b j q).trans (h.2 b j q)⟩
theorem pz_rl_u {P : Nat → Nat → Prop} {M M' : pz_M} {a k : Nat} {v : Int} (hs : pz_rl P M M') (hp : P a k) (h : pz_iom a k v) : pz_rl P M (pz_u M' a k v) := by
  refine ⟨fun q => pz_im_u h (hs.1 q), fun b j hb => ?_⟩
  have q1 := pz_uv M' a k v b j
  rcases q1 with ⟨rfl, rfl, -⟩ | ⟨-, q1⟩
  · exact absurd hp hb
  · rw [q1]
    exact hs.2 b j hb
theorem pz_rl.wk {P P' : Nat → Nat → Prop} {M M' : pz_M} (hp : ∀ b j, P b j → P' b j) (h : pz_rl P M M') : pz_rl P' M M' := ⟨h.1, fun b j q => h.2 b j (fun z => q (hp b j z))⟩
theorem pz_rl.sm {P : Nat → Nat → Prop} {M M' : pz_M} (hp : ∀ b j, P b j → pz_mn b j ∧ ¬ (b = 1 ∧ j = 16) ∧ ¬ (b = 60 ∧ j = 88)) (h : pz_rl P M M') : pz_sm M M' :=
  ⟨⟨⟨h.1, fun b j q => h.2 b j (fun z => q (hp b j z).1)⟩, h.2 1 16 (fun z => (hp _ _ z).2.1 ⟨rfl, rfl⟩)⟩, h.2 60 88 (fun z => (hp _ _ z).2.2 ⟨rfl, rfl⟩)⟩
theorem pz_or12 {x y : Int} (hx0 : 0 ≤ x) (hx : x < 4096) (hy0 : 0 ≤ y) (hy : y < 4096) : 0 ≤ (Int32.ofInt x ||| Int32.ofInt y).toInt ∧ (Int32.ofInt x ||| Int32.ofInt y).toInt < 4096 := by
  have h : (Int32.ofInt x ||| Int32.ofInt y).toBitVec.toNat < 2 ^ 12 := by
    show ((Int32.ofInt x).toBitVec ||| (Int32.ofInt y).toBitVec).toNat < 2 ^ 12
    rw [BitVec.toNat_or, pz_n12 hx0 hx, pz_n12 hy0 hy]
    exact Nat.or_lt_two_pow (by omega) (by omega)
  have e : (Int32.ofInt x ||| Int32.ofInt y).toInt = ((Int32.ofInt x ||| Int32.ofInt y).toBitVec.toNat : Int) := by
    show (Int32.ofInt x ||| Int32.ofInt y).toBitVec.toInt = _
    rw [BitVec.toInt_eq_toNat_cond]
    rw [if_pos (by omega)]
  rw [e]
  omega
theorem pz_and12 {x y : Int} (hx0 : 0 ≤ x) (hx : x < 4096) : 0 ≤ (Int32.ofInt x &&& Int32.ofInt y).toInt ∧ (Int32.ofInt x &&& Int32.ofInt y).toInt < 4096 := by
  have h : (Int32.ofInt x &&& Int32.ofInt y).toBitVec.toNat < 2 ^ 12 := by
    show ((Int32.ofInt x).toBitVec &&& (Int32.ofInt y).toBitVec).toNat < 2 ^ 12
    rw [BitVec.toNat_and, pz_n12 hx0 hx]
    have := @Nat.and_le_left x.toNat (Int32.ofInt y).toBitVec.toNat
    omega
  have e : (Int32.ofInt x &&& Int32.ofInt y).toInt = ((Int32.ofInt x &&& Int32.ofInt y).toBitVec.toNat : Int) := by
    show (Int32.ofInt x &&& Int32.ofInt y).toBitVec.toInt = _
    rw [BitVec.toInt_eq_toNat_cond]
    rw [if_pos (by omega)]
  rw [e]
  omega
theorem pz_sk.sq {M M' : pz_M} (h : pz_sk M M') : pz_sq M M' := ⟨h.1.1, fun b j q => h.1.2 b j (fun z => q z.1), h.2⟩
theorem pz_rlQ9_fg {M M' : pz_M} (e : M' = pz_u M 1 4 0) (h : pz_sm M M') : pz_rl pz_Q9 M M' := ⟨h.1.1.1, fun b j q => by
  rw [e]
  exact if_neg (by unfold pz_Q9 at q; omega)⟩
theorem pz_rl_fg {P : Nat → Nat → Prop} {M M' : pz_M} (hp : P 1 4) (e : M' = pz_u M 1 4 0) (h : pz_sm M M') : pz_rl P M M' := ⟨h.1.1.1, fun b j q => by
  rw [e]
  exact if_neg (fun z => q (by rw [z.1, z.2]; exact hp))⟩
/-- but for one cell of w -/
def pz_zm (k : Nat) (M M' : pz_M) : Prop := (pz_im M → pz_im M') ∧ (∀ b j : Nat, ¬ pz_mn b j → ¬ (b = 60 ∧ j = k) → M' b j = M b j) ∧ M' 1 16 = M 1 16
theorem pz_sm.zm {k : Nat} {M M' : pz_M} (h : pz_sm M M') : pz_zm k M M' := ⟨h.1.1.1, fun b j q _ => h.1.1.2 b j q, h.1.2⟩
theorem pz_zm.tr {k : Nat} {M M' M'' : pz_M} (h : pz_zm k M M') (h' : pz_zm k M' M'') : pz_zm k M M'' := ⟨fun q => h'.1 (h.1 q), fun b j q q2 => (h'.2.1 b j q q2).trans (h.2.1 b j q q2), h'.2.2.trans h.2.2⟩
theorem pz_zm_u {r : Nat} {M M' : pz_M} {a k : Nat} {v : Int} (hs : pz_zm r M M') (h1 : a ≠ 1) (hm : pz_mn a k ∨ (a = 60 ∧ k = r)) (h2 : 60 ≤ a) (h3 : 93 ≤ k) (h : pz_iom a k v) : pz_zm r M (pz_u M' a k v) := by
  refine ⟨fun q => pz_im_u h (hs.1 q), fun b j hb hb2 => ?_, ?_⟩
  · rcases pz_uv M' a k v b j with ⟨e1, e2, -⟩ | ⟨-, e⟩
    · subst e1; subst e2
      exact (hm.elim hb hb2).elim
    · rw [e]
      exact hs.2.1 b j hb hb2
  · rw [pz_una (show (1 : Nat) ≠ a by omega)]
    exact hs.2.2
theorem pz_zm.sm {k : Nat} {M M' : pz_M} (h : pz_zm k M M') (e : M' 60 k = M 60 k) (h88 : M' 60 88 = M 60 88) : pz_sm M M' := by
  refine ⟨⟨⟨h.1, fun b j q => ?_⟩, h.2.2⟩, h88⟩
  by_cases q2 : b = 60 ∧ j = k
  · rw [q2.1, q2.2]
    exact e
  · exact h.2.1 b j q q2
end
