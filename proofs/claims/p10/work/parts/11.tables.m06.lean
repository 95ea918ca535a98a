section
/-! how likely one gets ready, reckoned downwards -/
def pz_lf (r : Int) : Nat → Int
  | 0 => 1000000
  | n + 1 => pz_lf r n * (1000 - r) / 1000
theorem pz_lf_b {r : Int} (h0 : 0 ≤ r) (h1 : r ≤ 1000) : ∀ n : Nat, 0 ≤ pz_lf r n ∧ pz_lf r n ≤ 1000000 := by
  intro n
  induction n with
  | zero => exact ⟨by unfold pz_lf; omega, by unfold pz_lf; omega⟩
  | succ n ih =>
    have a1 : 0 ≤ pz_lf r n * (1000 - r) := Int.mul_nonneg ih.1 (by omega)
    have a2 : pz_lf r n * (1000 - r) ≤ 1000000 * 1000 := Int.mul_le_mul ih.2 (by omega) (by omega) (by omega)
    show 0 ≤ pz_lf r n * (1000 - r) / 1000 ∧ pz_lf r n * (1000 - r) / 1000 ≤ 1000000
    omega
theorem pz_m9 {x y a b : Int} (hx0 : 0 ≤ x) (hx : x ≤ a) (hy0 : 0 ≤ y) (hy : y ≤ b) : 0 ≤ x * y ∧ x * y ≤ a * b :=
  ⟨Int.mul_nonneg hx0 hy0, Int.mul_le_mul hx hy hy0 (by omega)⟩
def pz_lnx (x y v : Int) : Prop := 0 ≤ x → x ≤ 1000000 → 0 ≤ y → y ≤ 1000 → v = x * (1000 - y) / 1000
def pz_lax (r d v : Int) : Prop := 0 ≤ r → r ≤ 1000 → 0 ≤ d → v = pz_lf r d.toNat
def pz_chx (r d v : Int) : Prop := 0 ≤ r → r ≤ 1000 → 0 ≤ d → v = 1000000 - pz_lf r d.toNat
def pz_tmx (a b v : Int) : Prop := 0 ≤ a → a ≤ 1000000 → 0 ≤ b → b ≤ 1000000 → v = a * b / 1000000
/-- how many, all with e of a million -/
def pz_mc (e : Int) : Nat → Int → Int → Int
  | 0, _, i => i
  | n + 1, a, i => if a * e / 1000000 < 500000 then i else pz_mc e n (a * e / 1000000) (i + 1)
theorem pz_mc0 {e a i : Int} {n : Nat} (h : n = 0) : pz_mc e n a i = i := by subst h; rfl
theorem pz_mcS {e a i b : Int} {n m : Nat} (h : n = m + 1) (hb : b = a * e / 1000000) (hn : ¬ b < 500000) : pz_mc e n a i = pz_mc e m b (i + 1) := by
  subst h; subst hb
  show (if a * e / 1000000 < 500000 then i else pz_mc e m (a * e / 1000000) (i + 1)) = _
  rw [if_neg hn]
theorem pz_mcR {e a i b : Int} {n m : Nat} (h : n = m + 1) (hb : b = a * e / 1000000) (hn : b < 500000) : pz_mc e n a i = i := by
  subst h; subst hb
  show (if a * e / 1000000 < 500000 then i else pz_mc e m (a * e / 1000000) (i + 1)) = _
  rw [if_pos hn]
/-! MONEY: the last one to have it by a minute -/
def pz_mo (f : Nat → Int) (m : Int) : Nat → Nat → Int → Int → Int
  | 0, _, _, a => a
  | n + 1, i, t, a => pz_mo f m n (i + 1) (pz_w (t + pz_w (10 + f i))) (if pz_w (t + pz_w (10 + f i)) ≤ m then (i : Int) else a)
theorem pz_mo0 {f : Nat → Int} {m : Int} {n i : Nat} {t a : Int} (h : n = 0) : pz_mo f m n i t a = a := by subst h; rfl
theorem pz_moS {f : Nat → Int} {m : Int} {n k i i' : Nat} {t t' a a' : Int} (h : n = k + 1) (hi : i' = i + 1) (e : t' = pz_w (t + pz_w (10 + f i))) (e2 : (t' ≤ m ∧ a' = (i : Int)) ∨ (m < t' ∧ a' = a)) : pz_mo f m k i' t' a' = pz_mo f m n i t a := by
  subst h; subst hi
  show _ = pz_mo f m k (i + 1) (pz_w (t + pz_w (10 + f i))) (if pz_w (t + pz_w (10 + f i)) ≤ m then (i : Int) else a)
  rw [← e]
  rcases e2 with ⟨q1, q2⟩ | ⟨q1, q2⟩
  · rw [if_pos q1, q2]
  · rw [if_neg (by omega), q2]
theorem pz_mo_cg {f g : Nat → Int} {m : Int} : ∀ (n i : Nat) (t a : Int), (∀ k : Nat, k < i + n → f k = g k) → pz_mo f m n i t a = pz_mo g m n i t a := by
  intro n
  induction n with
  | zero => intro i t a _; rfl
  | succ n ih =>
    intro i t a h
    show pz_mo f m n (i + 1) (pz_w (t + pz_w (10 + f i))) _ = pz_mo g m n (i + 1) (pz_w (t + pz_w (10 + g i))) _
    rw [h i (by omega)]
    exact ih _ _ _ (fun k hk => h k (by omega))
/-! the shape is the same in the class and in the model -/
def pz_RS (M : pz_M) : Prop := M 71 3 = M 60 88 ∧ (∀ i : Nat, i < 12 → M (89 + i) 3 = M 60 (93 + i)) ∧ M 73 3 = M 61 88 ∧ (∀ i : Nat, i < 12 → M (115 + i) 3 = M 61 (93 + i)) ∧ ((M 0 13 = 0 ∧ M 1 5 = 0) ∨ (M 0 13 ≠ 0 ∧ M 1 5 ≠ 0)) ∧ pz_kep M
theorem pz_RS_sx {M M' : pz_M} (hI : pz_ic M) (h : pz_RS M) (hs : pz_sx M M') : pz_RS M' := by
  obtain ⟨h1, h2, h3, h4, h5, h6⟩ := h
  obtain ⟨-, s2, s3⟩ := hs
  obtain ⟨s3, s4⟩ := s3 hI h6
  refine ⟨?_, fun i hi => ?_, ?_, fun i hi => ?_, ?_, s3⟩
  · rw [s4 71 3 (by unfold pz_fz; omega), s2 60 88 (by unfold pz_fy pz_mid; omega)]; exact h1
  · rw [s4 (89 + i) 3 (by unfold pz_fz; omega), s2 60 (93 + i) (by unfold pz_fy pz_mid; omega)]; exact h2 i hi
  · rw [s2 73 3 (by unfold pz_fy; omega), s2 61 88 (by unfold pz_fy pz_mid; omega)]; exact h3
  · rw [s2 (115 + i) 3 (by unfold pz_fy; omega), s2 61 (93 + i) (by unfold pz_fy pz_mid; omega)]; exact h4 i hi
  · rw [s2 0 13 (by unfold pz_fy; omega), s2 1 5 (by unfold pz_fy pz_mid; omega)]; exact h5
theorem pz_RS_sn {M M' : pz_M} (h : pz_RS M) (hs : pz_sn M M') : pz_RS M' := by
  obtain ⟨h1, h2, h3, h4, h5, h6⟩ := h
  have s2 := hs.2
  refine ⟨?_, fun i hi => ?_, ?_, fun i hi => ?_, ?_, pz_kep_cg (fun b j q => s2 b j (by unfold pz_mn pz_mid; omega)) h6⟩
  · rw [s2 71 3 (by unfold pz_mn pz_mid; omega), s2 60 88 (by unfold pz_mn pz_mid; omega)]; exact h1
  · rw [s2 (89 + i) 3 (by unfold pz_mn pz_mid; omega), s2 60 (93 + i) (by unfold pz_mn pz_mid; omega)]; exact h2 i hi
  · rw [s2 73 3 (by unfold pz_mn pz_mid; omega), s2 61 88 (by unfold pz_mn pz_mid; omega)]; exact h3
  · rw [s2 (115 + i) 3 (by unfold pz_mn pz_mid; omega), s2 61 (93 + i) (by unfold pz_mn pz_mid; omega)]; exact h4 i hi
  · rw [s2 0 13 (by unfold pz_mn pz_mid; omega), s2 1 5 (by unfold pz_mn pz_mid; omega)]; exact h5
theorem pz_lkf_3 {M : pz_M} {p q w s : Int} {b : Nat} (h0 : 0 ≤ M 71 3 ∧ M 71 3 < 12) (hb : b ≠ 3) (h2 : 60 ≤ b) : pz_lkf p q w s M b 3 = if b = 71 then M 71 3 + 1 else if b = 89 + (M 71 3).toNat then s else M b 3 := by
  unfold pz_lkf
  rw [pz_una (by omega), pz_una hb]
  by_cases h : b = 71
  · rw [if_pos h, h]
    exact pz_uu
  · rw [if_neg h, pz_una h]
    by_cases h9 : b = 89 + (M 71 3).toNat
    · rw [if_pos h9, h9]
      exact pz_mkl_3
    · rw [if_neg h9]
      exact pz_mkl_o h9
theorem pz_lkf_o {M : pz_M} {p q w s : Int} {b j : Nat} (hb : b ≠ 3 ∧ b ≠ 7 ∧ b ≠ 71 ∧ b ≠ 89 + (M 71 3).toNat) : pz_lkf p q w s M b j = M b j := by
  unfold pz_lkf
  rw [pz_una hb.2.1, pz_una hb.1, pz_una hb.2.2.1]
  exact pz_mkl_o hb.2.2.2
theorem pz_lkm_o {M : pz_M} {p q w s : Int} {b j : Nat} (h : b ≠ 60) (h1 : ¬ (b = 1 ∧ j = 4)) : pz_lkm p q w s M b j = M b j := by
  unfold pz_lkm
  rw [pz_une h1, pz_una h, pz_una h, pz_una h, pz_una h, pz_una h, pz_una h, pz_una h, pz_una h, pz_una h, pz_una h, pz_una h]
theorem pz_lkm_88 {M : pz_M} {p q w s : Int} : pz_lkm p q w s M 60 88 = M 60 88 + 1 := by
  unfold pz_lkm
  rw [pz_una (by decide)]
  exact pz_uu
theorem pz_lkm_s {M : pz_M} {p q w s : Int} {i : Nat} (h0 : 0 ≤ M 60 88 ∧ M 60 88 < 12) (hi : i < 12) : pz_lkm p q w s M 60 (93 + i) = if i = (M 60 88).toNat then s else M 60 (93 + i) := by
  unfold pz_lkm
  rw [pz_una (by decide), pz_unk (by omega), pz_unk (by omega), pz_unk (by omega), pz_unk (by omega), pz_unk (by omega), pz_unk (by omega), pz_unk (by omega)]
  by_cases h : i = (M 60 88).toNat
  · rw [if_pos h, h]
    exact pz_uu
  · rw [if_neg h, pz_unk (by omega), pz_unk (by omega), pz_unk (by omega), pz_unk (by omega)]
theorem pz_RS_link {M M1 M2 : pz_M} {p q w s v v' : Int} {C : Prop} (hI : pz_ic M) (hR : pz_RS M) (h : ((M 71 3 < 12 ∧ C) ∧ v = M 71 3 ∧ M1 = pz_lkf p q w s M) ∨ (¬ (M 71 3 < 12 ∧ C) ∧ v = -1 ∧ M1 = M)) (h' : ((M1 60 88 < 12 ∧ C) ∧ v' = M1 60 88 ∧ M2 = pz_lkm p q w s M1) ∨ (¬ (M1 60 88 < 12 ∧ C) ∧ v' = -1 ∧ M2 = M1)) : v = v' ∧ pz_RS M2 := by
  obtain ⟨h1, h2, h3, h4, h5, h6⟩ := id hR
  have i1 := hI.1 71 (by omega) (by omega)
  rcases h with ⟨⟨a1, a2⟩, a3, a4⟩ | ⟨a1, a2, a3⟩
  · have f : ∀ j, M1 60 j = M 60 j := fun j => by
      rw [a4]
      exact pz_lkf_o (by omega)
    rw [f] at h'
    rcases h' with ⟨⟨b1, b2⟩, b3, b4⟩ | ⟨b1, -, -⟩
    · refine ⟨by omega, ?_⟩
      have g : ∀ b j, b ≠ 60 → b ≠ 1 → M2 b j = M1 b j := fun b j q q2 => by
        rw [b4]
        exact pz_lkm_o q (fun z => q2 z.1)
      refine ⟨?_, fun i hi => ?_, ?_, fun i hi => ?_, ?_, ⟨?_, fun t ht => ?_⟩⟩
      · rw [g 71 3 (by omega) (by omega), b4, pz_lkm_88, f, a4, pz_lkf_3 (by omega) (by omega) (by omega), if_pos rfl]
        omega
      · rw [g _ 3 (by omega) (by omega), b4, pz_lkm_s (by rw [f]; omega) hi, f, f, a4, pz_lkf_3 (by omega) (by omega) (by omega), if_neg (by omega), h1]
        by_cases h9 : i = (M 60 88).toNat
        · rw [if_pos h9, if_pos (by omega)]
        · rw [if_neg h9, if_neg (by omega)]
          exact h2 i hi
      · rw [g 73 3 (by omega) (by omega), g 61 88 (by omega) (by omega), a4, pz_lkf_3 (by omega) (by omega) (by omega), if_neg (by omega), if_neg (by omega), pz_lkf_o (by omega)]
        exact h3
      · rw [g _ 3 (by omega) (by omega), g 61 _ (by omega) (by omega), a4, pz_lkf_3 (by omega) (by omega) (by omega), if_neg (by omega), if_neg (by omega), pz_lkf_o (by omega)]
        exact h4 i hi
      · rw [g 0 13 (by omega) (by omega), show M2 1 5 = M1 1 5 by rw [b4]; exact pz_lkm_o (by omega) (by omega), a4, pz_lkf_o (by omega), pz_lkf_o (by omega)]
        exact h5
      · rw [g 3 2 (by omega) (by omega), a4]
        unfold pz_lkf
        rw [pz_una (by omega), pz_uu]
        omega
      · rw [g 3 2 (by omega) (by omega), a4] at ht
        unfold pz_lkf at ht
        rw [pz_una (by omega), pz_uu] at ht
        omega
    · exact absurd ⟨by omega, a2⟩ b1
  · subst a3
    rcases h' with ⟨⟨b1, b2⟩, b3, b4⟩ | ⟨b1, b2, b3⟩
    · exact absurd ⟨by omega, b2⟩ a1
    · subst b3
      exact ⟨by omega, hR⟩
theorem pz_RS_set {M M1 M2 : pz_M} {w i n v v' : Int} {C : Prop} (hC : C → 0 ≤ w ∧ w ≤ 4) (hI : pz_ic M) (hR : pz_RS M) (h : (((0 ≤ i ∧ i < M 71 3) ∧ C) ∧ v = 1 ∧ M1 = pz_u (pz_u M (89 + i.toNat) w.toNat n) 3 2 0) ∨ (¬ ((0 ≤ i ∧ i < M 71 3) ∧ C) ∧ v = 0 ∧ M1 = M)) (h' : (((0 ≤ i ∧ i < M1 60 88) ∧ C) ∧ v' = 1 ∧ M2 = pz_u (pz_u M1 60 (pz_bs w + i).toNat n) 1 4 0) ∨ (¬ ((0 ≤ i ∧ i < M1 60 88) ∧ C) ∧ v' = 0 ∧ M2 = M1)) : v = v' ∧ pz_RS M2 := by
  obtain ⟨h1, h2, h3, h4, h5, h6⟩ := id hR
  have i1 := hI.1 71 (by omega) (by omega)
  rcases h with ⟨⟨a1, a2⟩, a3, a4⟩ | ⟨a1, a2, a3⟩
  · have hw := hC a2
    have f : ∀ b j, b ≠ 3 → ¬ (b = 89 + i.toNat ∧ j = w.toNat) → M1 b j = M b j := fun b j q q2 => by
      rw [a4, pz_una q, pz_une q2]
    rw [f 60 88 (by omega) (by omega)] at h'
    rcases h' with ⟨⟨b1, b2⟩, b3, b4⟩ | ⟨b1, -, -⟩
    · refine ⟨by omega, ?_⟩
      have g : ∀ b j, ¬ (b = 60 ∧ j = (pz_bs w + i).toNat) → ¬ (b = 1 ∧ j = 4) → M2 b j = M1 b j := fun b j q q2 => by
        rw [b4, pz_une q2, pz_une q]
      have hb : (w = 3 ∧ pz_bs w = 93) ∨ (w ≠ 3 ∧ 4 ≤ pz_bs w ∧ pz_bs w ≤ 40) := by
        unfold pz_bs
        repeat' split
        all_goals omega
      refine ⟨?_, fun k hk => ?_, ?_, fun k hk => ?_, ?_, ⟨?_, fun t ht => ?_⟩⟩
      · rw [g 71 3 (by omega) (by omega), g 60 88 (by omega) (by omega), f 71 3 (by omega) (by omega), f 60 88 (by omega) (by omega)]
        exact h1
      · rw [g (89 + k) 3 (by omega) (by omega)]
        by_cases h9 : w = 3 ∧ k = i.toNat
        · have e1 : M1 (89 + k) 3 = n := by
            rw [a4, pz_una (by omega)]
            exact pz_ue (by omega)
          have e2 : M2 60 (93 + k) = n := by
            rw [b4, pz_una (by omega)]
            exact pz_ue (by omega)
          rw [e1, e2]
        · rw [g 60 (93 + k) (by omega) (by omega), f (89 + k) 3 (by omega) (by omega), f 60 (93 + k) (by omega) (by omega)]
          exact h2 k hk
      · rw [g 73 3 (by omega) (by omega), g 61 88 (by omega) (by omega), f 73 3 (by omega) (by omega), f 61 88 (by omega) (by omega)]
        exact h3
      · rw [g _ 3 (by omega) (by omega), g 61 _ (by omega) (by omega), f _ 3 (by omega) (by omega), f 61 _ (by omega) (by omega)]
        exact h4 k hk
      · rw [g 0 13 (by omega) (by omega), g 1 5 (by omega) (by omega), f 0 13 (by omega) (by omega), f 1 5 (by omega) (by omega)]
        exact h5
      · rw [g 3 2 (by omega) (by omega), a4, pz_uu]
        omega
      · rw [g 3 2 (by omega) (by omega), a4, pz_uu] at ht
        omega
    · exact absurd ⟨by omega, a2⟩ b1
  · subst a3
    rcases h' with ⟨⟨b1, b2⟩, b3, b4⟩ | ⟨b1, b2, b3⟩
    · exact absurd ⟨by omega, b2⟩ a1
    · subst b3
      exact ⟨by omega, hR⟩
theorem pz_RS_image {M M1 M2 : pz_M} {t v v' : Int} (hR : pz_RS M) (h : (t = 0 ∧ M 0 13 = 0 ∧ v = 0 ∧ M1 = M) ∨ (t ≠ 0 ∧ v = 1 ∧ M1 0 13 = 1 ∧ pz_xi 73 71 M M1) ∨ (t = 0 ∧ M 0 13 ≠ 0 ∧ v = 1 ∧ M1 0 13 = M 0 13 ∧ M1 3 2 = 0 ∧ pz_xi 71 73 M M1))
    (h' : (t = 0 ∧ M1 1 5 = 0 ∧ v' = 0 ∧ M2 = M1) ∨ ((t ≠ 0 ∨ M1 1 5 ≠ 0) ∧ v' = 1 ∧ M2 1 5 = 1 ∧ ((t = 0 → ∀ k : Nat, (k : Int) < 1725 → M2 60 k = M1 61 k) ∧ (t = 0 → ∀ k, M2 61 k = M1 61 k) ∧ (t ≠ 0 → ∀ k : Nat, (k : Int) < 1725 → M2 61 k = M1 60 k) ∧ (t ≠ 0 → ∀ k, M2 60 k = M1 60 k)))) (hq : pz_sq M1 M2) : v = v' ∧ pz_RS M2 := by
  obtain ⟨h1, h2, h3, h4, h5, h6⟩ := id hR
  have m2 : ∀ b j : Nat, ¬ pz_mid b → M2 b j = M1 b j := fun b j q => hq.2.1 b j q
  have mi : ∀ b : Nat, (b < 60 ∧ b ≠ 1) ∨ 71 ≤ b → ¬ pz_mid b := fun b q => by unfold pz_mid; omega
  rcases h with ⟨a1, a2, a3, a4⟩ | ⟨a1, a2, a3, a4⟩ | ⟨a1, a2, a3, a4, a5, a6⟩
  · subst a4
    rcases h' with ⟨b1, b2, b3, b4⟩ | ⟨b1, b2, b3, b4⟩
    · subst b4
      exact ⟨by omega, hR⟩
    · omega
  · have mc : ∀ b j : Nat, pz_mid b → M1 b j = M b j := fun b j q => by
      have q9 : pz_mid b := q
      unfold pz_mid at q
      rw [a4.2.1 b j (Or.inl q9) (by omega) (by omega)]
      exact pz_tf_o (by omega) (by unfold pz_lb; omega)
    have st : ∀ b j : Nat, (j = 3 ∧ (b = 71 ∨ (74 ≤ b ∧ b < 80) ∨ (89 ≤ b ∧ b < 101) ∨ (128 ≤ b ∧ b < 206))) ∨ b = 3 → M2 b j = M b j := fun b j q => by
      rw [m2 b j (mi b (by omega)), a4.2.1 b j (by unfold pz_mq0 pz_ko; omega) (by omega) (by omega)]
      exact pz_tf_o (by omega) (by unfold pz_lb; omega)
    rcases h' with ⟨b1, -, -, -⟩ | ⟨b1, b2, b3, c1, c2, c3, c4⟩
    · exact absurd b1 a1
    · refine ⟨by omega, ?_, fun i hi => ?_, ?_, fun i hi => ?_, ?_, pz_kep_cg (fun b j q => st b j (by omega)) h6⟩
      · rw [st 71 3 (by omega), c4 a1, mc 60 88 (by unfold pz_mid; omega)]
        exact h1
      · rw [st (89 + i) 3 (by omega), c4 a1, mc 60 _ (by unfold pz_mid; omega)]
        exact h2 i hi
      · rw [m2 73 3 (mi 73 (by omega)), c3 a1 88 (by omega), mc 60 88 (by unfold pz_mid; omega), a4.2.1 73 3 (by unfold pz_mq0 pz_ko; omega) (by omega) (by omega), pz_tf_k (by omega) (by omega)]
        exact h1
      · rw [m2 (115 + i) 3 (mi _ (by omega)), c3 a1 _ (by omega), mc 60 _ (by unfold pz_mid; omega), a4.2.1 (115 + i) 3 (by unfold pz_mq0 pz_ko; omega) (by omega) (by omega), show 115 + i = pz_lb 73 + i by unfold pz_lb; omega, pz_tf_l hi (by omega)]
        exact h2 i hi
      · refine Or.inr ⟨?_, by omega⟩
        rw [m2 0 13 (mi 0 (by omega)), a3]
        omega
  · have mc : ∀ b j : Nat, pz_mid b → M1 b j = M b j := fun b j q => by
      have q9 : pz_mid b := q
      unfold pz_mid at q
      rw [a6.2.1 b j (Or.inl q9) (by omega) (by omega)]
      exact pz_tf_o (by omega) (by unfold pz_lb; omega)
    rcases h' with ⟨b1, b9, -, -⟩ | ⟨b1, b2, b3, c1, c2, c3, c4⟩
    · rw [mc 1 5 (by unfold pz_mid; omega)] at b9
      omega
    · refine ⟨by omega, ?_, fun i hi => ?_, ?_, fun i hi => ?_, ?_, ⟨?_, fun t ht => ?_⟩⟩
      · rw [m2 71 3 (mi _ (by omega)), c1 a1 88 (by omega), mc 61 88 (by unfold pz_mid; omega), a6.2.1 71 3 (by unfold pz_mq0 pz_ko; omega) (by omega) (by omega), pz_tf_k (by omega) (by omega)]
        exact h3
      · rw [m2 (89 + i) 3 (mi _ (by omega)), c1 a1 _ (by omega), mc 61 _ (by unfold pz_mid; omega), a6.2.1 (89 + i) 3 (by unfold pz_mq0 pz_ko; omega) (by omega) (by omega), show 89 + i = pz_lb 71 + i by unfold pz_lb; omega, pz_tf_l hi (by omega)]
        exact h4 i hi
      · rw [m2 73 3 (mi _ (by omega)), c2 a1, mc 61 88 (by unfold pz_mid; omega), a6.2.1 73 3 (by unfold pz_mq0 pz_ko; omega) (by omega) (by omega), pz_tf_o (by omega) (by unfold pz_lb; omega)]
        exact h3
      · rw [m2 (115 + i) 3 (mi _ (by omega)), c2 a1, mc 61 _ (by unfold pz_mid; omega), a6.2.1 (115 + i) 3 (by unfold pz_mq0 pz_ko; omega) (by omega) (by omega), pz_tf_o (by omega) (by unfold pz_lb; omega)]
        exact h4 i hi
      · refine Or.inr ⟨?_, by omega⟩
        rw [m2 0 13 (mi 0 (by omega)), a4]
        exact a2
      · rw [m2 3 2 (mi 3 (by omega)), a5]
        omega
      · rw [m2 3 2 (mi 3 (by omega)), a5] at ht
        omega
theorem pz_lk_mid {M M1 : pz_M} {p q w s v : Int} {C C' : Prop} (hI : pz_ic M) (h : (C ∧ v = M 71 3 ∧ M1 = pz_lkf p q w s M) ∨ (C' ∧ v = -1 ∧ M1 = M)) : ∀ b j : Nat, pz_mid b → M1 b j = M b j := fun b j q => by
  have i1 := hI.1 71 (by omega) (by omega)
  unfold pz_mid at q
  rcases h with ⟨-, -, h⟩ | ⟨-, -, h⟩
  · rw [h]
    exact pz_lkf_o (by omega)
  · rw [h]
theorem pz_set_mid {M M1 : pz_M} {a k : Nat} {n v : Int} {C C' : Prop} (h : (C ∧ v = 1 ∧ M1 = pz_u (pz_u M (89 + a) k n) 3 2 0) ∨ (C' ∧ v = 0 ∧ M1 = M)) : ∀ b j : Nat, pz_mid b → M1 b j = M b j := fun b j q => by
  unfold pz_mid at q
  rcases h with ⟨-, -, h⟩ | ⟨-, -, h⟩
  · rw [h, pz_una (by omega), pz_una (by omega)]
  · rw [h]
theorem pz_xi.mid {c o : Nat} {M M' : pz_M} (hc : 71 ≤ c ∧ c < 80) (h : pz_xi c o M M') : ∀ b j : Nat, pz_mid b → M' b j = M b j := (h.si hc).2.1
theorem pz_img_mid {M M1 : pz_M} {t v : Int} (h : (t = 0 ∧ M 0 13 = 0 ∧ v = 0 ∧ M1 = M) ∨ (t ≠ 0 ∧ v = 1 ∧ M1 0 13 = 1 ∧ pz_xi 73 71 M M1) ∨ (t = 0 ∧ M 0 13 ≠ 0 ∧ v = 1 ∧ M1 0 13 = M 0 13 ∧ M1 3 2 = 0 ∧ pz_xi 71 73 M M1)) : ∀ b j : Nat, pz_mid b → M1 b j = M b j := fun b j q => by
  rcases h with ⟨-, -, -, h⟩ | ⟨-, -, -, h⟩ | ⟨-, -, -, -, -, h⟩
  · rw [h]
  · exact h.mid (by omega) b j q
  · exact h.mid (by omega) b j q
theorem pz_RS_money {M : pz_M} {t m v v' : Int} {C : Prop} [Decidable C] (hI : pz_ic M) (hR : pz_RS M) (h : v = (if C then pz_mo (fun k => M (89 + k) 3) m (M 71 3).toNat 0 t (-1) else -1)) (h' : v' = (if C then pz_mo (fun k => M 60 (93 + k)) m (M 60 88).toNat 0 t (-1) else -1)) : v = v' := by
  have i1 := hI.1 71 (by omega) (by omega)
  rw [h, h', ← hR.1]
  by_cases q : C
  · rw [if_pos q, if_pos q]
    exact pz_mo_cg _ _ _ _ (fun k hk => hR.2.1 k (by omega))
  · rw [if_neg q, if_neg q]
theorem pz_RS_sW {M M' : pz_M} (hI : pz_ic M) (h : pz_RS M) (hs : pz_sW M M') : pz_RS M' := pz_RS_sx hI h hs.1
end
