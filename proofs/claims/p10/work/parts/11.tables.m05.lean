section
/-! chains: taking, keeping, going back; what of their shape stays -/
theorem pz_nrc {r k c : Nat} {K : Nat → Prop} (h : r = c) (hk : K c) : pz_nr r k K := fun z e _ => by
  rw [e, h]
  exact hk
theorem pz_une {M : pz_M} {a k b j : Nat} {v : Int} (h : ¬ (b = a ∧ j = k)) : pz_u M a k v b j = M b j := if_neg h
theorem pz_ue {M : pz_M} {a k b j : Nat} {v : Int} (h : b = a ∧ j = k) : pz_u M a k v b j = v := if_pos h
/-- where the Links of a chain lie -/
def pz_lb (c : Nat) : Nat := 89 + 13 * (c - 71)
theorem pz_rf_l {c n : Nat} (h1 : 71 ≤ c) (h2 : c < 80) : pz_rf (pz_rf c 1) n = pz_lb c + n := by
  have e : pz_rf c 1 = c + 9 := by
    unfold pz_rf
    rw [if_neg (by omega), if_pos h2]
    rfl
  rw [e]
  unfold pz_rf pz_lb
  rw [if_neg (by omega), if_neg (by omega)]
  omega
theorem pz_rf_n {c : Nat} (h1 : 71 ≤ c) (h2 : c < 80) : pz_rf c 2 = pz_lb c + 12 := by
  unfold pz_rf pz_lb
  rw [if_neg (by omega), if_pos h2]
  rfl
/-- a new Link -/
def pz_mkl (c : Nat) (p q w z : Int) (M : pz_M) : pz_M := pz_u (pz_u (pz_u (pz_u (pz_u (pz_u (pz_u (pz_u M c 0 p) c 1 q) c 2 w) c 3 z) c 4 0) c 5 0) c 6 0) c 7 (-1)
theorem pz_mkl_o {c b j : Nat} {p q w z : Int} {M : pz_M} (h : b ≠ c) : pz_mkl c p q w z M b j = M b j := by
  unfold pz_mkl
  rw [pz_una h, pz_una h, pz_una h, pz_una h, pz_una h, pz_una h, pz_una h, pz_una h]
theorem pz_mkl_3 {c : Nat} {p q w z : Int} {M : pz_M} : pz_mkl c p q w z M c 3 = z := by
  unfold pz_mkl
  rw [pz_unk (by decide), pz_unk (by decide), pz_unk (by decide), pz_unk (by decide)]
  exact pz_uu
/-- Link c takes n fields of Link d -/
def pz_ltk (c d : Nat) (M : pz_M) (n : Nat) : pz_M := fun b j => if b = c ∧ j < n then M d j else M b j
theorem pz_ltk_0 {c d : Nat} {M : pz_M} : M = pz_ltk c d M 0 := by
  funext b j
  unfold pz_ltk
  rw [if_neg (by omega)]
theorem pz_ltk_s {c d n : Nat} {M N N' : pz_M} {v : Int} (h : N = pz_ltk c d M n) (ev : v = N d n) (e : N' = pz_u N c n v) : N' = pz_ltk c d M (n + 1) := by
  have hv : v = M d n := by
    rw [ev, h]
    unfold pz_ltk
    rw [if_neg (by omega)]
  funext b j
  rw [e, hv, h]
  by_cases q : b = c ∧ j = n
  · rw [pz_ue q]
    unfold pz_ltk
    rw [if_pos (by omega), q.2]
  · rw [pz_une q]
    unfold pz_ltk
    by_cases q2 : b = c ∧ j < n
    · rw [if_pos q2, if_pos (by omega)]
    · rw [if_neg q2, if_neg (by omega)]
/-- chain c takes n Links of chain o, and its fields 3 .. m - 1 -/
def pz_tn (c o : Nat) (M : pz_M) (n m : Nat) : pz_M := fun b j => if pz_lb c ≤ b ∧ b < pz_lb c + n ∧ j < 8 then M (b - pz_lb c + pz_lb o) j else if b = c ∧ 3 ≤ j ∧ j < m then M o j else M b j
def pz_tf (c o : Nat) (M : pz_M) : pz_M := pz_tn c o M 12 8
theorem pz_tn_0 {c o : Nat} {M : pz_M} : M = pz_tn c o M (0 : Int).toNat 3 := by
  funext b j
  unfold pz_tn
  rw [if_neg (by omega), if_neg (by omega)]
theorem pz_tn_l {c o n r s : Nat} {M N : pz_M} (hc : 71 ≤ c ∧ c < 80) (ho : 71 ≤ o ∧ o < 80) (hn : n < 12) (h : N = pz_tn c o M n 3) (er : r = pz_lb c + n) (es : s = pz_lb o + n) : pz_ltk r s N 8 = pz_tn c o M (n + 1) 3 := by
  funext b j
  have e1 : N s j = M s j := by
    rw [h]
    unfold pz_tn
    rw [if_neg (by unfold pz_lb at *; omega), if_neg (by omega)]
  unfold pz_ltk
  by_cases q : b = r ∧ j < 8
  · rw [if_pos q, e1]
    unfold pz_tn
    rw [if_pos (by omega), show b - pz_lb c + pz_lb o = s by omega]
  · rw [if_neg q, h]
    unfold pz_tn
    by_cases q2 : pz_lb c ≤ b ∧ b < pz_lb c + n ∧ j < 8
    · rw [if_pos q2, if_pos (by omega)]
    · rw [if_neg q2, if_neg (show ¬ (pz_lb c ≤ b ∧ b < pz_lb c + (n + 1) ∧ j < 8) by omega)]
theorem pz_tn_s {c o m : Nat} {M N N' : pz_M} {v : Int} (hc : 71 ≤ c ∧ c < 80) (ho : 71 ≤ o ∧ o < 80) (hm : 3 ≤ m) (h : N = pz_tn c o M 12 m) (ev : v = N o m) (e : N' = pz_u N c m v) : N' = pz_tn c o M 12 (m + 1) := by
  have hv : v = M o m := by
    rw [ev, h]
    unfold pz_tn
    rw [if_neg (by unfold pz_lb; omega), if_neg (by omega)]
  funext b j
  rw [e, hv, h]
  by_cases q : b = c ∧ j = m
  · rw [pz_ue q]
    unfold pz_tn
    rw [if_neg (by unfold pz_lb; omega), if_pos (by omega), q.2]
  · rw [pz_une q]
    unfold pz_tn
    by_cases q2 : pz_lb c ≤ b ∧ b < pz_lb c + 12 ∧ j < 8
    · rw [if_pos q2, if_pos q2]
    · rw [if_neg q2, if_neg q2]
      by_cases q3 : b = c ∧ 3 ≤ j ∧ j < m
      · rw [if_pos q3, if_pos (by omega)]
      · rw [if_neg q3, if_neg (by omega)]
theorem pz_tf_o {c o b j : Nat} {M : pz_M} (h : b ≠ c) (h2 : b < pz_lb c ∨ pz_lb c + 12 ≤ b) : pz_tf c o M b j = M b j := by
  unfold pz_tf pz_tn
  rw [if_neg (by omega), if_neg (by omega)]
theorem pz_tf_k {c o j : Nat} {M : pz_M} (hc : 71 ≤ c ∧ c < 80) (h : 3 ≤ j ∧ j < 8) : pz_tf c o M c j = M o j := by
  unfold pz_tf pz_tn
  rw [if_neg (by unfold pz_lb; omega), if_pos (by omega)]
theorem pz_tf_l {c o i j : Nat} {M : pz_M} (hi : i < 12) (h : j < 8) : pz_tf c o M (pz_lb c + i) j = M (pz_lb o + i) j := by
  unfold pz_tf pz_tn
  rw [if_pos (by omega), show pz_lb c + i - pz_lb c + pz_lb o = pz_lb o + i by omega]
/-- a deed is kept; the latest one is undone -/
def pz_kf (M : pz_M) : pz_M := pz_u (pz_u (pz_tf (74 + (M 3 1).toNat) 71 M) 3 1 ((M 3 1 + 1) % 6)) 3 2 (min (pz_w (M 3 2 + 1)) 6)
def pz_bn (M : pz_M) : Int := (M 3 1 + 5) % 6
def pz_bf (M : pz_M) : pz_M := pz_tf 71 (74 + (pz_bn M).toNat) (pz_u (pz_u M 3 2 (pz_w (M 3 2 - 1))) 3 1 (pz_bn M))
/-- a chain of the same shape as the chain -/
def pz_alk (M : pz_M) (q : Nat) : Prop := M q 3 = M 71 3 ∧ ∀ i : Nat, i < 12 → M (pz_lb q + i) 3 = M (89 + i) 3
def pz_kep (M : pz_M) : Prop := (0 ≤ M 3 2 ∧ M 3 2 ≤ 6) ∧ ∀ t : Nat, (t : Int) < M 3 2 → pz_alk M (74 + ((M 3 1 + 5 - t) % 6).toNat)
def pz_fy (b j : Nat) : Prop := pz_mid b ∨ (b = 0 ∧ j = 13) ∨ (j = 3 ∧ (b = 73 ∨ (115 ≤ b ∧ b < 127))) ∨ (b = 5 ∧ (j = 3 ∨ j = 4)) ∨ b = 48 ∨ (10 ≤ b ∧ b ≤ 37 ∧ b ≠ 12 ∧ b ≠ 19 ∧ b ≠ 26 ∧ b ≠ 32)
def pz_fz (b j : Nat) : Prop := j = 3 ∧ (b = 71 ∨ (89 ≤ b ∧ b < 101))
def pz_sx (M M' : pz_M) : Prop := (pz_ic M → pz_ic M') ∧ (∀ b j : Nat, pz_fy b j → M' b j = M b j) ∧ (pz_ic M → pz_kep M → pz_kep M' ∧ ∀ b j : Nat, pz_fz b j → M' b j = M b j)
def pz_sW (M M' : pz_M) : Prop := pz_sx M M' ∧ M' 4 1 = M 4 1
theorem pz_sx.rf {M : pz_M} : pz_sx M M := ⟨id, fun _ _ _ => rfl, fun _ h => ⟨h, fun _ _ _ => rfl⟩⟩
theorem pz_sx.tr {M M' M'' : pz_M} (h : pz_sx M M') (h' : pz_sx M' M'') : pz_sx M M'' :=
  ⟨fun q => h'.1 (h.1 q), fun b j q => (h'.2.1 b j q).trans (h.2.1 b j q), fun q k => ⟨(h'.2.2 (h.1 q) (h.2.2 q k).1).1, fun b j z => ((h'.2.2 (h.1 q) (h.2.2 q k).1).2 b j z).trans ((h.2.2 q k).2 b j z)⟩⟩
theorem pz_sW.rf {M : pz_M} : pz_sW M M := ⟨pz_sx.rf, rfl⟩
theorem pz_sW.tr {M M' M'' : pz_M} (h : pz_sW M M') (h' : pz_sW M' M'') : pz_sW M M'' := ⟨h.1.tr h'.1, h'.2.trans h.2⟩
theorem pz_sW.rt {M M' : pz_M} (h : pz_sW M M') : pz_rt M M' := h.1.1
theorem pz_sx.rt {M M' : pz_M} (h : pz_sx M M') : pz_rt M M' := h.1
/-- what is alike stays so where the shape's cells stay -/
theorem pz_alk_cg {M M' : pz_M} {q : Nat} (hq : 74 ≤ q ∧ q < 80) (h : ∀ b j : Nat, (j = 3 ∧ (b = 71 ∨ b = q ∨ (89 ≤ b ∧ b < 101) ∨ (pz_lb q ≤ b ∧ b < pz_lb q + 12))) → M' b j = M b j) (ha : pz_alk M q) : pz_alk M' q := by
  refine ⟨?_, fun i hi => ?_⟩
  · rw [h q 3 (by omega), h 71 3 (by omega)]
    exact ha.1
  · rw [h _ 3 (by omega), h (89 + i) 3 (by omega)]
    exact ha.2 i hi
theorem pz_kep_cg {M M' : pz_M} (h : ∀ b j : Nat, b = 3 ∨ (j = 3 ∧ (b = 71 ∨ (74 ≤ b ∧ b < 80) ∨ (89 ≤ b ∧ b < 101) ∨ (128 ≤ b ∧ b < 206))) → M' b j = M b j) (hk : pz_kep M) : pz_kep M' := by
  have e1 := h 3 1 (Or.inl rfl)
  have e2 := h 3 2 (Or.inl rfl)
  refine ⟨by rw [e2]; exact hk.1, fun t ht => ?_⟩
  rw [e2] at ht
  rw [e1]
  refine pz_alk_cg (by omega) (fun b j hb => h b j ?_) (hk.2 t ht)
  unfold pz_lb at hb
  omega
theorem pz_sy.sx {M M' : pz_M} (h : pz_sy M M') : pz_sx M M' :=
  ⟨h.1, fun b j q => h.2 b j (by unfold pz_fy pz_mid at q; unfold pz_md pz_kx pz_mid; omega), fun _ hk => ⟨pz_kep_cg (fun b j q => h.2 b j (by unfold pz_md pz_kx; omega)) hk, fun b j q => h.2 b j (by unfold pz_fz at q; unfold pz_md pz_kx; omega)⟩⟩
theorem pz_st.sw {M M' : pz_M} (h : pz_st M M') : pz_sW M M' := ⟨h.1.sx, h.2.1⟩
/-- all is forgotten -/
theorem pz_fg_sW {M : pz_M} (h : pz_rt M (pz_u M 3 2 0)) : pz_sW M (pz_u M 3 2 0) := by
  have e : ∀ b j : Nat, ¬ (b = 3 ∧ j = 2) → pz_u M 3 2 0 b j = M b j := fun b j q => pz_une q
  refine ⟨⟨h, fun b j q => e b j (by unfold pz_fy pz_mid at q; omega), fun _ hk => ⟨⟨?_, fun t ht => ?_⟩, fun b j q => e b j (by unfold pz_fz at q; omega)⟩⟩, e 4 1 (by omega)⟩
  · rw [pz_uu]; omega
  · rw [pz_uu] at ht; omega
theorem pz_kf_o {M : pz_M} {b j : Nat} (hi : pz_ic M) (h : ¬ (b = 3 ∧ (j = 1 ∨ j = 2))) (h1 : b ≠ 74 + (M 3 1).toNat) (h2 : b < pz_lb (74 + (M 3 1).toNat) ∨ pz_lb (74 + (M 3 1).toNat) + 12 ≤ b) : pz_kf M b j = M b j := by
  unfold pz_kf
  rw [pz_une (by omega), pz_une (by omega), pz_tf_o h1 h2]
theorem pz_kf_sW {M : pz_M} (hi : pz_ic M) (h : pz_rt M (pz_kf M)) : pz_sW M (pz_kf M) := by
  have i1 := hi.2.1
  have e : ∀ b j : Nat, ¬ (b = 3 ∧ (j = 1 ∨ j = 2)) → b < 74 ∨ (80 ≤ b ∧ b < 128) → pz_kf M b j = M b j := fun b j q q2 => pz_kf_o hi q (by omega) (by unfold pz_lb; omega)
  refine ⟨⟨h, fun b j q => e b j (by unfold pz_fy pz_mid at q; omega) (by unfold pz_fy pz_mid at q; omega), fun _ hk => ?_⟩, e 4 1 (by omega) (by omega)⟩
  have f : ∀ b j : Nat, pz_fz b j → pz_kf M b j = M b j := fun b j q => e b j (by unfold pz_fz at q; omega) (by unfold pz_fz at q; omega)
  have k0 := hk.1
  have w1 : pz_w (M 3 2 + 1) = M 3 2 + 1 := by unfold pz_w; omega
  have k1 : pz_kf M 3 1 = (M 3 1 + 1) % 6 := by
    unfold pz_kf
    rw [pz_une (by omega), pz_uu]
  have k2 : pz_kf M 3 2 = min (M 3 2 + 1) 6 := by
    unfold pz_kf
    rw [pz_uu, w1]
  refine ⟨⟨by rw [k2]; omega, fun t ht => ?_⟩, f⟩
  rw [k2] at ht
  rw [k1]
  by_cases ht0 : t = 0
  · have eq : 74 + (((M 3 1 + 1) % 6 + 5 - (t : Nat)) % 6).toNat = 74 + (M 3 1).toNat := by omega
    rw [eq]
    have g : ∀ j b, b ≠ 3 → pz_kf M b j = pz_tf (74 + (M 3 1).toNat) 71 M b j := fun j b q => by
      unfold pz_kf
      rw [pz_una q, pz_una q]
    refine ⟨?_, fun i hi2 => ?_⟩
    · rw [f 71 3 (by unfold pz_fz; omega), g 3 _ (by omega)]
      exact pz_tf_k (by omega) (by omega)
    · rw [f (89 + i) 3 (by unfold pz_fz; omega), g 3 _ (by unfold pz_lb; omega), pz_tf_l hi2 (by omega)]
      rfl
  · have eq : 74 + (((M 3 1 + 1) % 6 + 5 - (t : Nat)) % 6).toNat = 74 + ((M 3 1 + 5 - ((t - 1 : Nat) : Int)) % 6).toNat := by omega
    rw [eq]
    have hne : ((M 3 1 + 5 - ((t - 1 : Nat) : Int)) % 6).toNat ≠ (M 3 1).toNat := by omega
    refine pz_alk_cg (by omega) (fun b j q => ?_) (hk.2 (t - 1) (by omega))
    refine pz_kf_o hi (by unfold pz_lb at q; omega) (by unfold pz_lb at q; omega) ?_
    have hy : ((M 3 1 + 5 - ((t - 1 : Nat) : Int)) % 6).toNat < 6 := by omega
    generalize ((M 3 1 + 5 - ((t - 1 : Nat) : Int)) % 6).toNat = y at q hne hy
    generalize (M 3 1).toNat = x at hne ⊢
    unfold pz_lb at q ⊢
    omega
theorem pz_bf_o {M : pz_M} {b j : Nat} (h : ¬ (b = 3 ∧ (j = 1 ∨ j = 2))) (h1 : b ≠ 71) (h2 : b < 89 ∨ 101 ≤ b) : pz_bf M b j = M b j := by
  unfold pz_bf
  rw [pz_tf_o h1 (by unfold pz_lb; omega), pz_une (by omega), pz_une (by omega)]
theorem pz_bf_sW {M : pz_M} (hi : pz_ic M) (hz : M 3 2 ≠ 0) (h : pz_rt M (pz_bf M)) : pz_sW M (pz_bf M) := by
  have i1 := hi.2.1
  refine ⟨⟨h, fun b j q => pz_bf_o (by unfold pz_fy pz_mid at q; omega) (by unfold pz_fy pz_mid at q; omega) (by unfold pz_fy pz_mid at q; omega), fun _ hk => ?_⟩, pz_bf_o (by omega) (by omega) (by omega)⟩
  have k0 := hk.1
  have hbn : pz_bn M = (M 3 1 + 5) % 6 := rfl
  have w1 : pz_w (M 3 2 - 1) = M 3 2 - 1 := by unfold pz_w; omega
  have k1 : pz_bf M 3 1 = pz_bn M := by
    unfold pz_bf
    rw [pz_tf_o (by omega) (by unfold pz_lb; omega), pz_uu]
  have k2 : pz_bf M 3 2 = M 3 2 - 1 := by
    unfold pz_bf
    rw [pz_tf_o (by omega) (by unfold pz_lb; omega), pz_une (by omega), pz_uu, w1]
  have ha := hk.2 0 (by omega)
  rw [show (M 3 1 + 5 - ((0 : Nat) : Int)) % 6 = pz_bn M by rw [hbn]; omega] at ha
  have f : ∀ b j : Nat, pz_fz b j → pz_bf M b j = M b j := fun b j q => by
    unfold pz_fz at q
    unfold pz_bf
    rcases q.2 with q2 | q2
    · rw [q2, q.1, pz_tf_k (by omega) (by omega), pz_una (by omega), pz_una (by omega)]
      exact ha.1
    · rw [show b = pz_lb 71 + (b - 89) by unfold pz_lb; omega, q.1, pz_tf_l (by omega) (by omega), pz_una (by unfold pz_lb; omega), pz_una (by unfold pz_lb; omega), ha.2 (b - 89) (by omega)]
      rfl
  refine ⟨⟨by rw [k2]; omega, fun t ht => ?_⟩, f⟩
  rw [k2] at ht
  rw [k1, show (pz_bn M + 5 - (t : Int)) % 6 = (M 3 1 + 5 - ((t + 1 : Nat) : Int)) % 6 by rw [hbn]; omega]
  refine pz_alk_cg (by omega) (fun b j q => ?_) (hk.2 (t + 1) (by omega))
  by_cases q2 : pz_fz b j
  · exact f b j q2
  · unfold pz_fz at q2
    exact pz_bf_o (by unfold pz_lb at q; omega) (by omega) (by omega)
theorem pz_tf72_st {M M' : pz_M} (e : M' = pz_tf 72 71 M) (h : pz_rt M M') : pz_st M M' := by
  have key : ∀ b j : Nat, b ≠ 72 → ¬ (102 ≤ b ∧ b < 114) → M' b j = M b j := fun b j q q2 => by
    rw [e]
    exact pz_tf_o q (by unfold pz_lb; omega)
  exact ⟨⟨h, fun b j q => key b j (by unfold pz_md pz_kx pz_mid at q; omega) (by unfold pz_md pz_kx pz_mid at q; omega)⟩, key 4 1 (by omega) (by omega), key 5 9 (by omega) (by omega)⟩
/-- but for one Link's slowness -/
def pz_sz (r : Nat) (M M' : pz_M) : Prop := (pz_ic M → pz_ic M') ∧ (∀ b j : Nat, pz_md b j → ¬ (b = r ∧ j = 3) → M' b j = M b j) ∧ M' 4 1 = M 4 1 ∧ M' 5 9 = M 5 9
theorem pz_st.sz {r : Nat} {M M' : pz_M} (h : pz_st M M') : pz_sz r M M' := ⟨h.1.1, fun b j q _ => h.1.2 b j q, h.2.1, h.2.2⟩
theorem pz_sz.tr {r : Nat} {M M' M'' : pz_M} (h : pz_sz r M M') (h' : pz_sz r M' M'') : pz_sz r M M'' := ⟨fun q => h'.1 (h.1 q), fun b j q q2 => (h'.2.1 b j q q2).trans (h.2.1 b j q q2), h'.2.2.1.trans h.2.2.1, h'.2.2.2.trans h.2.2.2⟩
theorem pz_sz_u {r : Nat} {M M' : pz_M} {a k : Nat} {v : Int} (hs : pz_sz r M M') (hm : ¬ pz_md a k ∨ (a = r ∧ k = 3)) (h4 : ¬ (a = 4 ∧ k = 1) ∧ ¬ (a = 5 ∧ k = 9)) (h : pz_iok a k v) : pz_sz r M (pz_u M' a k v) := by
  refine ⟨fun q => pz_ic_u h (hs.1 q), fun b j hb hb2 => ?_, ?_, ?_⟩
  · rcases pz_uv M' a k v b j with ⟨e1, e2, -⟩ | ⟨-, e⟩
    · subst e1; subst e2
      exact absurd hb (hm.resolve_right hb2)
    · rw [e]
      exact hs.2.1 b j hb hb2
  · have q1 := pz_uv M' a k v 4 1
    have := hs.2.2.1
    omega
  · have q1 := pz_uv M' a k v 5 9
    have := hs.2.2.2
    omega
theorem pz_sz.st {r : Nat} {M M' : pz_M} (h : pz_sz r M M') (e : M' r 3 = M r 3) : pz_st M M' := by
  refine ⟨⟨h.1, fun b j q => ?_⟩, h.2.2.1, h.2.2.2⟩
  by_cases q2 : b = r ∧ j = 3
  · rw [q2.1, q2.2]
    exact e
  · exact h.2.1 b j q q2
/-- a LINK, in the class and in the model -/
def pz_lkf (p q w s : Int) (M : pz_M) : pz_M := pz_u (pz_u (pz_u (pz_mkl (89 + (M 71 3).toNat) p q w s M) 71 3 (M 71 3 + 1)) 3 2 0) 7 0 0
def pz_lkm (p q w s : Int) (M : pz_M) : pz_M := pz_u (pz_u (pz_u (pz_u (pz_u (pz_u (pz_u (pz_u (pz_u (pz_u (pz_u (pz_u M 60 (4 + (M 60 88).toNat) p) 60 (16 + (M 60 88).toNat) q) 60 (28 + (M 60 88).toNat) w) 60 (93 + (M 60 88).toNat) s) 60 (40 + (M 60 88).toNat) 0) 60 (52 + (M 60 88).toNat) 0) 60 (64 + (M 60 88).toNat) 0) 60 (76 + (M 60 88).toNat) (-1)) 60 (105 + 2 * (M 60 88).toNat) 0) 60 (106 + 2 * (M 60 88).toNat) 240) 60 88 (M 60 88 + 1)) 1 4 0
def pz_bs (p : Int) : Int := if p = 0 then 4 else if p = 1 then 16 else if p = 2 then 28 else if p = 3 then 93 else 40
def pz_xi (c o : Nat) (M M' : pz_M) : Prop := (pz_ic M → pz_ic M') ∧ (∀ b j : Nat, pz_mq0 b j → ¬ (c = 73 ∧ b = 0 ∧ j = 13) → ¬ (c = 71 ∧ b = 3 ∧ j = 2) → M' b j = pz_tf c o M b j) ∧ M' 4 1 = M 4 1 ∧ M' 5 9 = M 5 9
theorem pz_xi_0 {c o : Nat} {M M' : pz_M} (hc : 71 ≤ c) (e : M' = pz_tf c o M) (h : pz_rt M M') : pz_xi c o M M' :=
  ⟨h, fun b j _ _ _ => by rw [e], by rw [e]; exact pz_tf_o (by omega) (by unfold pz_lb; omega), by rw [e]; exact pz_tf_o (by omega) (by unfold pz_lb; omega)⟩
theorem pz_xi.tr {c o : Nat} {M M' M'' : pz_M} (h : pz_xi c o M M') (h' : pz_st M' M'') : pz_xi c o M M'' :=
  ⟨fun q => h'.1.1 (h.1 q), fun b j q q2 q3 => (h'.1.2 b j (pz_mo_md q)).trans (h.2.1 b j q q2 q3), h'.2.1.trans h.2.2.1, h'.2.2.trans h.2.2.2⟩
theorem pz_xi_u {o : Nat} {M M' : pz_M} {a k : Nat} {v : Int} (hs : pz_xi 73 o M M') (hm : a = 0 ∧ k = 13) (h : pz_iok a k v) : pz_xi 73 o M (pz_u M' a k v) :=
  ⟨fun q => pz_ic_u h (hs.1 q), fun b j q q2 q3 => by rw [pz_une (by omega)]; exact hs.2.1 b j q q2 q3, by rw [pz_une (by omega)]; exact hs.2.2.1, by rw [pz_une (by omega)]; exact hs.2.2.2⟩
theorem pz_xi.fg {o : Nat} {M M' M'' : pz_M} (hs : pz_xi 71 o M M') (e : M'' = pz_u M' 3 2 0) (h : pz_rt M' M'') : pz_xi 71 o M M'' :=
  ⟨fun q => h (hs.1 q), fun b j q q2 q3 => by rw [e, pz_une (by omega)]; exact hs.2.1 b j q q2 q3, by rw [e, pz_une (by omega)]; exact hs.2.2.1, by rw [e, pz_une (by omega)]; exact hs.2.2.2⟩
theorem pz_xi.si {c o : Nat} {M M' : pz_M} (hc : 71 ≤ c ∧ c < 80) (h : pz_xi c o M M') : pz_si M M' :=
  ⟨h.1, fun b j q => by
    have q9 := q
    unfold pz_mid at q
    rw [h.2.1 b j (Or.inl q9) (by omega) (by omega)]
    exact pz_tf_o (by omega) (by unfold pz_lb; omega), h.2.2.1, h.2.2.2⟩
theorem pz_xi.trf {c o : Nat} {M M' M'' : pz_M} (h : pz_xi c o M M') (hr : pz_rt M' M'') (f : ∀ b j : Nat, pz_mq0 b j ∨ (b = 4 ∧ j = 1) ∨ (b = 5 ∧ j = 9) → M'' b j = M' b j) : pz_xi c o M M'' :=
  ⟨fun q => hr (h.1 q), fun b j q q2 q3 => (f b j (Or.inl q)).trans (h.2.1 b j q q2 q3), (f 4 1 (Or.inr (Or.inl ⟨rfl, rfl⟩))).trans h.2.2.1, (f 5 9 (Or.inr (Or.inr ⟨rfl, rfl⟩))).trans h.2.2.2⟩
end
