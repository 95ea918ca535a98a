/-! the class' names of THE LAW -/
def pz_lnk (c : Nat) (i : Int) : Nat := if 0 ≤ i ∧ i < 12 then pz_lb c + i.toNat else pz_lb c + 12
theorem pz_at_lk {c v : Nat} {i : Int} (hc : 71 ≤ c ∧ c < 80) (h : v = (if 0 ≤ i ∧ i < 12 then pz_rf (pz_rf c 1) i.toNat else pz_rf c 2)) : v = pz_lnk c i := by
  rw [h]
  unfold pz_lnk
  by_cases q : 0 ≤ i ∧ i < 12
  · rw [if_pos q, if_pos q, pz_rf_l hc.1 hc.2]
  · rw [if_neg q, if_neg q, pz_rf_n hc.1 hc.2]
theorem pz_lk_i {c : Nat} {i : Int} (h : 0 ≤ i ∧ i < 12) : pz_lnk c i = pz_lb c + i.toNat := if_pos h
def pv_ldn (rd br : Nat → Int) : Nat → Int → Int
  | 0, a => a
  | k + 1, a => if br k ≠ 0 then pz_w (a + pz_w (1 - rd k)) else pv_ldn rd br k (pz_w (a + pz_w (1 - rd k)))
def pv_lup (rd br : Nat → Int) (n : Int) : Nat → Nat → Int → Int
  | 0, _, a => a
  | f + 1, k, a => if (k : Int) < n then (if br k ≠ 0 then pz_w (a + pz_w (1 - rd k)) else pv_lup rd br n f (k + 1) (pz_w (a + pz_w (1 - rd k)))) else a
def pv_rd (M : pz_M) (c k : Nat) : Int := M (pz_lb c + k) 4
def pv_br (M : pz_M) (c k : Nat) : Int := M (pz_lb c + k) 6
def pv_lc (M : pz_M) (c : Nat) (i : Int) : Int := if 0 ≤ i ∧ i < M c 3 ∧ i < 12 then pv_lup (pv_rd M c) (pv_br M c) (M c 3) (11 - i).toNat (i.toNat + 1) (pv_ldn (pv_rd M c) (pv_br M c) i.toNat (pz_w (1 - pv_rd M c i.toNat))) else 0
def pv_fn (M : pz_M) (c : Nat) (w i : Int) : Int := if w = 8 then i else if w = 9 then M (pz_lnk c i) 0 else if w = 10 then M (pz_lnk c i) 1 else if w = 11 then M (pz_lnk c i) 2 else if w = 12 then M (pz_lnk c i) 3 else if w = 13 then M c 4 else if w = 14 then M c 3 else if w = 15 then M (pz_lnk c i) 6 else if w = 16 then pv_lc M c i else 0
theorem pv_fn_cg {M N : pz_M} {c : Nat} {w i : Int} (h : ∀ b j : Nat, b = c ∨ (pz_lb c ≤ b ∧ b ≤ pz_lb c + 12) → N b j = M b j) : pv_fn N c w i = pv_fn M c w i := by
  have k : pz_lb c ≤ pz_lnk c i ∧ pz_lnk c i ≤ pz_lb c + 12 := by
    unfold pz_lnk
    split <;> omega
  have e : ∀ j, N (pz_lnk c i) j = M (pz_lnk c i) j := fun j => h _ _ (Or.inr k)
  have e2 : ∀ j, N c j = M c j := fun j => h _ _ (Or.inl rfl)
  have l : pv_lc N c i = pv_lc M c i := by
    unfold pv_lc
    rw [e2]
    by_cases q : 0 ≤ i ∧ i < M c 3 ∧ i < 12
    · rw [if_pos q, if_pos q]
      have up : ∀ (f k : Nat) (a : Int), k + f ≤ 12 → pv_lup (pv_rd N c) (pv_br N c) (M c 3) f k a = pv_lup (pv_rd M c) (pv_br M c) (M c 3) f k a := by
        intro f
        induction f with
        | zero => intro k a _; rfl
        | succ f ih =>
          intro k a hk
          have r : pv_rd N c k = pv_rd M c k := h _ _ (Or.inr ⟨by omega, by omega⟩)
          have b : pv_br N c k = pv_br M c k := h _ _ (Or.inr ⟨by omega, by omega⟩)
          show (if (k : Int) < M c 3 then (if pv_br N c k ≠ 0 then pz_w (a + pz_w (1 - pv_rd N c k)) else pv_lup (pv_rd N c) (pv_br N c) (M c 3) f (k + 1) (pz_w (a + pz_w (1 - pv_rd N c k)))) else a) = _
          rw [r, b, ih (k + 1) _ (by omega)]
          rfl
      have dn : ∀ (k : Nat) (a : Int), k ≤ 12 → pv_ldn (pv_rd N c) (pv_br N c) k a = pv_ldn (pv_rd M c) (pv_br M c) k a := by
        intro k
        induction k with
        | zero => intro a _; rfl
        | succ k ih =>
          intro a hk
          have r : pv_rd N c k = pv_rd M c k := h _ _ (Or.inr ⟨by omega, by omega⟩)
          have b : pv_br N c k = pv_br M c k := h _ _ (Or.inr ⟨by omega, by omega⟩)
          show (if pv_br N c k ≠ 0 then pz_w (a + pz_w (1 - pv_rd N c k)) else pv_ldn (pv_rd N c) (pv_br N c) k (pz_w (a + pz_w (1 - pv_rd N c k)))) = _
          rw [r, b, ih _ (by omega)]
          rfl
      have r : pv_rd N c i.toNat = pv_rd M c i.toNat := h _ _ (Or.inr ⟨by omega, by omega⟩)
      rw [up _ _ _ (by omega), dn _ _ (by omega), r]
    · rw [if_neg q, if_neg q]
  unfold pv_fn
  rw [e, e, e, e, e2, e2, e, l]
/-- ~ -/
theorem pz_cpl {x v : Int} (h0 : -2147483648 ≤ x) (h1 : x ≤ 2147483647) (h : v = (Int32.ofInt x ^^^ Int32.ofInt (-1)).toInt) : v = -x - 1 := h.trans (pz_not h0 h1)
/-- the class' loop through a line's codes -/
def pc_iv (F : Int → Int) (M : pz_M) (g k : Nat) (p q i t : Int) (N : pz_M) : Prop := p ≤ i ∧ (p ≤ q → i ≤ q) ∧ (0 ≤ p → p ≤ q → q ≤ M g 1 → pc_in F M (pz_lb3 g + 4) k p q i t N)
theorem pc_iv_0 {F : Int → Int} {M : pz_M} {g k : Nat} {p q : Int} : pc_iv F M g k p q p 0 M := ⟨Int.le_refl _, id, fun _ _ _ => pc_in_0⟩
theorem pc_iv_s {F : Int → Int} {M N N' : pz_M} {g k : Nat} {p q i i' t t' c : Int} (h : pc_iv F M g k p q i t N) (hq : i < q) (hc : c = M (pz_lb3 g + 4) i.toNat) (hi : i' = i + 1)
    (d : (0 ≤ c ∧ t < 62 → t' = t + 1 ∧ N' = pz_u N k t.toNat c) ∧ (-17 ≤ c ∧ c ≤ -9 ∧ t < 62 → t' = t + 1 ∧ N' = pz_u N k t.toNat (F (-c - 8))) ∧ (c = -8 ∧ 1 ≤ t → t' = t ∧ N' = pz_u N k (t - 1).toNat (pz_w (1 - N k (t - 1).toNat))) ∧ ((c < -17 ∨ c = -7 ∨ c = -6) ∧ 2 ≤ t → t' = t - 1 ∧ N' = pz_u N k (t - 2).toNat (pc_j (-c - 1) (N k (t - 2).toNat) (N k (t - 1).toNat)))) : pc_iv F M g k p q i' t' N' :=
  ⟨by have := h.1; omega, fun _ => by omega, fun a b e => pc_in_s (h.2.2 a b e) ⟨a, h.1, hq⟩ hc hi d⟩
theorem pc_iv_z {F : Int → Int} {M N : pz_M} {g k : Nat} {p q i t v : Int} (h : pc_iv F M g k p q i t N) (he : q ≤ i ∨ i < 0 ∨ M g 1 ≤ i) (hv : (0 < t → v = N k (t - 1).toNat) ∧ (t ≤ 0 → v = 0)) : pc_wk F M g p q v := by
  intro cs ca cl p0 q1 w
  have b : p ≤ q := by omega
  have x := h.2.2 p0 b q1
  have h1 := h.1
  have h2 := h.2.1 b
  have e : i = q := by omega
  rw [e] at x
  exact pc_in_z x hv cs ca cl p0 q1 w
