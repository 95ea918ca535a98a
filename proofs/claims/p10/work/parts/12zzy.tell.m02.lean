section
/-! the bytes of the TAPE: signed in the class, unsigned in the model -/
def pz_sr (p s : Int) : Int := (Int32.ofInt p >>> (Int32.ofInt s &&& 31)).toInt
def pz_i8 (x : Int) : Int := (Int32.ofInt x).toInt8.toInt32.toInt
def pz_a8 (x : Int) : Int := (Int32.ofInt x &&& Int32.ofInt 255).toInt
theorem pz_by8 (x : Int) : -128 ≤ pz_i8 x ∧ pz_i8 x ≤ 127 ∧ pz_a8 x = pz_i8 x % 256 := by
  have b := pz_i2b x
  refine ⟨b.1, b.2, ?_⟩
  generalize hy : Int32.ofInt x = y
  have e1 : pz_i8 x % 256 = y.toInt % 256 := by
    unfold pz_i8
    rw [hy, Int8.toInt_toInt32, Int32.toInt_toInt8]
    exact Int.bmod_emod
  have h : (y &&& Int32.ofInt 255).toBitVec.toNat = y.toBitVec.toNat % 256 := by
    show (y.toBitVec &&& (255#32)).toNat = _
    rw [BitVec.toNat_and]
    exact Nat.and_two_pow_sub_one_eq_mod _ 8
  have e2 : (y &&& Int32.ofInt 255).toInt = ((y &&& Int32.ofInt 255).toBitVec.toNat : Int) := by
    show (y &&& Int32.ofInt 255).toBitVec.toInt = _
    rw [BitVec.toInt_eq_toNat_cond, if_pos (by omega)]
  have e3 : y.toInt % 256 = ((y.toBitVec.toNat % 256 : Nat) : Int) := by
    show y.toBitVec.toInt % 256 = _
    rw [BitVec.toInt_eq_toNat_cond]
    split <;> omega
  unfold pz_a8
  rw [hy, e1, e2, h, e3]
def pz_sel (i : Nat) (p q w s u : Int) : Int := if i < 4 then p else if i < 8 then q else if i < 12 then w else if i < 16 then s else u
/-- four bytes are put; twenty -/
def pz_pt4 (x : Int) (M N : pz_M) : Prop := M 4 1 + 4 ≤ 400 → N 4 1 = M 4 1 + 4 ∧ (∀ k : Nat, (k : Int) < M 4 1 → N 48 k = M 48 k) ∧ ∀ i : Nat, i < 4 → N 48 ((M 4 1).toNat + i) = pz_i8 (pz_sr x (24 - 8 * (i : Int)))
def pz_fc (M N : pz_M) (x y : Int) : Prop := M 4 1 + 4 ≤ 400 → (∀ k : Nat, (k : Int) < M 4 1 → N 48 k = M 48 k) ∧ ∀ i : Nat, (i : Int) < (24 - y) / 8 → N 48 ((M 4 1).toNat + i) = pz_i8 (pz_sr x (24 - 8 * (i : Int)))
theorem pz_fc_0 {M : pz_M} {x : Int} : pz_fc M M x 24 := fun _ => ⟨fun _ _ => rfl, fun i hi => absurd hi (by omega)⟩
theorem pz_fc_v {M N : pz_M} {x y : Int} (h : ¬ M 4 1 + 4 ≤ 400) : pz_fc M N x y := fun q => absurd q h
theorem pz_fc_s {M N N1 N2 : pz_M} {x y y' v w b : Int} {k : Nat} (h : pz_fc M N x y) (h0 : 0 ≤ M 4 1) (hy : 0 ≤ y) (hy2 : y ≤ 24) (h8 : (y + 8) % 8 = 0) (e4 : N 4 1 = min (M 4 1 + (24 - y) / 8) 400) (hk : (k : Int) = N 4 1) (ev : v = pz_sr x y) (eb : b = pz_i8 v) (e1 : N1 = pz_u N 48 k b) (e2 : N2 = pz_u N1 4 1 w) (hy' : y' = y - 8) : pz_fc M N2 x y' := by
  intro q
  obtain ⟨a, c⟩ := h q
  have f : ∀ j, N2 48 j = if j = k then b else N 48 j := fun j => by
    rw [e2, pz_una (by decide), e1]
    unfold pz_u
    by_cases z : j = k
    · rw [if_pos ⟨rfl, z⟩, if_pos z]
    · rw [if_neg (fun y => z y.2), if_neg z]
  refine ⟨fun j hj => ?_, fun i hi => ?_⟩
  · rw [f, if_neg (by omega)]
    exact a j hj
  · rw [f]
    by_cases z : (i : Int) = (24 - y) / 8
    · rw [if_pos (by omega), eb, ev, show y = 24 - 8 * (i : Int) by omega]
    · rw [if_neg (by omega)]
      exact c i (by omega)
theorem pz_pt4_of {M N : pz_M} {x y : Int} (h : pz_fc M N x y) (hy : y = -8) (e4 : N 4 1 = min (M 4 1 + (24 - y) / 8) 400) : pz_pt4 x M N := by
  intro q
  obtain ⟨a, c⟩ := h q
  exact ⟨by omega, a, fun i hi => c i (by omega)⟩
def pz_fb (M N : pz_M) (p q w s u : Int) : Prop := (∀ k : Nat, (k : Int) < M 4 1 → N 48 k = M 48 k) ∧ ∀ i : Nat, i < 20 → N 48 ((M 4 1).toNat + i) = pz_i8 (pz_sr (pz_sel i p q w s u) (24 - 8 * ((i % 4 : Nat) : Int)))
theorem pz_fb_of {M N1 N2 N3 N4 N5 : pz_M} {p q w s u : Int} (h : M 4 1 + 20 ≤ 400) (h0 : 0 ≤ M 4 1) (a1 : pz_pt4 p M N1) (a2 : pz_pt4 q N1 N2) (a3 : pz_pt4 w N2 N3) (a4 : pz_pt4 s N3 N4) (a5 : pz_pt4 u N4 N5) : N5 4 1 = M 4 1 + 20 ∧ pz_fb M N5 p q w s u := by
  obtain ⟨b1, c1, d1⟩ := a1 (by omega)
  obtain ⟨b2, c2, d2⟩ := a2 (by omega)
  obtain ⟨b3, c3, d3⟩ := a3 (by omega)
  obtain ⟨b4, c4, d4⟩ := a4 (by omega)
  obtain ⟨b5, c5, d5⟩ := a5 (by omega)
  refine ⟨by omega, fun k hk => ?_, fun i hi => ?_⟩
  · rw [c5 k (by omega), c4 k (by omega), c3 k (by omega), c2 k (by omega), c1 k hk]
  · have hi : i < 4 ∨ (4 ≤ i ∧ i < 8) ∨ (8 ≤ i ∧ i < 12) ∨ (12 ≤ i ∧ i < 16) ∨ (16 ≤ i ∧ i < 20) := by omega
    unfold pz_sel
    rcases hi with hi | hi | hi | hi | hi
    · rw [c5 _ (by omega), c4 _ (by omega), c3 _ (by omega), c2 _ (by omega), if_pos (by omega), d1 i hi, show ((i % 4 : Nat) : Int) = (i : Int) by omega]
    · rw [c5 _ (by omega), c4 _ (by omega), c3 _ (by omega), if_neg (by omega), if_pos (by omega), show (M 4 1).toNat + i = (N1 4 1).toNat + (i - 4) by omega, d2 (i - 4) (by omega), show ((i % 4 : Nat) : Int) = ((i - 4 : Nat) : Int) by omega]
    · rw [c5 _ (by omega), c4 _ (by omega), if_neg (by omega), if_neg (by omega), if_pos (by omega), show (M 4 1).toNat + i = (N2 4 1).toNat + (i - 8) by omega, d3 (i - 8) (by omega), show ((i % 4 : Nat) : Int) = ((i - 8 : Nat) : Int) by omega]
    · rw [c5 _ (by omega), if_neg (by omega), if_neg (by omega), if_neg (by omega), if_pos (by omega), show (M 4 1).toNat + i = (N3 4 1).toNat + (i - 12) by omega, d4 (i - 12) (by omega), show ((i % 4 : Nat) : Int) = ((i - 12 : Nat) : Int) by omega]
    · rw [if_neg (by omega), if_neg (by omega), if_neg (by omega), if_neg (by omega), show (M 4 1).toNat + i = (N4 4 1).toNat + (i - 16) by omega, d5 (i - 16) (by omega), show ((i % 4 : Nat) : Int) = ((i - 16 : Nat) : Int) by omega]
def pz_fm (M N : pz_M) (n p q w s u : Int) : Prop := (∀ k : Nat, (k : Int) < M 1 16 → N 67 k = M 67 k) ∧ ∀ i : Nat, (i : Int) < n → N 67 ((M 1 16).toNat + i) = pz_a8 (pz_sr (pz_sel i p q w s u) (24 - 8 * ((i % 4 : Nat) : Int)))
theorem pz_fm_0 {M : pz_M} {p q w s u : Int} : pz_fm M M 0 p q w s u := ⟨fun _ _ => rfl, fun i hi => absurd hi (by omega)⟩
theorem pz_fm_s {M N N1 N2 : pz_M} {n n' p q w s u c x y b z : Int} {k : Nat} (h : pz_fm M N n p q w s u) (h0 : 0 ≤ M 1 16) (hn : 0 ≤ n) (hk : (k : Int) = M 1 16 + n) (hc : c = pz_sel n.toNat p q w s u) (hx : x = 24 - 8 * (n % 4)) (hy : y = pz_sr c x) (hb : b = pz_a8 y) (e1 : N1 = pz_u N 67 k b) (e2 : N2 = pz_u N1 1 16 z) (hn' : n' = n + 1) : pz_fm M N2 n' p q w s u := by
  obtain ⟨a, d⟩ := h
  have f : ∀ j, N2 67 j = if j = k then b else N 67 j := fun j => by
    rw [e2, pz_una (by decide), e1]
    unfold pz_u
    by_cases z : j = k
    · rw [if_pos ⟨rfl, z⟩, if_pos z]
    · rw [if_neg (fun y => z y.2), if_neg z]
  refine ⟨fun j hj => ?_, fun i hi => ?_⟩
  · rw [f, if_neg (by omega)]
    exact a j hj
  · rw [f]
    by_cases z : (i : Int) = n
    · rw [if_pos (by omega), hb, hy, hc, hx, show n.toNat = i by omega, show ((i % 4 : Nat) : Int) = n % 4 by omega]
    · rw [if_neg (by omega)]
      exact d i (by omega)
theorem pz_sel_1 {n : Nat} {p q w s u : Int} (h : n < 4) : p = pz_sel n p q w s u := (if_pos h).symm
theorem pz_sel_2 {n : Nat} {p q w s u : Int} (h : 4 ≤ n ∧ n < 8) : q = pz_sel n p q w s u := by
  unfold pz_sel
  rw [if_neg (by omega), if_pos (by omega)]
theorem pz_sel_3 {n : Nat} {p q w s u : Int} (h : 8 ≤ n ∧ n < 12) : w = pz_sel n p q w s u := by
  unfold pz_sel
  rw [if_neg (by omega), if_neg (by omega), if_pos (by omega)]
theorem pz_sel_4 {n : Nat} {p q w s u : Int} (h : 12 ≤ n ∧ n < 16) : s = pz_sel n p q w s u := by
  unfold pz_sel
  rw [if_neg (by omega), if_neg (by omega), if_neg (by omega), if_pos (by omega)]
theorem pz_sel_5 {n : Nat} {p q w s u : Int} (h : 16 ≤ n) : u = pz_sel n p q w s u := by
  unfold pz_sel
  rw [if_neg (by omega), if_neg (by omega), if_neg (by omega), if_neg (by omega)]
def pq_Pf (b j : Nat) : Prop := (b = 4 ∧ j = 1) ∨ b = 48
end
