section
/-! sets of LINKS as numbers; the rows of RECORDS and PHONES -/
def pz_zs (v : Int) (f : Nat → Bool) : Prop := ∃ s : Nat, v = (s : Int) ∧ s < 4096 ∧ ∀ k : Nat, s.testBit k = f k
theorem pz_sb_cg {v : Int} {f g : Nat → Bool} (h : pz_zs v f) (e : ∀ k, f k = g k) : pz_zs v g := by
  obtain ⟨s, a, b, c⟩ := h
  exact ⟨s, a, b, fun k => (c k).trans (e k)⟩
theorem pz_sb_ext {v w : Int} {f g : Nat → Bool} (h : pz_zs v f) (h' : pz_zs w g) (e : ∀ k, f k = g k) : v = w := by
  obtain ⟨s, a, b, c⟩ := h
  obtain ⟨t, a', b', c'⟩ := h'
  have : s = t := Nat.eq_of_testBit_eq (fun k => by rw [c, c', e])
  rw [a, a', this]
theorem pz_sb_r {v : Int} {f : Nat → Bool} (h : pz_zs v f) : 0 ≤ v ∧ v < 4096 := by
  obtain ⟨s, a, b, c⟩ := h
  omega
theorem pz_sb_hi {v : Int} {f : Nat → Bool} {k : Nat} (h : pz_zs v f) (hk : 12 ≤ k) : f k = false := by
  obtain ⟨s, a, b, c⟩ := h
  rw [← c]
  exact Nat.testBit_lt_two_pow (Nat.lt_of_lt_of_le b (Nat.pow_le_pow_right (n := 2) (i := 12) (by decide) hk))
theorem pz_sb_0 : pz_zs 0 (fun _ => false) := ⟨0, rfl, by decide, fun k => Nat.zero_testBit k⟩
theorem pz_i32_n {z : Int32} {r : Nat} (h : z.toBitVec.toNat = r) (hr : r < 4096) : z.toInt = (r : Int) := by
  show z.toBitVec.toInt = _
  rw [BitVec.toInt_eq_toNat_cond, h, if_pos (by omega)]
theorem pz_n12s {s : Nat} (h : s < 4096) : (Int32.ofInt (s : Int)).toBitVec.toNat = s := by
  rw [pz_n12 (by omega) (by omega)]
  exact Int.toNat_natCast s
theorem pz_sb_or {x y : Int} {f g : Nat → Bool} (hx : pz_zs x f) (hy : pz_zs y g) : pz_zs (Int32.ofInt x ||| Int32.ofInt y).toInt (fun k => f k || g k) := by
  obtain ⟨s, rfl, s1, s2⟩ := hx
  obtain ⟨t, rfl, t1, t2⟩ := hy
  have l : s ||| t < 4096 := Nat.or_lt_two_pow (n := 12) s1 t1
  refine ⟨s ||| t, pz_i32_n ?_ l, l, fun k => by rw [Nat.testBit_or, s2, t2]⟩
  show ((Int32.ofInt (s : Int)).toBitVec ||| (Int32.ofInt (t : Int)).toBitVec).toNat = _
  rw [BitVec.toNat_or, pz_n12s s1, pz_n12s t1]
theorem pz_sb_and {x y : Int} {f g : Nat → Bool} (hx : pz_zs x f) (hy : pz_zs y g) : pz_zs (Int32.ofInt x &&& Int32.ofInt y).toInt (fun k => f k && g k) := by
  obtain ⟨s, rfl, s1, s2⟩ := hx
  obtain ⟨t, rfl, t1, t2⟩ := hy
  have l : s &&& t < 4096 := Nat.lt_of_le_of_lt Nat.and_le_left s1
  refine ⟨s &&& t, pz_i32_n ?_ l, l, fun k => by rw [Nat.testBit_and, s2, t2]⟩
  show ((Int32.ofInt (s : Int)).toBitVec &&& (Int32.ofInt (t : Int)).toBitVec).toNat = _
  rw [BitVec.toNat_and, pz_n12s s1, pz_n12s t1]
theorem pz_sb_xor {x y : Int} {f g : Nat → Bool} (hx : pz_zs x f) (hy : pz_zs y g) : pz_zs (Int32.ofInt x ^^^ Int32.ofInt y).toInt (fun k => Bool.xor (f k) (g k)) := by
  obtain ⟨s, rfl, s1, s2⟩ := hx
  obtain ⟨t, rfl, t1, t2⟩ := hy
  have l : s ^^^ t < 4096 := Nat.xor_lt_two_pow (n := 12) s1 t1
  refine ⟨s ^^^ t, pz_i32_n ?_ l, l, fun k => by rw [Nat.testBit_xor, s2, t2]⟩
  show ((Int32.ofInt (s : Int)).toBitVec ^^^ (Int32.ofInt (t : Int)).toBitVec).toNat = _
  rw [BitVec.toNat_xor, pz_n12s s1, pz_n12s t1]
theorem pz_shv {i : Int} (h0 : 0 ≤ i) (h1 : i ≤ 12) : (Int32.ofInt 1 <<< (Int32.ofInt i &&& 31)).toInt = ((2 ^ i.toNat : Nat) : Int) := by
  have h : i = 0 ∨ i = 1 ∨ i = 2 ∨ i = 3 ∨ i = 4 ∨ i = 5 ∨ i = 6 ∨ i = 7 ∨ i = 8 ∨ i = 9 ∨ i = 10 ∨ i = 11 ∨ i = 12 := by omega
  rcases h with rfl | rfl | rfl | rfl | rfl | rfl | rfl | rfl | rfl | rfl | rfl | rfl | rfl <;> decide +kernel
theorem pz_sb_1 {i : Int} (h0 : 0 ≤ i) (h1 : i ≤ 11) : pz_zs (Int32.ofInt 1 <<< (Int32.ofInt i &&& 31)).toInt (fun k => decide (i.toNat = k)) :=
  ⟨2 ^ i.toNat, pz_shv h0 (by omega), Nat.pow_lt_pow_right (n := 12) (by decide) (by omega), fun _ => Nat.testBit_two_pow⟩
theorem pz_sb_all {n y v : Int} (h0 : 0 ≤ n) (h1 : n ≤ 12) (hy : y = (Int32.ofInt 1 <<< (Int32.ofInt n &&& 31)).toInt) (hv : v = y - 1) : pz_zs v (fun k => decide (k < n.toNat)) := by
  have p : 0 < 2 ^ n.toNat := Nat.two_pow_pos _
  have q : 2 ^ n.toNat ≤ 2 ^ 12 := Nat.pow_le_pow_right (by decide) (by omega)
  rw [pz_shv h0 h1] at hy
  refine ⟨2 ^ n.toNat - 1, by omega, by omega, fun k => Nat.testBit_two_pow_sub_one _ _⟩
theorem pz_m1 : (Int32.ofInt (-1)).toBitVec = BitVec.allOnes 32 := by decide
theorem pz_sb_an {x y v w : Int} {f g : Nat → Bool} (hx : pz_zs x f) (hy : pz_zs y g) (hw : w = (Int32.ofInt y ^^^ Int32.ofInt (-1)).toInt) (hv : v = (Int32.ofInt x &&& Int32.ofInt w).toInt) : pz_zs v (fun k => f k && !g k) := by
  obtain ⟨s, rfl, s1, s2⟩ := hx
  obtain ⟨t, rfl, t1, t2⟩ := hy
  rw [hw, Int32.ofInt_toInt] at hv
  rw [hv]
  have le : ((Int32.ofInt (s : Int)).toBitVec &&& ((Int32.ofInt (t : Int)).toBitVec ^^^ (Int32.ofInt (-1)).toBitVec)).toNat ≤ s := by
    rw [BitVec.toNat_and, pz_n12s s1]
    exact Nat.and_le_left
  refine ⟨_, pz_i32_n (r := ((Int32.ofInt (s : Int)).toBitVec &&& ((Int32.ofInt (t : Int)).toBitVec ^^^ (Int32.ofInt (-1)).toBitVec)).toNat) rfl (by omega), by omega, fun k => ?_⟩
  show Nat.testBit _ k = (f k && !g k)
  rw [BitVec.toNat_and, BitVec.toNat_xor, pz_n12s s1, pz_n12s t1, Nat.testBit_and, Nat.testBit_xor, s2, t2, pz_m1, BitVec.toNat_allOnes, Nat.testBit_two_pow_sub_one]
  by_cases hk : k < 32
  · rw [decide_eq_true hk]
    cases f k <;> cases g k <;> rfl
  · have z : f k = false := by
      rw [← s2]
      exact Nat.testBit_lt_two_pow (Nat.lt_of_lt_of_le s1 (Nat.pow_le_pow_right (n := 2) (i := 12) (by decide) (by omega)))
    rw [z]
    rfl
/-- the bit of a LINK -/
theorem pz_ni {z : Int32} {r : Nat} (h : z.toBitVec.toNat = r) (hr : r < 2147483648) : z.toInt = (r : Int) := by
  show z.toBitVec.toInt = _
  rw [BitVec.toInt_eq_toNat_cond, h, if_pos (by omega)]
theorem pz_nn {y : Nat} (h : y < 2147483648) : (Int32.ofInt (y : Int)).toBitVec.toNat = y := by
  rw [Int32.ofInt_eq_ofNat]
  exact pk_tn (n := y) (by omega)
theorem pz_srs {i : Int} (h0 : 0 ≤ i) (h1 : i ≤ 12) : ((Int32.ofInt i &&& 31).toBitVec.smod 32).toNat = i.toNat := by
  have h : i = 0 ∨ i = 1 ∨ i = 2 ∨ i = 3 ∨ i = 4 ∨ i = 5 ∨ i = 6 ∨ i = 7 ∨ i = 8 ∨ i = 9 ∨ i = 10 ∨ i = 11 ∨ i = 12 := by omega
  rcases h with rfl | rfl | rfl | rfl | rfl | rfl | rfl | rfl | rfl | rfl | rfl | rfl | rfl <;> decide +kernel
theorem pz_sb_at {x i v w : Int} {f : Nat → Bool} (hx : pz_zs x f) (h0 : 0 ≤ i) (h1 : i ≤ 12) (hw : w = (Int32.ofInt x >>> (Int32.ofInt i &&& 31)).toInt) (hv : v = (Int32.ofInt w &&& Int32.ofInt 1).toInt) : v = if f i.toNat = true then 1 else 0 := by
  obtain ⟨s, rfl, s1, s2⟩ := hx
  rw [hw, Int32.ofInt_toInt] at hv
  have n := pz_n12s s1
  have m : (Int32.ofInt (s : Int)).toBitVec.msb = false := BitVec.msb_eq_false_iff_two_mul_lt.mpr (by rw [n]; omega)
  have e : ((Int32.ofInt (s : Int) >>> (Int32.ofInt i &&& 31)) &&& Int32.ofInt 1).toBitVec.toNat = s / 2 ^ i.toNat % 2 := by
    rw [Int32.toBitVec_and, Int32.toBitVec_shiftRight, BitVec.toNat_and]
    show ((Int32.ofInt (s : Int)).toBitVec.sshiftRight ((Int32.ofInt i &&& 31).toBitVec.smod 32).toNat).toNat &&& 1 = _
    rw [BitVec.sshiftRight_eq_of_msb_false m, BitVec.toNat_ushiftRight, n, pz_srs h0 h1, Nat.and_one_is_mod, Nat.shiftRight_eq_div_pow]
  rw [hv, pz_ni e (Nat.lt_of_lt_of_le (Nat.mod_lt _ (by decide)) (by decide)), ← s2, Nat.testBit_eq_decide_div_mod_eq]
  rcases Nat.mod_two_eq_zero_or_one (s / 2 ^ i.toNat) with q | q <;> rw [q] <;> rfl
def pz_cnt (f : Nat → Bool) : Nat → Int
  | 0 => 0
  | n + 1 => pz_cnt f n + (if f n = true then 1 else 0)
theorem pz_cnt_cg {f g : Nat → Bool} : ∀ n, (∀ k, k < n → f k = g k) → pz_cnt f n = pz_cnt g n := by
  intro n
  induction n with
  | zero => intro _; rfl
  | succ n ih =>
    intro h
    show pz_cnt f n + _ = pz_cnt g n + _
    rw [ih (fun k hk => h k (by omega)), h n (by omega)]
theorem pz_cnt_b {f : Nat → Bool} : ∀ n : Nat, 0 ≤ pz_cnt f n ∧ pz_cnt f n ≤ (n : Int) := by
  intro n
  induction n with
  | zero => exact ⟨Int.le_refl _, Int.le_refl _⟩
  | succ n ih =>
    show 0 ≤ pz_cnt f n + _ ∧ pz_cnt f n + _ ≤ _
    split <;> omega
theorem pz_cnt_up {f : Nat → Bool} {n : Nat} : ∀ m, (∀ k, n ≤ k → f k = false) → pz_cnt f (n + m) = pz_cnt f n := by
  intro m
  induction m with
  | zero => intro _; rfl
  | succ m ih =>
    intro h
    show pz_cnt f (n + m) + (if f (n + m) = true then 1 else 0) = pz_cnt f n
    rw [ih h, h (n + m) (by omega)]
    exact Int.add_zero _
/-- what the JDK's bitCount reckons -/
def pz_shu (y s : Int) : Int := ((Int32.ofInt y).toUInt32 >>> ((Int32.ofInt s).toUInt32 &&& Int32.toUInt32 31)).toInt32.toInt
def pz_ian (y z : Int) : Int := (Int32.ofInt y &&& Int32.ofInt z).toInt
def pz_bc1 (x : Int) : Int := pz_w (x - pz_ian (pz_shu x 1) 1431655765)
def pz_bc2 (x : Int) : Int := pz_w (pz_ian x 858993459 + pz_ian (pz_shu x 2) 858993459)
def pz_bc3 (x : Int) : Int := pz_ian (pz_w (x + pz_shu x 4)) 252645135
def pz_bc4 (x : Int) : Int := pz_w (x + pz_shu x 8)
def pz_bc5 (x : Int) : Int := pz_w (x + pz_shu x 16)
def pz_bcf (x : Int) : Int := pz_ian (pz_bc5 (pz_bc4 (pz_bc3 (pz_bc2 (pz_bc1 x))))) 63
def pz_nb1 (x : Nat) : Nat := x - ((x >>> 1) &&& 1431655765)
def pz_nb2 (x : Nat) : Nat := (x &&& 858993459) + ((x >>> 2) &&& 858993459)
def pz_nb3 (x : Nat) : Nat := (x + (x >>> 4)) &&& 252645135
def pz_nb4 (x : Nat) : Nat := x + (x >>> 8)
def pz_nb5 (x : Nat) : Nat := x + (x >>> 16)
def pz_cn (s : Nat) : Nat → Nat
  | 0 => 0
  | n + 1 => pz_cn s n + (s >>> n) % 2
abbrev pz_bck (s : Nat) : Prop := (pz_nb5 (pz_nb4 (pz_nb3 (pz_nb2 (pz_nb1 s))))) &&& 63 = pz_cn s 12
theorem pz_bc_k : ∀ a : Fin 64, ∀ b : Fin 64, pz_bck (64 * a.val + b.val) := by decide +kernel
theorem pz_cn_e {s : Nat} : ∀ n, pz_cnt (fun k => s.testBit k) n = (pz_cn s n : Int) := by
  intro n
  induction n with
  | zero => rfl
  | succ n ih =>
    show pz_cnt (fun k => s.testBit k) n + (if s.testBit n = true then 1 else 0) = ((pz_cn s n + (s >>> n) % 2 : Nat) : Int)
    rw [ih, Nat.testBit_eq_decide_div_mod_eq, Nat.shiftRight_eq_div_pow]
    rcases Nat.mod_two_eq_zero_or_one (s / 2 ^ n) with q | q <;> rw [q] <;> rfl
theorem pz_ian_n {y z : Nat} (h : y < 2147483648) (h' : z < 2147483648) : pz_ian (y : Int) (z : Int) = ((y &&& z : Nat) : Int) := by
  unfold pz_ian
  refine pz_ni ?_ (Nat.lt_of_le_of_lt Nat.and_le_left h)
  rw [Int32.toBitVec_and, BitVec.toNat_and, pz_nn h, pz_nn h']
theorem pz_shu_n {y k : Nat} (h : y < 2147483648) (hk : k = 1 ∨ k = 2 ∨ k = 4 ∨ k = 8 ∨ k = 16) : pz_shu (y : Int) (k : Int) = ((y >>> k : Nat) : Int) := by
  unfold pz_shu
  refine pz_ni ?_ (Nat.lt_of_le_of_lt (Nat.shiftRight_le y k) h)
  have key : ∀ c : UInt32, (c.toBitVec % 32).toNat = k → (((Int32.ofInt (y : Int)).toUInt32 >>> c).toInt32).toBitVec.toNat = y >>> k := fun c hc => by
    show (((Int32.ofInt (y : Int)).toUInt32 >>> c).toBitVec).toNat = y >>> k
    rw [UInt32.toBitVec_shiftRight, BitVec.ushiftRight_eq', BitVec.toNat_ushiftRight, hc]
    rw [show (Int32.ofInt (y : Int)).toUInt32.toBitVec.toNat = y from pz_nn h]
  refine key _ ?_
  rcases hk with rfl | rfl | rfl | rfl | rfl <;> decide +kernel
theorem pz_nb1_e {x : Nat} (h : x < 4096) : pz_bc1 (x : Int) = (pz_nb1 x : Int) ∧ pz_nb1 x < 4096 := by
  have a := Nat.shiftRight_le x 1
  have b := @Nat.and_le_left (x >>> 1) 1431655765
  have e : pz_shu (x : Int) 1 = ((x >>> 1 : Nat) : Int) := pz_shu_n (k := 1) (by omega) (by omega)
  have f : pz_ian ((x >>> 1 : Nat) : Int) 1431655765 = (((x >>> 1) &&& 1431655765 : Nat) : Int) := pz_ian_n (z := 1431655765) (by omega) (by omega)
  unfold pz_bc1 pz_nb1
  rw [e, f, pz_wi (by omega) (by omega)]
  exact ⟨by omega, by omega⟩
theorem pz_nb2_e {x : Nat} (h : x < 4096) : pz_bc2 (x : Int) = (pz_nb2 x : Int) ∧ pz_nb2 x < 8192 := by
  have a := Nat.shiftRight_le x 2
  have b := @Nat.and_le_left (x >>> 2) 858993459
  have c := @Nat.and_le_left x 858993459
  have e : pz_shu (x : Int) 2 = ((x >>> 2 : Nat) : Int) := pz_shu_n (k := 2) (by omega) (by omega)
  have f : pz_ian ((x >>> 2 : Nat) : Int) 858993459 = (((x >>> 2) &&& 858993459 : Nat) : Int) := pz_ian_n (z := 858993459) (by omega) (by omega)
  have g : pz_ian (x : Int) 858993459 = ((x &&& 858993459 : Nat) : Int) := pz_ian_n (z := 858993459) (by omega) (by omega)
  unfold pz_bc2 pz_nb2
  rw [e, f, g, pz_wi (by omega) (by omega)]
  exact ⟨by omega, by omega⟩
theorem pz_nb3_e {x : Nat} (h : x < 8192) : pz_bc3 (x : Int) = (pz_nb3 x : Int) ∧ pz_nb3 x < 16384 := by
  have a := Nat.shiftRight_le x 4
  have b := @Nat.and_le_left (x + (x >>> 4)) 252645135
  have e : pz_shu (x : Int) 4 = ((x >>> 4 : Nat) : Int) := pz_shu_n (k := 4) (by omega) (by omega)
  have f : pz_ian ((x + (x >>> 4) : Nat) : Int) 252645135 = (((x + (x >>> 4)) &&& 252645135 : Nat) : Int) := pz_ian_n (z := 252645135) (by omega) (by omega)
  unfold pz_bc3 pz_nb3
  rw [e, pz_wi (by omega) (by omega), show (x : Int) + ((x >>> 4 : Nat) : Int) = ((x + (x >>> 4) : Nat) : Int) by omega, f]
  exact ⟨rfl, by omega⟩
theorem pz_nb4_e {x : Nat} (h : x < 16384) : pz_bc4 (x : Int) = (pz_nb4 x : Int) ∧ pz_nb4 x < 32768 := by
  have a := Nat.shiftRight_le x 8
  have e : pz_shu (x : Int) 8 = ((x >>> 8 : Nat) : Int) := pz_shu_n (k := 8) (by omega) (by omega)
  unfold pz_bc4 pz_nb4
  rw [e, pz_wi (by omega) (by omega)]
  exact ⟨by omega, by omega⟩
theorem pz_nb5_e {x : Nat} (h : x < 32768) : pz_bc5 (x : Int) = (pz_nb5 x : Int) ∧ pz_nb5 x < 65536 := by
  have a := Nat.shiftRight_le x 16
  have e : pz_shu (x : Int) 16 = ((x >>> 16 : Nat) : Int) := pz_shu_n (k := 16) (by omega) (by omega)
  unfold pz_bc5 pz_nb5
  rw [e, pz_wi (by omega) (by omega)]
  exact ⟨by omega, by omega⟩
theorem pz_bcf_n {s : Nat} (h : s < 4096) : pz_bcf (s : Int) = pz_cnt (fun k => s.testBit k) 12 := by
  obtain ⟨e1, b1⟩ := pz_nb1_e h
  obtain ⟨e2, b2⟩ := pz_nb2_e b1
  obtain ⟨e3, b3⟩ := pz_nb3_e b2
  obtain ⟨e4, b4⟩ := pz_nb4_e b3
  obtain ⟨e5, b5⟩ := pz_nb5_e b4
  unfold pz_bcf
  rw [e1, e2, e3, e4, e5, pz_cn_e]
  have k : pz_bck (64 * (s / 64) + s % 64) := pz_bc_k ⟨s / 64, by omega⟩ ⟨s % 64, by omega⟩
  rw [show 64 * (s / 64) + s % 64 = s by omega] at k
  rw [← show _ = pz_cn s 12 from k]
  exact pz_ian_n (z := 63) (by omega) (by omega)
def pz_bcx (x v : Int) : Prop := ∀ f : Nat → Bool, pz_zs x f → v = pz_cnt f 12
theorem pz_bcx_of {x v : Int} (h : v = pz_bcf x) : pz_bcx x v := by
  intro f hf
  obtain ⟨s, rfl, s1, s2⟩ := hf
  rw [h, pz_bcf_n s1]
  exact pz_cnt_cg 12 (fun k _ => s2 k)
/-! the rows in the class -/
def pz_cel (M : pz_M) (r : Nat) (i j v : Int) : Prop := (0 ≤ i ∧ i < M r 0 ∧ 0 ≤ j ∧ j < 5 → v = M (r + 7) (5 * i.toNat + j.toNat)) ∧ (¬ (0 ≤ i ∧ i < M r 0 ∧ 0 ≤ j ∧ j < 5) → v = -1)
def pz_phl (g : Nat → Nat → Int) (n : Nat) (l v : Int) : Prop := (v = -1 ∧ ∀ r, r < n → g r 0 ≠ l) ∨ (0 ≤ v ∧ v < (n : Int) ∧ g v.toNat 0 = l ∧ ∀ r, v.toNat < r → r < n → g r 0 ≠ l)
def pz_ph (g : Nat → Nat → Int) (l d : Int) (c : Nat) : Nat → Int
  | 0 => d
  | n + 1 => if g n 0 = l then g n c else pz_ph g l d c n
theorem pz_ph_cg {g g' : Nat → Nat → Int} {l d : Int} {c n : Nat} (h : ∀ r, r < n → g r 0 = g' r 0 ∧ g r c = g' r c) : pz_ph g l d c n = pz_ph g' l d c n := by
  induction n with
  | zero => rfl
  | succ n ih =>
    show (if g n 0 = l then g n c else pz_ph g l d c n) = (if g' n 0 = l then g' n c else pz_ph g' l d c n)
    rw [(h n (by omega)).1, (h n (by omega)).2, ih (fun r hr => h r (by omega))]
theorem pz_ph_n {g : Nat → Nat → Int} {l d : Int} {c n : Nat} (h : ∀ r, r < n → g r 0 ≠ l) : pz_ph g l d c n = d := by
  induction n with
  | zero => rfl
  | succ n ih =>
    show (if g n 0 = l then g n c else pz_ph g l d c n) = d
    rw [if_neg (h n (by omega))]
    exact ih (fun r hr => h r (by omega))
theorem pz_ph_y {g : Nat → Nat → Int} {l d : Int} {c v : Nat} (h : g v 0 = l) : ∀ n, v < n → (∀ r, v < r → r < n → g r 0 ≠ l) → pz_ph g l d c n = g v c := by
  intro n
  induction n with
  | zero => intro q _; omega
  | succ n ih =>
    intro q w
    show (if g n 0 = l then g n c else pz_ph g l d c n) = g v c
    by_cases e : v = n
    · rw [← e, if_pos h]
    · rw [if_neg (w n (by omega) (by omega))]
      exact ih (by omega) (fun r hr hr2 => w r hr (by omega))
theorem pz_phl_ph {g : Nat → Nat → Int} {n c : Nat} {l d v : Int} (h : pz_phl g n l v) : (v = -1 → pz_ph g l d c n = d) ∧ (v ≠ -1 → 0 ≤ v ∧ v < (n : Int) ∧ pz_ph g l d c n = g v.toNat c) := by
  rcases h with ⟨h1, h2⟩ | ⟨h1, h2, h3, h4⟩
  · exact ⟨fun _ => pz_ph_n h2, fun y => absurd h1 y⟩
  · exact ⟨fun y => by omega, fun _ => ⟨h1, h2, pz_ph_y h3 n (by omega) h4⟩⟩
/-- the TEXTS' rows: PHONES, RECORDS -/
def pz_gph (M : pz_M) (t : Nat) (r c : Nat) : Int := M (21 + 3 * (t - 8)) (5 * r + c)
def pz_grd (M : pz_M) (t : Nat) (r c : Nat) : Int := M (22 + 3 * (t - 8)) (5 * r + c)
def pz_nph (M : pz_M) (t : Nat) : Nat := (M (14 + 3 * (t - 8)) 0).toNat
def pz_nrd (M : pz_M) (t : Nat) : Nat := (M (15 + 3 * (t - 8)) 0).toNat
theorem pz_cel_g {M : pz_M} {r a : Nat} {i j v : Int} {c : Nat} (h : pz_cel M r i j v) (h1 : 0 ≤ i ∧ i < M r 0) (hj : j = (c : Int)) (hc : c < 5) (ha : a = r + 7) : v = M a (5 * i.toNat + c) := by
  rw [h.1 ⟨h1.1, h1.2, by omega, by omega⟩, ha, hj]
  rfl
/-- records: how many, of a LINK; the set of those who wrote -/
def pz_rc0 (g : Nat → Nat → Int) (l : Int) : Nat → Int
  | 0 => 0
  | n + 1 => pz_rc0 g l n + (if g n 1 = l then 1 else 0)
def pz_rcd (g : Nat → Nat → Int) (l lo hi : Int) : Nat → Int
  | 0 => 0
  | n + 1 => pz_rcd g l lo hi n + (if g n 1 = l ∧ lo ≤ g n 0 ∧ g n 0 ≤ hi then 1 else 0)
theorem pz_rcd_b {g : Nat → Nat → Int} {l lo hi : Int} (n : Nat) : 0 ≤ pz_rcd g l lo hi n ∧ pz_rcd g l lo hi n ≤ (n : Int) := by
  induction n with
  | zero => exact ⟨Int.le_refl _, Int.le_refl _⟩
  | succ n ih =>
    show 0 ≤ pz_rcd g l lo hi n + _ ∧ pz_rcd g l lo hi n + _ ≤ _
    split <;> omega
theorem pz_rcd_cg {g g' : Nat → Nat → Int} {l lo hi : Int} : ∀ n, (∀ r, r < n → g r 0 = g' r 0 ∧ g r 1 = g' r 1) → pz_rcd g l lo hi n = pz_rcd g' l lo hi n := by
  intro n
  induction n with
  | zero => intro _; rfl
  | succ n ih =>
    intro h
    show pz_rcd g l lo hi n + _ = pz_rcd g' l lo hi n + _
    rw [ih (fun r hr => h r (by omega)), (h n (by omega)).1, (h n (by omega)).2]
theorem pz_rc0_d {g : Nat → Nat → Int} {l lo hi : Int} : ∀ n, (∀ r, r < n → lo ≤ g r 0 ∧ g r 0 ≤ hi) → pz_rc0 g l n = pz_rcd g l lo hi n := by
  intro n
  induction n with
  | zero => intro _; rfl
  | succ n ih =>
    intro h
    have := h n (by omega)
    show pz_rc0 g l n + _ = pz_rcd g l lo hi n + _
    rw [ih (fun r hr => h r (by omega))]
    by_cases c : g n 1 = l
    · rw [if_pos c, if_pos ⟨c, this.1, this.2⟩]
    · rw [if_neg c, if_neg (fun y => c y.1)]
def pz_wrt (g : Nat → Nat → Int) (lo hi : Int) (k : Nat) : Nat → Bool
  | 0 => false
  | n + 1 => pz_wrt g lo hi k n || (decide (lo ≤ g n 0 ∧ g n 0 ≤ hi) && decide ((g n 1).toNat = k))
def pz_wrs (g : Nat → Nat → Int) (n : Nat) (lo hi v : Int) : Prop := (∀ r, r < n → 0 ≤ g r 1 ∧ g r 1 < 12) → pz_zs v (fun k => pz_wrt g lo hi k n)
theorem pz_wrs_0 {g : Nat → Nat → Int} {lo hi : Int} : pz_wrs g 0 lo hi 0 := fun _ => pz_sb_0
theorem pz_wrs_n {g : Nat → Nat → Int} {n m : Nat} {lo hi v d : Int} (hm : m = n + 1) (hd : d = g n 0) (h : ¬ (lo ≤ d ∧ d ≤ hi)) (q : pz_wrs g n lo hi v) : pz_wrs g m lo hi v := by
  subst hm
  intro w
  refine pz_sb_cg (q (fun r hr => w r (by omega))) (fun k => ?_)
  show _ = (pz_wrt g lo hi k n || (decide (lo ≤ g n 0 ∧ g n 0 ≤ hi) && decide ((g n 1).toNat = k)))
  rw [decide_eq_false (by rw [← hd]; exact h)]
  exact (Bool.or_false _).symm
theorem pz_wrs_y {g : Nat → Nat → Int} {n m : Nat} {lo hi v d l y z : Int} (hm : m = n + 1) (hd : d = g n 0) (h : lo ≤ d ∧ d ≤ hi) (hl : l = g n 1) (hy : y = (Int32.ofInt 1 <<< (Int32.ofInt l &&& 31)).toInt) (hz : z = (Int32.ofInt v ||| Int32.ofInt y).toInt) (q : pz_wrs g n lo hi v) : pz_wrs g m lo hi z := by
  subst hm
  intro w
  have b := w n (by omega)
  rw [hz, hy]
  refine pz_sb_cg (pz_sb_or (q (fun r hr => w r (by omega))) (pz_sb_1 (by omega) (by omega))) (fun k => ?_)
  show _ = (pz_wrt g lo hi k n || (decide (lo ≤ g n 0 ∧ g n 0 ≤ hi) && decide ((g n 1).toNat = k)))
  rw [decide_eq_true (show lo ≤ g n 0 ∧ g n 0 ≤ hi by rw [← hd]; exact h), hl]
  rfl
theorem pz_wrt_d {g : Nat → Nat → Int} {lo hi : Int} {k : Nat} : ∀ n, (∀ r, r < n → 0 ≤ g r 1) → (pz_wrt g lo hi k n = true ↔ pz_rcd g k lo hi n ≠ 0) := by
  intro n
  induction n with
  | zero => intro _; exact ⟨fun y => (by cases y), fun y => absurd rfl y⟩
  | succ n ih =>
    intro h
    have i1 := ih (fun r hr => h r (by omega))
    have h0 := h n (by omega)
    have b := pz_rcd_b (g := g) (l := (k : Int)) (lo := lo) (hi := hi) n
    show (pz_wrt g lo hi k n || (decide (lo ≤ g n 0 ∧ g n 0 ≤ hi) && decide ((g n 1).toNat = k))) = true ↔ pz_rcd g k lo hi n + (if g n 1 = (k : Int) ∧ lo ≤ g n 0 ∧ g n 0 ≤ hi then 1 else 0) ≠ 0
    by_cases c : g n 1 = (k : Int) ∧ lo ≤ g n 0 ∧ g n 0 ≤ hi
    · rw [if_pos c, decide_eq_true c.2, decide_eq_true (show (g n 1).toNat = k by omega)]
      exact ⟨fun _ => by omega, fun _ => Bool.or_true _⟩
    · have z : (decide (lo ≤ g n 0 ∧ g n 0 ≤ hi) && decide ((g n 1).toNat = k)) = false := by
        by_cases c1 : lo ≤ g n 0 ∧ g n 0 ≤ hi
        · rw [decide_eq_false (show ¬ (g n 1).toNat = k from fun y => c ⟨by omega, c1⟩)]
          exact Bool.and_false _
        · rw [decide_eq_false c1]
          rfl
      rw [if_neg c, z, Bool.or_false, Int.add_zero]
      exact i1
theorem pz_wrt_u {g : Nat → Nat → Int} {k : Nat} {d : Int} : ∀ n, (∀ r, r < n → 0 ≤ g r 0) → (pz_wrt g 0 d k n || pz_wrt g (d + 1) (d + 1) k n) = pz_wrt g 0 (d + 1) k n := by
  intro n
  induction n with
  | zero => intro _; rfl
  | succ n ih =>
    intro h
    have i1 := ih (fun r hr => h r (by omega))
    have h0 := h n (by omega)
    show ((pz_wrt g 0 d k n || (decide (0 ≤ g n 0 ∧ g n 0 ≤ d) && decide ((g n 1).toNat = k))) || (pz_wrt g (d + 1) (d + 1) k n || (decide (d + 1 ≤ g n 0 ∧ g n 0 ≤ d + 1) && decide ((g n 1).toNat = k)))) = (pz_wrt g 0 (d + 1) k n || (decide (0 ≤ g n 0 ∧ g n 0 ≤ d + 1) && decide ((g n 1).toNat = k)))
    rw [← i1]
    have e : decide (0 ≤ g n 0 ∧ g n 0 ≤ d + 1) = (decide (0 ≤ g n 0 ∧ g n 0 ≤ d) || decide (d + 1 ≤ g n 0 ∧ g n 0 ≤ d + 1)) := by
      rw [← Bool.decide_or]
      exact decide_eq_decide.mpr (by omega)
    rw [e]
    cases pz_wrt g 0 d k n <;> cases pz_wrt g (d + 1) (d + 1) k n <;> cases decide (0 ≤ g n 0 ∧ g n 0 ≤ d) <;> cases decide (d + 1 ≤ g n 0 ∧ g n 0 ≤ d + 1) <;> cases decide ((g n 1).toNat = k) <;> rfl
/-- the first with the least -/
def pz_am (h : Nat → Int) : Nat → Nat
  | 0 => 0
  | n + 1 => if h (n + 1) < h (pz_am h n) then n + 1 else pz_am h n
theorem pz_am_cg {h h' : Nat → Int} : ∀ n, (∀ k, k ≤ n → h k = h' k) → pz_am h n = pz_am h' n ∧ pz_am h n ≤ n := by
  intro n
  induction n with
  | zero => intro _; exact ⟨rfl, Nat.le_refl _⟩
  | succ n ih =>
    intro e
    obtain ⟨i1, i2⟩ := ih (fun k hk => e k (by omega))
    show (if h (n + 1) < h (pz_am h n) then n + 1 else pz_am h n) = (if h' (n + 1) < h' (pz_am h' n) then n + 1 else pz_am h' n) ∧ (if h (n + 1) < h (pz_am h n) then n + 1 else pz_am h n) ≤ n + 1
    rw [e (n + 1) (by omega), e (pz_am h n) (by omega), ← i1]
    refine ⟨rfl, ?_⟩
    split <;> omega
/-- how evenly a DAY parts n LINKS -/
def pz_ev (g : Nat → Nat → Int) (m n : Nat) (d : Int) : Int := max (pz_cnt (fun k => decide (pz_rcd g k 0 d m ≠ 0)) n) ((n : Int) - pz_cnt (fun k => decide (pz_rcd g k 0 d m ≠ 0)) n)
/-! PHONE, ILL, WROTE: what each side answers -/
def pz_pn1 (M : pz_M) (i w v : Int) : Prop := (¬ (0 ≤ i ∧ i < M 71 3) → v = -1) ∧ (0 ≤ i ∧ i < M 71 3 → (w = 0 → v = pz_ph (pz_gph M 8) i 0 1 (pz_nph M 8)) ∧ (w = 1 → v = pz_ph (pz_gph M 8) i 240 2 (pz_nph M 8)) ∧ (w = 2 → v = pz_rc0 (pz_grd M 8) i (pz_nrd M 8)) ∧ (¬ (0 ≤ w ∧ w ≤ 2) → v = -1))
def pz_gmr (M : pz_M) (r c : Nat) : Int := M 60 (209 + (2 * r + c))
def pz_pn2 (M : pz_M) (i w v : Int) : Prop := (¬ (0 ≤ i ∧ i < M 60 88) → v = -1) ∧ (0 ≤ i ∧ i < M 60 88 → (w = 0 → v = M 60 (105 + 2 * i.toNat)) ∧ (w = 1 → v = M 60 (106 + 2 * i.toNat)) ∧ (w = 2 → v = pz_rcd (pz_gmr M) i 0 1000 (M 60 92).toNat) ∧ (¬ (0 ≤ w ∧ w ≤ 2) → v = -1))
def pz_ilf (M : pz_M) (a b : Int) (k : Nat) : Bool := decide (pz_rcd (pz_gmr M) (k : Int) a b (M 60 92).toNat = 0)
def pz_il2 (M : pz_M) (a k v : Int) : Prop := (¬ ((0 ≤ a ∧ a ≤ 999) ∧ 1 ≤ k ∧ k ≤ 30) → v = -1) ∧ ((0 ≤ a ∧ a ≤ 999) ∧ 1 ≤ k ∧ k ≤ 30 → pz_zs v (fun j => decide (j < (M 60 88).toNat) && pz_ilf M a (a + k - 1) j))
def pz_il1 (M : pz_M) (a k v : Int) : Prop := (¬ ((0 ≤ a ∧ a ≤ 999) ∧ 1 ≤ k ∧ k ≤ 30) → v = -1) ∧ ((0 ≤ a ∧ a ≤ 999) ∧ 1 ≤ k ∧ k ≤ 30 → (∀ r, r < pz_nrd M 8 → 0 ≤ pz_grd M 8 r 1 ∧ pz_grd M 8 r 1 < 12) → pz_zs v (fun j => decide (j < (M 71 3).toNat) && !pz_wrt (pz_grd M 8) a (a + k - 1) j (pz_nrd M 8)))
theorem pz_il_0 {M : pz_M} {a b : Int} : pz_zs 0 (fun j => decide (j < (0 : Int).toNat) && pz_ilf M a b j) := pz_sb_cg pz_sb_0 (fun k => by rw [decide_eq_false (show ¬ k < (0 : Int).toNat from Nat.not_lt_zero _)]; rfl)
theorem pz_il_s {M : pz_M} {a b x y s t z : Int} (hx : 0 ≤ x ∧ x ≤ 11) (hy : y = x + 1) (hs : pz_zs s (fun j => decide (j < x.toNat) && pz_ilf M a b j)) (ht : pz_zs t (fun j => decide (x.toNat = j) && pz_ilf M a b j)) (hz : z = (Int32.ofInt s ||| Int32.ofInt t).toInt) : pz_zs z (fun j => decide (j < y.toNat) && pz_ilf M a b j) := by
  rw [hz]
  refine pz_sb_cg (pz_sb_or hs ht) (fun k => ?_)
  show ((decide (k < x.toNat) && pz_ilf M a b k) || (decide (x.toNat = k) && pz_ilf M a b k)) = _
  have e : decide (k < y.toNat) = (decide (k < x.toNat) || decide (x.toNat = k)) := by
    rw [← Bool.decide_or]
    exact decide_eq_decide.mpr (by omega)
  rw [e]
  cases decide (k < x.toNat) <;> cases decide (x.toNat = k) <;> cases pz_ilf M a b k <;> rfl
theorem pz_il_y {M : pz_M} {a b x v t : Int} (hx : 0 ≤ x ∧ x ≤ 11) (hv : v = pz_rcd (pz_gmr M) x a b (M 60 92).toNat) (h : v = 0) (ht : t = (Int32.ofInt 1 <<< (Int32.ofInt x &&& 31)).toInt) : pz_zs t (fun j => decide (x.toNat = j) && pz_ilf M a b j) := by
  rw [ht]
  refine pz_sb_cg (pz_sb_1 hx.1 hx.2) (fun k => ?_)
  by_cases e : x.toNat = k
  · have e2 : pz_ilf M a b k = true := by
      unfold pz_ilf
      rw [← e, show ((x.toNat : Nat) : Int) = x by omega, ← hv]
      exact decide_eq_true h
    rw [e2]
    exact (Bool.and_true _).symm
  · rw [decide_eq_false e]
    rfl
theorem pz_il_n {M : pz_M} {a b x v : Int} (hx : 0 ≤ x) (hv : v = pz_rcd (pz_gmr M) x a b (M 60 92).toNat) (h : v ≠ 0) : pz_zs 0 (fun j => decide (x.toNat = j) && pz_ilf M a b j) := by
  refine pz_sb_cg pz_sb_0 (fun k => ?_)
  by_cases e : x.toNat = k
  · have e2 : pz_ilf M a b k = false := by
      unfold pz_ilf
      rw [← e, show ((x.toNat : Nat) : Int) = x by omega, ← hv]
      exact decide_eq_false h
    rw [e2]
    exact (Bool.and_false _).symm
  · rw [decide_eq_false e]
    rfl
/-- WROTE -/
def pz_wr2 (M : pz_M) (v : Int) : Prop := (M 60 88 < 2 → v = -1) ∧ (2 ≤ M 60 88 → v = ((pz_am (fun d => pz_ev (pz_gmr M) (M 60 92).toNat (M 60 88).toNat (d : Int)) 99 : Nat) : Int))
def pz_wr1 (M : pz_M) (v : Int) : Prop := (M 71 3 < 2 → v = -1) ∧ (2 ≤ M 71 3 → (∀ r, r < pz_nrd M 8 → 0 ≤ pz_grd M 8 r 0 ∧ 0 ≤ pz_grd M 8 r 1 ∧ pz_grd M 8 r 1 < 12) → v = ((pz_am (fun d => pz_ev (pz_grd M 8) (pz_nrd M 8) (M 71 3).toNat (d : Int)) 99 : Nat) : Int))
theorem pz_cnt_s {f : Nat → Bool} {x y s t z : Int} (hx : 0 ≤ x) (hy : y = x + 1) (hs : s = pz_cnt f x.toNat) (ht : t = if f x.toNat = true then 1 else 0) (hz : z = s + t) : z = pz_cnt f y.toNat := by
  rw [show y.toNat = x.toNat + 1 by omega]
  show z = pz_cnt f x.toNat + (if f x.toNat = true then 1 else 0)
  rw [← hs, ← ht, hz]
theorem pz_ev_of {g : Nat → Nat → Int} {m n : Nat} {d c v : Int} (hc : c = pz_cnt (fun k => decide (pz_rcd g k 0 d m ≠ 0)) n) (hv : v = max c ((n : Int) - c)) : v = pz_ev g m n d := by
  unfold pz_ev
  rw [← hc]
  exact hv
/-- the class' loop over the DAYS -/
def pz_wlp (g : Nat → Nat → Int) (m n : Nat) (b l w d : Int) : Prop := (∀ r, r < m → 0 ≤ g r 0 ∧ 0 ≤ g r 1 ∧ g r 1 < 12) → pz_zs w (fun k => pz_wrt g 0 (d - 1) k m) ∧ ((d = 0 ∧ b = -1 ∧ l = 13) ∨ (1 ≤ d ∧ b = ((pz_am (fun d => pz_ev g m n (d : Int)) (d - 1).toNat : Nat) : Int) ∧ l = pz_ev g m n b))
theorem pz_wrt_z {g : Nat → Nat → Int} {k : Nat} (n : Nat) : pz_wrt g 0 (0 - 1) k n = false := by
  induction n with
  | zero => rfl
  | succ n ih =>
    show (pz_wrt g 0 (0 - 1) k n || (decide (0 ≤ g n 0 ∧ g n 0 ≤ 0 - 1) && decide ((g n 1).toNat = k))) = false
    rw [ih, decide_eq_false (by omega)]
    rfl
theorem pz_wlp_0 {g : Nat → Nat → Int} {m n : Nat} : pz_wlp g m n (-1) 13 0 0 := fun _ => ⟨pz_sb_cg pz_sb_0 (fun k => (pz_wrt_z m).symm), Or.inl ⟨rfl, rfl, rfl⟩⟩
theorem pz_wlp_e {g : Nat → Nat → Int} {m n : Nat} {w a u c d r x y : Int} (hn : n ≤ 12) (rows : ∀ r, r < m → 0 ≤ g r 0 ∧ 0 ≤ g r 1 ∧ g r 1 < 12) (q : pz_zs w (fun k => pz_wrt g 0 d k m)) (ha : pz_zs a (fun j => decide (j < n))) (hu : u = (Int32.ofInt w &&& Int32.ofInt a).toInt) (hc : pz_bcx u c) (hr : r = pz_w ((n : Int) - c)) (hx : x = max c r) : x = pz_ev g m n d := by
  have s := pz_sb_and q ha
  rw [← hu] at s
  have c1 := hc _ s
  have c2 : pz_cnt (fun k => pz_wrt g 0 d k m && decide (k < n)) 12 = pz_cnt (fun k => decide (pz_rcd g k 0 d m ≠ 0)) n := by
    have up := pz_cnt_up (f := fun k => pz_wrt g 0 d k m && decide (k < n)) (n := n) (12 - n) (fun k hk => by
      show (pz_wrt g 0 d k m && decide (k < n)) = false
      rw [decide_eq_false (by omega)]
      exact Bool.and_false _)
    rw [show n + (12 - n) = 12 by omega] at up
    rw [up]
    refine pz_cnt_cg n (fun k hk => ?_)
    show (pz_wrt g 0 d k m && decide (k < n)) = decide (pz_rcd g k 0 d m ≠ 0)
    rw [decide_eq_true hk, Bool.and_true]
    have i := pz_wrt_d (g := g) (lo := 0) (hi := d) (k := k) m (fun r hr => (rows r hr).2.1)
    by_cases z : pz_rcd g k 0 d m ≠ 0
    · rw [i.mpr z, decide_eq_true z]
    · rw [decide_eq_false z]
      exact Bool.eq_false_iff.mpr (fun y => z (i.mp y))
  rw [c2] at c1
  have b := pz_cnt_b (f := fun k => decide (pz_rcd g k 0 d m ≠ 0)) n
  have w1 : pz_w ((n : Int) - c) = (n : Int) - c := by unfold pz_w; omega
  exact pz_ev_of c1 (by rw [hx, hr, w1])
theorem pz_ev_b {g : Nat → Nat → Int} {m n : Nat} {d : Int} : pz_ev g m n d ≤ (n : Int) := by
  have b := pz_cnt_b (f := fun k => decide (pz_rcd g k 0 d m ≠ 0)) n
  unfold pz_ev
  omega
theorem pz_wlp_s {g : Nat → Nat → Int} {m n : Nat} {b l w d e w2 y a u c r x b2 l2 : Int} (hn : n ≤ 12) (hd : 0 ≤ d) (he : e = d + 1) (h : pz_wlp g m n b l w d) (hy : pz_wrs g m d d y) (hw : w2 = (Int32.ofInt w ||| Int32.ofInt y).toInt) (ha : pz_zs a (fun j => decide (j < n))) (hu : u = (Int32.ofInt w2 &&& Int32.ofInt a).toInt) (hc : pz_bcx u c) (hr : r = pz_w ((n : Int) - c)) (hx : x = max c r)
    (hb : (x < l ∧ b2 = d ∧ l2 = x) ∨ (¬ x < l ∧ b2 = b ∧ l2 = l)) : pz_wlp g m n b2 l2 w2 e := by
  intro rows
  obtain ⟨s, t⟩ := h rows
  have s2 : pz_zs w2 (fun k => pz_wrt g 0 d k m) := by
    rw [hw]
    refine pz_sb_cg (pz_sb_or s (hy (fun r hr => (rows r hr).2))) (fun k => ?_)
    have := pz_wrt_u (g := g) (k := k) (d := d - 1) m (fun r hr => (rows r hr).1)
    rw [show d - 1 + 1 = d by omega] at this
    exact this
  have X := pz_wlp_e (y := 0) hn rows s2 ha hu hc hr hx
  have e1 : e - 1 = d := by omega
  refine ⟨by rw [e1]; exact s2, Or.inr ⟨by omega, ?_⟩⟩
  rw [e1]
  have bd := pz_ev_b (g := g) (m := m) (n := n) (d := d)
  rcases t with ⟨t1, t2, t3⟩ | ⟨t1, t2, t3⟩
  · subst t1
    rcases hb with ⟨h1, h2, h3⟩ | ⟨h1, h2, h3⟩
    · rw [h2, h3]
      exact ⟨rfl, X⟩
    · omega
  · have ed : d.toNat = (d - 1).toNat + 1 := by omega
    have ed2 : (((d - 1).toNat + 1 : Nat) : Int) = d := by omega
    have key : pz_am (fun d => pz_ev g m n (d : Int)) d.toNat = if pz_ev g m n d < pz_ev g m n b then (d - 1).toNat + 1 else pz_am (fun d => pz_ev g m n (d : Int)) (d - 1).toNat := by
      rw [ed]
      show (if pz_ev g m n (((d - 1).toNat + 1 : Nat) : Int) < pz_ev g m n ((pz_am (fun d => pz_ev g m n (d : Int)) (d - 1).toNat : Nat) : Int) then (d - 1).toNat + 1 else pz_am (fun d => pz_ev g m n (d : Int)) (d - 1).toNat) = _
      rw [ed2, ← t2]
    rw [key]
    rcases hb with ⟨h1, h2, h3⟩ | ⟨h1, h2, h3⟩
    · rw [if_pos (by omega), h2, h3]
      exact ⟨ed2.symm, X⟩
    · rw [if_neg (by omega), h2, h3]
      exact ⟨t2, t3⟩
/-- the model's loop -/
theorem pz_am_s {h : Nat → Int} {b b2 d e x y : Int} (hd : 1 ≤ d) (he : e = d + 1) (hb : b = ((pz_am h (d - 1).toNat : Nat) : Int)) (hx : x = h d.toNat) (hy : y = h b.toNat) (h2 : (x < y ∧ b2 = d) ∨ (¬ x < y ∧ b2 = b)) : b2 = ((pz_am h (e - 1).toNat : Nat) : Int) := by
  rw [show (e - 1).toNat = (d - 1).toNat + 1 by omega]
  show b2 = (((if h ((d - 1).toNat + 1) < h (pz_am h (d - 1).toNat) then (d - 1).toNat + 1 else pz_am h (d - 1).toNat : Nat)) : Int)
  rw [show (d - 1).toNat + 1 = d.toNat by omega, ← hx, show pz_am h (d - 1).toNat = b.toNat by omega, ← hy]
  rcases h2 with ⟨h1, h3⟩ | ⟨h1, h3⟩
  · rw [if_pos h1]
    omega
  · rw [if_neg h1]
    omega
end
