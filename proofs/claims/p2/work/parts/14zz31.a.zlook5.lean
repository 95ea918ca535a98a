/-! the subsets of a set, in their order -/
theorem sd_and2 {x y a b : Nat} (ha : a < 2) (hb : b < 2) : (2 * x + a) &&& (2 * y + b) = 2 * (x &&& y) + (if a = 1 ∧ b = 1 then 1 else 0) := by
  have d : ((2 * x + a) &&& (2 * y + b)) / 2 = x &&& y := by
    rw [Nat.and_div_two, show (2 * x + a) / 2 = x by omega, show (2 * y + b) / 2 = y by omega]
  have m : ((2 * x + a) &&& (2 * y + b)) % 2 = 1 ↔ (2 * x + a) % 2 = 1 ∧ (2 * y + b) % 2 = 1 := Nat.and_mod_two_eq_one
  generalize (2 * x + a) &&& (2 * y + b) = z at d m ⊢
  generalize x &&& y = w at d ⊢
  by_cases q : a = 1 ∧ b = 1
  · rw [if_pos q]
    have m1 := m.mpr ⟨by omega, by omega⟩
    omega
  · rw [if_neg q]
    have m1 : ¬ z % 2 = 1 := fun h => q (by
      have m2 := m.mp h
      omega)
    omega
def sd_dep : Nat → Nat → Nat → Nat
  | 0, _, _ => 0
  | k + 1, C, r => if C % 2 = 1 then 2 * sd_dep k (C / 2) (r / 2) + r % 2 else 2 * sd_dep k (C / 2) r
def sd_pc : Nat → Nat → Nat
  | 0, _ => 0
  | k + 1, C => C % 2 + sd_pc k (C / 2)
theorem sd_dep_1 {k C r : Nat} (h : C % 2 = 1) : sd_dep (k + 1) C r = 2 * sd_dep k (C / 2) (r / 2) + r % 2 := if_pos h
theorem sd_dep_0 {k C r : Nat} (h : ¬ C % 2 = 1) : sd_dep (k + 1) C r = 2 * sd_dep k (C / 2) r := if_neg h
theorem sd_dep_le : ∀ k C r : Nat, sd_dep k C r ≤ C := by
  intro k
  induction k with
  | zero => exact fun C r => Nat.zero_le _
  | succ k ih =>
    intro C r
    by_cases q : C % 2 = 1
    · rw [sd_dep_1 q]
      have := ih (C / 2) (r / 2)
      omega
    · rw [sd_dep_0 q]
      have := ih (C / 2) r
      omega
theorem sd_tpw {k n : Nat} (h : k ≤ n) : 2 ^ k ≤ 2 ^ n := Nat.pow_le_pow_right (by decide) h
theorem sd_depQ : ∀ k N C r : Nat, k ≤ N → C < 2 ^ k → (sd_dep k C r + (2 ^ N - 1 - C)) &&& C = sd_dep k C r := by
  intro k
  induction k with
  | zero =>
    intro N C r _ hC
    rw [show C = 0 by rw [Nat.pow_zero] at hC; omega, Nat.and_zero]
    rfl
  | succ k ih =>
    intro N C r hN hC
    obtain ⟨N', rfl⟩ : ∃ N', N = N' + 1 := ⟨N - 1, by omega⟩
    rw [Nat.pow_succ] at hC
    have hP := sd_tpw (show k ≤ N' by omega)
    have i1 := ih N' (C / 2) (r / 2) (by omega) (by omega)
    have i2 := ih N' (C / 2) r (by omega) (by omega)
    rw [Nat.pow_succ]
    generalize 2 ^ N' = P at hP i1 i2 ⊢
    generalize 2 ^ k = K at hP hC
    by_cases q : C % 2 = 1
    · rw [sd_dep_1 q]
      have e := sd_and2 (x := sd_dep k (C / 2) (r / 2) + (P - 1 - C / 2)) (y := C / 2) (a := r % 2) (b := 1) (by omega) (by omega)
      rw [show 2 * (sd_dep k (C / 2) (r / 2) + (P - 1 - C / 2)) + r % 2 = 2 * sd_dep k (C / 2) (r / 2) + r % 2 + (P * 2 - 1 - C) by omega, show 2 * (C / 2) + 1 = C by omega, i1] at e
      rw [e]
      by_cases b : r % 2 = 1
      · rw [if_pos ⟨b, rfl⟩, b]
      · rw [if_neg (fun z => b z.1)]
        omega
    · rw [sd_dep_0 q]
      have e := sd_and2 (x := sd_dep k (C / 2) r + (P - 1 - C / 2)) (y := C / 2) (a := 1) (b := 0) (by omega) (by omega)
      rw [show 2 * (sd_dep k (C / 2) r + (P - 1 - C / 2)) + 1 = 2 * sd_dep k (C / 2) r + (P * 2 - 1 - C) by omega, show 2 * (C / 2) + 0 = C by omega, i2, if_neg (by decide)] at e
      exact e
theorem sd_depP : ∀ k N C r : Nat, k ≤ N → C < 2 ^ k → (sd_dep k C r + (2 ^ N - C)) &&& C = sd_dep k C (r + 1) := by
  intro k
  induction k with
  | zero =>
    intro N C r _ hC
    rw [show C = 0 by rw [Nat.pow_zero] at hC; omega, Nat.and_zero]
    rfl
  | succ k ih =>
    intro N C r hN hC
    obtain ⟨N', rfl⟩ : ∃ N', N = N' + 1 := ⟨N - 1, by omega⟩
    rw [Nat.pow_succ] at hC
    have hP := sd_tpw (show k ≤ N' by omega)
    have i1 := ih N' (C / 2) (r / 2) (by omega) (by omega)
    have i2 := ih N' (C / 2) r (by omega) (by omega)
    have i3 := sd_depQ k N' (C / 2) (r / 2) (by omega) (by omega)
    rw [Nat.pow_succ]
    generalize 2 ^ N' = P at hP i1 i2 i3 ⊢
    generalize 2 ^ k = K at hP hC
    by_cases q : C % 2 = 1
    · rw [sd_dep_1 q, sd_dep_1 q]
      by_cases b : r % 2 = 1
      · have e := sd_and2 (x := sd_dep k (C / 2) (r / 2) + (P - C / 2)) (y := C / 2) (a := 0) (b := 1) (by omega) (by omega)
        rw [show 2 * (sd_dep k (C / 2) (r / 2) + (P - C / 2)) + 0 = 2 * sd_dep k (C / 2) (r / 2) + r % 2 + (P * 2 - C) by omega, show 2 * (C / 2) + 1 = C by omega, i1, if_neg (by decide)] at e
        rw [e, show (r + 1) / 2 = r / 2 + 1 by omega, show (r + 1) % 2 = 0 by omega]
      · have e := sd_and2 (x := sd_dep k (C / 2) (r / 2) + (P - 1 - C / 2)) (y := C / 2) (a := 1) (b := 1) (by omega) (by omega)
        rw [show 2 * (sd_dep k (C / 2) (r / 2) + (P - 1 - C / 2)) + 1 = 2 * sd_dep k (C / 2) (r / 2) + r % 2 + (P * 2 - C) by omega, show 2 * (C / 2) + 1 = C by omega, i3, if_pos ⟨rfl, rfl⟩] at e
        rw [e, show (r + 1) / 2 = r / 2 by omega, show (r + 1) % 2 = 1 by omega]
    · rw [sd_dep_0 q, sd_dep_0 q]
      have e := sd_and2 (x := sd_dep k (C / 2) r + (P - C / 2)) (y := C / 2) (a := 0) (b := 0) (by omega) (by omega)
      rw [show 2 * (sd_dep k (C / 2) r + (P - C / 2)) + 0 = 2 * sd_dep k (C / 2) r + (P * 2 - C) by omega, show 2 * (C / 2) + 0 = C by omega, i2, if_neg (by decide)] at e
      exact e
theorem sd_dep_m : ∀ k C r t : Nat, r < t → t < 2 ^ sd_pc k C → sd_dep k C r < sd_dep k C t := by
  intro k
  induction k with
  | zero =>
    intro C r t h1 h2
    have h2 : t < 1 := h2
    omega
  | succ k ih =>
    intro C r t h1 h2
    have h2 : t < 2 ^ (C % 2 + sd_pc k (C / 2)) := h2
    by_cases q : C % 2 = 1
    · rw [sd_dep_1 q, sd_dep_1 q]
      rw [q, Nat.add_comm, Nat.pow_succ] at h2
      by_cases b : r / 2 < t / 2
      · have i := ih (C / 2) (r / 2) (t / 2) b (by omega)
        omega
      · rw [show t / 2 = r / 2 by omega]
        omega
    · rw [sd_dep_0 q, sd_dep_0 q]
      rw [show C % 2 = 0 by omega, Nat.zero_add] at h2
      have i := ih (C / 2) r t h1 h2
      omega
theorem sd_dep_x : ∀ k C u : Nat, C < 2 ^ k → (∀ j, u.testBit j = true → C.testBit j = true) → ∃ r, r < 2 ^ sd_pc k C ∧ sd_dep k C r = u := by
  intro k
  induction k with
  | zero =>
    intro C u hC h
    rw [Nat.pow_zero] at hC
    refine ⟨0, by show 0 < 1; decide, ?_⟩
    refine (Nat.eq_of_testBit_eq (fun j => ?_)).symm
    show u.testBit j = Nat.testBit 0 j
    rw [Nat.zero_testBit]
    cases q : u.testBit j with
    | false => rfl
    | true =>
      have c := h j q
      rw [show C = 0 by omega, Nat.zero_testBit] at c
      exact c.symm
  | succ k ih =>
    intro C u hC h
    rw [Nat.pow_succ] at hC
    obtain ⟨r, h1, h2⟩ := ih (C / 2) (u / 2) (by omega) (fun j hj => by
      rw [Nat.testBit_div_two] at hj ⊢
      exact h (j + 1) hj)
    have h0 : u % 2 = 1 → C % 2 = 1 := fun z => by
      have c := h 0 (by rw [Nat.testBit_zero]; exact decide_eq_true z)
      rw [Nat.testBit_zero] at c
      exact of_decide_eq_true c
    by_cases q : C % 2 = 1
    · refine ⟨2 * r + u % 2, ?_, ?_⟩
      · show 2 * r + u % 2 < 2 ^ (C % 2 + sd_pc k (C / 2))
        rw [q, Nat.add_comm 1, Nat.pow_succ]
        omega
      · rw [sd_dep_1 q, show (2 * r + u % 2) / 2 = r by omega, h2]
        omega
    · refine ⟨r, ?_, ?_⟩
      · show r < 2 ^ (C % 2 + sd_pc k (C / 2))
        rw [show C % 2 = 0 by omega, Nat.zero_add]
        exact h1
      · rw [sd_dep_0 q, h2]
        omega
theorem sd_dep_s {C r : Nat} (hC : C < 4096) : ∀ j, (sd_dep 12 C r).testBit j = true → C.testBit j = true := fun j hj => by
  rw [← sd_depQ 12 12 C r (Nat.le_refl _) hC, Nat.testBit_and] at hj
  exact (Bool.and_eq_true _ _ ▸ hj).2
/-- the machine's step to the next subset -/
theorem sd_nxt {s C : Nat} {v w : Int} {r : Nat} (hC : C < 4096) (hs : s = sd_dep 12 C r) (hv : v = pz_w ((s : Int) - (C : Int))) (hw : w = (Int32.ofInt v &&& Int32.ofInt (C : Int)).toInt) : w = (sd_dep 12 C (r + 1) : Int) := by
  have le := sd_dep_le 12 C r
  rw [pz_wi (by omega) (by omega)] at hv
  have p : (2 : Nat) ^ 32 = 4294967296 := rfl
  have n1 : (Int32.ofInt v).toBitVec.toNat = (s + (4294967296 - C)) % 4294967296 := by
    show (BitVec.ofInt 32 v).toNat = _
    have e : ((2 ^ 32 : Nat) : Int) = 4294967296 := rfl
    rw [BitVec.toNat_ofInt, hv, e]
    omega
  have e := sd_depP 12 32 C r (by decide) hC
  rw [← hs, p] at e
  have n2 : (Int32.ofInt v &&& Int32.ofInt (C : Int)).toBitVec.toNat = sd_dep 12 C (r + 1) := by
    show ((Int32.ofInt v).toBitVec &&& (Int32.ofInt (C : Int)).toBitVec).toNat = _
    rw [BitVec.toNat_and, pz_n12s hC, n1, ← e]
    by_cases q : s = C
    · rw [q, show C + (4294967296 - C) = 4294967296 by omega, Nat.mod_self, ← p]
      refine Nat.eq_of_testBit_eq (fun j => ?_)
      rw [Nat.testBit_and, Nat.testBit_and, Nat.zero_testBit, Bool.false_and]
      by_cases y : j < 12
      · rw [Nat.testBit_two_pow_of_ne (by omega), Bool.false_and]
      · rw [Nat.testBit_lt_two_pow (x := C) (Nat.lt_of_lt_of_le hC (sd_tpw (k := 12) (n := j) (by omega))), Bool.and_false]
    · rw [Nat.mod_eq_of_lt (by omega)]
  have le2 := sd_dep_le 12 C (r + 1)
  rw [hw, pz_i32_n n2 (by omega)]
/-- a set out of its bits -/
def sd_cK : Nat → (Nat → Bool) → Nat
  | 0, _ => 0
  | k + 1, f => 2 * sd_cK k (fun j => f (j + 1)) + (if f 0 = true then 1 else 0)
theorem sd_cK_b : ∀ (k : Nat) (f : Nat → Bool), sd_cK k f < 2 ^ k ∧ ∀ j, j < k → (sd_cK k f).testBit j = f j := by
  intro k
  induction k with
  | zero => exact fun f => ⟨by show 0 < 1; decide, fun j hj => absurd hj (Nat.not_lt_zero _)⟩
  | succ k ih =>
    intro f
    obtain ⟨h1, h2⟩ := ih (fun j => f (j + 1))
    have e : sd_cK (k + 1) f = 2 * sd_cK k (fun j => f (j + 1)) + (if f 0 = true then 1 else 0) := rfl
    have b : (if f 0 = true then 1 else 0) < 2 := by split <;> omega
    refine ⟨?_, fun j hj => ?_⟩
    · rw [e, Nat.pow_succ]
      omega
    · cases j with
      | zero =>
        rw [Nat.testBit_zero, e]
        cases q : f 0 with
        | false => exact decide_eq_false (by rw [if_neg (by decide)]; omega)
        | true => exact decide_eq_true (by rw [if_pos rfl]; omega)
      | succ j =>
        rw [Nat.testBit_succ, show sd_cK (k + 1) f / 2 = sd_cK k (fun j => f (j + 1)) by rw [e]; omega]
        exact h2 j (by omega)
def sd_cC (F : Nat → Int) : Nat := sd_cK 12 (fun k => decide (sd_cb F k))
theorem sd_cC_l {F : Nat → Int} : sd_cC F < 4096 := (sd_cK_b 12 _).1
theorem sd_cC_t {F : Nat → Int} (w : sd_wf F) : ∀ k, (sd_cC F).testBit k = decide (sd_cb F k) := fun k => by
  by_cases q : k < 12
  · exact (sd_cK_b 12 (fun k => decide (sd_cb F k))).2 k q
  · have m := w.1
    rw [decide_eq_false (fun z => by
      have z1 := z.1
      omega)]
    exact Nat.testBit_lt_two_pow (Nat.lt_of_lt_of_le sd_cC_l (sd_tpw (k := 12) (n := k) (by omega)))
theorem sd_cC_z {F : Nat → Int} {v : Int} (w : sd_wf F) (h : pz_zs v (fun k => decide (sd_cb F k))) : v = (sd_cC F : Int) := pz_sb_ext h ⟨sd_cC F, rfl, sd_cC_l, sd_cC_t w⟩ (fun _ => rfl)
/-- how many -/
theorem sd_cnt_0 {f : Nat → Bool} : ∀ k, pz_cnt f (k + 1) = (if f 0 = true then 1 else 0) + pz_cnt (fun j => f (j + 1)) k := by
  intro k
  induction k with
  | zero =>
    show 0 + (if f 0 = true then 1 else 0) = (if f 0 = true then 1 else 0) + 0
    omega
  | succ k ih =>
    show pz_cnt f (k + 1) + (if f (k + 1) = true then 1 else 0) = (if f 0 = true then 1 else 0) + (pz_cnt (fun j => f (j + 1)) k + (if f (k + 1) = true then 1 else 0))
    rw [ih]
    omega
theorem sd_pc_c : ∀ k C : Nat, (sd_pc k C : Int) = pz_cnt C.testBit k := by
  intro k
  induction k with
  | zero => exact fun C => rfl
  | succ k ih =>
    intro C
    rw [sd_cnt_0, Nat.testBit_zero]
    have e : (fun j => C.testBit (j + 1)) = (C / 2).testBit := funext fun j => (Nat.testBit_div_two C j).symm
    rw [e, ← ih (C / 2)]
    show ((C % 2 + sd_pc k (C / 2) : Nat) : Int) = _
    by_cases q : C % 2 = 1
    · rw [decide_eq_true q, if_pos rfl]
      omega
    · rw [decide_eq_false q, if_neg (by decide)]
      omega
theorem sd_pc_l {C : Nat} : sd_pc 12 C ≤ 12 := by
  have a := sd_pc_c 12 C
  have b := pz_cnt_b (f := C.testBit) 12
  omega
/-- what BRIDGES cost; the best of the first r subsets -/
def sd_cs (ls : List pz_lne) (F : Nat → Int) (u : Nat) : Nat → Int
  | 0 => 0
  | m + 1 => sd_cs ls F u m + (if u.testBit m = true then sd_co ls F m else 0)
theorem sd_cs_b {ls : List pz_lne} {F : Nat → Int} {u : Nat} : ∀ m : Nat, 0 ≤ sd_cs ls F u m ∧ sd_cs ls F u m ≤ 99 * (m : Int) := by
  intro m
  induction m with
  | zero => exact ⟨Int.le_refl _, Int.le_refl _⟩
  | succ m ih =>
    have c := sd_co_b (ls := ls) (F := F) (i := m)
    show 0 ≤ sd_cs ls F u m + _ ∧ sd_cs ls F u m + _ ≤ 99 * ((m + 1 : Nat) : Int)
    split <;> omega
def sd_cst (ls : List pz_lne) (F : Nat → Int) (u : Nat) : Int := sd_cs ls F u (sd_n F)
theorem sd_cst_b {ls : List pz_lne} {F : Nat → Int} {u : Nat} (w : sd_wf F) : 0 ≤ sd_cst ls F u ∧ sd_cst ls F u ≤ 1188 := by
  have b := sd_cs_b (ls := ls) (F := F) (u := u) (sd_n F)
  have k := sd_n_i w
  have m := w.1
  unfold sd_cst
  omega
def sd_bu (F : Nat → Int) (u : Nat) : Nat → Bool := fun k => sd_bn F k || u.testBit k
abbrev sd_btr (ls : List pz_lne) (F : Nat → Int) (u : Nat) (b : Int) : Prop := b = -1 ∨ sd_cst ls F u < sd_cst ls F b.toNat ∨ (sd_cst ls F u = sd_cst ls F b.toNat ∧ pz_cnt u.testBit 12 < pz_cnt b.toNat.testBit 12)
def sd_bs (ls : List pz_lne) (F : Nat → Int) (d : Nat) (h : Int) (u : Nat) (b : Int) : Int := if h ≤ sd_lsv ls F d (sd_bu F u) ∧ sd_btr ls F u b then (u : Int) else b
def sd_bf (ls : List pz_lne) (F : Nat → Int) (d : Nat) (h : Int) (C : Nat) : Nat → Int
  | 0 => -1
  | r + 1 => sd_bs ls F d h (sd_dep 12 C r) (sd_bf ls F d h C r)
theorem sd_bf_b {ls : List pz_lne} {F : Nat → Int} {d : Nat} {h : Int} {C : Nat} : ∀ r, -1 ≤ sd_bf ls F d h C r ∧ sd_bf ls F d h C r ≤ (C : Int) := by
  intro r
  induction r with
  | zero => exact ⟨Int.le_refl _, by show (-1 : Int) ≤ C; omega⟩
  | succ r ih =>
    have l := sd_dep_le 12 C r
    show -1 ≤ sd_bs ls F d h (sd_dep 12 C r) (sd_bf ls F d h C r) ∧ sd_bs ls F d h (sd_dep 12 C r) (sd_bf ls F d h C r) ≤ (C : Int)
    unfold sd_bs
    split <;> omega
def sd_bbe (ls : List pz_lne) (F : Nat → Int) (d : Nat) (h : Int) : Int := sd_bf ls F d h (sd_cC F) (2 ^ sd_pc 12 (sd_cC F))
def sd_brv (ls : List pz_lne) (F : Nat → Int) (d h w : Int) : Int := if (1 ≤ d ∧ d ≤ 60) ∧ (0 ≤ h ∧ h ≤ 1000000) ∧ 0 ≤ w ∧ w ≤ 1 then (if sd_bbe ls F d.toNat h = -1 ∨ w = 1 then sd_bbe ls F d.toNat h else pz_w (d * sd_cst ls F (sd_bbe ls F d.toNat h).toNat)) else -1
theorem sd_bu_0 {F : Nat → Int} {u : Nat} (w : sd_wf F) (hu : ∀ j, u.testBit j = true → (sd_cC F).testBit j = true) : sd_bu F u 0 = false := by
  have c : u.testBit 0 = false := by
    cases q : u.testBit 0 with
    | false => rfl
    | true =>
      have z := hu 0 q
      rw [sd_cC_t w] at z
      have z2 := of_decide_eq_true z
      exact absurd z2.2.2.1 (by decide)
  show (decide (((0 : Nat) : Int) < F 88 ∧ F (64 + 0) = 1) || u.testBit 0) = false
  rw [c, Bool.or_false]
  refine decide_eq_false (fun z => ?_)
  have p := (w.2.2 0 (by have := z.1; omega)).2.2.2.2.2.2
  have z2 := z.2
  omega
theorem sd_bu_z {F : Nat → Int} {x v : Int} {u : Nat} (h : pz_zs x (sd_bn F)) (hu : u < 4096) (hv : v = (Int32.ofInt x ||| Int32.ofInt (u : Int)).toInt) : pz_zs v (sd_bu F u) := by
  rw [hv]
  exact pz_sb_or h ⟨u, rfl, hu, fun _ => rfl⟩
/-- the model: all numbers up to s looked at -/
def sd_bmE (ls : List pz_lne) (F : Nat → Int) (d : Nat) (h b s : Int) : Prop := 0 ≤ s ∧ ∃ r : Nat, r ≤ 2 ^ sd_pc 12 (sd_cC F) ∧ (∀ q : Nat, q < r → (sd_dep 12 (sd_cC F) q : Int) < s) ∧ (r < 2 ^ sd_pc 12 (sd_cC F) → s ≤ (sd_dep 12 (sd_cC F) r : Int)) ∧ b = sd_bf ls F d h (sd_cC F) r
theorem sd_bmE_0 {ls : List pz_lne} {F : Nat → Int} {d : Nat} {h : Int} : sd_bmE ls F d h (-1) 0 := ⟨Int.le_refl _, 0, Nat.zero_le _, fun q hq => absurd hq (Nat.not_lt_zero _), fun _ => by omega, rfl⟩
theorem sd_bmE_n {ls : List pz_lne} {F : Nat → Int} {d : Nat} {h b s t : Int} (e : sd_bmE ls F d h b s) (ht : t = s + 1) (hn : ¬ ∀ j, s.toNat.testBit j = true → (sd_cC F).testBit j = true) : sd_bmE ls F d h b t := by
  obtain ⟨h0, r, h1, h2, h3, h4⟩ := e
  refine ⟨by omega, r, h1, fun q hq => by have := h2 q hq; omega, fun hr => ?_, h4⟩
  have l := h3 hr
  have ne : s ≠ (sd_dep 12 (sd_cC F) r : Int) := fun z => hn (by
    rw [show s.toNat = sd_dep 12 (sd_cC F) r by omega]
    exact sd_dep_s sd_cC_l)
  omega
theorem sd_bmE_y {ls : List pz_lne} {F : Nat → Int} {d : Nat} {h b s t c : Int} (e : sd_bmE ls F d h b s) (ht : t = s + 1) (hy : ∀ j, s.toNat.testBit j = true → (sd_cC F).testBit j = true) (hc : c = sd_bs ls F d h s.toNat b) : sd_bmE ls F d h c t := by
  obtain ⟨h0, r, h1, h2, h3, h4⟩ := e
  obtain ⟨q, q1, q2⟩ := sd_dep_x 12 (sd_cC F) s.toNat sd_cC_l hy
  have qr : q = r := by
    by_cases a : q < r
    · have := h2 q a
      omega
    · by_cases b : r < q
      · have m := sd_dep_m 12 (sd_cC F) r q b q1
        have l := h3 (by omega)
        omega
      · omega
  rw [qr] at q1 q2
  refine ⟨by omega, r + 1, q1, fun k hk => ?_, fun hr => ?_, ?_⟩
  · by_cases a : k < r
    · have := h2 k a
      omega
    · rw [show k = r by omega]
      omega
  · have m := sd_dep_m 12 (sd_cC F) r (r + 1) (by omega) hr
    omega
  · rw [hc, ← q2, h4]
    rfl
theorem sd_bmE_z {ls : List pz_lne} {F : Nat → Int} {d : Nat} {h b s : Int} (e : sd_bmE ls F d h b s) (hs : (sd_cC F : Int) < s) : b = sd_bbe ls F d h := by
  obtain ⟨h0, r, h1, h2, h3, h4⟩ := e
  have l := sd_dep_le 12 (sd_cC F) r
  have rr : r = 2 ^ sd_pc 12 (sd_cC F) := by
    by_cases a : r < 2 ^ sd_pc 12 (sd_cC F)
    · have := h3 a
      omega
    · omega
  rw [h4, rr]
  rfl
theorem sd_bmE_b {ls : List pz_lne} {F : Nat → Int} {d : Nat} {h b s : Int} (e : sd_bmE ls F d h b s) : -1 ≤ b ∧ b < 4096 := by
  obtain ⟨h0, r, h1, h2, h3, h4⟩ := e
  have a := sd_bf_b (ls := ls) (F := F) (d := d) (h := h) (C := sd_cC F) r
  have l := sd_cC_l (F := F)
  omega
theorem sd_cbn_e {F : Nat → Int} {x : Int} (h0 : 0 ≤ x) (hx : x = F 88) : ∀ k, (decide (k < x.toNat) && decide (sd_cb F k)) = decide (sd_cb F k) := fun k => by
  by_cases z : sd_cb F k
  · have z1 := z.1
    rw [decide_eq_true z, decide_eq_true (show k < x.toNat by omega)]
    rfl
  · rw [decide_eq_false z, Bool.and_false]
theorem sd_sub0 {s C : Nat} {v : Int} (h : pz_zs v (fun k => s.testBit k && !C.testBit k)) : v = 0 ↔ ∀ j, s.testBit j = true → C.testBit j = true := by
  obtain ⟨t, h1, h2, h3⟩ := h
  have h3 : ∀ k, t.testBit k = (s.testBit k && !C.testBit k) := h3
  constructor
  · intro z j hj
    have b := h3 j
    rw [show t = 0 by omega, Nat.zero_testBit, hj, Bool.true_and] at b
    cases q : C.testBit j with
    | true => rfl
    | false =>
      rw [q] at b
      cases b
  · intro z
    have e : t = 0 := Nat.eq_of_testBit_eq (fun j => by
      rw [h3 j, Nat.zero_testBit]
      cases q : s.testBit j with
      | false => rfl
      | true =>
        rw [z j q]
        rfl)
    omega
theorem sd_zsn {v : Int} (h0 : 0 ≤ v) (h1 : v < 4096) : pz_zs v v.toNat.testBit := ⟨v.toNat, by omega, by omega, fun _ => rfl⟩
/-- the class: r subsets looked at -/
def sd_bcE (ls : List pz_lne) (F : Nat → Int) (d : Nat) (h best cost ones i : Int) (t : Nat) : Prop := ∃ r : Nat, (r : Int) + i = ((2 ^ sd_pc 12 (sd_cC F) : Nat) : Int) ∧ ones = (sd_dep 12 (sd_cC F) r : Int) ∧ best = sd_bf ls F d h (sd_cC F) (r + t) ∧ (best ≠ -1 → cost = sd_cst ls F best.toNat)
theorem sd_bcE_0 {ls : List pz_lne} {F : Nat → Int} {d : Nat} {h i v : Int} (hv : pz_bcx (sd_cC F : Int) v) (hi : i = (Int32.ofInt 1 <<< (Int32.ofInt v &&& 31)).toInt) : sd_bcE ls F d h (-1) 0 0 i 0 ∧ 0 ≤ i := by
  have c := hv (sd_cC F).testBit ⟨sd_cC F, rfl, sd_cC_l, fun _ => rfl⟩
  rw [← sd_pc_c] at c
  have l := sd_pc_l (C := sd_cC F)
  rw [c, pz_shv (by omega) (by omega), Int.toNat_natCast] at hi
  refine ⟨⟨0, by omega, ?_, rfl, fun z => absurd rfl z⟩, by rw [hi]; exact Int.natCast_nonneg _⟩
  have z : ∀ k C : Nat, sd_dep k C 0 = 0 := by
    intro k
    induction k with
    | zero => exact fun C => rfl
    | succ k ih =>
      intro C
      by_cases q : C % 2 = 1
      · rw [sd_dep_1 q, ih]
      · rw [sd_dep_0 q, ih]
  rw [z]
  rfl
theorem sd_bcE_b {ls : List pz_lne} {F : Nat → Int} {d t : Nat} {h best cost ones i : Int} (e : sd_bcE ls F d h best cost ones i t) : (-1 ≤ best ∧ best < 4096) ∧ 0 ≤ ones ∧ ones < 4096 := by
  obtain ⟨r, h1, h2, h3, h4⟩ := e
  have a := sd_bf_b (ls := ls) (F := F) (d := d) (h := h) (C := sd_cC F) (r + t)
  have l := sd_cC_l (F := F)
  have m := sd_dep_le 12 (sd_cC F) r
  omega
theorem sd_bcE_y {ls : List pz_lne} {F : Nat → Int} {d : Nat} {h best cost ones i c : Int} (e : sd_bcE ls F d h best cost ones i 0) (hk : h ≤ sd_lsv ls F d (sd_bu F ones.toNat)) (hb : sd_btr ls F ones.toNat best) (hc : c = sd_cst ls F ones.toNat) : sd_bcE ls F d h ones c ones i 1 := by
  obtain ⟨r, h1, h2, h3, h4⟩ := e
  have n : sd_dep 12 (sd_cC F) r = ones.toNat := by omega
  refine ⟨r, h1, h2, ?_, fun _ => hc⟩
  show ones = sd_bs ls F d h (sd_dep 12 (sd_cC F) r) (sd_bf ls F d h (sd_cC F) r)
  rw [n, show sd_bf ls F d h (sd_cC F) r = best from h3.symm]
  refine Eq.trans ?_ (if_pos ⟨hk, hb⟩).symm
  omega
theorem sd_bcE_n {ls : List pz_lne} {F : Nat → Int} {d : Nat} {h best cost ones i : Int} (e : sd_bcE ls F d h best cost ones i 0) (hk : ¬ (h ≤ sd_lsv ls F d (sd_bu F ones.toNat) ∧ sd_btr ls F ones.toNat best)) : sd_bcE ls F d h best cost ones i 1 := by
  obtain ⟨r, h1, h2, h3, h4⟩ := e
  have n : sd_dep 12 (sd_cC F) r = ones.toNat := by omega
  refine ⟨r, h1, h2, ?_, h4⟩
  show best = sd_bs ls F d h (sd_dep 12 (sd_cC F) r) (sd_bf ls F d h (sd_cC F) r)
  rw [n, show sd_bf ls F d h (sd_cC F) r = best from h3.symm]
  exact (if_neg hk).symm
theorem sd_bcE_s {ls : List pz_lne} {F : Nat → Int} {d : Nat} {h best cost ones i j can v w : Int} (e : sd_bcE ls F d h best cost ones i 1) (hc : can = (sd_cC F : Int)) (hv : v = pz_w (ones - can)) (hw : w = (Int32.ofInt v &&& Int32.ofInt can).toInt) (hj : j = i - 1) : sd_bcE ls F d h best cost w j 0 := by
  obtain ⟨r, h1, h2, h3, h4⟩ := e
  rw [hc] at hv hw
  rw [h2] at hv
  exact ⟨r + 1, by omega, sd_nxt sd_cC_l rfl hv hw, h3, h4⟩
theorem sd_bcE_z {ls : List pz_lne} {F : Nat → Int} {d : Nat} {h best cost ones i : Int} (e : sd_bcE ls F d h best cost ones i 0) (hi : i = 0) : best = sd_bbe ls F d h := by
  obtain ⟨r, h1, h2, h3, h4⟩ := e
  rw [h3, show r + 0 = 2 ^ sd_pc 12 (sd_cC F) by omega]
  rfl
