/-! how likely one gets ready, reckoned downwards -/
def pz_lf (r : Int) : Nat → Int
  | 0 => 1000000
  | n + 1 => pz_lf r n * (1000 - r) / 1000
theorem pz_lf_b {r : Int} (h0 : 0 ≤ r) (h1 : r ≤ 1000) : ∀ n : Nat, 0 ≤ pz_lf r n ∧ pz_lf r n ≤ 1000000 := by
  intro n
  induction n with
  | zero => exact ⟨by unfold pz_lf; omega, by unfold pz_lf; omega⟩
  | succ n ih =>
    have a1 : 0 ≤ pz_lf r n * (1000 - r) := Int.mul_nonneg ih.1 (by omega)
    have a2 : pz_lf r n * (1000 - r) ≤ 1000000 * 1000 := Int.mul_le_mul ih.2 (by omega) (by omega) (by omega)
    show 0 ≤ pz_lf r n * (1000 - r) / 1000 ∧ pz_lf r n * (1000 - r) / 1000 ≤ 1000000
    omega
theorem pz_m9 {x y a b : Int} (hx0 : 0 ≤ x) (hx : x ≤ a) (hy0 : 0 ≤ y) (hy : y ≤ b) : 0 ≤ x * y ∧ x * y ≤ a * b :=
  ⟨Int.mul_nonneg hx0 hy0, Int.mul_le_mul hx hy hy0 (by omega)⟩
def pz_lnx (x y v : Int) : Prop := 0 ≤ x → x ≤ 1000000 → 0 ≤ y → y ≤ 1000 → v = x * (1000 - y) / 1000
def pz_lax (r d v : Int) : Prop := 0 ≤ r → r ≤ 1000 → 0 ≤ d → v = pz_lf r d.toNat
def pz_chx (r d v : Int) : Prop := 0 ≤ r → r ≤ 1000 → 0 ≤ d → v = 1000000 - pz_lf r d.toNat
def pz_tmx (a b v : Int) : Prop := 0 ≤ a → a ≤ 1000000 → 0 ≤ b → b ≤ 1000000 → v = a * b / 1000000
/-- how many, all with e of a million -/
def pz_mc (e : Int) : Nat → Int → Int → Int
  | 0, _, i => i
  | n + 1, a, i => if a * e / 1000000 < 500000 then i else pz_mc e n (a * e / 1000000) (i + 1)
theorem pz_mc0 {e a i : Int} {n : Nat} (h : n = 0) : pz_mc e n a i = i := by subst h; rfl
theorem pz_mcS {e a i b : Int} {n m : Nat} (h : n = m + 1) (hb : b = a * e / 1000000) (hn : ¬ b < 500000) : pz_mc e n a i = pz_mc e m b (i + 1) := by
  subst h; subst hb
  show (if a * e / 1000000 < 500000 then i else pz_mc e m (a * e / 1000000) (i + 1)) = _
  rw [if_neg hn]
theorem pz_mcR {e a i b : Int} {n m : Nat} (h : n = m + 1) (hb : b = a * e / 1000000) (hn : b < 500000) : pz_mc e n a i = i := by
  subst h; subst hb
  show (if a * e / 1000000 < 500000 then i else pz_mc e m (a * e / 1000000) (i + 1)) = _
  rw [if_pos hn]
