section
theorem pz_w_b (z : Int) : pz_w z = z.bmod 4294967296 := by
  unfold pz_w Int.bmod
  simp only []
  split <;> omega
theorem pz_wl_b (z : Int) : pz_wl z = z.bmod 18446744073709551616 := by
  unfold pz_wl Int.bmod
  simp only []
  split <;> omega
theorem pz_wi {z : Int} (h1 : -2147483648 ≤ z) (h2 : z ≤ 2147483647) : pz_w z = z := by unfold pz_w; omega
theorem pz_wli {z : Int} (h1 : -9223372036854775808 ≤ z) (h2 : z ≤ 9223372036854775807) : pz_wl z = z := by unfold pz_wl; omega
theorem pz_wc (z : Int) : pz_c (pz_w z) := by unfold pz_c pz_w; omega
theorem pz_wlc (z : Int) : pz_cl (pz_wl z) := by unfold pz_cl pz_wl; omega
theorem pz_tc (v : Int32) : pz_c v.toInt := ⟨by have := Int32.le_toInt v; omega, by have := Int32.toInt_lt v; omega⟩
theorem pz_tcl (v : Int64) : pz_cl v.toInt := ⟨by have := Int64.le_toInt v; omega, by have := Int64.toInt_lt v; omega⟩
theorem pz_ofw (z : Int) : Int32.ofInt (pz_w z) = Int32.ofInt z := by
  apply Int32.toInt_inj.mp
  rw [Int32.toInt_ofInt, Int32.toInt_ofInt, pz_w_b]
  exact Int.bmod_bmod
theorem pz_ofwl (z : Int) : Int64.ofInt (pz_wl z) = Int64.ofInt z := by
  apply Int64.toInt_inj.mp
  rw [Int64.toInt_ofInt, Int64.toInt_ofInt, pz_wl_b]
  exact Int.bmod_bmod
theorem pz_ti {x : Int} (h : pz_c x) : (Int32.ofInt x).toInt = x := Int32.toInt_ofInt_of_le (by have := h.1; omega) (by have := h.2; omega)
theorem pz_tl {x : Int} (h : pz_cl x) : (Int64.ofInt x).toInt = x := Int64.toInt_ofInt_of_le (by have := h.1; omega) (by have := h.2; omega)
theorem pz_add (x y : Int) : Int32.ofInt x + Int32.ofInt y = Int32.ofInt (pz_w (x + y)) := by rw [pz_ofw, Int32.ofInt_add]
theorem pz_sub (x y : Int) : Int32.ofInt x - Int32.ofInt y = Int32.ofInt (pz_w (x - y)) := by rw [pz_ofw, Int32.ofInt_sub]
theorem pz_mul (x y : Int) : Int32.ofInt x * Int32.ofInt y = Int32.ofInt (pz_w (x * y)) := by rw [pz_ofw, Int32.ofInt_mul]
theorem pz_div {x y : Int} (hx : pz_c x) (hy : pz_c y) : Int32.ofInt x / Int32.ofInt y = Int32.ofInt (pz_w (x.tdiv y)) := by
  apply Int32.toInt_inj.mp
  rw [Int32.toInt_div, pz_ti hx, pz_ti hy, Int32.toInt_ofInt, pz_w_b]
  exact Int.bmod_bmod.symm
theorem pz_rem {x y : Int} (hx : pz_c x) (hy : pz_c y) : Int32.ofInt x - Int32.ofInt x / Int32.ofInt y * Int32.ofInt y = Int32.ofInt (pz_w (x.tmod y)) := by
  rw [pz_div hx hy, pz_mul, pz_sub, pz_ofw, pz_ofw]
  have e : x.tmod y = x - x.tdiv y * y := by
    have := Int.mul_tdiv_add_tmod x y
    rw [Int.mul_comm] at this
    omega
  rw [e, Int32.ofInt_sub, Int32.ofInt_sub, pz_ofw, Int32.ofInt_mul, Int32.ofInt_mul, pz_ofw]
theorem pz_ladd (x y : Int) : Int64.ofInt x + Int64.ofInt y = Int64.ofInt (pz_wl (x + y)) := by rw [pz_ofwl, Int64.ofInt_add]
theorem pz_lsub (x y : Int) : Int64.ofInt x - Int64.ofInt y = Int64.ofInt (pz_wl (x - y)) := by rw [pz_ofwl, Int64.ofInt_sub]
theorem pz_lmul (x y : Int) : Int64.ofInt x * Int64.ofInt y = Int64.ofInt (pz_wl (x * y)) := by rw [pz_ofwl, Int64.ofInt_mul]
theorem pz_ldiv {x y : Int} (hx : pz_cl x) (hy : pz_cl y) : Int64.ofInt x / Int64.ofInt y = Int64.ofInt (pz_wl (x.tdiv y)) := by
  apply Int64.toInt_inj.mp
  rw [Int64.toInt_div, pz_tl hx, pz_tl hy, Int64.toInt_ofInt, pz_wl_b]
  exact Int.bmod_bmod.symm
theorem pz_lt {x y : Int} (hx : pz_c x) (hy : pz_c y) : Int32.ofInt x < Int32.ofInt y ↔ x < y := by rw [Int32.lt_iff_toInt_lt, pz_ti hx, pz_ti hy]
theorem pz_le {x y : Int} (hx : pz_c x) (hy : pz_c y) : Int32.ofInt x ≤ Int32.ofInt y ↔ x ≤ y := by rw [Int32.le_iff_toInt_le, pz_ti hx, pz_ti hy]
theorem pz_eq {x y : Int} (hx : pz_c x) (hy : pz_c y) : Int32.ofInt x = Int32.ofInt y ↔ x = y := by rw [← Int32.toInt_inj, pz_ti hx, pz_ti hy]
theorem pz_ne0 {y : Int} (hy : pz_c y) (h : ¬ y = 0) : ¬ Int32.ofInt y = 0 := fun q => h ((pz_eq hy (by unfold pz_c; omega)).mp q)
theorem pz_lne0 {y : Int} (hy : pz_cl y) (h : ¬ y = 0) : ¬ Int64.ofInt y = 0 := fun q => h (by
  have := congrArg Int64.toInt q
  rw [pz_tl hy] at this
  exact this)
theorem pz_i2l {x : Int} (hx : pz_c x) : (Int32.ofInt x).toInt64 = Int64.ofInt x := by
  apply Int64.toInt_inj.mp
  rw [Int32.toInt_toInt64, pz_ti hx, pz_tl]
  have := hx.1
  have := hx.2
  unfold pz_cl
  omega
theorem pz_l2i {x : Int} (hx : pz_cl x) : (Int64.ofInt x).toInt32 = Int32.ofInt (pz_w x) := by
  apply Int32.toInt_inj.mp
  rw [Int64.toInt_toInt32, pz_tl hx, Int32.toInt_ofInt, pz_w_b]
  exact Int.bmod_bmod.symm
theorem pz_lcmp {x y : Int} (hx : pz_cl x) (hy : pz_cl y) : (x < y → lg_cmp (Int64.ofInt x) (Int64.ofInt y) = Int32.ofInt (-1)) ∧ (x = y → lg_cmp (Int64.ofInt x) (Int64.ofInt y) = Int32.ofInt 0) ∧ (y < x → lg_cmp (Int64.ofInt x) (Int64.ofInt y) = Int32.ofInt 1) := by
  have h1 : ∀ a b : Int, pz_cl a → pz_cl b → (Int64.ofInt a < Int64.ofInt b ↔ a < b) := fun a b ha hb => by rw [Int64.lt_iff_toInt_lt, pz_tl ha, pz_tl hb]
  have h2 : Int64.ofInt x = Int64.ofInt y ↔ x = y := by rw [← Int64.toInt_inj, pz_tl hx, pz_tl hy]
  unfold lg_cmp
  refine ⟨fun h => ?_, fun h => ?_, fun h => ?_⟩
  · rw [if_neg (fun q => absurd ((h1 y x hy hx).mp q) (by omega)), if_neg (fun q => absurd (h2.mp q) (by omega))]; rfl
  · rw [if_neg (fun q => absurd ((h1 y x hy hx).mp q) (by omega)), if_pos (h2.mpr h)]; rfl
  · rw [if_pos ((h1 y x hy hx).mpr h)]; rfl
theorem pz_in {x : Int} {n : Nat} (h0 : 0 ≤ x) (h1 : x < (n : Int)) (hc : pz_c x) : vp_in (Int32.ofInt x) n := vp_in_iff.mpr ⟨by rw [pz_ti hc]; exact h0, by rw [pz_ti hc]; exact h1⟩
theorem pz_clamp {x : Int} (hc : pz_c x) : (Int32.ofInt x).toNatClampNeg = x.toNat := by
  show (Int32.ofInt x).toInt.toNat = x.toNat
  rw [pz_ti hc]
theorem pz_bip {v : Int} (h1 : -128 ≤ v) (h2 : v ≤ 127) : (Int8.ofInt v).toInt32 = Int32.ofInt v := by
  apply Int32.toInt_inj.mp
  rw [Int8.toInt_toInt32, Int8.toInt_ofInt_of_le (by omega) (by omega), pz_ti ⟨by omega, by omega⟩]
theorem pz_sip {v : Int} (h1 : -32768 ≤ v) (h2 : v ≤ 32767) : (Int16.ofInt v).toInt32 = Int32.ofInt v := by
  apply Int32.toInt_inj.mp
  rw [Int16.toInt_toInt32, Int16.toInt_ofInt_of_le (by omega) (by omega), pz_ti ⟨by omega, by omega⟩]
theorem pz_uu {M : pz_M} {a k : Nat} {v : Int} : pz_u M a k v a k = v := by simp [pz_u]
theorem pz_una {M : pz_M} {a k b j : Nat} {v : Int} (h : b ≠ a) : pz_u M a k v b j = M b j := by simp [pz_u, h]
theorem pz_unk {M : pz_M} {a k b j : Nat} {v : Int} (h : j ≠ k) : pz_u M a k v b j = M b j := by simp [pz_u, h]
theorem pz_get_spec : ∀ (lo : pz_L) (k : Nat) (f : pz_V → Prop), pz_get lo k f → ∃ v, lo[k]? = some (some v) ∧ f v
  | [], _, _, h => by simp [pz_get] at h
  | some v :: _, 0, f, h => ⟨v, by simp, h⟩
  | none :: _, 0, f, h => by simp [pz_get] at h
  | _ :: t, k + 1, f, h => by
    obtain ⟨v, h1, h2⟩ := pz_get_spec t k f (by simpa [pz_get] using h)
    exact ⟨v, by simpa using h1, h2⟩
theorem pz_kl_spec {h : Option pz_V} {w : pz_V} (e : pz_kl h = some w) : h = some w ∧ pz_cat w = 1 := by
  match h, e with
  | none, e => simp [pz_kl] at e
  | some (.inl x), e => simp [pz_kl] at e; subst e; exact ⟨rfl, rfl⟩
  | some (.inr (.inl x)), e => simp [pz_kl] at e
  | some (.inr (.inr x)), e => simp [pz_kl] at e; subst e; exact ⟨rfl, rfl⟩
theorem pz_set_spec : ∀ (lo : pz_L) (k : Nat) (v : pz_V) (f : pz_L → Prop), pz_set lo k v f → ∃ lo', f lo' ∧ k < lo.length ∧ lo'.length = lo.length ∧ lo'[k]? = some (some v) ∧ ∀ (i : Nat) (w : pz_V), i ≠ k → lo'[i]? = some (some w) → lo[i]? = some (some w) ∧ ¬ (i + 1 = k ∧ pz_cat w = 2)
  | [], _, _, _, h => by simp [pz_set] at h
  | a :: t, 0, v, f, h => by
    refine ⟨some v :: t, by simpa [pz_set] using h, by simp, by simp, by simp, fun i w hi e => ?_⟩
    cases i with
    | zero => exact absurd rfl hi
    | succ i => exact ⟨by simpa using e, by omega⟩
  | a :: b :: t, 1, v, f, h => by
    refine ⟨pz_kl a :: some v :: t, by simpa [pz_set] using h, by simp, by simp, by simp, fun i w hi e => ?_⟩
    match i, hi, e with
    | 0, _, e =>
      have e2 := pz_kl_spec (show pz_kl a = some w by simpa using e)
      exact ⟨by simp [e2.1], fun q => by have := e2.2; omega⟩
    | 1, hi, _ => exact absurd rfl hi
    | i + 2, _, e => exact ⟨by simpa using e, by omega⟩
  | [a], 1, v, f, h => by simp [pz_set] at h
  | a :: t, k + 2, v, f, h => by
    obtain ⟨lo', h1, h2, h3, h4, h5⟩ := pz_set_spec t (k + 1) v (fun t' => f (a :: t')) (by simpa [pz_set] using h)
    refine ⟨a :: lo', h1, by simp; omega, by simp [h3], by simpa using h4, fun i w hi e => ?_⟩
    cases i with
    | zero => exact ⟨by simpa using e, by omega⟩
    | succ i =>
      obtain ⟨q1, q2⟩ := h5 i w (by omega) (by simpa using e)
      exact ⟨by simpa using q1, fun q => q2 ⟨by omega, q.2⟩⟩
theorem pz_setl_spec : ∀ (lo : pz_L) (k : Nat) (v : pz_V) (f : pz_L → Prop), pz_setl lo k v f → ∃ lo', f lo' ∧ k + 1 < lo.length ∧ lo'.length = lo.length ∧ lo'[k]? = some (some v) ∧ ∀ (i : Nat) (w : pz_V), i ≠ k → lo'[i]? = some (some w) → lo[i]? = some (some w) ∧ i ≠ k + 1 ∧ ¬ (i + 1 = k ∧ pz_cat w = 2)
  | [], _, _, _, h => by simp [pz_setl] at h
  | [a], 0, _, _, h => by simp [pz_setl] at h
  | [a], 1, _, _, h => by simp [pz_setl] at h
  | [a, b], 1, _, _, h => by simp [pz_setl] at h
  | a :: b :: t, 0, v, f, h => by
    refine ⟨some v :: none :: t, by simpa [pz_setl] using h, by simp, by simp, by simp, fun i w hi e => ?_⟩
    match i, hi, e with
    | 0, hi, _ => exact absurd rfl hi
    | 1, _, e => simp at e
    | i + 2, _, e => exact ⟨by simpa using e, by omega, by omega⟩
  | a :: b :: c :: t, 1, v, f, h => by
    refine ⟨pz_kl a :: some v :: none :: t, by simpa [pz_setl] using h, by simp, by simp, by simp, fun i w hi e => ?_⟩
    match i, hi, e with
    | 0, _, e =>
      have e2 := pz_kl_spec (show pz_kl a = some w by simpa using e)
      exact ⟨by simp [e2.1], by omega, fun q => by have := e2.2; omega⟩
    | 1, hi, _ => exact absurd rfl hi
    | 2, _, e => simp at e
    | i + 3, _, e => exact ⟨by simpa using e, by omega, by omega⟩
  | a :: t, k + 2, v, f, h => by
    obtain ⟨lo', h1, h2, h3, h4, h5⟩ := pz_setl_spec t (k + 1) v (fun t' => f (a :: t')) (by simpa [pz_setl] using h)
    refine ⟨a :: lo', h1, by simp; omega, by simp [h3], by simpa using h4, fun i w hi e => ?_⟩
    cases i with
    | zero => exact ⟨by simpa using e, by omega, by omega⟩
    | succ i =>
      obtain ⟨q1, q2, q3⟩ := h5 i w (by omega) (by simpa using e)
      exact ⟨by simpa using q1, by omega, fun q => q3 ⟨by omega, q.2⟩⟩
end
