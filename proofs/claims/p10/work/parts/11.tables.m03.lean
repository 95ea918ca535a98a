section
theorem pz_uve {M M1 : pz_M} {a k : Nat} {v : Int} (e : M1 = pz_u M a k v) (b j : Nat) : (b = a ∧ j = k ∧ M1 b j = v) ∨ (¬ (b = a ∧ j = k) ∧ M1 b j = M b j) := by
  subst e
  exact pz_uv M a k v b j
theorem pz_i2b (x : Int) : -128 ≤ (Int32.ofInt x).toInt8.toInt32.toInt ∧ (Int32.ofInt x).toInt8.toInt32.toInt ≤ 127 := by
  rw [Int8.toInt_toInt32]
  have h1 := Int8.le_toInt (Int32.ofInt x).toInt8
  have h2 := Int8.toInt_lt (Int32.ofInt x).toInt8
  omega
end
