section
theorem pz_kd0 {a : Nat} (h : pz_kd a = 0) : 71 ≤ a ∧ a < 80 := by
  have key : ∀ a, a < 206 → pz_kd a = 0 → 71 ≤ a ∧ a < 80 := by decide +kernel
  exact key a (pz_kd_lo h (by decide)) h
theorem pz_kd1 {a : Nat} (h : pz_kd a = 1) : a = 2 := by
  have key : ∀ a, a < 206 → pz_kd a = 1 → a = 2 := by decide +kernel
  exact key a (pz_kd_lo h (by decide)) h
theorem pz_kd2 {a : Nat} (h : pz_kd a = 2) : a = 3 := by
  have key : ∀ a, a < 206 → pz_kd a = 2 → a = 3 := by decide +kernel
  exact key a (pz_kd_lo h (by decide)) h
theorem pz_kd3 {a : Nat} (h : pz_kd a = 3) : 10 ≤ a ∧ a < 13 := by
  have key : ∀ a, a < 206 → pz_kd a = 3 → 10 ≤ a ∧ a < 13 := by decide +kernel
  exact key a (pz_kd_lo h (by decide)) h
theorem pz_kd4 {a : Nat} (h : pz_kd a = 4) : a = 6 := by
  have key : ∀ a, a < 206 → pz_kd a = 4 → a = 6 := by decide +kernel
  exact key a (pz_kd_lo h (by decide)) h
theorem pz_kd5 {a : Nat} (h : pz_kd a = 5) : 89 ≤ a ∧ a < 206 := by
  have key : ∀ a, a < 206 → pz_kd a = 5 → 89 ≤ a ∧ a < 206 := by decide +kernel
  exact key a (pz_kd_lo h (by decide)) h
theorem pz_kd6 {a : Nat} (h : pz_kd a = 6) : 13 ≤ a ∧ a < 20 := by
  have key : ∀ a, a < 206 → pz_kd a = 6 → 13 ≤ a ∧ a < 20 := by decide +kernel
  exact key a (pz_kd_lo h (by decide)) h
theorem pz_kd7 {a : Nat} (h : pz_kd a = 7) : a = 4 := by
  have key : ∀ a, a < 206 → pz_kd a = 7 → a = 4 := by decide +kernel
  exact key a (pz_kd_lo h (by decide)) h
theorem pz_kd8 {a : Nat} (h : pz_kd a = 8) : a = 7 := by
  have key : ∀ a, a < 206 → pz_kd a = 8 → a = 7 := by decide +kernel
  exact key a (pz_kd_lo h (by decide)) h
theorem pz_kd9 {a : Nat} (h : pz_kd a = 9) : a = 5 := by
  have key : ∀ a, a < 206 → pz_kd a = 9 → a = 5 := by decide +kernel
  exact key a (pz_kd_lo h (by decide)) h
theorem pz_kd10 {a : Nat} (h : pz_kd a = 10) : 8 ≤ a ∧ a < 10 := by
  have key : ∀ a, a < 206 → pz_kd a = 10 → 8 ≤ a ∧ a < 10 := by decide +kernel
  exact key a (pz_kd_lo h (by decide)) h
theorem pz_kd11 {a : Nat} (h : pz_kd a = 11) : a = 0 := by
  have key : ∀ a, a < 206 → pz_kd a = 11 → a = 0 := by decide +kernel
  exact key a (pz_kd_lo h (by decide)) h
theorem pz_kd12 {a : Nat} (h : pz_kd a = 12) : a = 1 := by
  have key : ∀ a, a < 206 → pz_kd a = 12 → a = 1 := by decide +kernel
  exact key a (pz_kd_lo h (by decide)) h
theorem pz_kd99 {a : Nat} (h : pz_kd a = 99) : 206 ≤ a := by
  rcases Nat.lt_or_ge a 206 with q | q
  · have key : ∀ a, a < 206 → pz_kd a ≠ 99 := by decide +kernel
    exact absurd h (key a q)
  · exact q
/-- what a class' method leaves: the model's memory; and the other way round -/
def pz_mid (b : Nat) : Prop := b = 1 ∨ (60 ≤ b ∧ b < 71)
def pz_ic (M : pz_M) : Prop :=
  (∀ c, 71 ≤ c → c < 80 → 0 ≤ M c 3 ∧ M c 3 ≤ 12 ∧ 0 ≤ M c 7 ∧ M c 7 ≤ 150) ∧ (0 ≤ M 3 1 ∧ M 3 1 ≤ 5) ∧ (∀ r, 13 ≤ r → r < 20 → 0 ≤ M r 0 ∧ M r 0 ≤ 16) ∧ (∀ L, 10 ≤ L → L < 13 → 0 ≤ M L 0 ∧ M L 0 ≤ 16 ∧ 0 ≤ M L 1 ∧ M L 1 ≤ 400) ∧ (0 ≤ M 4 1 ∧ M 4 1 ≤ 400) ∧ (0 ≤ M 7 3 ∧ M 7 3 ≤ 12)
/-- a step of the class: its invariant and the model's memory stay; pz_st: the length of the tape and the number of open ones, too -/
def pz_ko (b j : Nat) : Prop := (b = 0 ∧ j = 13) ∨ b = 3 ∨ (j = 3 ∧ 71 ≤ b ∧ b ≠ 72 ∧ ¬ (102 ≤ b ∧ b < 115)) ∨ (b = 5 ∧ (j = 3 ∨ j = 4)) ∨ b = 48
def pz_kx (b j : Nat) : Prop := (b = 0 ∧ j = 13) ∨ b = 3 ∨ (j = 3 ∧ 71 ≤ b ∧ b ≠ 72 ∧ ¬ (102 ≤ b ∧ b < 115)) ∨ (b = 5 ∧ (j = 3 ∨ j = 4)) ∨ b = 48 ∨ (10 ≤ b ∧ b ≤ 37 ∧ b ≠ 12 ∧ b ≠ 19 ∧ b ≠ 26 ∧ b ≠ 32)
def pz_md (b j : Nat) : Prop := pz_mid b ∨ pz_kx b j
def pz_mq0 (b j : Nat) : Prop := pz_mid b ∨ pz_ko b j
theorem pz_mo_md {b j : Nat} (h : pz_mq0 b j) : pz_md b j := by
  rcases h with h | h
  · exact Or.inl h
  · exact Or.inr (by unfold pz_ko at h; unfold pz_kx; omega)
def pz_sy (M M' : pz_M) : Prop := (pz_ic M → pz_ic M') ∧ ∀ b j : Nat, pz_md b j → M' b j = M b j
def pz_si (M M' : pz_M) : Prop := (pz_ic M → pz_ic M') ∧ (∀ b j : Nat, pz_mid b → M' b j = M b j) ∧ M' 4 1 = M 4 1 ∧ M' 5 9 = M 5 9
theorem pz_si.rf {M : pz_M} : pz_si M M := ⟨id, fun _ _ _ => rfl, rfl, rfl⟩
theorem pz_si.tr {M M' M'' : pz_M} (h : pz_si M M') (h' : pz_si M' M'') : pz_si M M'' := ⟨fun q => h'.1 (h.1 q), fun b j q => (h'.2.1 b j q).trans (h.2.1 b j q), h'.2.2.1.trans h.2.2.1, h'.2.2.2.trans h.2.2.2⟩
def pz_st (M M' : pz_M) : Prop := pz_sy M M' ∧ M' 4 1 = M 4 1 ∧ M' 5 9 = M 5 9
theorem pz_sy.rf {M : pz_M} : pz_sy M M := ⟨id, fun _ _ _ => rfl⟩
theorem pz_sy.tr {M M' M'' : pz_M} (h : pz_sy M M') (h' : pz_sy M' M'') : pz_sy M M'' := ⟨fun q => h'.1 (h.1 q), fun b j q => (h'.2 b j q).trans (h.2 b j q)⟩
theorem pz_st.rf {M : pz_M} : pz_st M M := ⟨pz_sy.rf, rfl, rfl⟩
theorem pz_st.tr {M M' M'' : pz_M} (h : pz_st M M') (h' : pz_st M' M'') : pz_st M M'' := ⟨h.1.tr h'.1, h'.2.1.trans h.2.1, h'.2.2.trans h.2.2⟩
/-- the invariant alone -/
def pz_rt (M M' : pz_M) : Prop := pz_ic M → pz_ic M'
theorem pz_rt.rf {M : pz_M} : pz_rt M M := id
theorem pz_rt.tr {M M' M'' : pz_M} (h : pz_rt M M') (h' : pz_rt M' M'') : pz_rt M M'' := fun q => h' (h q)
theorem pz_st.rt {M M' : pz_M} (h : pz_st M M') : pz_rt M M' := h.1.1
/-- what may be put where -/
def pz_iok (a k : Nat) (v : Int) : Prop :=
  (71 ≤ a → a < 80 → k = 3 → 0 ≤ v ∧ v ≤ 12) ∧ (71 ≤ a → a < 80 → k = 7 → 0 ≤ v ∧ v ≤ 150) ∧ (a = 3 → k = 1 → 0 ≤ v ∧ v ≤ 5) ∧ (13 ≤ a → a < 20 → k = 0 → 0 ≤ v ∧ v ≤ 16) ∧ (10 ≤ a → a < 13 → k = 0 → 0 ≤ v ∧ v ≤ 16) ∧ (10 ≤ a → a < 13 → k = 1 → 0 ≤ v ∧ v ≤ 400) ∧ (a = 4 → k = 1 → 0 ≤ v ∧ v ≤ 400) ∧ (a = 7 → k = 3 → 0 ≤ v ∧ v ≤ 12)
theorem pz_uv (M : pz_M) (a k : Nat) (v : Int) (b j : Nat) : (b = a ∧ j = k ∧ pz_u M a k v b j = v) ∨ (¬ (b = a ∧ j = k) ∧ pz_u M a k v b j = M b j) := by
  unfold pz_u
  by_cases h : b = a ∧ j = k
  · exact Or.inl ⟨h.1, h.2, if_pos h⟩
  · exact Or.inr ⟨h, if_neg h⟩
theorem pz_ic_u {M : pz_M} {a k : Nat} {v : Int} (h : pz_iok a k v) (hI : pz_ic M) : pz_ic (pz_u M a k v) := by
  obtain ⟨i1, i2, i3, i4, i5, i6⟩ := hI
  obtain ⟨o1, o2, o3, o4, o5, o6, o7, o8⟩ := h
  refine ⟨fun c h1 h2 => ?_, ?_, fun r h1 h2 => ?_, fun L h1 h2 => ?_, ?_, ?_⟩
  · have j1 : 0 ≤ pz_u M a k v c 3 ∧ pz_u M a k v c 3 ≤ 12 := by
      rcases pz_uv M a k v c 3 with ⟨ha, hk, hv⟩ | ⟨-, hv⟩
      · rw [hv]
        exact o1 (by omega) (by omega) hk.symm
      · rw [hv]
        exact ⟨(i1 c h1 h2).1, (i1 c h1 h2).2.1⟩
    have j2 : 0 ≤ pz_u M a k v c 7 ∧ pz_u M a k v c 7 ≤ 150 := by
      rcases pz_uv M a k v c 7 with ⟨ha, hk, hv⟩ | ⟨-, hv⟩
      · rw [hv]
        exact o2 (by omega) (by omega) hk.symm
      · rw [hv]
        exact (i1 c h1 h2).2.2
    exact ⟨j1.1, j1.2, j2⟩
  · rcases pz_uv M a k v 3 1 with ⟨ha, hk, hv⟩ | ⟨-, hv⟩
    · rw [hv]
      exact o3 ha.symm hk.symm
    · rw [hv]
      exact i2
  · rcases pz_uv M a k v r 0 with ⟨ha, hk, hv⟩ | ⟨-, hv⟩
    · rw [hv]
      exact o4 (by omega) (by omega) hk.symm
    · rw [hv]
      exact i3 r h1 h2
  · have j1 : 0 ≤ pz_u M a k v L 0 ∧ pz_u M a k v L 0 ≤ 16 := by
      rcases pz_uv M a k v L 0 with ⟨ha, hk, hv⟩ | ⟨-, hv⟩
      · rw [hv]
        exact o5 (by omega) (by omega) hk.symm
      · rw [hv]
        exact ⟨(i4 L h1 h2).1, (i4 L h1 h2).2.1⟩
    have j2 : 0 ≤ pz_u M a k v L 1 ∧ pz_u M a k v L 1 ≤ 400 := by
      rcases pz_uv M a k v L 1 with ⟨ha, hk, hv⟩ | ⟨-, hv⟩
      · rw [hv]
        exact o6 (by omega) (by omega) hk.symm
      · rw [hv]
        exact (i4 L h1 h2).2.2
    exact ⟨j1.1, j1.2, j2⟩
  · rcases pz_uv M a k v 4 1 with ⟨ha, hk, hv⟩ | ⟨-, hv⟩
    · rw [hv]
      exact o7 ha.symm hk.symm
    · rw [hv]
      exact i5
  · rcases pz_uv M a k v 7 3 with ⟨ha, hk, hv⟩ | ⟨-, hv⟩
    · rw [hv]
      exact o8 ha.symm hk.symm
    · rw [hv]
      exact i6
theorem pz_sy_u {M M' : pz_M} {a k : Nat} {v : Int} (hs : pz_sy M M') (hm : ¬ pz_md a k) (h : pz_iok a k v) : pz_sy M (pz_u M' a k v) := by
  refine ⟨fun q => pz_ic_u h (hs.1 q), fun b j hb => ?_⟩
  rcases pz_uv M' a k v b j with ⟨e1, e2, -⟩ | ⟨-, e⟩
  · subst e1; subst e2
    exact absurd hb hm
  · rw [e]
    exact hs.2 b j hb
theorem pz_rt_u {M M' : pz_M} {a k : Nat} {v : Int} (hs : pz_rt M M') (h : pz_iok a k v) : pz_rt M (pz_u M' a k v) := fun q => pz_ic_u h (hs q)
theorem pz_si_u {M M' : pz_M} {a k : Nat} {v : Int} (hs : pz_si M M') (hm : ¬ pz_mid a) (h4 : ¬ (a = 4 ∧ k = 1) ∧ ¬ (a = 5 ∧ k = 9)) (h : pz_iok a k v) : pz_si M (pz_u M' a k v) := by
  refine ⟨fun q => pz_ic_u h (hs.1 q), fun b j hb => ?_, ?_, ?_⟩
  · have hne : b ≠ a := fun e => hm (e ▸ hb)
    rw [pz_una hne]
    exact hs.2.1 b j hb
  · have q1 := pz_uv M' a k v 4 1
    have := hs.2.2.1
    omega
  · have q1 := pz_uv M' a k v 5 9
    have := hs.2.2.2
    omega
theorem pz_st.si {M M' : pz_M} (h : pz_st M M') : pz_si M M' := ⟨h.1.1, fun b j q => h.1.2 b j (Or.inl q), h.2.1, h.2.2⟩
theorem pz_st_u {M M' : pz_M} {a k : Nat} {v : Int} (hs : pz_st M M') (hm : ¬ pz_md a k) (h4 : ¬ (a = 4 ∧ k = 1) ∧ ¬ (a = 5 ∧ k = 9)) (h : pz_iok a k v) : pz_st M (pz_u M' a k v) := by
  refine ⟨pz_sy_u hs.1 hm h, ?_, ?_⟩
  · have q1 := pz_uv M' a k v 4 1
    have := hs.2.1
    omega
  · have q1 := pz_uv M' a k v 5 9
    have := hs.2.2
    omega
def pz_ckm (a k : Nat) : Bool := match pz_rk (pz_kd a) k with
  | some _ => decide (a = 1) || decide (13 ≤ pz_kd a) || decide (pz_rf a k ≠ 1 ∧ (pz_rf a k < 60 ∨ 71 ≤ pz_rf a k))
  | none => true
theorem pz_ckm_ok : ∀ a, a < 206 → ∀ k, k < 28 → pz_ckm a k = true := by decide +kernel
/-- what a thing of the class refers to is no thing of the model -/
theorem pz_nm {z a j k : Nat} (e : z = pz_rf a j) (h : pz_kd a = k) (hk : k < 12) (hj : j < 28) (hr : (pz_rk k j).isSome = true) : z ≠ 1 ∧ (z < 60 ∨ 71 ≤ z) := by
  subst h
  subst e
  have h1 := pz_ckm_ok a (pz_kd_lo rfl (by omega)) j hj
  unfold pz_ckm at h1
  cases hq : pz_rk (pz_kd a) j with
  | none => rw [hq] at hr; cases hr
  | some kr =>
    rw [hq] at h1
    simp only [Bool.or_eq_true, decide_eq_true_eq] at h1
    rcases h1 with (h1 | h1) | h1
    · subst h1
      exact absurd hk (by decide)
    · omega
    · exact h1
theorem pz_kdA {a k : Nat} (h : pz_kd a = k) (h1 : 13 ≤ k) (h2 : k < 29) : 20 ≤ a ∧ a < 71 := by
  have key : ∀ a, a < 206 → 13 ≤ pz_kd a → pz_kd a < 29 → 20 ≤ a ∧ a < 71 := by decide +kernel
  exact key a (pz_kd_lo h (by omega)) (by omega) (by omega)
theorem pz_st_c {M M' : pz_M} {a1 sp a2 dp n : Nat} (hs : pz_st M M') (h1 : 45 ≤ a2 ∧ a2 ≤ 46) (h2 : a2 ≠ 1) : pz_st M (pz_cpy M' a1 sp a2 dp n) := by
  have key : ∀ b j, b ≠ a2 → pz_cpy M' a1 sp a2 dp n b j = M' b j := fun b j hb => by
    unfold pz_cpy
    rw [if_neg (fun z => hb z.1)]
  refine ⟨⟨fun q => ?_, fun b j hb => ?_⟩, ?_, ?_⟩
  · obtain ⟨i1, i2, i3, i4, i5, i6⟩ := hs.1.1 q
    refine ⟨fun c q1 q2 => ?_, ?_, fun r q1 q2 => ?_, fun L q1 q2 => ?_, ?_, ?_⟩
    · rw [key c 3 (by omega), key c 7 (by omega)]; exact i1 c q1 q2
    · rw [key 3 1 (by omega)]; exact i2
    · rw [key r 0 (by omega)]; exact i3 r q1 q2
    · rw [key L 0 (by omega), key L 1 (by omega)]; exact i4 L q1 q2
    · rw [key 4 1 (by omega)]; exact i5
    · rw [key 7 3 (by omega)]; exact i6
  · rw [key b j (by unfold pz_md pz_kx pz_mid at hb; omega)]
    exact hs.1.2 b j hb
  · rw [key 4 1 (by omega)]
    exact hs.2.1
  · rw [key 5 9 (by omega)]
    exact hs.2.2
theorem pz_rt_c {M : pz_M} {a1 sp a2 dp n : Nat} (h1 : 20 ≤ a2 ∧ a2 < 60) : pz_rt M (pz_cpy M a1 sp a2 dp n) := by
  have key : ∀ b j, b ≠ a2 → pz_cpy M a1 sp a2 dp n b j = M b j := fun b j hb => by
    unfold pz_cpy
    rw [if_neg (fun z => hb z.1)]
  intro q
  obtain ⟨i1, i2, i3, i4, i5, i6⟩ := q
  refine ⟨fun c q1 q2 => ?_, ?_, fun r q1 q2 => ?_, fun L q1 q2 => ?_, ?_, ?_⟩
  · rw [key c 3 (by omega), key c 7 (by omega)]; exact i1 c q1 q2
  · rw [key 3 1 (by omega)]; exact i2
  · rw [key r 0 (by omega)]; exact i3 r q1 q2
  · rw [key L 0 (by omega), key L 1 (by omega)]; exact i4 L q1 q2
  · rw [key 4 1 (by omega)]; exact i5
  · rw [key 7 3 (by omega)]; exact i6
theorem pz_shl1 {c : Int} (h0 : 0 ≤ c) (h1 : c ≤ 12) : 1 ≤ (Int32.ofInt 1 <<< (Int32.ofInt c &&& 31)).toInt ∧ (Int32.ofInt 1 <<< (Int32.ofInt c &&& 31)).toInt ≤ 4096 ∧ (c ≤ 11 → (Int32.ofInt 1 <<< (Int32.ofInt c &&& 31)).toInt ≤ 2048) := by
  have h : c = 0 ∨ c = 1 ∨ c = 2 ∨ c = 3 ∨ c = 4 ∨ c = 5 ∨ c = 6 ∨ c = 7 ∨ c = 8 ∨ c = 9 ∨ c = 10 ∨ c = 11 ∨ c = 12 := by omega
  rcases h with rfl | rfl | rfl | rfl | rfl | rfl | rfl | rfl | rfl | rfl | rfl | rfl | rfl <;> decide +kernel
theorem pz_n12 {x : Int} (h0 : 0 ≤ x) (h1 : x < 4096) : (Int32.ofInt x).toBitVec.toNat = x.toNat := by
  have e : (Int32.ofInt x) = Int32.ofNat x.toNat := by rw [← Int32.ofInt_eq_ofNat]; congr 1; omega
  rw [e]
  exact pk_tn (n := x.toNat) (by omega)
theorem pz_xor12 {x y : Int} (hx0 : 0 ≤ x) (hx : x < 4096) (hy0 : 0 ≤ y) (hy : y < 4096) : 0 ≤ (Int32.ofInt x ^^^ Int32.ofInt y).toInt ∧ (Int32.ofInt x ^^^ Int32.ofInt y).toInt < 4096 := by
  have h : (Int32.ofInt x ^^^ Int32.ofInt y).toBitVec.toNat < 2 ^ 12 := by
    show ((Int32.ofInt x).toBitVec ^^^ (Int32.ofInt y).toBitVec).toNat < 2 ^ 12
    rw [BitVec.toNat_xor, pz_n12 hx0 hx, pz_n12 hy0 hy]
    exact Nat.xor_lt_two_pow (by omega) (by omega)
  have e : (Int32.ofInt x ^^^ Int32.ofInt y).toInt = ((Int32.ofInt x ^^^ Int32.ofInt y).toBitVec.toNat : Int) := by
    show (Int32.ofInt x ^^^ Int32.ofInt y).toBitVec.toInt = _
    rw [BitVec.toInt_eq_toNat_cond]
    rw [if_pos (by omega)]
  rw [e]
  omega
end
