/-! steps of the class' loops over a LAW's line, over what a LINK lacks -/
def pq_Pw (b _j : Nat) : Prop := b = 32 ∨ b = 38 ∨ b = 44
theorem pq_pr.wst {M M' : pz_M} (h : pq_pr pq_Pw M M') (h4 : M' 4 1 = M 4 1) (h5 : M' 5 9 = M 5 9) : pz_st M M' := ⟨⟨h.1, fun b j q => h.2 b j (by unfold pz_md pz_kx pz_mid at q; unfold pq_Pw; omega)⟩, h4, h5⟩
theorem pv_ldn_s {rd br : Nat → Int} {m k : Nat} {a b D : Int} (h : pv_ldn rd br k a = D) (hk : k = m + 1) (hb : b = pz_w (a + pz_w (1 - rd m))) : (br m ≠ 0 → b = D) ∧ (br m = 0 → pv_ldn rd br m b = D) := by
  subst hk
  subst hb
  have h : (if br m ≠ 0 then pz_w (a + pz_w (1 - rd m)) else pv_ldn rd br m (pz_w (a + pz_w (1 - rd m)))) = D := h
  exact ⟨fun q => by rw [if_pos q] at h; exact h, fun q => by rw [if_neg (fun z => z q)] at h; exact h⟩
theorem pv_lup_s {rd br : Nat → Int} {n : Int} {f g k : Nat} {a b D : Int} (h : pv_lup rd br n f k a = D) (hf : f = g + 1) (hk : (k : Int) < n) (hb : b = pz_w (a + pz_w (1 - rd k))) : (br k ≠ 0 → b = D) ∧ (br k = 0 → pv_lup rd br n g (k + 1) b = D) := by
  subst hf
  subst hb
  have h : (if (k : Int) < n then (if br k ≠ 0 then pz_w (a + pz_w (1 - rd k)) else pv_lup rd br n g (k + 1) (pz_w (a + pz_w (1 - rd k)))) else a) = D := h
  rw [if_pos hk] at h
  exact ⟨fun q => by rw [if_pos q] at h; exact h, fun q => by rw [if_neg (fun z => z q)] at h; exact h⟩
theorem pv_lup_z {rd br : Nat → Int} {n : Int} {f k : Nat} {a : Int} (h : ¬ (k : Int) < n ∨ f = 0) : pv_lup rd br n f k a = a := by
  rcases f with _ | f
  · rfl
  · exact if_neg (h.resolve_right (Nat.succ_ne_zero f))
/-- the most that a word may tell -/
def pc_mo (w : Int) : Int := if w = 2 then 999 else if w = 3 then 99 else 1000
/-- what is told without a line -/
def pz_utd (w sl wo : Int) : Int := if w = 0 then pz_w (300 - pz_w (30 * sl)) else if w = 2 then wo / 4 else if w = 3 then 3 else 0
/-- what a line's E and B come to, out of what worked answers -/
theorem pz_wkE {M N : pz_M} {t k : Nat} {ls : List pz_lne} {p q v : Int} {F : Int → Int} (hl : pq_ltx t ls M) (hk : k < ls.length) (hq : pv_ln (ls.getD k (0, [], []))) (hN : ∀ b j : Nat, ¬ pq_Pw b j → N b j = M b j) (ht : t < 3) (hp : p = M (28 + 6 * t) k) (hq2 : q = M (29 + 6 * t) k) (h : pc_wk F N (10 + t) p q v) : v = pv F (ls.getD k (0, [], [])).2.1 := by
  obtain ⟨-, c1, c2, c3, -, c4, c5⟩ := pq_l1_cut hl hk
  have a : pz_lb3 (10 + t) + 4 = 31 + 6 * t := by unfold pz_lb3; omega
  have b : N (pz_lb3 (10 + t) + 4) = M (31 + 6 * t) := by
    rw [a]
    exact funext fun j => hN _ j (by unfold pq_Pw; omega)
  have n1 : N (10 + t) 1 = M (10 + t) 1 := hN _ _ (by unfold pq_Pw; omega)
  have g := h (pz_fl (ls.getD k (0, [], [])).2.1) (by rw [b, hp]; exact c2) (by rw [hp, hq2]; exact c3) (by rw [hp]; exact c1) (by rw [hq2, n1]; omega) (pc_of 0 (pv_ln_e hq))
  rw [g]
  exact pc_val (pv_ln_e hq)
theorem pz_wkB {M N : pz_M} {t k : Nat} {ls : List pz_lne} {p q v : Int} {F : Int → Int} (hl : pq_ltx t ls M) (hk : k < ls.length) (hq : pv_ln (ls.getD k (0, [], []))) (hN : ∀ b j : Nat, ¬ pq_Pw b j → N b j = M b j) (ht : t < 3) (hp : p = M (29 + 6 * t) k) (hq2 : q = M (30 + 6 * t) k) (h : pc_wk F N (10 + t) p q v) : v = pv F (ls.getD k (0, [], [])).2.2 := by
  obtain ⟨-, c0, -, c1, c2, c3, c5⟩ := pq_l1_cut hl hk
  have a : pz_lb3 (10 + t) + 4 = 31 + 6 * t := by unfold pz_lb3; omega
  have b : N (pz_lb3 (10 + t) + 4) = M (31 + 6 * t) := by
    rw [a]
    exact funext fun j => hN _ j (by unfold pq_Pw; omega)
  have n1 : N (10 + t) 1 = M (10 + t) 1 := hN _ _ (by unfold pq_Pw; omega)
  have g := h (pz_fl (ls.getD k (0, [], [])).2.2) (by rw [b, hp]; exact c2) (by rw [hp, hq2]; exact c3) (by rw [hp]; omega) (by rw [hq2, n1]; omega) (pc_of 0 (pv_ln_b hq))
  rw [g]
  exact pc_val (pv_ln_b hq)
/-- the class tells -/
def pz_tel (M : pz_M) (g : Nat) (w : Int) (c : Nat) (i v : Int) : Prop := ∀ (t : Nat) (ls : List pz_lne), t < 3 → g = 10 + t → pq_ltx t ls M → (∀ q ∈ ls, pv_ln q) → v = pv_tell (fun q => pv_fn M c (q + 7) i) w (pz_utd w (M (pz_lnk c i) 3) (M (pz_lnk c i) 2)) (pc_mo w) ls
/-- from line x on -/
def pz_tlv (M : pz_M) (g : Nat) (w : Int) (c : Nat) (i x : Int) : Prop := ∀ (t : Nat) (ls : List pz_lne), t < 3 → g = 10 + t → pq_ltx t ls M → (∀ q ∈ ls, pv_ln q) → pv_tell (fun q => pv_fn M c (q + 7) i) w (pz_utd w (M (pz_lnk c i) 3) (M (pz_lnk c i) 2)) (pc_mo w) (ls.drop x.toNat) = pv_tell (fun q => pv_fn M c (q + 7) i) w (pz_utd w (M (pz_lnk c i) 3) (M (pz_lnk c i) 2)) (pc_mo w) ls
theorem pz_tlv_0 {M : pz_M} {g c : Nat} {w i : Int} : pz_tlv M g w c i 0 := fun t ls _ _ _ _ => rfl
theorem pz_tlv_e {M : pz_M} {g c : Nat} {w i x v : Int} (h : pz_tlv M g w c i x) (h0 : 0 ≤ x) (hx : ¬ x < M g 0) (hv : v = pv_hold (pc_mo w) (pz_utd w (M (pz_lnk c i) 3) (M (pz_lnk c i) 2))) : pz_tel M g w c i v := fun t ls ht hg hl hq => by
  subst hg
  rw [← h t ls ht rfl hl hq, List.drop_eq_nil_of_le (by have := hl.1; omega), hv]
  rfl
/-- the facts of a line; a: whether it has no B -/
def pz_lnf (M : pz_M) (g : Nat) (x : Int) (m e wd : Int) : Prop := ∀ t : Nat, t < 3 → g = 10 + t → m = M (29 + 6 * t) x.toNat ∧ e = M (30 + 6 * t) x.toNat ∧ wd = M (27 + 6 * t) x.toNat
theorem pz_tlv_w {M : pz_M} {g c : Nat} {w i x y m e wd : Int} (h : pz_tlv M g w c i x) (h0 : 0 ≤ x) (hx : x < M g 0) (hy : y = x + 1) (f : pz_lnf M g x m e wd) (hw : ¬ wd = w) : pz_tlv M g w c i y := fun t ls ht hg hl hq => by
  subst hg
  have k : x.toNat < ls.length := by have := hl.1; omega
  obtain ⟨-, -, f3⟩ := f t ht rfl
  obtain ⟨c1, -⟩ := pq_l1_cut hl k
  rw [show y.toNat = x.toNat + 1 by omega]
  refine (pv_tell_n k (fun z => hw ?_) (h t ls ht rfl hl hq)) 
  rw [f3, c1]
  exact z.1
theorem pz_tlv_b {M N : pz_M} {g c : Nat} {w i x y m e wd v : Int} (h : pz_tlv M g w c i x) (h0 : 0 ≤ x) (hx : x < M g 0) (hy : y = x + 1) (f : pz_lnf M g x m e wd) (hm : ¬ m = e) (hN : ∀ b j : Nat, ¬ pq_Pw b j → N b j = M b j) (hv : pc_wk (fun q => pv_fn N c (q + 7) i) N g m e v) (hc : 71 ≤ c ∧ c < 80) (h9 : v = 0) : pz_tlv M g w c i y := fun t ls ht hg hl hq => by
  subst hg
  have k : x.toNat < ls.length := by have := hl.1; omega
  obtain ⟨f1, f2, f3⟩ := f t ht rfl
  obtain ⟨c1, -, -, -, -, c6, -⟩ := pq_l1_cut hl k
  have q1 := pv_mem k hq
  have x1 := pz_wkB hl k q1 hN ht f1 f2 hv
  have fn : (fun q => pv_fn N c (q + 7) i) = (fun q => pv_fn M c (q + 7) i) := funext fun q => pv_fn_cg (fun b j z => hN b j (by unfold pz_lb at z; unfold pq_Pw; omega))
  rw [fn] at x1
  rw [show y.toNat = x.toNat + 1 by omega]
  refine (pv_tell_n k (fun z => ?_) (h t ls ht rfl hl hq))
  rcases z.2 with z | z
  · have l := pz_fl_nil.mpr z
    rw [l] at c6
    omega
  · rw [z] at x1
    omega
theorem pz_tlv_y {M N : pz_M} {g c : Nat} {w i x s m e wd u v : Int} (h : pz_tlv M g w c i x) (h0 : 0 ≤ x) (hx : x < M g 0) (f : pz_lnf M g x m e wd) (fs : ∀ t : Nat, t < 3 → g = 10 + t → s = M (28 + 6 * t) x.toNat) (hw : wd = w) (hB : m = e ∨ ∃ (N2 : pz_M) (z : Int), (∀ b j : Nat, ¬ pq_Pw b j → N2 b j = M b j) ∧ pc_wk (fun q => pv_fn N2 c (q + 7) i) N2 g m e z ∧ ¬ z = 0) (hN : ∀ b j : Nat, ¬ pq_Pw b j → N b j = M b j) (hv : pc_wk (fun q => pv_fn N c (q + 7) i) N g s m u) (hc : 71 ≤ c ∧ c < 80) (h9 : v = pv_hold (pc_mo w) u) : pz_tel M g w c i v := fun t ls ht hg hl hq => by
  subst hg
  have k : x.toNat < ls.length := by have := hl.1; omega
  obtain ⟨f1, f2, f3⟩ := f t ht rfl
  obtain ⟨c1, -, -, -, -, c6, -⟩ := pq_l1_cut hl k
  have q1 := pv_mem k hq
  have fn : ∀ N : pz_M, (∀ b j : Nat, ¬ pq_Pw b j → N b j = M b j) → (fun q => pv_fn N c (q + 7) i) = (fun q => pv_fn M c (q + 7) i) := fun N hN => funext fun q => pv_fn_cg (fun b j z => hN b j (by unfold pz_lb at z; unfold pq_Pw; omega))
  have x1 := pz_wkE hl k q1 hN ht (fs t ht rfl) f1 hv
  rw [fn N hN] at x1
  have y2 : (ls.getD x.toNat (0, [], [])).2.2 = [] ∨ pv (fun q => pv_fn M c (q + 7) i) (ls.getD x.toNat (0, [], [])).2.2 = 1 := by
    rcases hB with z | ⟨N2, z, a, b, d⟩
    · exact Or.inl (pz_fl_nil.mp (by omega))
    · have x2 := pz_wkB hl k q1 a ht f1 f2 b
      rw [fn N2 a] at x2
      by_cases y : (ls.getD x.toNat (0, [], [])).2.2 = []
      · exact Or.inl y
      · rcases pv_ln_01 (F := fun q => pv_fn M c (q + 7) i) q1 y with r | r
        · omega
        · exact Or.inr r
  rw [pv_tell_y k ⟨by rw [← hw, f3, c1], y2⟩ (h t ls ht rfl hl hq), h9, x1]
theorem pq_pr.ws {M M' : pz_M} (h : pq_pr pq_Pw M M') : pz_st M M' := h.wst (h.2 4 1 (by unfold pq_Pw; omega)) (h.2 5 9 (by unfold pq_Pw; omega))
theorem pz_lnk_b {c : Nat} {i : Int} (hc : 71 ≤ c) : 89 ≤ pz_lnk c i := by
  unfold pz_lnk pz_lb
  split <;> omega
/-- Math.floorDiv by what is more than nought -/
theorem pz_xs {x y : Int} (hx : -2147483648 ≤ x ∧ x ≤ 2147483647) (hy : 0 < y ∧ y ≤ 2147483647) : 0 ≤ (Int32.ofInt x ^^^ Int32.ofInt y).toInt ↔ 0 ≤ x := by
  have m : ∀ z : Int, -2147483648 ≤ z → z ≤ 2147483647 → (Int32.ofInt z).toBitVec.msb = decide (z < 0) := fun z a b => by
    rw [BitVec.msb_eq_toInt]
    show decide ((Int32.ofInt z).toInt < 0) = _
    rw [Int32.toInt_ofInt_of_le (by omega) (by omega)]
  have e : ((Int32.ofInt x ^^^ Int32.ofInt y).toInt < 0) ↔ x < 0 := by
    have h : (Int32.ofInt x ^^^ Int32.ofInt y).toBitVec.msb = decide ((Int32.ofInt x ^^^ Int32.ofInt y).toInt < 0) := BitVec.msb_eq_toInt
    have h2 : (Int32.ofInt x ^^^ Int32.ofInt y).toBitVec.msb = decide (x < 0) := by
      show ((Int32.ofInt x).toBitVec ^^^ (Int32.ofInt y).toBitVec).msb = _
      rw [BitVec.msb_xor, m x hx.1 hx.2, m y (by omega) hy.2, decide_eq_false (show ¬ y < 0 by omega), Bool.xor_false]
    exact decide_eq_decide.mp (h.symm.trans h2)
  omega
theorem pz_fdv {x y q v : Int} (hy : y = 4 ∨ y = 1000) (hx : -2147483648 ≤ x ∧ x ≤ 2147483647) (hq : q = pz_w (x.tdiv y)) (h : (0 ≤ x ∧ v = q) ∨ (x < 0 ∧ pz_w (q * y) = x ∧ v = q) ∨ (x < 0 ∧ pz_w (q * y) ≠ x ∧ v = pz_w (q - 1))) : v = x / y := by
  have t := @Int.tdiv_eq_ediv x y
  have b : -536870912 ≤ x / y ∧ x / y ≤ 536870911 := by
    rcases hy with rfl | rfl <;> omega
  have r : x % y = x - y * (x / y) := by
    have := Int.emod_add_mul_ediv x y
    omega
  by_cases d : 0 ≤ x ∨ y ∣ x
  · rw [if_pos d] at t
    rw [t, pz_wi (by omega) (by omega)] at hq
    rcases h with ⟨-, h⟩ | ⟨-, -, h⟩ | ⟨h1, h2, -⟩
    · omega
    · omega
    · exfalso
      apply h2
      have z : y ∣ x := d.resolve_left (by omega)
      have z : x % y = 0 := Int.emod_eq_zero_of_dvd z
      have e : q * y = x := by
        rw [hq, Int.add_zero, Int.mul_comm]
        omega
      rw [e, pz_wi (by omega) (by omega)]
  · rw [if_neg d] at t
    have s : y.sign = 1 := by rcases hy with rfl | rfl <;> rfl
    rw [t, s, pz_wi (by omega) (by omega)] at hq
    rcases h with ⟨h1, -⟩ | ⟨h1, h2, -⟩ | ⟨-, -, h⟩
    · exact absurd (Or.inl h1) d
    · exfalso
      apply d
      right
      have l : -2147483648 ≤ q * y ∧ q * y ≤ 2147483647 := by
        rcases hy with rfl | rfl <;> omega
      rw [pz_wi l.1 l.2] at h2
      exact ⟨q, by rw [Int.mul_comm]; exact h2.symm⟩
    · rw [pz_wi (by omega) (by omega)] at h
      omega
