/-! SIGNS in the class -/
def sg_2 (n : Int) : Int := ((2 ^ n.toNat : Nat) : Int)
theorem sg_2_v {n : Int} (h0 : 0 ≤ n) (h1 : n ≤ 12) : (Int32.ofInt 1 <<< (Int32.ofInt n &&& 31)).toInt = sg_2 n := pz_shv h0 h1
theorem sg_2_b {n : Int} (h1 : n ≤ 12) : 1 ≤ sg_2 n ∧ sg_2 n ≤ 4096 := by
  have p : 0 < 2 ^ n.toNat := Nat.two_pow_pos _
  have q : 2 ^ n.toNat ≤ 2 ^ 12 := Nat.pow_le_pow_right (by decide) (by omega)
  unfold sg_2
  generalize 2 ^ n.toNat = x at p q
  omega
theorem sg_2_l {k : Nat} {n x : Int} (h : (k : Int) < x) (hx : x ≤ sg_2 n) : k < 2 ^ n.toNat := by
  unfold sg_2 at hx
  generalize 2 ^ n.toNat = y at hx
  omega
theorem sg_2_i {k : Nat} {n : Int} (h : k < 2 ^ n.toNat) : (k : Int) < sg_2 n := by
  unfold sg_2
  generalize 2 ^ n.toNat = y at h
  omega
theorem sg_2_all {n x : Int} (h : x = sg_2 n - 1) : sg_bt x.toNat = sg_S n.toNat := by
  have e : x.toNat = 2 ^ n.toNat - 1 := by
    rw [h]
    unfold sg_2
    generalize 2 ^ n.toNat = y
    omega
  rw [e]
  exact sg_bt_S
theorem sg_at_y {b : Bool} {v : Int} (h : v = if b = true then 1 else 0) (hv : v ≠ 0) : b = true := by
  cases b with
  | true => rfl
  | false => exact absurd h hv
theorem sg_at_n {b : Bool} {v : Int} (h : v = if b = true then 1 else 0) (hv : v = 0) : b = false := by
  cases b with
  | false => rfl
  | true =>
    rw [if_pos rfl] at h
    omega
def sg_fg (f g : Nat → Int) (n : Int) : Prop := ∀ i : Nat, (i : Int) < n → (0 ≤ f i ∧ f i ≤ 240) ∧ 0 ≤ g i ∧ g i ≤ 240
def sg_ph (M : pz_M) (f g : Nat → Int) (n : Int) : Prop := ∀ i : Nat, (i : Int) < n → M 56 i = f i ∧ M 57 i = g i
def sg_V (a : Nat) (N : pz_M) (k : Nat) : Nat → Int := fun i => N a (sg_rx k i)
def sg_bf (V : Nat → Int) (s : Nat → Bool) (i : Nat) (v : Int) : Prop := (s i = true ∧ v = V i) ∨ (s i = false ∧ v = -1)
def sg_T (f g : Nat → Int) (N : pz_M) (x : Int) : Prop := ∀ k : Nat, (k : Int) < x → sg_ea f g 0 (sg_bt k) (N 59 k) ∧ N 59 k ≤ 240
def sg_mI (N : pz_M) (x m : Int) : Prop := (∃ k : Nat, (k : Int) < x ∧ N 59 k ≠ -1 ∧ m = pz_cnt (sg_bt k) 12) ∧ ∀ k : Nat, (k : Int) < x → N 59 k ≠ -1 → pz_cnt (sg_bt k) 12 ≤ m
def sg_X (f g : Nat → Int) (N : pz_M) (x : Int) : Prop := sg_T f g N x ∧ sg_mI N x (N 7 2)
def sg_bn (f g : Nat → Int) (V : Nat → Int) (s : Nat → Bool) (x b : Int) : Prop := sg_mn (sg_D f g s V) (fun i => sg_d f (V i) i) x b
def sg_cn (f g : Nat → Int) (V : Nat → Int) (s : Nat → Bool) (x b : Int) : Prop := sg_mx (sg_G f g s V) (fun i => sg_b g (V i) i) x b
theorem sg_bn_n {f g V : Nat → Int} {s : Nat → Bool} {x y b v : Int} (h : sg_bn f g V s x b) (hx : 0 ≤ x) (hy : y = x + 1) (hb : sg_bf V s x.toNat v) (hn : v = -1 ∨ g x.toNat < sg_d f v x.toNat) : sg_bn f g V s y b := sg_mn_n h hx hy (fun d => by
  obtain ⟨d1, d2, d3⟩ := d
  rcases hb with ⟨b1, b2⟩ | ⟨b1, b2⟩
  · rw [← b2] at d2 d3
    omega
  · rw [b1] at d1
    cases d1)
theorem sg_bn_y {f g V : Nat → Int} {s : Nat → Bool} {x y b b' v n : Int} (h : sg_bn f g V s x b) (hf : sg_fg f g n) (hx : 0 ≤ x) (hy : y = x + 1) (hn : x < n) (hb : sg_bf V s x.toNat v) (hv : v ≠ -1) (hd : sg_d f v x.toNat ≤ g x.toNat) (hw : (b' = sg_d f v x.toNat ∧ (b = -1 ∨ sg_d f v x.toNat ≤ b)) ∨ (b' = b ∧ b ≠ -1 ∧ b ≤ sg_d f v x.toNat)) : sg_bn f g V s y b' := by
  rcases hb with ⟨b1, b2⟩ | ⟨b1, b2⟩
  · rw [b2] at hv hd hw
    exact sg_mn_y h hx hy ⟨b1, hv, hd⟩ (fun i hi d => by
      have a := hf i (by omega)
      have c := sg_d_b (f := f) (t := V i) (i := i)
      show 0 ≤ sg_d f (V i) i
      omega) hw
  · exact absurd b2 hv
theorem sg_cn_n {f g V : Nat → Int} {s : Nat → Bool} {x y b v : Int} (h : sg_cn f g V s x b) (hx : 0 ≤ x) (hy : y = x + 1) (hb : sg_bf V s x.toNat v) (hn : v = -1 ∨ sg_b g v x.toNat < f x.toNat) : sg_cn f g V s y b := sg_mx_n h hx hy (fun d => by
  obtain ⟨d1, d2, d3⟩ := d
  rcases hb with ⟨b1, b2⟩ | ⟨b1, b2⟩
  · rw [← b2] at d2 d3
    omega
  · rw [b1] at d1
    cases d1)
theorem sg_cn_y {f g V : Nat → Int} {s : Nat → Bool} {x y b b' v n : Int} (h : sg_cn f g V s x b) (hf : sg_fg f g n) (hx : 0 ≤ x) (hy : y = x + 1) (hn : x < n) (hb : sg_bf V s x.toNat v) (hv : v ≠ -1) (hd : f x.toNat ≤ sg_b g v x.toNat) (hw : b' = max b (sg_b g v x.toNat)) : sg_cn f g V s y b' := by
  rcases hb with ⟨b1, b2⟩ | ⟨b1, b2⟩
  · rw [b2] at hv hd hw
    have a := hf x.toNat (by omega)
    exact sg_mx_y h hx hy ⟨b1, hv, hd⟩ (by
      show 0 ≤ sg_b g (V x.toNat) x.toNat
      omega) hw
  · exact absurd b2 hv
theorem sg_dn {f : Nat → Int} {m v w d : Int} {i : Nat} (q : m = max v w) (hw : w = f i) (hf : 0 ≤ f i ∧ f i ≤ 240) (hv : -1 ≤ v ∧ v ≤ 240) (e : d = pz_w (m + 10)) : d = sg_d f v i := by
  rw [hw] at q
  rw [pz_wi (by omega) (by omega), q] at e
  exact e
theorem sg_bg {g : Nat → Int} {m v w d : Int} {i : Nat} (q : m = min v w) (hw : w = g i) (hf : 0 ≤ g i ∧ g i ≤ 240) (hv : -1 ≤ v ∧ v ≤ 240) (e : d = pz_w (m - 10)) : d = sg_b g v i := by
  rw [hw] at q
  rw [pz_wi (by omega) (by omega), q] at e
  exact e
theorem sg_bf_b {f g : Nat → Int} {N : pz_M} {x v : Int} {i : Nat} (h : sg_T f g N x) (hx : 0 ≤ x) (hb : sg_bf (sg_V 59 N x.toNat) (sg_bt x.toNat) i v) : -1 ≤ v ∧ v ≤ 240 := by
  rcases hb with ⟨b1, b2⟩ | ⟨-, b2⟩
  · have l := sg_rx_l b1
    have z := h (sg_rx x.toNat i) (by omega)
    rw [b2]
    exact ⟨z.1.1, z.2⟩
  · omega
theorem sg_X_0 {f g : Nat → Int} {M N N' : pz_M} (e1 : N = pz_u M 7 2 0) (e2 : N' = pz_u N 59 0 0) : sg_X f g N' 1 := by
  have a : N' 59 0 = 0 := by
    rw [e2]
    exact pz_uu
  have b : N' 7 2 = 0 := by
    rw [e2, pz_una (by decide), e1]
    exact pz_uu
  refine ⟨fun k hk => ?_, ⟨0, by decide, by omega, ?_⟩, fun k hk _ => ?_⟩
  · rw [show k = 0 by omega, a]
    exact ⟨sg_ea_0 (by decide) sg_bt_0, by decide⟩
  · rw [b]
    exact ((pz_cnt_cg (g := fun _ => false) 12 (fun k _ => sg_bt_0 k)).trans rfl).symm
  · rw [show k = 0 by omega, b, pz_cnt_cg (g := fun _ => false) 12 (fun k _ => sg_bt_0 k)]
    decide
theorem sg_X_w {f g : Nat → Int} {N N' : pz_M} {n x z b : Int} (h : sg_T f g N x) (h2 : sg_bn f g (sg_V 59 N x.toNat) (sg_bt x.toNat) z b) (hf : sg_fg f g n) (hx : 1 ≤ x) (hx2 : x < sg_2 n) (hn : 0 ≤ n) (hz : n ≤ z) (hz2 : z ≤ n) (e : N' = pz_u N 59 x.toNat b) : sg_T f g N' (x + 1) := by
  have lt : ∀ i : Nat, sg_bt x.toNat i = true → (i : Int) < n := fun i hi => by
    have := sg_bt_n (sg_2_l (k := x.toNat) (x := x + 1) (n := n) (by omega) (by omega)) hi
    omega
  intro k hk
  rw [e]
  by_cases q : k = x.toNat
  · rw [q, pz_uu]
    refine ⟨sg_ea_s (n := z) (V := sg_V 59 N x.toNat) (fun i hi => (hf i (lt i hi)).1.1) (fun i hi => ?_) (sg_bt_ne (by omega)) (fun i hi => ?_) h2, ?_⟩
    · have := lt i hi
      omega
    · rw [← sg_rx_b hi]
      have l := sg_rx_l hi
      exact (h _ (by omega)).1
    · rcases h2 with ⟨z1, -⟩ | ⟨⟨i, i1, z1, z2⟩, -⟩
      · omega
      · have z2 : b = sg_d f (sg_V 59 N x.toNat i) i := z2
        have z3 := z1.2.2
        have z4 := hf i (by omega)
        omega
  · rw [pz_unk q]
    exact h k (by omega)
theorem sg_X_n {f g : Nat → Int} {N N' : pz_M} {n x z b : Int} (h : sg_X f g N x) (h2 : sg_bn f g (sg_V 59 N x.toNat) (sg_bt x.toNat) z b) (hf : sg_fg f g n) (hx : 1 ≤ x) (hx2 : x < sg_2 n) (hn : 0 ≤ n) (hz : n ≤ z) (hz2 : z ≤ n) (e : N' = pz_u N 59 x.toNat b) (hb : b = -1) : sg_X f g N' (x + 1) := by
  refine ⟨sg_X_w h.1 h2 hf hx hx2 hn hz hz2 e, ?_⟩
  obtain ⟨⟨k, k1, k2, k3⟩, k4⟩ := h.2
  have e2 : N' 7 2 = N 7 2 := by
    rw [e]
    exact pz_una (by decide)
  have ek : ∀ k : Nat, k ≠ x.toNat → N' 59 k = N 59 k := fun k q => by
    rw [e]
    exact pz_unk q
  rw [e2]
  refine ⟨⟨k, by omega, by rw [ek k (by omega)]; exact k2, k3⟩, fun l l1 l2 => ?_⟩
  by_cases q : l = x.toNat
  · rw [q, e, pz_uu] at l2
    exact absurd hb l2
  · rw [ek l q] at l2
    exact k4 l (by omega) l2
theorem sg_X_y {f g : Nat → Int} {N N' N2 : pz_M} {n x z b m c : Int} (h : sg_X f g N x) (h2 : sg_bn f g (sg_V 59 N x.toNat) (sg_bt x.toNat) z b) (hf : sg_fg f g n) (hx : 1 ≤ x) (hx2 : x < sg_2 n) (hn : 0 ≤ n) (hz : n ≤ z) (hz2 : z ≤ n) (e : N' = pz_u N 59 x.toNat b) (hb : b ≠ -1) (hc : c = pz_cnt (sg_bt x.toNat) 12) (hm : m = max (N' 7 2) c) (e3 : N2 = pz_u N' 7 2 m) : sg_X f g N2 (x + 1) := by
  have t := sg_X_w h.1 h2 hf hx hx2 hn hz hz2 e
  obtain ⟨⟨k, k1, k2, k3⟩, k4⟩ := h.2
  have e2 : N' 7 2 = N 7 2 := by
    rw [e]
    exact pz_una (by decide)
  have ek : ∀ k : Nat, k ≠ x.toNat → N' 59 k = N 59 k := fun k q => by
    rw [e]
    exact pz_unk q
  have e9 : ∀ k : Nat, N2 59 k = N' 59 k := fun k => by
    rw [e3]
    exact pz_una (by decide)
  have em : N2 7 2 = m := by
    rw [e3]
    exact pz_uu
  have hm : (N 7 2 ≤ m ∧ c ≤ m) ∧ (m = N 7 2 ∨ m = c) := by omega
  refine ⟨fun k hk => by rw [e9]; exact t k hk, ?_⟩
  rw [em]
  refine ⟨?_, fun l l1 l2 => ?_⟩
  · rcases hm.2 with q | q
    · exact ⟨k, by omega, by rw [e9, ek k (by omega)]; exact k2, by omega⟩
    · refine ⟨x.toNat, by omega, ?_, by omega⟩
      rw [e9, e, pz_uu]
      exact hb
  · by_cases q : l = x.toNat
    · rw [q]
      omega
    · rw [e9, ek l q] at l2
      have r := k4 l (by omega) l2
      omega
theorem sg_X_z {f g : Nat → Int} {N N' : pz_M} {n x v : Int} {i : Nat} (h : sg_X f g N x) (hn : 0 ≤ n ∧ n ≤ 12) (hx : x = sg_2 n) (hi : (i : Int) = sg_2 n - 1) (hv : v = N 59 i) (e : N' = pz_u N 7 1 v) : sg_ea f g 0 (sg_S n.toNat) (N' 7 1) ∧ N' 7 1 ≤ 240 ∧ sg_most f g n.toNat (N' 7 2) := by
  have e1 : N' 7 1 = N 59 i := by
    rw [e, ← hv]
    exact pz_uu
  have e2 : N' 7 2 = N 7 2 := by
    rw [e]
    exact pz_unk (by decide)
  have a := h.1 i (by omega)
  have s := sg_2_all hi
  rw [Int.toNat_natCast] at s
  rw [s] at a
  rw [e1, e2]
  refine ⟨a.1, a.2, ?_⟩
  obtain ⟨⟨k, k1, k2, k3⟩, k4⟩ := h.2
  refine ⟨⟨k, sg_2_l k1 (by omega), ⟨N 59 k, ((h.1 k k1).1.2 _).mpr ⟨k2, Int.le_refl _⟩⟩, k3⟩, fun l l1 l2 => ?_⟩
  obtain ⟨B, l2⟩ := l2
  have l0 := sg_2_i l1
  exact k4 l (by omega) (((h.1 l (by omega)).1.2 B).mp l2).1
/-! the latest minutes -/
def sg_TL (f g : Nat → Int) (E : Int) (N : pz_M) (x : Int) : Prop := ∀ k : Nat, (k : Int) < x → sg_la f g E (sg_bt k) (N 59 k) ∧ N 59 k ≤ 240
theorem sg_TL_b {f g : Nat → Int} {E : Int} {N : pz_M} {x v : Int} {i : Nat} (h : sg_TL f g E N x) (hx : 0 ≤ x) (hb : sg_bf (sg_V 59 N x.toNat) (sg_bt x.toNat) i v) : -1 ≤ v ∧ v ≤ 240 := by
  rcases hb with ⟨b1, b2⟩ | ⟨-, b2⟩
  · have l := sg_rx_l b1
    have z := h (sg_rx x.toNat i) (by omega)
    rw [b2]
    exact ⟨z.1.1, z.2⟩
  · omega
theorem sg_TL_0 {f g : Nat → Int} {E v : Int} {M N : pz_M} (hv : v = E) (h0 : 0 ≤ E) (h1 : E ≤ 240) (e : N = pz_u M 59 0 v) : sg_TL f g E N 1 := fun k hk => by
  have a : N 59 k = E := by
    rw [show k = 0 by omega, e, pz_uu]
    exact hv
  rw [show k = 0 by omega] at a ⊢
  rw [a]
  exact ⟨sg_la_0 h0 sg_bt_0, h1⟩
theorem sg_TL_s {f g : Nat → Int} {E : Int} {N N' : pz_M} {n x z b : Int} (h : sg_TL f g E N x) (h2 : sg_cn f g (sg_V 59 N x.toNat) (sg_bt x.toNat) z b) (hf : sg_fg f g n) (hx : 1 ≤ x) (hx2 : x < sg_2 n) (hn : 0 ≤ n) (hz : n ≤ z) (hz2 : z ≤ n) (e : N' = pz_u N 59 x.toNat b) : sg_TL f g E N' (x + 1) := by
  have lt : ∀ i : Nat, sg_bt x.toNat i = true → (i : Int) < n := fun i hi => by
    have := sg_bt_n (sg_2_l (k := x.toNat) (x := x + 1) (n := n) (by omega) (by omega)) hi
    omega
  intro k hk
  rw [e]
  by_cases q : k = x.toNat
  · rw [q, pz_uu]
    refine ⟨sg_la_s (n := z) (V := sg_V 59 N x.toNat) (fun i hi => (hf i (lt i hi)).1.1) (fun i hi => ?_) (sg_bt_ne (by omega)) (fun i hi => ?_) h2, ?_⟩
    · have := lt i hi
      omega
    · rw [← sg_rx_b hi]
      have l := sg_rx_l hi
      exact (h _ (by omega)).1
    · rcases h2 with ⟨z1, -⟩ | ⟨⟨i, i1, z1, z2⟩, -⟩
      · omega
      · have z2 : b = sg_b g (sg_V 59 N x.toNat i) i := z2
        have z4 := hf i (by omega)
        unfold sg_b at z2
        omega
  · rw [pz_unk q]
    exact h k (by omega)
/-! the order -/
def sg_on (N : pz_M) : Nat → Nat := fun q => (N 58 q).toNat
def sg_W (f g : Nat → Int) (n E : Int) (N : pz_M) (p t r : Int) : Prop := (0 ≤ p ∧ p ≤ n) ∧ (∀ q : Nat, (q : Int) < p → 0 ≤ N 58 q) ∧ sg_oq f g n.toNat E (sg_on N) p.toNat ∧ (t = sg_tm f (sg_on N) p.toNat ∧ 0 ≤ t ∧ t ≤ 240) ∧ sg_bt r.toNat = sg_rs n.toNat (sg_on N) p.toNat ∧ sg_fe f g E t (sg_bt r.toNat) ∧ pz_cnt (sg_bt r.toNat) 12 = n - p
theorem sg_W_0 {f g : Nat → Int} {n E v : Int} {N : pz_M} (hn : 0 ≤ n ∧ n ≤ 12) (hv : v = sg_2 n - 1) (h : sg_fe f g E 0 (sg_S n.toNat)) : sg_W f g n E N 0 0 v := by
  have s := sg_2_all hv
  refine ⟨by omega, fun q hq => absurd hq (by omega), fun q hq => absurd hq (Nat.not_lt_zero _), ⟨rfl, by decide, by decide⟩, s, by rw [s]; exact h, ?_⟩
  rw [s, sg_cnt_S 12 (by omega)]
  omega
theorem sg_W_x {f g : Nat → Int} {n E : Int} {N : pz_M} {p t r x : Int} (h : sg_W f g n E N p t r) (hp : p < n) (hx : n ≤ x) (hq : ∀ j : Nat, (j : Int) < x → ¬ sg_nq f g E t (sg_bt r.toNat) j) : False := by
  obtain ⟨h1, -, -, -, h5, h6, h7⟩ := h
  obtain ⟨i, hi⟩ := sg_fe_nq h6 (sg_cnt_ne 12 (by omega))
  have z := hi.1
  rw [h5] at z
  have l := sg_rs_t _ z
  exact hq i (by omega) hi
theorem sg_rs_l {n : Int} {o : Nat → Nat} {p r : Nat} {k : Nat} (h : sg_bt k = sg_rs n.toNat o p) (hr : r ≤ k) : (r : Int) < sg_2 n := by
  have l : k ≤ 2 ^ n.toNat - 1 := sg_sub_le (fun j hj => by
    have z : sg_bt k j = true := hj
    rw [h] at z
    rw [Nat.testBit_two_pow_sub_one]
    exact decide_eq_true (sg_rs_t _ z))
  have p := Nat.two_pow_pos n.toNat
  exact sg_2_i (by omega)
theorem sg_W_nq {f g : Nat → Int} {n E : Int} {M N : pz_M} {p t r v d : Int} {i : Nat} (h : sg_W f g n E N p t r) (hT : sg_TL f g E M (sg_2 n)) (hr : 0 ≤ r) (hb : sg_bf (sg_V 59 M r.toNat) (sg_bt r.toNat) i v) (hf : sg_fg f g n) (hi : (i : Int) < n) (hd : d = sg_d f t i) : (sg_nq f g E t (sg_bt r.toNat) i ↔ v ≠ -1 ∧ d ≤ v ∧ d ≤ g i) ∧ (-1 ≤ v ∧ v ≤ 240) := by
  obtain ⟨-, -, -, ⟨-, h4, -⟩, h5, -⟩ := h
  have b := sg_d_b (f := f) (t := t) (i := i)
  rw [hd]
  rcases hb with ⟨b1, b2⟩ | ⟨b1, b2⟩
  · have l := sg_rx_l b1
    have z := hT (sg_rx r.toNat i) (sg_rs_l h5 (by omega))
    rw [sg_rx_b b1] at z
    have z0 := (z.1.2 (sg_d f t i) (by omega))
    have b2 : v = M 59 (sg_rx r.toNat i) := b2
    rw [← b2] at z z0
    refine ⟨⟨fun q => ?_, fun q => ⟨b1, q.2.2, z0.mpr ⟨q.1, q.2.1⟩⟩⟩, z.1.1, z.2⟩
    have u := z0.mp q.2.2
    exact ⟨u.1, u.2, q.2.1⟩
  · refine ⟨⟨fun q => ?_, fun q => absurd b2 q.1⟩, by omega⟩
    have q1 := q.1
    rw [b1] at q1
    cases q1
theorem sg_W_n {f g : Nat → Int} {E t : Int} {s : Nat → Bool} {x : Int} (h : ∀ j : Nat, (j : Int) < x → ¬ sg_nq f g E t s j) (hx : 0 ≤ x) (hn : ¬ sg_nq f g E t s x.toNat) : ∀ j : Nat, (j : Int) < x + 1 → ¬ sg_nq f g E t s j := fun j hj => by
  by_cases q : j = x.toNat
  · rw [q]
    exact hn
  · exact h j (by omega)
theorem sg_W_s {f g : Nat → Int} {n E : Int} {N N' : pz_M} {p t r x d r' : Int} (h : sg_W f g n E N p t r) (hn : n ≤ 12) (hp : p < n) (hx : 0 ≤ x) (hq : ∀ j : Nat, (j : Int) < x → ¬ sg_nq f g E t (sg_bt r.toNat) j) (y : sg_nq f g E t (sg_bt r.toNat) x.toNat) (hd : d = sg_d f t x.toNat) (hg : g x.toNat ≤ 240) (e : N' = pz_u N 58 p.toNat x) (hr : r'.toNat = sg_rx r.toNat x.toNat) : sg_W f g n E N' (p + 1) d r' := by
  obtain ⟨h1, h2, h3, ⟨h4, h8, -⟩, h5, h6, h7⟩ := h
  have p1 : (p + 1).toNat = p.toNat + 1 := by omega
  have o1 : ∀ q, q < p.toNat → sg_on N q = sg_on N' q := fun q hq => by
    unfold sg_on
    rw [e, pz_unk (by omega)]
  have o2 : sg_on N' p.toNat = x.toNat := by
    unfold sg_on
    rw [e, pz_uu]
  have t1 := sg_tm_cg (f := f) p.toNat o1
  have t2 := sg_rs_cg (n := n.toNat) p.toNat o1
  have b := sg_d_b (f := f) (t := t) (i := x.toNat)
  have y1 := y.1
  have y2 := y.2.1
  have s : sg_bt r'.toNat = sg_rm (sg_bt r.toNat) x.toNat := by
    rw [hr]
    exact sg_rx_b y1
  have xl : x.toNat < 12 := by
    have z := y1
    rw [h5] at z
    have l := sg_rs_t _ z
    omega
  refine ⟨by omega, fun q hq => ?_, ?_, ⟨?_, by omega, by omega⟩, ?_, ?_, ?_⟩
  · by_cases u : q = p.toNat
    · rw [u, e, pz_uu]
      exact hx
    · rw [e, pz_unk u]
      exact h2 q (by omega)
  · rw [p1]
    refine sg_oq_s (sg_oq_cg h3 o1) ?_
    rw [← t1, ← t2, ← h4, ← h5, o2]
    exact ⟨y, fun j hj => hq j (by omega)⟩
  · rw [p1]
    show d = sg_d f (sg_tm f (sg_on N') p.toNat) (sg_on N' p.toNat)
    rw [← t1, ← h4, o2]
    exact hd
  · rw [p1, s, h5, t2]
    show _ = sg_rm (sg_rs n.toNat (sg_on N') p.toNat) (sg_on N' p.toNat)
    rw [o2]
  · rw [s, hd]
    exact y.2.2
  · rw [s, sg_cnt_rm y1, h7, if_pos xl]
    omega
/-! what is kept of it -/
def sg_tc (N : pz_M) (f g : Nat → Int) (n : Int) : Prop := N 7 3 = n ∧ sg_ea f g 0 (sg_S n.toNat) (N 7 1) ∧ sg_most f g n.toNat (N 7 2) ∧ (N 7 1 ≠ -1 → (∀ q : Nat, (q : Int) < n → 0 ≤ N 58 q) ∧ sg_oq f g n.toNat (N 7 1) (sg_on N) n.toNat)
def sg_PA (b j : Nat) : Prop := b = 59 ∨ (b = 7 ∧ (j = 1 ∨ j = 2))
def sg_PB (b _j : Nat) : Prop := b = 59
def sg_PC (b _j : Nat) : Prop := b = 58
def sg_PD (b _j : Nat) : Prop := b = 7 ∨ (56 ≤ b ∧ b ≤ 59)
theorem pq_pr.sAD {M M' : pz_M} (h : pq_pr sg_PA M M') : pq_pr sg_PD M M' := h.mo (fun b j z => by
  unfold sg_PA at z
  unfold sg_PD
  omega)
theorem pq_pr.sBD {M M' : pz_M} (h : pq_pr sg_PB M M') : pq_pr sg_PD M M' := h.mo (fun b j z => by
  unfold sg_PB at z
  unfold sg_PD
  omega)
theorem pq_pr.sCD {M M' : pz_M} (h : pq_pr sg_PC M M') : pq_pr sg_PD M M' := h.mo (fun b j z => by
  unfold sg_PC at z
  unfold sg_PD
  omega)
/-- the PHONES in the class -/
def sg_pz (M : pz_M) (t : Nat) (f g : Nat → Int) (n : Int) : Prop := ∀ i : Nat, (i : Int) < n → f i = pz_ph (pz_gph M t) i 0 1 (pz_nph M t) ∧ g i = pz_ph (pz_gph M t) i 240 2 (pz_nph M t)
def sg_fl (M : pz_M) (t : Nat) (N : pz_M) (x : Int) : Prop := ∀ i : Nat, (i : Int) < x → N 56 i = pz_ph (pz_gph M t) i 0 1 (pz_nph M t) ∧ N 57 i = pz_ph (pz_gph M t) i 240 2 (pz_nph M t)
theorem sg_gph {M N : pz_M} {t : Nat} (ht : t = 8 ∨ t = 9) (h : pq_pr sg_PD M N) : pz_gph N t = pz_gph M t ∧ pz_nph N t = pz_nph M t := by
  refine ⟨funext fun r => funext fun c => h.2 _ _ (by unfold sg_PD; omega), ?_⟩
  unfold pz_nph
  rw [h.2 (14 + 3 * (t - 8)) 0 (by unfold sg_PD; omega)]
theorem sg_fl_s {M N N1 N2 : pz_M} {t : Nat} {x v w : Int} (h : sg_fl M t N x) (hx : 0 ≤ x) (e1 : N1 = pz_u N 56 x.toNat v) (e2 : N2 = pz_u N1 57 x.toNat w) (hv : v = pz_ph (pz_gph M t) x 0 1 (pz_nph M t)) (hw : w = pz_ph (pz_gph M t) x 240 2 (pz_nph M t)) : sg_fl M t N2 (x + 1) := fun i hi => by
  rw [e2, pz_una (by decide), e1]
  by_cases q : i = x.toNat
  · rw [q, pz_uu, pz_uu, show ((x.toNat : Nat) : Int) = x by omega]
    exact ⟨hv, hw⟩
  · rw [pz_unk q, pz_unk q, pz_una (by decide)]
    exact h i (by omega)
def sg_vw (N : pz_M) (w v : Int) : Prop := (w = 1 → v = N 7 2) ∧ (w = 0 → v = N 7 1) ∧ (10 ≤ w ∧ w ≤ 21 → v = if N 7 1 ≠ -1 ∧ 0 ≤ w - 10 ∧ w - 10 < N 7 3 then N 58 (w - 10).toNat else -1) ∧ (¬ (w = 0 ∨ w = 1 ∨ (10 ≤ w ∧ w ≤ 21)) → v = -1)
def sg_cs (M M' : pz_M) (t : Nat) (l : Int) : Prop := (M 7 0 ≠ 0 → M' = M) ∧ (M 7 0 = 0 → M' 7 0 ≠ 0 ∧ ∀ f g : Nat → Int, sg_fg f g l → sg_pz M t f g l → sg_tc M' f g l)
