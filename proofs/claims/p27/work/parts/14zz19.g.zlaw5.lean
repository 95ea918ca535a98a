/-! the model's LAW: what its lines tell -/
def pz_QS (b _j : Nat) : Prop := b = 68 ∨ b = 69
def pz_iso (M : pz_M) (i v : Int) : Prop := (M 60 (873 + i.toNat) = M 60 (857 + i.toNat) ∧ v = 1) ∨ (M 60 (873 + i.toNat) ≠ M 60 (857 + i.toNat) ∧ ∃ z : Int, pv_cm M (M 60 (857 + i.toNat)) (M 60 (873 + i.toNat)) z ∧ ((v = 1 ∧ z = 1) ∨ (v = 0 ∧ z ≠ 1)))
def pz_say (M : pz_M) (w i x y v : Int) : Prop := i < M 60 88 → ∀ ls : List pz_lne, pq_wlw ls (M 60) → (∀ q ∈ ls, pv_ln q) → v = pv_tell (sd_fn (M 60) i.toNat) (w - 20) x y ls
def pz_syl (M : pz_M) (w i x y k : Int) : Prop := ∀ ls : List pz_lne, pq_wlw ls (M 60) → (∀ q ∈ ls, pv_ln q) → pv_tell (sd_fn (M 60) i.toNat) (w - 20) x y (ls.drop k.toNat) = pv_tell (sd_fn (M 60) i.toNat) (w - 20) x y ls
theorem pz_syl_0 {M : pz_M} {w i x y : Int} : pz_syl M w i x y 0 := fun _ _ _ => rfl
/-- the facts of a LINK lie in N -/
def pz_fct (M N : pz_M) (i : Int) : Prop := i < M 60 88 → ∀ q : Int, 1 ≤ q → q < 10 → N 69 q.toNat = sd_fn (M 60) i.toNat q
def pz_sld (M N : pz_M) (w i x y k : Int) : Prop := i < M 60 88 → pz_syl M w i x y k ∧ (∀ q : Int, 1 ≤ q → q < 10 → N 69 q.toNat = sd_fn (M 60) i.toNat q) ∧ N 60 = M 60
theorem pz_fct_pv {M N : pz_M} {i : Int} {o : List (Int × Int)} (h : ∀ q : Int, 1 ≤ q → q < 10 → N 69 q.toNat = sd_fn (M 60) i.toNat q) (ho : pv_ok o 0) : pv (pv_fm N) o = pv (sd_fn (M 60) i.toNat) o := pv_cg h ho
theorem pz_sld_w {M N N2 : pz_M} {w i x y k k2 wd : Int} (h : pz_sld M N w i x y k) (h0 : 0 ≤ k) (hk : k < M 60 89) (hk2 : k2 = k + 1) (hw : wd = M 60 (889 + k.toNat)) (hn : ¬ wd = w) (e9 : N2 69 = N 69) (e0 : N2 60 = N 60) : pz_sld M N2 w i x y k2 := fun hi => by
  obtain ⟨s, f, g⟩ := h hi
  refine ⟨fun ls hl hq => ?_, fun q a b => by rw [e9]; exact f q a b, e0.trans g⟩
  have kk : k.toNat < ls.length := by have := hl.1; omega
  obtain ⟨c1, -⟩ := pq_l2_cut hl kk
  rw [show k2.toNat = k.toNat + 1 by omega]
  refine pv_tell_n kk (fun z => hn ?_) (s ls hl hq)
  have z1 := z.1
  rw [hw, c1]
  omega
theorem pz_sld_b {M N N2 : pz_M} {w i x y k k2 v : Int} (h : pz_sld M N w i x y k) (h0 : 0 ≤ k) (hk : k < M 60 89) (hk2 : k2 = k + 1) (hs : pz_iso N k v) (hv : v = 0) (e9 : N2 69 = N 69) (e0 : N2 60 = N 60) : pz_sld M N2 w i x y k2 := fun hi => by
  obtain ⟨s, f, g⟩ := h hi
  refine ⟨fun ls hl hq => ?_, fun q a b => by rw [e9]; exact f q a b, e0.trans g⟩
  have kk : k.toNat < ls.length := by have := hl.1; omega
  obtain ⟨-, -, -, c4, c5, c6⟩ := pq_l2_cut hl kk
  have q1 := pv_mem kk hq
  rw [show k2.toNat = k.toNat + 1 by omega]
  unfold pz_iso at hs
  rw [g] at hs
  refine pv_tell_n kk (fun z => ?_) (s ls hl hq)
  rcases hs with ⟨-, b⟩ | ⟨a, u, b, d⟩
  · omega
  · have b9 := b (ls.getD k.toNat (0, [], [])).2.2 (by rw [g]; exact c5) c6
    rw [pz_fct_pv f (pv_ln_b q1)] at b9
    rcases z.2 with z | z
    · rw [z] at c6
      have c6 : M 60 (857 + k.toNat) + 0 = M 60 (873 + k.toNat) := c6
      omega
    · omega
theorem pz_sld_y {M N N2 : pz_M} {w i x y k wd so a b u v : Int} (h : pz_sld M N w i x y k) (h0 : 0 ≤ k) (hk : k < M 60 89) (hw : wd = M 60 (889 + k.toNat)) (hn : wd = w) (hs : pz_iso N k so) (hv : ¬ so = 0) (e9 : N2 69 = N 69) (e0 : N2 60 = N 60) (ha : a = M 60 (841 + k.toNat)) (hb : b = M 60 (857 + k.toNat)) (hu : pv_cm N2 a b u) (hv2 : v = max 0 (min y u)) : pz_say M w i x y v := fun hi ls hl hq => by
  obtain ⟨s, f, g⟩ := h hi
  have kk : k.toNat < ls.length := by have := hl.1; omega
  obtain ⟨c1, c2, c3, c4, c5, c6⟩ := pq_l2_cut hl kk
  have q1 := pv_mem kk hq
  have f2 : ∀ q : Int, 1 ≤ q → q < 10 → N2 69 q.toNat = sd_fn (M 60) i.toNat q := fun q a b => by rw [e9]; exact f q a b
  have u1 := hu (ls.getD k.toNat (0, [], [])).2.1 (by rw [e0, g, ha]; exact c3) (by rw [ha, hb]; exact c4)
  rw [pz_fct_pv f2 (pv_ln_e q1)] at u1
  unfold pz_iso at hs
  rw [g] at hs
  have B : (ls.getD k.toNat (0, [], [])).2.2 = [] ∨ pv (sd_fn (M 60) i.toNat) (ls.getD k.toNat (0, [], [])).2.2 = 1 := by
    rcases hs with ⟨p, -⟩ | ⟨p, t, r, d⟩
    · refine Or.inl (List.eq_nil_of_length_eq_zero ?_)
      omega
    · have r9 := r (ls.getD k.toNat (0, [], [])).2.2 (by rw [g]; exact c5) c6
      rw [pz_fct_pv f (pv_ln_b q1)] at r9
      exact Or.inr (by omega)
  rw [pv_tell_y kk ⟨by rw [hw, c1] at hn; omega, B⟩ (s ls hl hq), hv2, u1]
  rfl
theorem pz_sld_e {M N : pz_M} {w i x y k v : Int} (h : pz_sld M N w i x y k) (h0 : 0 ≤ k) (hk : ¬ k < M 60 89) (hv : v = max 0 (min y x)) : pz_say M w i x y v := fun hi ls hl hq => by
  obtain ⟨s, -, -⟩ := h hi
  rw [← s ls hl hq, List.drop_eq_nil_of_le (by have := hl.1; omega), hv]
  rfl
/-- the bits of BRIDGED LINKS -/
def sd_bn (F : Nat → Int) : Nat → Bool := fun k => decide ((k : Int) < F 88 ∧ F (64 + k) = 1)
theorem sd_hi_cg {b c : Nat → Bool} {n : Nat} (h : ∀ k, k < n → b k = c k) : ∀ f t, sd_hi b n f t = sd_hi c n f t := by
  intro f
  induction f with
  | zero => intro t; rfl
  | succ f ih =>
    intro t
    show (if t + 1 < n ∧ b t = false then sd_hi b n f (t + 1) else t) = (if t + 1 < n ∧ c t = false then sd_hi c n f (t + 1) else t)
    by_cases q : t + 1 < n
    · rw [h t (by omega), ih]
    · rw [if_neg (fun z => q z.1), if_neg (fun z => q z.1)]
theorem sd_end_cg {b c : Nat → Bool} {n i : Nat} (h : ∀ k, k < n → b k = c k) : sd_end b n i = sd_end c n i := by
  unfold sd_end
  rw [sd_hi_cg h]
theorem sd_end_bn {F : Nat → Int} {i : Nat} : sd_end (sd_bn F) (F 88).toNat i = sd_end (sd_bb F) (F 88).toNat i := sd_end_cg (fun k hk => by
  unfold sd_bn sd_bb
  by_cases q : F (64 + k) = 1
  · rw [decide_eq_true q, decide_eq_true ⟨by omega, q⟩]
  · rw [decide_eq_false q, decide_eq_false (fun z => q z.2)])
/-! sets that a loop lays -/
def pz_bt (x : Int) (p : Nat → Bool) (s : Int) : Prop := pz_zs s (fun j => decide (j < x.toNat) && p j)
def pz_bO (x : Int) (p : Nat → Bool) (t : Int) : Prop := pz_zs t (fun j => decide (x.toNat = j) && p j)
theorem pz_bt_0 {p : Nat → Bool} : pz_bt 0 p 0 := pz_sb_cg pz_sb_0 (fun k => by rw [decide_eq_false (show ¬ k < (0 : Int).toNat from Nat.not_lt_zero _)]; rfl)
theorem pz_bt_s {p : Nat → Bool} {x y s t z : Int} (hx : 0 ≤ x ∧ x ≤ 11) (hy : y = x + 1) (hs : pz_bt x p s) (ht : pz_bO x p t) (hz : z = (Int32.ofInt s ||| Int32.ofInt t).toInt) : pz_bt y p z := by
  rw [hz]
  refine pz_sb_cg (pz_sb_or hs ht) (fun k => ?_)
  show ((decide (k < x.toNat) && p k) || (decide (x.toNat = k) && p k)) = _
  have e : decide (k < y.toNat) = (decide (k < x.toNat) || decide (x.toNat = k)) := by
    rw [← Bool.decide_or]
    exact decide_eq_decide.mpr (by omega)
  rw [e]
  cases decide (k < x.toNat) <;> cases decide (x.toNat = k) <;> cases p k <;> rfl
theorem pz_bO_y {p : Nat → Bool} {x t : Int} (hx : 0 ≤ x ∧ x ≤ 11) (h : p x.toNat = true) (ht : t = (Int32.ofInt 1 <<< (Int32.ofInt x &&& 31)).toInt) : pz_bO x p t := by
  rw [ht]
  refine pz_sb_cg (pz_sb_1 hx.1 hx.2) (fun k => ?_)
  by_cases e : x.toNat = k
  · rw [← e, h]
    exact (Bool.and_true _).symm
  · rw [decide_eq_false e]
    rfl
theorem pz_bO_n {p : Nat → Bool} {x : Int} (h : p x.toNat = false) : pz_bO x p 0 := by
  refine pz_sb_cg pz_sb_0 (fun k => ?_)
  by_cases e : x.toNat = k
  · rw [← e, h]
    exact (Bool.and_false _).symm
  · rw [decide_eq_false e]
    rfl
/-- all of them -/
theorem pz_bt_e {p q : Nat → Bool} {x s : Int} (h : pz_bt x p s) (e : ∀ k, (decide (k < x.toNat) && p k) = q k) : pz_zs s q := pz_sb_cg h e
theorem sd_bn_e {F : Nat → Int} {x : Int} (h0 : 0 ≤ x) (hx : x = F 88) : ∀ k, (decide (k < x.toNat) && sd_bn F k) = sd_bn F k := fun k => by
  unfold sd_bn
  by_cases q : (k : Int) < F 88 ∧ F (64 + k) = 1
  · rw [decide_eq_true q, decide_eq_true (show k < x.toNat by omega)]
    rfl
  · rw [decide_eq_false q]
    exact Bool.and_false _
/-- the model's loop to the end of a PART -/
def pz_eD (M : pz_M) (b : Nat → Bool) (i x : Int) : Prop := 0 ≤ i → i < M 60 88 → sd_hi b (M 60 88).toNat ((M 60 88).toNat - x.toNat) x.toNat = sd_hi b (M 60 88).toNat ((M 60 88).toNat - (i.toNat + 1)) (i.toNat + 1)
theorem pz_eD_s {M : pz_M} {b : Nat → Bool} {i x y : Int} (h : pz_eD M b i x) (h0 : 0 ≤ x) (hx : x < M 60 88 - 1) (hb : b x.toNat = false) (hy : y = x + 1) : pz_eD M b i y := fun a c => by
  rw [← h a c, show (M 60 88).toNat - x.toNat = ((M 60 88).toNat - y.toNat) + 1 by omega, show y.toNat = x.toNat + 1 by omega]
  exact (if_pos ⟨by omega, hb⟩).symm
theorem pz_eD_e {M : pz_M} {b : Nat → Bool} {i x : Int} (h : pz_eD M b i x) (h0 : 0 ≤ x) (hx : ¬ x < M 60 88 - 1 ∨ b x.toNat = true) : 0 ≤ i → i < M 60 88 → min x (M 60 88 - 1) = (sd_end b (M 60 88).toNat i.toNat : Int) := fun a c => by
  have g := h a c
  have e : sd_hi b (M 60 88).toNat ((M 60 88).toNat - x.toNat) x.toNat = x.toNat := by
    rcases Nat.eq_zero_or_pos ((M 60 88).toNat - x.toNat) with q | q
    · rw [q]
      rfl
    · rw [show (M 60 88).toNat - x.toNat = ((M 60 88).toNat - x.toNat - 1) + 1 by omega]
      refine if_neg (fun z => ?_)
      rcases hx with y | y
      · omega
      · rw [y] at z
        exact absurd z.2 (by decide)
  rw [e] at g
  unfold sd_end
  rw [← g]
  omega
def pz_lko (F : Nat → Int) (i v : Int) : Prop := i < F 88 → v = sd_lk F i.toNat
theorem sd_lo_y {F : Nat → Int} {k : Nat} (h : F (64 + k) = 1) : sd_lo F k = k := by
  rcases k with _ | k
  · rfl
  · exact if_pos h
theorem sd_lo_s {F : Nat → Int} {k : Nat} (h0 : 0 < k) (h : ¬ F (64 + k) = 1) : sd_lo F k = sd_lo F (k - 1) := by
  rcases k with _ | k
  · exact absurd h0 (Nat.lt_irrefl _)
  · exact if_neg h
theorem sd_nr_s {F : Nat → Int} {k m : Nat} {a b s T : Int} (h : a + sd_nr F k m = T) (hm : 0 < m) (hs : s = if F (40 + k) = 1 then 0 else 1) (hb : b = a + s) : b + sd_nr F (k + 1) (m - 1) = T := by
  rcases m with _ | m
  · exact absurd hm (Nat.lt_irrefl _)
  · have h : a + ((if F (40 + k) = 1 then 0 else 1) + sd_nr F (k + 1) m) = T := h
    rw [← hs] at h
    rw [Nat.add_sub_cancel]
    omega
theorem pz_a1 {x v : Int} (h : v = (Int32.ofInt x &&& Int32.ofInt 1).toInt) : 0 ≤ v ∧ v ≤ 1 := by
  have e : (Int32.ofInt x &&& Int32.ofInt 1).toBitVec.toNat = (Int32.ofInt x).toBitVec.toNat % 2 := by
    rw [Int32.toBitVec_and, BitVec.toNat_and]
    show _ &&& 1 = _
    exact Nat.and_one_is_mod _
  have b := Nat.mod_lt (Int32.ofInt x).toBitVec.toNat (show 2 > 0 by decide)
  rw [h, pz_ni e (by omega)]
  omega
theorem pz_lk0 {F : Nat → Int} {i x s : Int} (h0 : 0 ≤ x) (h4 : x.toNat = sd_from F i.toNat) (h5 : i < F 88 → s = (sd_to F i.toNat : Int)) : i < F 88 → 0 + sd_nr F x.toNat (s + 1 - x).toNat = sd_lk F i.toNat := fun hi => by
  rw [h5 hi, Int.zero_add, show ((sd_to F i.toNat : Int) + 1 - x).toNat = sd_to F i.toNat + 1 - sd_from F i.toNat by omega, h4]
  rfl
