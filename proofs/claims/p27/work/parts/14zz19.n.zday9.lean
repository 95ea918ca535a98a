/-! a LINK leaves -/
def sd_lv0 (tr : Bool) (F : Nat → Int) (i : Nat) : Nat → Int := sd_note tr (sd_u (sd_u (sd_fF tr F) (52 + i) 1) 1 (pz_w (sd_fF tr F 1 + 1))) 4 i 0
def sd_lvk (G : Nat → Int) (k : Int) : Nat → Int := if 0 ≤ k ∧ k < G 88 ∧ G (76 + k.toNat) = -1 then sd_u G (40 + k.toNat) 0 else G
def sd_lvH (tr : Bool) (F : Nat → Int) (i : Nat) : Nat → (Nat → Int)
  | 0 => sd_lv0 tr F i
  | m + 1 => sd_lvk (sd_lvH tr F i m) ((i : Int) - 1 + m)
theorem sd_u_sw {G : Nat → Int} {a b : Nat} {x y : Int} (h : a ≠ b) : sd_u (sd_u G a x) b y = sd_u (sd_u G b y) a x := funext fun j => by
  by_cases q : j = a
  · rw [q, sd_un h, sd_uu, sd_uu]
  · rw [sd_un (F := sd_u G b y) q]
    by_cases z : j = b
    · rw [z, sd_uu, sd_uu]
    · rw [sd_un z, sd_un z, sd_un q]
theorem sd_note_u {tr : Bool} {G : Nat → Int} {w i m v : Int} {k : Nat} (h0 : k ≠ 0) (h3 : k ≠ 3) (hk : k < 241) : sd_u (sd_note tr G w i m) k v = sd_note tr (sd_u G k v) w i m := by
  unfold sd_note
  rw [sd_un (Ne.symm h3), sd_un (Ne.symm h0)]
  by_cases q : tr = true ∧ G 3 ≠ 150
  · rw [if_pos q, if_pos q, sd_u_sw (a := 3) (Ne.symm h3), sd_u_sw (a := 244 + 4 * (G 3).toNat) (b := k) (by omega), sd_u_sw (a := 243 + 4 * (G 3).toNat) (b := k) (by omega), sd_u_sw (a := 242 + 4 * (G 3).toNat) (b := k) (by omega), sd_u_sw (a := 241 + 4 * (G 3).toNat) (b := k) (by omega)]
  · rw [if_neg q, if_neg q]
theorem sd_lvk_note {tr : Bool} {G : Nat → Int} {w i m k : Int} (h12 : G 88 ≤ 12) : sd_lvk (sd_note tr G w i m) k = sd_note tr (sd_lvk G k) w i m := by
  unfold sd_lvk
  rw [sd_note_o (by decide) (by decide)]
  by_cases q : 0 ≤ k ∧ k < G 88
  · rw [sd_note_o (by omega) (by omega)]
    by_cases z : G (76 + k.toNat) = -1
    · rw [if_pos ⟨q.1, q.2, z⟩, if_pos ⟨q.1, q.2, z⟩]
      exact sd_note_u (by omega) (by omega) (by omega)
    · rw [if_neg (fun y => z y.2.2), if_neg (fun y => z y.2.2)]
  · rw [if_neg (fun y => q ⟨y.1, y.2.1⟩), if_neg (fun y => q ⟨y.1, y.2.1⟩)]
theorem sd_lvk_88 {G : Nat → Int} {k : Int} (h12 : G 88 ≤ 12) : sd_lvk G k 88 = G 88 := by
  unfold sd_lvk
  split
  · exact sd_un (by omega)
  · rfl
theorem sd_lvk_o {G : Nat → Int} {k : Int} {j : Nat} (hj : 52 ≤ j) (h12 : G 88 ≤ 12) : sd_lvk G k j = G j := by
  unfold sd_lvk
  split
  · exact sd_un (by omega)
  · rfl
theorem sd_lvk_u {G : Nat → Int} {k : Int} {j : Nat} {v : Int} (hj : 40 ≤ j ∧ j < 52) (hk : ¬ (0 ≤ k ∧ k.toNat + 40 = j)) (h12 : G 88 ≤ 12) : sd_u (sd_lvk G k) j v = sd_lvk (sd_u G j v) k := by
  unfold sd_lvk
  rw [sd_un (show (88 : Nat) ≠ j by omega), sd_un (show 76 + k.toNat ≠ j by omega)]
  by_cases q : 0 ≤ k ∧ k < G 88 ∧ G (76 + k.toNat) = -1
  · rw [if_pos q, if_pos q]
    exact sd_u_sw (by omega)
  · rw [if_neg q, if_neg q]
theorem sd_lvk_n {G : Nat → Int} {k : Nat} : sd_unr G k = sd_lvk G (k : Int) := by
  unfold sd_unr sd_lvk
  by_cases q : (k : Int) < G 88 ∧ G (76 + k) = -1
  · rw [if_pos q, if_pos ⟨by omega, q.1, by rw [Int.toNat_natCast]; exact q.2⟩, Int.toNat_natCast]
  · rw [if_neg q, if_neg (fun z => q ⟨z.2.1, by have := z.2.2; rw [Int.toNat_natCast] at this; exact this⟩)]
theorem sd_lvH_3 {tr : Bool} {F : Nat → Int} {i : Nat} (hW : sd_wf F) (hi : (i : Int) < F 88) (hin : sd_in F i) : sd_lvH tr F i 3 = sd_lev tr (sd_fF tr F) i := by
  have hm := hW.1
  have e88 : sd_fF tr F 88 = F 88 := sd_fF_o (by decide)
  have e76 : sd_fF tr F (76 + i) = -1 := (sd_fF_o (by omega)).trans hin.2
  show sd_lvk (sd_lvk (sd_lvk (sd_lv0 tr F i) ((i : Int) - 1 + (0 : Nat))) ((i : Int) - 1 + (1 : Nat))) ((i : Int) - 1 + (2 : Nat)) = _
  rw [show (i : Int) - 1 + (0 : Nat) = (i : Int) - 1 by omega, show (i : Int) - 1 + (1 : Nat) = (i : Int) by omega, show (i : Int) - 1 + (2 : Nat) = ((i + 1 : Nat) : Int) by omega]
  unfold sd_lv0 sd_lev
  generalize sd_fF tr F = E at *
  have a88 : (sd_u (sd_u E (52 + i) 1) 1 (pz_w (E 1 + 1))) 88 = F 88 := by rw [sd_un (by decide), sd_un (by omega)]; exact e88
  have a76 : (sd_u (sd_u E (52 + i) 1) 1 (pz_w (E 1 + 1))) (76 + i) = -1 := by rw [sd_un (by omega), sd_un (by omega)]; exact e76
  have lv : sd_lv1 E i = sd_u (sd_u (sd_u E (52 + i) 1) 1 (pz_w (E 1 + 1))) (40 + i) 0 := rfl
  generalize sd_u (sd_u E (52 + i) 1) 1 (pz_w (E 1 + 1)) = A at *
  have mid : ∀ B : Nat → Int, B 88 = F 88 → B (76 + i) = -1 → sd_lvk B (i : Int) = sd_u B (40 + i) 0 := fun B b1 b2 => by
    unfold sd_lvk
    rw [if_pos ⟨by omega, by omega, by rw [Int.toNat_natCast]; exact b2⟩, Int.toNat_natCast]
  have k88 : sd_lvk A ((i : Int) - 1) 88 = F 88 := (sd_lvk_88 (by omega)).trans a88
  have k76 : sd_lvk A ((i : Int) - 1) (76 + i) = -1 := (sd_lvk_o (by omega) (by omega)).trans a76
  rw [sd_lvk_note (by omega), sd_lvk_note (by omega), mid _ k88 k76, sd_lvk_note (by rw [sd_un (by omega)]; omega), sd_lvk_u (by omega) (by omega) (by omega), ← lv, sd_lvk_n (k := i + 1)]
  by_cases q : i = 0
  · rw [if_pos q]
    have z : sd_lvk (sd_lv1 E i) ((i : Int) - 1) = sd_lv1 E i := if_neg (fun z => by have := z.1; omega)
    rw [z]
  · rw [if_neg q, sd_lvk_n (k := i - 1), show ((i - 1 : Nat) : Int) = (i : Int) - 1 by omega]
/-- a write to a LINK that there is not -/
theorem sd_se_x {M : pz_M} {c r f : Nat} {F : Nat → Int} {i v : Int} (hc : 71 ≤ c ∧ c < 80) (h : sd_se M c F) (h12 : F 88 ≤ 12) (hr : r = pz_lnk c i) (hi : ¬ (0 ≤ i ∧ i < F 88)) : sd_se (pz_u M r f v) c F := by
  have b := pz_lnk_c (c := c) (i := i)
  obtain ⟨h1, h2, h3, h4, h5, h6⟩ := h
  have m : ∀ j : Nat, pz_u M r f v c j = M c j := fun j => pz_una (by omega)
  refine ⟨(m 3).trans h1, (m 4).trans h2, (m 5).trans h3, (m 6).trans h4, (m 7).trans h5, fun j g hj hg => ?_⟩
  rw [← h6 j g hj hg]
  refine pz_una (fun z => hi ?_)
  rw [hr] at z
  unfold pz_lnk at z
  by_cases q : 0 ≤ i ∧ i < 12
  · rw [if_pos q] at z
    omega
  · rw [if_neg q] at z
    omega
theorem sd_lvk_wf {G : Nat → Int} {k : Int} (h : sd_wf G) : sd_wf (sd_lvk G k) := by
  have hm := h.1
  unfold sd_lvk
  split
  · rename_i q
    exact sd_wf_1 (f := 4) (i := k.toNat) h (by decide) (by omega) (sd_okv_4 (Or.inl rfl))
  · exact h
/-! the model's way to leave -/
theorem sd_lev_k {tr : Bool} {F : Nat → Int} {i : Nat} : sd_lev tr F i = sd_note tr (sd_lvk (sd_lvk (sd_lv1 F i) ((i : Int) - 1)) ((i : Int) + 1)) 4 i 0 := by
  unfold sd_lev
  rw [sd_lvk_n (k := i + 1), show ((i + 1 : Nat) : Int) = (i : Int) + 1 by omega]
  by_cases q : i = 0
  · rw [if_pos q, show sd_lvk (sd_lv1 F i) ((i : Int) - 1) = sd_lv1 F i from if_neg (fun z => by have := z.1; omega)]
  · rw [if_neg q, sd_lvk_n (k := i - 1), show ((i - 1 : Nat) : Int) = (i : Int) - 1 by omega]
theorem sd_py_i {F : Nat → Int} {i : Int} (h0 : 0 ≤ i) : (i = F 88 - 1 ∨ F (5 + i).toNat ≤ pz_w (F (16 + i).toNat + if i = 0 then 0 else F (4 + i).toNat)) ↔ sd_py F i.toNat := by
  unfold sd_py
  rw [show (5 + i).toNat = 5 + i.toNat by omega, show (16 + i).toNat = 16 + i.toNat by omega, show (4 + i).toNat = 4 + i.toNat by omega]
  by_cases q : i = 0
  · rw [if_pos q, if_pos (show i.toNat = 0 by omega), show ((i.toNat : Nat) : Int) = i by omega]
  · rw [if_neg q, if_neg (show ¬ i.toNat = 0 by omega), show ((i.toNat : Nat) : Int) = i by omega]
/-- the model's loops over PARTS -/
def sd_mI (tr : Bool) (F G : Nat → Int) (x a4 : Int) : Prop := G 88 = F 88 ∧ (∀ z : Nat, z < 12 → G (64 + z) = F (64 + z)) ∧ ∃ f : Nat, (a4.toNat < sd_n F → sd_n F ≤ a4.toNat + f) ∧ sd_mv tr (sd_bb F) (sd_n F) f a4.toNat G x = sd_mv tr (sd_bb F) (sd_n F) 12 0 F 0
def sd_mJ (tr : Bool) (F G : Nat → Int) (x a e k can : Int) (ends : Bool) : Prop := G 88 = F 88 ∧ (∀ z : Nat, z < 12 → G (64 + z) = F (64 + z)) ∧ ∃ f : Nat, (a.toNat < sd_n F → sd_n F ≤ a.toNat + f + 1) ∧ (¬ can = 0 → sd_mv tr (sd_bb F) (sd_n F) f (if ends = true then sd_n F else e.toNat) (sd_mi tr e.toNat ends (e + 1 - k).toNat k.toNat G x).1 (sd_mi tr e.toNat ends (e + 1 - k).toNat k.toNat G x).2 = sd_mv tr (sd_bb F) (sd_n F) 12 0 F 0) ∧ (can = 0 → sd_mv tr (sd_bb F) (sd_n F) f (if ends = true then sd_n F else e.toNat) G x = sd_mv tr (sd_bb F) (sd_n F) 12 0 F 0)
theorem sd_mI_0 {tr : Bool} {F : Nat → Int} (h12 : F 88 ≤ 12) : sd_mI tr F F 0 0 := ⟨rfl, fun _ _ => rfl, 12, fun _ => by unfold sd_n; omega, rfl⟩
theorem sd_mI_z {tr : Bool} {F G : Nat → Int} {x a4 : Int} (h : sd_mI tr F G x a4) (ha : ¬ a4.toNat < sd_n F) : (G, x) = sd_mv tr (sd_bb F) (sd_n F) 12 0 F 0 := by
  obtain ⟨-, -, f, -, h1⟩ := h
  rw [← h1]
  rcases f with _ | f
  · rfl
  · exact (if_neg ha).symm
theorem sd_mJ_0 {tr : Bool} {F G : Nat → Int} {x a4 e can : Int} {ends : Bool} (h : sd_mI tr F G x a4) (ha : a4.toNat < sd_n F) (h0 : 0 ≤ a4) (he : e = (sd_end (sd_bb F) (sd_n F) a4.toNat : Int)) (hE : ends = decide (e.toNat = sd_n F - 1)) (hc : can = if sd_cm G e.toNat (e + 1 - a4).toNat a4.toNat = true then 1 else 0) : sd_mJ tr F G x a4 e a4 can ends := by
  obtain ⟨h1, h2, f, h3, h4⟩ := h
  have h3 := h3 ha
  rcases f with _ | f
  · omega
  · have ee : e.toNat = sd_end (sd_bb F) (sd_n F) a4.toNat := by omega
    have em : (e + 1 - a4).toNat = sd_end (sd_bb F) (sd_n F) a4.toNat + 1 - a4.toNat := by omega
    have e0 : sd_mv tr (sd_bb F) (sd_n F) (f + 1) a4.toNat G x = if a4.toNat < sd_n F then sd_mv tr (sd_bb F) (sd_n F) f (if sd_end (sd_bb F) (sd_n F) a4.toNat = sd_n F - 1 then sd_n F else sd_end (sd_bb F) (sd_n F) a4.toNat) (if sd_cm G (sd_end (sd_bb F) (sd_n F) a4.toNat) (sd_end (sd_bb F) (sd_n F) a4.toNat + 1 - a4.toNat) a4.toNat = true then sd_mi tr (sd_end (sd_bb F) (sd_n F) a4.toNat) (decide (sd_end (sd_bb F) (sd_n F) a4.toNat = sd_n F - 1)) (sd_end (sd_bb F) (sd_n F) a4.toNat + 1 - a4.toNat) a4.toNat G x else (G, x)).1 (if sd_cm G (sd_end (sd_bb F) (sd_n F) a4.toNat) (sd_end (sd_bb F) (sd_n F) a4.toNat + 1 - a4.toNat) a4.toNat = true then sd_mi tr (sd_end (sd_bb F) (sd_n F) a4.toNat) (decide (sd_end (sd_bb F) (sd_n F) a4.toNat = sd_n F - 1)) (sd_end (sd_bb F) (sd_n F) a4.toNat + 1 - a4.toNat) a4.toNat G x else (G, x)).2 else (G, x) := rfl
    rw [e0, if_pos ha] at h4
    rw [ee] at hE
    rw [ee, em] at hc
    have en : (if ends = true then sd_n F else sd_end (sd_bb F) (sd_n F) a4.toNat) = (if sd_end (sd_bb F) (sd_n F) a4.toNat = sd_n F - 1 then sd_n F else sd_end (sd_bb F) (sd_n F) a4.toNat) := by
      rw [hE]
      by_cases q : sd_end (sd_bb F) (sd_n F) a4.toNat = sd_n F - 1
      · rw [decide_eq_true q, if_pos rfl, if_pos q]
      · rw [decide_eq_false q, if_neg (by decide), if_neg q]
    refine ⟨h1, h2, f, fun _ => by omega, fun c => ?_, fun c => ?_⟩
    · rw [ee, em, en, hE]
      have cm : sd_cm G (sd_end (sd_bb F) (sd_n F) a4.toNat) (sd_end (sd_bb F) (sd_n F) a4.toNat + 1 - a4.toNat) a4.toNat = true := by
        by_cases y : sd_cm G (sd_end (sd_bb F) (sd_n F) a4.toNat) (sd_end (sd_bb F) (sd_n F) a4.toNat + 1 - a4.toNat) a4.toNat = true
        · exact y
        · rw [if_neg y] at hc
          exact absurd hc c
      rw [if_pos cm] at h4
      exact h4
    · rw [ee, en]
      have cm : ¬ sd_cm G (sd_end (sd_bb F) (sd_n F) a4.toNat) (sd_end (sd_bb F) (sd_n F) a4.toNat + 1 - a4.toNat) a4.toNat = true := fun y => by
        rw [if_pos y] at hc
        omega
      rw [if_neg cm] at h4
      exact h4
theorem sd_mJ_n {tr : Bool} {F G : Nat → Int} {x a e k k' can : Int} {ends : Bool} (h : sd_mJ tr F G x a e k can ends) (hk : 0 ≤ k ∧ k ≤ e) (hk' : k' = k + 1) (q : ¬ sd_mk G e.toNat ends k.toNat) : sd_mJ tr F G x a e k' can ends := by
  obtain ⟨h1, h2, f, h3, h4, h5⟩ := h
  refine ⟨h1, h2, f, h3, fun c => ?_, h5⟩
  have z := h4 c
  rw [show (e + 1 - k).toNat = (e + 1 - k').toNat + 1 by omega] at z
  have e0 : sd_mi tr e.toNat ends ((e + 1 - k').toNat + 1) k.toNat G x = sd_mi tr e.toNat ends (e + 1 - k').toNat (k.toNat + 1) G x := if_neg q
  rw [e0] at z
  rw [show k'.toNat = k.toNat + 1 by omega]
  exact z
theorem sd_mJ_y {tr : Bool} {F G : Nat → Int} {x x' a e k k' can : Int} {ends : Bool} (h : sd_mJ tr F G x a e k can ends) (hk : 0 ≤ k ∧ k ≤ e) (he : e < 12) (hc : ¬ can = 0) (hk' : k' = k + 1) (hx : x' = pz_w (x + 1)) (q : sd_mk G e.toNat ends k.toNat) : sd_mJ tr F (sd_note tr (sd_u G (76 + k.toNat) (G 0)) 5 k.toNat 0) x' a e k' can ends := by
  obtain ⟨h1, h2, f, h3, h4, h5⟩ := h
  refine ⟨?_, fun z hz => ?_, f, h3, fun c => ?_, fun c => absurd c hc⟩
  · rw [sd_note_o (by decide) (by decide), sd_un (by omega)]
    exact h1
  · rw [sd_note_o (by omega) (by omega), sd_un (by omega)]
    exact h2 z hz
  · have z := h4 c
    rw [show (e + 1 - k).toNat = (e + 1 - k').toNat + 1 by omega] at z
    have e0 : sd_mi tr e.toNat ends ((e + 1 - k').toNat + 1) k.toNat G x = sd_mi tr e.toNat ends (e + 1 - k').toNat (k.toNat + 1) (sd_note tr (sd_u G (76 + k.toNat) (G 0)) 5 k.toNat 0) (pz_w (x + 1)) := if_pos q
    rw [e0] at z
    rw [show k'.toNat = k.toNat + 1 by omega, hx]
    exact z
theorem sd_mJ_e {tr : Bool} {F G : Nat → Int} {x a e k can y : Int} {ends : Bool} (h : sd_mJ tr F G x a e k can ends) (ha : 0 ≤ a ∧ a.toNat < sd_n F) (hq : can = 0 ∨ e < k) (hae : a < e ∨ ends = true) (hy : (ends = true ∧ y = F 88) ∨ (ends = false ∧ y = e)) (hn : (sd_n F : Int) = F 88) : sd_mI tr F G x y := by
  obtain ⟨h1, h2, f, h3, h4, h5⟩ := h
  have h3 := h3 ha.2
  have ey : y.toNat = (if ends = true then sd_n F else e.toNat) := by
    rcases hy with ⟨p, q⟩ | ⟨p, q⟩
    · rw [if_pos p]; omega
    · rw [if_neg (by rw [p]; decide), q]
  refine ⟨h1, h2, f, fun z => ?_, ?_⟩
  · rcases hy with ⟨p, q⟩ | ⟨p, q⟩
    · omega
    · have hae := hae.resolve_right (by rw [p]; decide)
      omega
  · rw [ey]
    by_cases c : can = 0
    · exact h5 c
    · have z := h4 c
      have e9 : (e + 1 - k).toNat = 0 := by
        have := hq.resolve_left c
        omega
      rw [e9] at z
      exact z
