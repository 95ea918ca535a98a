/-! what is kept -/
def pz_QK (b j : Nat) : Prop := (b = 60 ∧ j < 88) ∨ (b = 1 ∧ j = 4)
def pz_QE (b j : Nat) : Prop := b = 62 ∨ (b = 1 ∧ (j = 4 ∨ j = 26))
/-- the kept state s, from the bottom -/
def sd_kF (M : pz_M) (s : Nat) : Nat → Int := fun j => if j < 88 then M 62 (88 * s + j) else M 60 j
def sd_ki (M N : pz_M) (s : Nat) (x : Int) : Prop := ∀ j : Nat, N 60 j = if (j : Int) < x then M 62 (88 * s + j) else M 60 j
theorem sd_ki_s {M N N' : pz_M} {s k : Nat} {x v : Int} (h : sd_ki M N s x) (hx : 0 ≤ x) (hk : k = x.toNat) (hv : v = M 62 (88 * s + k)) (e : N' = pz_u N 60 k v) : sd_ki M N' s (x + 1) := fun j => by
  rw [e]
  show (if 60 = 60 ∧ j = k then v else N 60 j) = _
  by_cases q : j = k
  · rw [if_pos ⟨rfl, q⟩, if_pos (by omega), q, hv]
  · rw [if_neg (fun z => q z.2), h j]
    by_cases y : (j : Int) < x
    · rw [if_pos y, if_pos (by omega)]
    · rw [if_neg y, if_neg (by omega)]
theorem sd_ki_e {M N : pz_M} {s : Nat} {x : Int} (h : sd_ki M N s x) (hx : x = 88) : N 60 = sd_kF M s := funext fun j => by
  rw [h j]
  unfold sd_kF
  by_cases y : j < 88
  · rw [if_pos y, if_pos (by omega)]
  · rw [if_neg y, if_neg (by omega)]
def sd_kb (M : pz_M) : Int := if M 1 4 = 6 then 5 else M 1 4
def sd_kB (M : pz_M) (k : Nat) : Int := if M 1 4 = 6 ∧ k < 440 then M 62 (k + 88) else M 62 k
def sd_kS (M N : pz_M) (x : Int) : Prop := ∀ k : Nat, N 62 k = if (k : Int) < x then M 62 (k + 88) else M 62 k
def sd_kW (M N : pz_M) (x : Int) : Prop := ∀ k : Nat, N 62 k = if 88 * sd_kb M ≤ (k : Int) ∧ (k : Int) < 88 * sd_kb M + x then M 60 ((k : Int) - 88 * sd_kb M).toNat else sd_kB M k
theorem sd_kS_0 {M : pz_M} : sd_kS M M 0 := fun k => (if_neg (by omega)).symm
theorem sd_kS_s {M N N' : pz_M} {k : Nat} {x v : Int} (h : sd_kS M N x) (hx : 0 ≤ x) (hk : k = x.toNat) (hv : v = N 62 (k + 88)) (e : N' = pz_u N 62 k v) : sd_kS M N' (x + 1) := fun j => by
  rw [e]
  show (if 62 = 62 ∧ j = k then v else N 62 j) = _
  by_cases q : j = k
  · rw [if_pos ⟨rfl, q⟩, if_pos (by omega), hv, h, if_neg (by omega), q]
  · rw [if_neg (fun z => q z.2), h j]
    by_cases y : (j : Int) < x
    · rw [if_pos y, if_pos (by omega)]
    · rw [if_neg y, if_neg (by omega)]
theorem sd_kW_0 {M N : pz_M} {x : Int} (h : sd_kS M N x) (hx : x = 440) (h6 : M 1 4 = 6) : sd_kW M N 0 := fun k => by
  rw [h k, if_neg (show ¬ (88 * sd_kb M ≤ (k : Int) ∧ (k : Int) < 88 * sd_kb M + 0) by omega)]
  unfold sd_kB
  by_cases y : k < 440
  · rw [if_pos (show (k : Int) < x by omega), if_pos ⟨h6, y⟩]
  · rw [if_neg (show ¬ (k : Int) < x by omega), if_neg (fun z => y z.2)]
theorem sd_kW_1 {M : pz_M} (h6 : ¬ M 1 4 = 6) : sd_kW M M 0 := fun k => by
  rw [if_neg (show ¬ (88 * sd_kb M ≤ (k : Int) ∧ (k : Int) < 88 * sd_kb M + 0) by omega)]
  exact (if_neg (fun z => h6 z.1)).symm
theorem sd_kW_s {M N N' : pz_M} {k : Nat} {x v : Int} (h : sd_kW M N x) (hb : 0 ≤ sd_kb M) (hx : 0 ≤ x) (hk : k = (88 * sd_kb M + x).toNat) (hv : v = M 60 x.toNat) (e : N' = pz_u N 62 k v) : sd_kW M N' (x + 1) := fun j => by
  rw [e]
  show (if 62 = 62 ∧ j = k then v else N 62 j) = _
  by_cases q : j = k
  · rw [if_pos ⟨rfl, q⟩, if_pos (by omega), hv, show ((j : Int) - 88 * sd_kb M).toNat = x.toNat by omega]
  · rw [if_neg (fun z => q z.2), h j]
    by_cases y : 88 * sd_kb M ≤ (j : Int) ∧ (j : Int) < 88 * sd_kb M + x
    · rw [if_pos y, if_pos (by omega)]
    · rw [if_neg y, if_neg (by omega)]
