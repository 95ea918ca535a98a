section
theorem pz_img1 {M N N' : pz_M} {x y v : Int} {k : Nat} (hk : (k : Int) = y) (hx : x ≠ 0) (e : N' = pz_u N 61 k v) (ev : v = N 60 k) (o : (x = 0 → ∀ k : Nat, (k : Int) < y → N 60 k = M 61 k) ∧ (x = 0 → ∀ k, N 61 k = M 61 k) ∧ (x ≠ 0 → ∀ k : Nat, (k : Int) < y → N 61 k = M 60 k) ∧ (x ≠ 0 → ∀ k, N 60 k = M 60 k)) : (x = 0 → ∀ k : Nat, (k : Int) < y + 1 → N' 60 k = M 61 k) ∧ (x = 0 → ∀ k, N' 61 k = M 61 k) ∧ (x ≠ 0 → ∀ k : Nat, (k : Int) < y + 1 → N' 61 k = M 60 k) ∧ (x ≠ 0 → ∀ k, N' 60 k = M 60 k) := by
  obtain ⟨o1, o2, o3, o4⟩ := o
  refine ⟨fun q => absurd q hx, fun q => absurd q hx, fun q j hj => ?_, fun q j => ?_⟩
  · rw [pz_u64 e j]
    by_cases h : j = k
    · rw [if_pos h, ev, h]
      exact o4 q k
    · rw [if_neg h]
      exact o3 q j (by first | decide | omega)
  · rw [e, pz_una (by decide)]
    exact o4 q j
theorem pz_img2 {M N N' : pz_M} {x y v : Int} {k : Nat} (hk : (k : Int) = y) (hx : x = 0) (e : N' = pz_u N 60 k v) (ev : v = N 61 k) (o : (x = 0 → ∀ k : Nat, (k : Int) < y → N 60 k = M 61 k) ∧ (x = 0 → ∀ k, N 61 k = M 61 k) ∧ (x ≠ 0 → ∀ k : Nat, (k : Int) < y → N 61 k = M 60 k) ∧ (x ≠ 0 → ∀ k, N 60 k = M 60 k)) : (x = 0 → ∀ k : Nat, (k : Int) < y + 1 → N' 60 k = M 61 k) ∧ (x = 0 → ∀ k, N' 61 k = M 61 k) ∧ (x ≠ 0 → ∀ k : Nat, (k : Int) < y + 1 → N' 61 k = M 60 k) ∧ (x ≠ 0 → ∀ k, N' 60 k = M 60 k) := by
  obtain ⟨o1, o2, o3, o4⟩ := o
  refine ⟨fun q j hj => ?_, fun q j => ?_, fun q => absurd hx q, fun q => absurd hx q⟩
  · rw [pz_u64 e j]
    by_cases h : j = k
    · rw [if_pos h, ev, h]
      exact o2 q k
    · rw [if_neg h]
      exact o1 q j (by first | decide | omega)
  · rw [e, pz_una (by decide)]
    exact o2 q j
end
section
/-! a TEXT is told, and put into w -/
theorem pq_mi_0 {M N : pz_M} (h : M 1 17 = 0) (b : pz_tb M) (q : pz_rl pz_Q0 M N) (s : pz_tb M → pz_nxt M N) : pq_mi N 0 := by
  obtain ⟨s1, s2, s3, s4⟩ := s b
  have e := pq_Q0 q
  have p : pz_nxp M = pz_tp (M 67) (M 1 16).toNat 0 := by
    unfold pz_nxp
    rw [h]
    rfl
  rw [p] at s1 s2 s3 s4
  refine ⟨fun k hk => by rw [e.1]; exact b k (by rw [← e.2.1]; exact hk), ?_, ?_, ?_, fun y => ?_⟩
  · rw [s1, e.T.2.2]
    rfl
  · rw [s2, e.1, e.2.1]
  · rw [s3, e.T.1, e.2.2]
    rfl
  · rw [e.T.1] at y
    rw [s4 y, e.T.2.1]
    rfl
theorem pq_T_cg {M N : pz_M} (e : N 67 = M 67) (e2 : N 1 16 = M 1 16) : pq_TM N = pq_TM M ∧ pq_XM N = pq_XM M ∧ pq_PM N = pq_PM M := by
  unfold pq_TM pq_XM
  refine ⟨by rw [e, e2], by rw [e, e2], funext fun i => ?_⟩
  unfold pq_PM
  rw [e, e2]
theorem pq_tb_cg {M N : pz_M} (e : N 67 = M 67) (e2 : N 1 16 = M 1 16) (h : pz_tb M) : pz_tb N := fun k hk => by rw [e]; exact h k (by rw [← e2]; exact hk)
def pq_gl (ls : List (List Int)) (r c : Nat) : Int := (ls.getD r []).getD c 0
def pq_wlw (ls : List pz_lne) (f : Nat → Int) : Prop := f 89 = (ls.length : Int) ∧ (∀ k : Nat, k < ls.length → pq_l2 ls k (f (841 + k)) (f (857 + k)) (f (873 + k)) (f (889 + k))) ∧ pq_st (pz_catl ls) (fun j => f (905 + j))
def pq_wp (ls : List (List Int)) (f : Nat → Int) : Prop := f 90 = (ls.length : Int) ∧ ∀ r c : Nat, r < ls.length → c < 5 → f (129 + (5 * r + c)) = pq_gl ls r c - (if c = 1 then 10 else 0)
end
