section
theorem pq_tx_0b {k v : Int} {M M1 M2 M3 N : pz_M} (hk : k = 0) (e : M1 67 = M 67) (e2 : M1 1 16 = M 1 16) (h17 : M1 1 17 = 0) (h12 : M1 1 12 = k) (q : pz_rl pz_Q0 M1 M2) (s : pz_tb M1 → pz_nxt M1 M2) (r : pq_RB M2 M3) (hv : v = -1) (fr : ∀ j : Nat, N 60 j = M 60 j) (a : N 1 23 = M3 1 21) (b : N 1 25 = M3 1 22) : pq_tx k M N v := by
  intro tb
  have T := pq_T_cg e e2
  have t2 := pq_Q0 q
  have m0 := pq_mi_0 h17 (pq_tb_cg e e2 tb) q s
  have z0 : pq_mz M2 0 := ⟨m0, by rw [t2.2.2, h12]; exact hk⟩
  obtain ⟨f, j, g, l⟩ := r 0 z0
  rw [t2.T.1, t2.T.2.1, T.1, T.2.1] at g
  have l2 := l.2
  rw [t2.T.2.2, T.2.2] at l2
  exact ⟨fun _ => Or.inr ⟨f, j, g, hv, a.trans l.1, b.trans l2, fr⟩, fun y => absurd y.1 (by first | decide | omega), fun y => absurd ⟨by omega, by omega⟩ y⟩
theorem pq_GW_cg {M N : pz_M} {k : Int} (h12 : N 1 12 = k) (e88 : N 60 88 = M 60 88) (t : pq_TM N = pq_TM M) (x : pq_XM N = pq_XM M) : pq_GW N 16 0 = pz_gw (pz_fw k) (pz_row k (M 60 88) (pq_TM M) (pq_XM M)) (pq_TM M) 16 0 := by
  unfold pq_GW
  rw [h12, e88, t, x]
theorem pq_tx_r {k v : Int} {M M1 M2 M3 M4 N : pz_M} (hk : 1 ≤ k ∧ k ≤ 3) (e : M1 67 = M 67) (e2 : M1 1 16 = M 1 16) (e3 : M1 60 88 = M 60 88) (h17 : M1 1 17 = 0) (h12 : M1 1 12 = k) (q : pz_rl pz_Q0 M1 M2) (s : pz_tb M1 → pz_nxt M1 M2) (r : pq_QE M2 M3) (c15 : M4 1 15 = M3 1 15) (c66 : M4 66 = M3 66) (w : pq_pt k M4 N v) (fr : ∀ j : Nat, M4 60 j = M 60 j) (a : N 1 23 = 0) (b : N 1 25 = -1) : pq_tx k M N v := by
  intro tb
  have T := pq_T_cg e e2
  have t2 := pq_Q0 q
  have m0 := pq_mi_0 h17 (pq_tb_cg e e2 tb) q s
  obtain ⟨ls, g, l, -, lay⟩ := r 0 m0
  have k2 : M2 1 12 = k := t2.2.2.trans h12
  rw [pq_GW_cg (M := M) k2 ((q.2 60 88 (by unfold pz_Q0; first | decide | omega)).trans e3) (t2.T.1.trans T.1) (t2.T.2.1.trans T.2.1)] at g
  rw [← c15] at l
  rw [k2, ← c66] at lay
  obtain ⟨-, w1, w2, w3, w4⟩ := w
  have x1 : ∀ h : k = 1, v = M4 1 15 ∧ pq_wp ls (N 60) := fun h => ⟨(w1 h).1, pq_wp_of l (by rw [← h]; exact lay) (w1 h).2⟩
  have x2 : ∀ h : k = 2, v = M4 1 15 ∧ ∀ n : Int, pq_wh ls n (N 60) := fun h => ⟨(w2 h).1, fun n => pq_wh_of l (by rw [← h]; exact lay) (w2 h).2⟩
  have x3 : ∀ h : k = 3, v = M4 1 15 ∧ pq_wd ls (N 60) := fun h => ⟨(w3 h).1, pq_wd_of l (by rw [← h]; exact lay) (w3 h).2⟩
  have hv : v = M4 1 15 := by
    have h : k = 1 ∨ k = 2 ∨ k = 3 := by omega
    rcases h with h | h | h
    · exact (x1 h).1
    · exact (x2 h).1
    · exact (x3 h).1
  exact ⟨fun y => absurd y (by first | decide | omega), fun _ => Or.inl ⟨ls, g, hv.trans l, a, b, ⟨fun h => (x1 h).2, fun h => (x2 h).2, fun h => (x3 h).2⟩, fun j y => (w4 j y).trans (fr j)⟩, fun y => absurd ⟨by omega, by omega⟩ y⟩
theorem pq_tx_rb {k v : Int} {M M1 M2 M3 N : pz_M} (hk : 1 ≤ k ∧ k ≤ 3) (e : M1 67 = M 67) (e2 : M1 1 16 = M 1 16) (e3 : M1 60 88 = M 60 88) (h17 : M1 1 17 = 0) (h12 : M1 1 12 = k) (q : pz_rl pz_Q0 M1 M2) (s : pz_tb M1 → pz_nxt M1 M2) (r : pq_QB M2 M3) (hv : v = -1) (fr : ∀ j : Nat, N 60 j = M 60 j) (a : N 1 23 = M3 1 21) (b : N 1 25 = M3 1 22) : pq_tx k M N v := by
  intro tb
  have T := pq_T_cg e e2
  have t2 := pq_Q0 q
  have m0 := pq_mi_0 h17 (pq_tb_cg e e2 tb) q s
  obtain ⟨f, j, g, l⟩ := r 0 m0
  rw [pq_GW_cg (M := M) (t2.2.2.trans h12) ((q.2 60 88 (by unfold pz_Q0; first | decide | omega)).trans e3) (t2.T.1.trans T.1) (t2.T.2.1.trans T.2.1)] at g
  have l2 := l.2
  rw [t2.T.2.2, T.2.2] at l2
  exact ⟨fun y => absurd y (by first | decide | omega), fun _ => Or.inr ⟨f, j, g, hv, a.trans l.1, b.trans l2, fr⟩, fun y => absurd ⟨by omega, by omega⟩ y⟩
/-! how it is put -/
end
