section
theorem pq_wh_of {ls : List (List Int)} {n : Int} {M N : pz_M} (h1 : M 1 15 = (ls.length : Int)) (hl : pq_lys 2 (M 66) ls) (w : pz_phc M N) : pq_wh ls n (N 60) := by
  refine ⟨w.1.trans h1, fun i hi _ => ?_⟩
  obtain ⟨a, b⟩ := w.2 i hi
  have en : (M 1 15).toNat = ls.length := by omega
  have g : ∀ r, r < ls.length → pz_mph M r 0 = pq_gl ls r 0 ∧ pz_mph M r 1 = pq_gl ls r 1 ∧ pz_mph M r 2 = pq_gl ls r 2 := fun r hr => (hl r hr).2.1 rfl
  rw [a, b, en]
  exact ⟨pz_ph_cg (fun r hr => ⟨(g r hr).1, (g r hr).2.1⟩), pz_ph_cg (fun r hr => ⟨(g r hr).1, (g r hr).2.2⟩)⟩
theorem pq_wd_of {ls : List (List Int)} {M N : pz_M} (h1 : M 1 15 = (ls.length : Int)) (hl : pq_lys 3 (M 66) ls) (w : pz_pcc 92 209 2 M N) : pq_wd ls (N 60) := by
  refine ⟨w.1.trans h1, fun r c hr hc => ?_⟩
  obtain ⟨x0, x1⟩ := (hl r hr).2.2 rfl
  have e : N 60 (209 + (2 * r + c)) = M 66 (2 * r + c) := w.2 (2 * r + c) (by first | decide | omega)
  rw [e]
  have hc9 : c = 0 ∨ c = 1 := by omega
  rcases hc9 with rfl | rfl
  · exact x0
  · exact x1
def pq_tx (k : Int) (M N : pz_M) (v : Int) : Prop := pz_tb M → (k = 0 → (∃ ls : List pz_lne, pz_gl (pq_TM M) (pq_XM M) 0 0 (.ok ls) ∧ v = (ls.length : Int) ∧ N 1 23 = 0 ∧ N 1 25 = -1 ∧ pq_wlw ls (N 60) ∧ ∀ j : Nat, ¬ pq_wf k j → N 60 j = M 60 j) ∨ (∃ (f : Int) (j : Nat), pz_gl (pq_TM M) (pq_XM M) 0 0 (.bad f j) ∧ v = -1 ∧ N 1 23 = f ∧ N 1 25 = pq_PM M j ∧ ∀ j : Nat, N 60 j = M 60 j)) ∧
  (1 ≤ k ∧ k ≤ 3 → (∃ ls : List (List Int), pz_gw (pz_fw k) (pz_row k (M 60 88) (pq_TM M) (pq_XM M)) (pq_TM M) 16 0 = .inl ls ∧ v = (ls.length : Int) ∧ N 1 23 = 0 ∧ N 1 25 = -1 ∧ pq_w3 k ls (N 60) ∧ ∀ j : Nat, ¬ pq_wf k j → N 60 j = M 60 j) ∨ (∃ (f : Int) (j : Nat), pz_gw (pz_fw k) (pz_row k (M 60 88) (pq_TM M) (pq_XM M)) (pq_TM M) 16 0 = .inr (f, j) ∧ v = -1 ∧ N 1 23 = f ∧ N 1 25 = pq_PM M j ∧ ∀ j : Nat, N 60 j = M 60 j)) ∧
  (¬ (0 ≤ k ∧ k ≤ 3) → v = -1 ∧ N 1 23 = 0 ∧ N 1 25 = -1 ∧ ∀ j : Nat, N 60 j = M 60 j)
theorem pq_tx_out {k v : Int} {M N : pz_M} (h : ¬ (0 ≤ k ∧ k ≤ 3)) (hv : v = -1) (a : N 1 23 = 0) (b : N 1 25 = -1) (fr : ∀ j : Nat, N 60 j = M 60 j) : pq_tx k M N v := fun _ => ⟨fun y => absurd ⟨by omega, by omega⟩ h, fun y => absurd ⟨by omega, y.2⟩ h, fun _ => ⟨hv, a, b, fr⟩⟩
theorem pq_tx_0 {k v : Int} {M M1 M2 M3 M4 N : pz_M} (hk : k = 0) (e : M1 67 = M 67) (e2 : M1 1 16 = M 1 16) (h17 : M1 1 17 = 0) (h12 : M1 1 12 = k) (q : pz_rl pz_Q0 M1 M2) (s : pz_tb M1 → pz_nxt M1 M2) (r : pq_RE M2 M3) (c13 : M4 1 13 = M3 1 13) (c14 : M4 1 14 = M3 1 14) (c64 : M4 64 = M3 64) (c65 : M4 65 = M3 65) (w : pq_pt k M4 N v) (fr : ∀ j : Nat, M4 60 j = M 60 j) (a : N 1 23 = 0) (b : N 1 25 = -1) : pq_tx k M N v := by
  intro tb
  have T := pq_T_cg e e2
  have t2 := pq_Q0 q
  have m0 := pq_mi_0 h17 (pq_tb_cg e e2 tb) q s
  have z0 : pq_mz M2 0 := ⟨m0, by rw [t2.2.2, h12]; exact hk⟩
  obtain ⟨ls, g, l⟩ := r 0 z0
  rw [t2.T.1, t2.T.2.1, T.1, T.2.1] at g
  rw [← c13, ← c14, ← c64, ← c65] at l
  obtain ⟨w1, w2⟩ := w.1 hk
  exact ⟨fun _ => Or.inl ⟨ls, g, w1.trans l.1, a, b, pq_wl_of l w2, fun j y => (w.2.2.2.2 j y).trans (fr j)⟩, fun y => absurd y.1 (by first | decide | omega), fun y => absurd ⟨by omega, by omega⟩ y⟩
end
