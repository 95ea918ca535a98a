section
theorem pz_RZ_text {M M1 M2 : pz_M} {k v v' : Int} (hI : pz_ic M) (hI1 : pz_ic M1) (h : pz_RZ M) (q : (pq_te k (M 71 3) M M1 v ∧ M1 4 1 = 0 ∧ (∀ j : Nat, j ≠ 2 → M1 3 j = M 3 j) ∧ (M1 3 2 = M 3 2 ∨ M1 3 2 = 0)) ∧ M1 3 2 = if v ≠ -1 ∧ k = 1 then 0 else M 3 2) (z : pq_pr pq_Pt M M1) (q' : (pq_tx k M1 M2 v' ∧ M2 1 16 = 0) ∧ M2 1 4 = if v' ≠ -1 ∧ k = 1 then 0 else M1 1 4) (z' : pz_rl pz_QT M1 M2) : v = v' ∧ pz_RZ M2 := by
  obtain ⟨e, r⟩ := pz_RX_text hI hI1 h.1 q.1 z q'.1 z'
  refine ⟨e, r, ?_⟩
  obtain ⟨h1, ⟨h2, h3, h4⟩, h5, ⟨L, h6, h7⟩, h8⟩ := id h.2
  have lq := sd_LQ_text hI hI1 h.1.1 q.1.1 z q'.1.1 z' h5
  have c : ∀ b j : Nat, b ≠ 60 → b ≠ 1 → (b < 64 ∨ 66 < b) → M2 b j = M1 b j := fun b j y1 y2 y3 => z'.2 b j (by unfold pz_QT; first | decide | omega)
  have c1 : ∀ b j : Nat, ¬ pq_Pt b j → M1 b j = M b j := fun b j y => z.2 b j y
  have w : ∀ j : Nat, j ≤ 88 ∨ (93 ≤ j ∧ j ≤ 104) ∨ (241 ≤ j ∧ j ≤ 840) → M2 60 j = M 60 j := fun j y => (z'.2 60 j (by unfold pz_QT; first | decide | omega)).trans (z.2 60 j (by unfold pq_Pt; first | decide | omega))
  have n9 := h4.1
  have d : ∀ b j : Nat, b = 71 ∨ b = 72 ∨ b = 45 ∨ b = 46 ∨ b = 11 ∨ (16 ≤ b ∧ b ≤ 18) ∨ (23 ≤ b ∧ b ≤ 25) ∨ (33 ≤ b ∧ b ≤ 37) ∨ b = 61 ∨ (73 ≤ b ∧ b < 206) → M2 b j = M b j := fun b j y => (c b j (by first | decide | omega) (by first | decide | omega) (by first | decide | omega)).trans (c1 b j (by unfold pq_Pt; first | decide | omega))
  refine ⟨?_, ⟨?_, fun k hk => ?_, ?_⟩, lq, ?_, sd_im_cg h8 (fun b j y => d b j (by first | decide | omega))⟩
  · rw [d 71 0 (by first | decide | omega), d 72 0 (by first | decide | omega)]
    exact h1
  · exact sd_se_f (sd_se_cg h2 (fun b j y => d b j (by unfold pz_lb at y; first | decide | omega)) (by first | decide | omega)) (fun k hk => w k (by first | decide | omega)) (by first | decide | omega)
  · rw [d 45 k (by first | decide | omega), w _ (by first | decide | omega)]
    exact h3 k hk
  · exact sd_wf_cg h4 (fun k hk => w k (by first | decide | omega)) (by rw [w 3 (by first | decide | omega)]; exact h4.2.1)
  · have x1 := q.2
    have x2 := q'.2
    rw [← e] at x2
    by_cases y : v ≠ -1 ∧ k = 1
    · rw [if_pos y] at x1 x2
      exact ⟨[], sd_ck_0 ((c 3 2 (by first | decide | omega) (by first | decide | omega) (by first | decide | omega)).trans x1), sd_mq_0 x2⟩
    · rw [if_neg y] at x1 x2
      refine ⟨L, sd_ck_cg h6 (fun b j u => ?_), sd_mq_cg h7 (x2.trans (c1 1 4 (by unfold pq_Pt; first | decide | omega))) (fun j => (c 62 j (by first | decide | omega) (by first | decide | omega) (by first | decide | omega)).trans (c1 62 j (by unfold pq_Pt; first | decide | omega))) (fun j j1 => w j (by first | decide | omega))⟩
      · by_cases b3 : b = 3
        · rw [b3, c 3 j (by first | decide | omega) (by first | decide | omega) (by first | decide | omega)]
          by_cases j2 : j = 2
          · rw [j2]
            exact x1
          · exact q.1.2.2.1 j j2
        · exact d b j (by first | decide | omega)
theorem sd_tf_se {c o : Nat} {M N : pz_M} {F : Nat → Int} (hc : 71 ≤ c ∧ c < 80) (ho : 71 ≤ o ∧ o < 80) (hF : sd_se M o F) (h12 : F 88 ≤ 12) (e : ∀ b j : Nat, (b = c ∧ 3 ≤ j) ∨ (pz_lb c ≤ b ∧ b < pz_lb c + 12) → N b j = pz_tf c o M b j) : sd_se N c F := by
  obtain ⟨a1, a2, a3, a4, a5, a6⟩ := hF
  have k : ∀ j : Nat, 3 ≤ j → j < 8 → N c j = M o j := fun j j1 j2 => (e c j (Or.inl ⟨rfl, j1⟩)).trans (pz_tf_k hc ⟨j1, j2⟩)
  refine ⟨(k 3 (by first | decide | omega) (by first | decide | omega)).trans a1, (k 4 (by first | decide | omega) (by first | decide | omega)).trans a2, (k 5 (by first | decide | omega) (by first | decide | omega)).trans a3, (k 6 (by first | decide | omega) (by first | decide | omega)).trans a4, (k 7 (by first | decide | omega) (by first | decide | omega)).trans a5, fun i f hi hf => ?_⟩
  rw [e _ f (Or.inr ⟨by omega, by omega⟩), ← a6 i f hi hf]
  exact pz_tf_l (by first | decide | omega) hf
end
