section
theorem pz_RZ_image {M M1 M2 : pz_M} {t v v' : Int} (hI : pz_ic M) (h : pz_RZ M) (q : ((t = 0 ∧ M 0 13 = 0 ∧ v = 0 ∧ M1 = M) ∨ ((t ≠ 0 ∧ v = 1 ∧ M1 0 13 = 1 ∧ pz_xi 73 71 M M1) ∧ pz_Ti 9 8 M M1) ∨ ((t = 0 ∧ M 0 13 ≠ 0 ∧ v = 1 ∧ M1 0 13 = M 0 13 ∧ M1 3 2 = 0 ∧ pz_xi 71 73 M M1) ∧ pz_Ti 8 9 M M1)) ∧ (t ≠ 0 → ∀ b j : Nat, ¬ pz_td 9 b → M1 b j = if b = 46 ∧ j < 600 then M 45 j else if b = 0 ∧ j = 13 then 1 else pz_tf 73 71 M b j) ∧ (t = 0 → M 0 13 ≠ 0 → ∀ b j : Nat, ¬ pz_td 8 b → M1 b j = if b = 45 ∧ j < 600 then M 46 j else if b = 3 ∧ j = 2 then 0 else if b = 7 ∧ j = 0 then 0 else pz_tf 71 73 M b j))
    (q' : ((t = 0 ∧ M1 1 5 = 0 ∧ v' = 0 ∧ M2 = M1) ∨ ((t ≠ 0 ∨ M1 1 5 ≠ 0) ∧ v' = 1 ∧ M2 1 5 = 1 ∧ ((t = 0 → ∀ k : Nat, (k : Int) < 1725 → M2 60 k = M1 61 k) ∧ (t = 0 → ∀ k, M2 61 k = M1 61 k) ∧ (t ≠ 0 → ∀ k : Nat, (k : Int) < 1725 → M2 61 k = M1 60 k) ∧ (t ≠ 0 → ∀ k, M2 60 k = M1 60 k)))) ∧ (t = 0 → M1 1 5 ≠ 0 → M2 1 4 = 0) ∧ (t ≠ 0 → M2 1 4 = M1 1 4)) (z' : pz_rl pz_QI M1 M2) : v = v' ∧ pz_RZ M2 := by
  obtain ⟨e, r⟩ := pz_RX_image h.1 q.1 q'.1 z'
  refine ⟨e, r, ?_⟩
  obtain ⟨h1, ⟨h2, h3, h4⟩, h5, ⟨L, h6, h7⟩, h8⟩ := id h.2
  obtain ⟨g1, g2, g3, g4⟩ := id h8
  have n9 := h4.1
  have m9 := g3.1
  have c : ∀ b j : Nat, b ≠ 60 → b ≠ 61 → b ≠ 1 → M2 b j = M1 b j := fun b j y1 y2 y3 => z'.2 b j (by unfold pz_QI; first | decide | omega)
  have hi := h.1.1.1.2.2.2.2.1
  obtain ⟨q, qa, qb⟩ := q
  obtain ⟨q', qc, qd⟩ := q'
  rcases q with ⟨a1, a2, -, a3⟩ | ⟨⟨a1, -, -, a3⟩, a4⟩ | ⟨⟨a1, a2, -, -, a5, a3⟩, a4⟩
  · rcases q' with ⟨-, -, -, b⟩ | ⟨b, -, -, -⟩
    · rw [b, a3]
      exact h.2
    · rw [a3] at b
      omega
  · have E := qa a1
    have o : ∀ b j : Nat, b ≠ 46 → ¬ (b = 0 ∧ j = 13) → ¬ pz_td 9 b → b ≠ 73 → b < 115 ∨ 127 ≤ b → M1 b j = M b j := fun b j y1 y2 y3 y4 y5 => by
      rw [E b j y3, if_neg (by first | decide | omega), if_neg y2]
      exact pz_tf_o y4 (by unfold pz_lb; first | decide | omega)
    rcases q' with ⟨b, -, -, -⟩ | ⟨-, -, -, -, -, b3, b4⟩
    · exact absurd b a1
    · have w : M2 60 = M 60 := funext fun j => (b4 a1 j).trans (o 60 j (by first | decide | omega) (by first | decide | omega) (by unfold pz_td; first | decide | omega) (by first | decide | omega) (by first | decide | omega))
      have w61 : ∀ k : Nat, k < 1725 → M2 61 k = M 60 k := fun k hk => (b3 a1 k (by first | decide | omega)).trans (o 60 k (by first | decide | omega) (by first | decide | omega) (by unfold pz_td; first | decide | omega) (by first | decide | omega) (by first | decide | omega))
      have d : ∀ b j : Nat, b = 71 ∨ b = 72 ∨ b = 45 ∨ b = 3 ∨ (74 ≤ b ∧ b < 101) ∨ (127 ≤ b ∧ b < 206) ∨ b = 62 ∨ b = 10 ∨ (13 ≤ b ∧ b ≤ 15) ∨ (20 ≤ b ∧ b ≤ 22) ∨ (27 ≤ b ∧ b ≤ 31) → M2 b j = M b j := fun b j y => (c b j (by first | decide | omega) (by first | decide | omega) (by first | decide | omega)).trans (o b j (by first | decide | omega) (by first | decide | omega) (by unfold pz_td; first | decide | omega) (by first | decide | omega) (by first | decide | omega))
      have t2 : pz_Ti 9 8 M M2 := by
        obtain ⟨q1, q2, q3, q4, q5, q6⟩ := a4
        exact ⟨fun j hj => (c _ _ (by first | decide | omega) (by first | decide | omega) (by first | decide | omega)).trans (q1 j hj), fun k j hk hj => (c _ _ (by first | decide | omega) (by first | decide | omega) (by first | decide | omega)).trans (q2 k j hk hj), fun j hj => (c _ _ (by first | decide | omega) (by first | decide | omega) (by first | decide | omega)).trans (q3 j hj), fun k hk => (c _ _ (by first | decide | omega) (by first | decide | omega) (by first | decide | omega)).trans (q4 k hk), fun k j hk hj => (c _ _ (by first | decide | omega) (by first | decide | omega) (by first | decide | omega)).trans (q5 k j hk hj), fun b j y1 y2 y3 => (c _ _ (by first | decide | omega) (by first | decide | omega) (by first | decide | omega)).trans (q6 b j y1 y2 y3)⟩
      refine ⟨?_, ⟨?_, fun k hk => ?_, by rw [w]; exact h4⟩, sd_LQ_cg h5 (fun b j y => d b j (by unfold pz_xcl at y; first | decide | omega)) (fun j y => congrFun w j), ⟨L, sd_ck_cg h6 (fun b j y => d b j (by first | decide | omega)), sd_mq_cg h7 ?_ (fun j => d 62 j (by first | decide | omega)) (fun j _ => congrFun w j)⟩, ?_, fun k hk => ?_, ?_, sd_LQ_img (t := 0) (t' := 1) rfl rfl h5 t2 w61⟩
      · rw [d 71 0 (by first | decide | omega), d 72 0 (by first | decide | omega)]
        exact h1
      · rw [w]
        exact sd_se_cg h2 (fun b j y => d b j (by unfold pz_lb at y; first | decide | omega)) (by first | decide | omega)
      · rw [w, d 45 k (by first | decide | omega)]
        exact h3 k hk
      · exact (qd a1).trans (o 1 4 (by first | decide | omega) (by first | decide | omega) (by unfold pz_td; first | decide | omega) (by first | decide | omega) (by first | decide | omega))
      · refine sd_se_f (F := M 60) (sd_tf_se (c := 73) (o := 71) (by first | decide | omega) (by first | decide | omega) h2 (by first | decide | omega) (fun b j y => ?_)) (fun k hk => w61 k (by first | decide | omega)) (by first | decide | omega)
        rw [c b j (by unfold pz_lb at y; first | decide | omega) (by unfold pz_lb at y; first | decide | omega) (by unfold pz_lb at y; first | decide | omega), E b j (by unfold pz_lb at y; unfold pz_td; omega), if_neg (by unfold pz_lb at y; first | decide | omega), if_neg (by unfold pz_lb at y; first | decide | omega)]
      · rw [w61 _ (by first | decide | omega), c 46 k (by first | decide | omega) (by first | decide | omega) (by first | decide | omega), E 46 k (by unfold pz_td; first | decide | omega), if_pos ⟨rfl, hk⟩]
        exact h3 k hk
      · exact sd_wf_cg h4 (fun k hk => w61 k (by first | decide | omega)) (by rw [w61 3 (by first | decide | omega)]; exact h4.2.1)
  · have E := qb a1 a2
    have o : ∀ b j : Nat, b ≠ 45 → ¬ (b = 3 ∧ j = 2) → b ≠ 7 → ¬ pz_td 8 b → b ≠ 71 → b < 89 ∨ 101 ≤ b → M1 b j = M b j := fun b j y1 y2 y3 y4 y5 y6 => by
      rw [E b j y4, if_neg (by first | decide | omega), if_neg y2, if_neg (by first | decide | omega)]
      exact pz_tf_o y5 (by unfold pz_lb; first | decide | omega)
    have m5 : M1 1 5 = M 1 5 := o 1 5 (by first | decide | omega) (by first | decide | omega) (by first | decide | omega) (by unfold pz_td; first | decide | omega) (by first | decide | omega) (by first | decide | omega)
    rcases q' with ⟨-, b, -, -⟩ | ⟨-, -, -, b3, b4, -, -⟩
    · omega
    · have w61 : M2 61 = M 61 := funext fun j => (b4 a1 j).trans (o 61 j (by first | decide | omega) (by first | decide | omega) (by first | decide | omega) (by unfold pz_td; first | decide | omega) (by first | decide | omega) (by first | decide | omega))
      have w60 : ∀ k : Nat, k < 1725 → M2 60 k = M 61 k := fun k hk => (b3 a1 k (by first | decide | omega)).trans (o 61 k (by first | decide | omega) (by first | decide | omega) (by first | decide | omega) (by unfold pz_td; first | decide | omega) (by first | decide | omega) (by first | decide | omega))
      have d : ∀ b j : Nat, (b = 71 ∧ j = 0) ∨ b = 72 ∨ b = 73 ∨ b = 46 ∨ b = 11 ∨ (16 ≤ b ∧ b ≤ 18) ∨ (23 ≤ b ∧ b ≤ 25) ∨ (33 ≤ b ∧ b ≤ 37) ∨ (115 ≤ b ∧ b ≤ 126) → M2 b j = M b j := fun b j y => by
        rw [c b j (by first | decide | omega) (by first | decide | omega) (by first | decide | omega)]
        by_cases x : b = 71
        · rw [E b j (by unfold pz_td; first | decide | omega), if_neg (by first | decide | omega), if_neg (by first | decide | omega), if_neg (by first | decide | omega)]
          unfold pz_tf pz_tn
          rw [if_neg (by unfold pz_lb; first | decide | omega), if_neg (by first | decide | omega)]
        · exact o b j (by first | decide | omega) (by first | decide | omega) (by first | decide | omega) (by unfold pz_td; first | decide | omega) x (by first | decide | omega)
      have t2 : pz_Ti 8 9 M M2 := by
        obtain ⟨q1, q2, q3, q4, q5, q6⟩ := a4
        exact ⟨fun j hj => (c _ _ (by first | decide | omega) (by first | decide | omega) (by first | decide | omega)).trans (q1 j hj), fun k j hk hj => (c _ _ (by first | decide | omega) (by first | decide | omega) (by first | decide | omega)).trans (q2 k j hk hj), fun j hj => (c _ _ (by first | decide | omega) (by first | decide | omega) (by first | decide | omega)).trans (q3 j hj), fun k hk => (c _ _ (by first | decide | omega) (by first | decide | omega) (by first | decide | omega)).trans (q4 k hk), fun k j hk hj => (c _ _ (by first | decide | omega) (by first | decide | omega) (by first | decide | omega)).trans (q5 k j hk hj), fun b j y1 y2 y3 => (c _ _ (by first | decide | omega) (by first | decide | omega) (by first | decide | omega)).trans (q6 b j y1 y2 y3)⟩
      refine ⟨?_, ⟨?_, fun k hk => ?_, ?_⟩, sd_LQ_img (t := 1) (t' := 0) rfl rfl g4 t2 w60, ⟨[], sd_ck_0 ((c 3 2 (by first | decide | omega) (by first | decide | omega) (by first | decide | omega)).trans a5), sd_mq_0 (qc a1 (by first | decide | omega))⟩, ?_, fun k hk => ?_, by rw [w61]; exact g3, sd_LQ_cg g4 (fun b j y => d b j (by unfold pz_xcl at y; first | decide | omega)) (fun j y => congrFun w61 j)⟩
      · rw [d 71 0 (by first | decide | omega), d 72 0 (by first | decide | omega)]
        exact h1
      · refine sd_se_f (F := M 61) (sd_tf_se (c := 71) (o := 73) (by first | decide | omega) (by first | decide | omega) g1 (by first | decide | omega) (fun b j y => ?_)) (fun k hk => w60 k (by first | decide | omega)) (by first | decide | omega)
        rw [c b j (by unfold pz_lb at y; first | decide | omega) (by unfold pz_lb at y; first | decide | omega) (by unfold pz_lb at y; first | decide | omega), E b j (by unfold pz_lb at y; unfold pz_td; omega), if_neg (by unfold pz_lb at y; first | decide | omega), if_neg (by unfold pz_lb at y; first | decide | omega), if_neg (by unfold pz_lb at y; first | decide | omega)]
      · rw [w60 _ (by first | decide | omega), c 45 k (by first | decide | omega) (by first | decide | omega) (by first | decide | omega), E 45 k (by unfold pz_td; first | decide | omega), if_pos ⟨rfl, hk⟩]
        exact g2 k hk
      · exact sd_wf_cg g3 (fun k hk => w60 k (by first | decide | omega)) (by rw [w60 3 (by first | decide | omega)]; exact g3.2.1)
      · rw [w61]
        exact sd_se_cg g1 (fun b j y => d b j (by unfold pz_lb at y; first | decide | omega)) (by first | decide | omega)
      · rw [w61, d 46 k (by first | decide | omega)]
        exact g2 k hk
/-! what only looks: BOOK, LOOK -/
end
