section
noncomputable def k_X12_readsLaw : pz_C := (1, 1, fun a M => (match a with | [.inr (.inr (12, th))] => pz_im M ∧ M 1 19 ≤ M 1 17 ∧ (M 1 18 ≠ 0 → M 1 19 + 1 ≤ M 1 17) | _ => False), fun a M r M' => (match a, r with | [.inr (.inr (12, th))], some (.inl v) => ((v = 0 ∨ (v = 1 ∧ pz_wfl M')) ∧ ((v = 1 ∧ pq_RE M M') ∨ (v = 0 ∧ pq_RB M M'))) ∧ pz_rl pz_Q2 M M' | _, _ => False))
noncomputable abbrev ct_X12_readsLaw : List (Bool × Nat × pz_C) := [(true, 232, k_X12_aLine)]
theorem pz_wk_Q6_Q2 : ∀ b j, pz_Q6 b j → pz_Q2 b j := by
  intro b j q
  unfold pz_Q6 at q
  unfold pz_Q2
  omega
set_option maxRecDepth 100000 in
set_option maxHeartbeats 4000000 in
theorem h_X12_readsLaw : pz_H yX12_readsLaw cX12_readsLaw 2 (some .boolean) k_X12_readsLaw 40 937 := by
  refine pz_mk (own := RX12) (tb := t_X12_readsLaw) (fl := pz_flf fl_RX12) (ci := pz_cif ci_RX12) (ct := pz_ctf ct_X12_readsLaw) (rz := true) (pz_pfc_RX12 yX12_readsLaw rfl) rfl t_X12_readsLaw_ok (pz_flk fl_RX12_ok) (pz_cik ci_RX12_ok) ?_ ?_ (Or.inr ⟨rfl, rfl⟩) ?_ ?_
  · exact fun i k' h => pz_ctk (l := ct_X12_readsLaw) (P := fun b i k => b = true → pz_cV 40 937 RX12 i k) (List.forall_mem_cons.mpr ⟨(fun _ => v_X12_aLine (by decide) (by decide) pz_wq1307), fun _ h => absurd h List.not_mem_nil⟩) true i k' h rfl
  · exact fun i k' h => pz_ctk (l := ct_X12_readsLaw) (P := fun b i k => b = false → (pz_cS 40 937 RX12 i k ∨ (k = pz_kac ∧ 1 ≤ 40 ∧ 60 ≤ 937 ∧ Cond.methodLink RX12 i arraycopyName ∈ pz_tbl))) (List.forall_mem_cons.mpr ⟨((fun z => by cases z)), fun _ h => absurd h List.not_mem_nil⟩) false i k' h rfl
  · intro a M hlen hpre
    obtain ⟨th, rfl, hpre⟩ : ∃ th, a = [.inr (.inr (12, th))] ∧ (pz_im M ∧ M 1 19 ≤ M 1 17 ∧ (M 1 18 ≠ 0 → M 1 19 + 1 ≤ M 1 17)) := by
      have hpre : (match (generalizing := false) a with | [.inr (.inr (12, th))] => pz_im M ∧ M 1 19 ≤ M 1 17 ∧ (M 1 18 ≠ 0 → M 1 19 + 1 ≤ M 1 17) | _ => False) := hpre
      split at hpre
      · exact ⟨_, rfl, hpre⟩
      · exact hpre.elim
    exact Nat.le_of_ble_eq_true rfl
  · intro a M hlen hcan hM hpre Ok hgo
    obtain ⟨th, rfl, hpre⟩ : ∃ th, a = [.inr (.inr (12, th))] ∧ (pz_im M ∧ M 1 19 ≤ M 1 17 ∧ (M 1 18 ≠ 0 → M 1 19 + 1 ≤ M 1 17)) := by
      have hpre : (match (generalizing := false) a with | [.inr (.inr (12, th))] => pz_im M ∧ M 1 19 ≤ M 1 17 ∧ (M 1 18 ≠ 0 → M 1 19 + 1 ≤ M 1 17) | _ => False) := hpre
      split at hpre
      · exact ⟨_, rfl, hpre⟩
      · exact hpre.elim
    obtain ⟨k_th, hc_th⟩ := pz_tlm hcan
    have k_th : pz_kd th = 12 ∧ th < 231 := k_th
    have R_th := pz_kd12 k_th.1
    subst R_th
    clear k_th
    have hI : pz_im M := hpre.1
    have hI0 := hI
    have hS : pz_rl pz_Q2 M M := pz_rl.rf
    have I19 := hI.2.1.2.2.2.2.1
    obtain ⟨-, pr1, pr2⟩ := hpre
    have L12 : ∀ (fu : Nat) (x1 : Int) (N12 : pz_M), (17 - N12 1 13 + x1).toNat < fu → (pz_rl pz_Q2 M N12) → (x1 = 0 ∨ x1 = 1) → (x1 = 1 → pz_wfl N12 ∧ (N12 1 19 ≤ N12 1 17 ∧ (N12 1 18 ≠ 0 → N12 1 19 + 1 ≤ N12 1 17)) ∧ N12 1 14 ≤ N12 1 19) → (x1 = 1 → pq_RN M N12) → (x1 = 0 → pq_RB M N12) → Ok 12 [some (.inr (.inr (12, 1))), some (.inl x1)] [] N12 := by
      intro fu
      induction fu with
      | zero => exact fun _ _ hn => absurd hn (Nat.not_lt_zero _)
      | succ fu ih12 =>
        intro x1 N12 hn12 hS g12_1 g12_2 g12_3 g12_4
        have hI : pz_im N12 := hS.1 hI0
        have I13 := hI.2.1.2.2.2.2.2.1
        refine hgo (fun p => Nat.beq p 12) 31 12 _ _ _ ?_
        refine And.intro (fun h13 => ?_) (fun h13 => ?_)
        · skip
          skip
          refine And.intro (by omega) ?_
          refine And.intro rfl ?_
          refine ⟨?_, hS⟩
          first
            | exact ⟨Or.inl (by omega), Or.inr ⟨by omega, g12_4 (by omega)⟩⟩
            | (have h : x1 = 1 := by omega
               exact ⟨Or.inr ⟨h, (g12_2 h).1⟩, Or.inl ⟨h, pq_RN_z (g12_3 h) (by omega)⟩⟩)
        · skip
          have g9 := (g12_2 (by omega)).2
          obtain ⟨⟨g9a, g9b⟩, g9c⟩ := g9
          intro v17 e17 a17 b17
          refine And.intro (fun h20 => ?_) (fun h20 => ?_)
          · skip
            refine And.intro (by omega) ?_
            refine And.intro rfl ?_
            refine ⟨?_, hS⟩
            first
              | exact ⟨Or.inl (by omega), Or.inr ⟨by omega, g12_4 (by omega)⟩⟩
              | (have h : x1 = 1 := by omega
                 exact ⟨Or.inr ⟨h, (g12_2 h).1⟩, Or.inl ⟨h, pq_RN_z (g12_3 h) (by omega)⟩⟩)
          · skip
            refine And.intro (And.intro hI (And.intro (by omega) (And.intro (by omega) (by omega)))) ?_
            intro v24 M24 a24 b24 q24
            obtain ⟨q24, z24⟩ := q24
            have hS : pz_rl pz_Q2 M M24 := hS.tr (pz_rl.wk pz_wk_Q6_Q2 z24)
            have hI : pz_im M24 := hS.1 hI0
            obtain ⟨q24, s24⟩ := q24
            have F24 := z24.2 1 13 (by unfold pz_Q6; omega)
            have I24 := hI.2.1.2.2.2.2.2.2.1
            intro v30 e30 a30 b30
            have I30 : 0 ≤ v30 ∧ v30 ≤ 16 := by
              rw [e30]
              exact hI.2.1.2.2.2.2.2.1
            clear a30 b30
            have N30 := hI.2.1.2.2.2.2.2.1
            refine And.intro (fun h34 => ?_) (fun h34 => ?_)
            · skip
              skip
              intro v42 e42 a42 b42
              rw [pz_wi (by omega) (by omega)] at e42
              clear a42 b42
              intro M43 e43
              have hS : pz_rl pz_Q2 M M43 := by
                rw [e43]
                exact pz_rl_u hS (by unfold pz_Q2; decide) (pz_iom_13 (by omega))
              have hI : pz_im M43 := hS.1 hI0
              have T43_0 : M43 1 13 = v42 := by rw [e43]; exact pz_uu
              have T43_1 : M43 1 14 = M24 1 14 := by
                rw [e43]
                exact (pz_une (by decide))
              have T43_2 : M43 1 17 = M24 1 17 := by
                rw [e43]
                exact (pz_une (by decide))
              have T43_3 : M43 1 18 = M24 1 18 := by
                rw [e43]
                exact (pz_une (by decide))
              have T43_4 : M43 1 19 = M24 1 19 := by
                rw [e43]
                exact (pz_une (by decide))
              have G43 : v24 = 1 → pz_wfl M43 ∧ (M43 1 19 ≤ M43 1 17 ∧ (M43 1 18 ≠ 0 → M43 1 19 + 1 ≤ M43 1 17)) ∧ M43 1 14 ≤ M43 1 19 := by
                intro a
                obtain ⟨b1, ⟨b2, b3⟩, b4, b5, b6, b7, b8⟩ := (q24.resolve_left (by omega)).2
                refine ⟨?_, ⟨by omega, by omega⟩, by omega⟩
                have E4 : M43 64 = M24 64 := funext fun j => by rw [e43]; exact pz_una (by decide)
                have E5 : M43 65 = M24 65 := funext fun j => by rw [e43]; exact pz_una (by decide)
                intro i i0 i1
                rw [E4, E5, show M43 1 14 = M24 1 14 by omega]
                rcases Int.lt_or_le i (N12 1 13) with h9 | h9
                · exact pz_ln_cg ((g12_2 (by omega)).1 i i0 h9) i0 (fun j hj => b6 j (by omega)) b7 b5
                · rw [show i = N12 1 13 by omega]
                  exact b8
              have Q43 : v24 = 1 → pq_RN M M43 := fun a => pq_RN_s (g12_3 (by omega)) s24 a (by omega) ((q24.resolve_left (by omega)).2).2.2.2.2.1 (pq_Q6 z24.2) e43 (by omega)
              have B43 : v24 = 0 → pq_RB M M43 := fun a => pq_RN_b (g12_3 (by omega)) s24 a (by omega) e43
              exact ih12 _ _ (by omega) hS (by first | omega | assumption | exact (fun y => absurd y (by decide))) (by first | omega | assumption | exact (fun y => absurd y (by decide))) (by first | omega | assumption | exact (fun y => absurd y (by decide))) (by first | omega | assumption | exact (fun y => absurd y (by decide)))
            · skip
              have A34 : N12 1 13 < 16 := (q24.resolve_left h34).2.1
              intro v42 e42 a42 b42
              rw [pz_wi (by omega) (by omega)] at e42
              clear a42 b42
              intro M43 e43
              have hS : pz_rl pz_Q2 M M43 := by
                rw [e43]
                exact pz_rl_u hS (by unfold pz_Q2; decide) (pz_iom_13 (by omega))
              have hI : pz_im M43 := hS.1 hI0
              have T43_0 : M43 1 13 = v42 := by rw [e43]; exact pz_uu
              have T43_1 : M43 1 14 = M24 1 14 := by
                rw [e43]
                exact (pz_une (by decide))
              have T43_2 : M43 1 17 = M24 1 17 := by
                rw [e43]
                exact (pz_une (by decide))
              have T43_3 : M43 1 18 = M24 1 18 := by
                rw [e43]
                exact (pz_une (by decide))
              have T43_4 : M43 1 19 = M24 1 19 := by
                rw [e43]
                exact (pz_une (by decide))
              have G43 : v24 = 1 → pz_wfl M43 ∧ (M43 1 19 ≤ M43 1 17 ∧ (M43 1 18 ≠ 0 → M43 1 19 + 1 ≤ M43 1 17)) ∧ M43 1 14 ≤ M43 1 19 := by
                intro a
                obtain ⟨b1, ⟨b2, b3⟩, b4, b5, b6, b7, b8⟩ := (q24.resolve_left (by omega)).2
                refine ⟨?_, ⟨by omega, by omega⟩, by omega⟩
                have E4 : M43 64 = M24 64 := funext fun j => by rw [e43]; exact pz_una (by decide)
                have E5 : M43 65 = M24 65 := funext fun j => by rw [e43]; exact pz_una (by decide)
                intro i i0 i1
                rw [E4, E5, show M43 1 14 = M24 1 14 by omega]
                rcases Int.lt_or_le i (N12 1 13) with h9 | h9
                · exact pz_ln_cg ((g12_2 (by omega)).1 i i0 h9) i0 (fun j hj => b6 j (by omega)) b7 b5
                · rw [show i = N12 1 13 by omega]
                  exact b8
              have Q43 : v24 = 1 → pq_RN M M43 := fun a => pq_RN_s (g12_3 (by omega)) s24 a (by omega) ((q24.resolve_left (by omega)).2).2.2.2.2.1 (pq_Q6 z24.2) e43 (by omega)
              have B43 : v24 = 0 → pq_RB M M43 := fun a => pq_RN_b (g12_3 (by omega)) s24 a (by omega) e43
              exact ih12 _ _ (by omega) hS (by first | omega | assumption | exact (fun y => absurd y (by decide))) (by first | omega | assumption | exact (fun y => absurd y (by decide))) (by first | omega | assumption | exact (fun y => absurd y (by decide))) (by first | omega | assumption | exact (fun y => absurd y (by decide)))
    refine hgo (fun p => Nat.beq p 12) 31 0 _ [] M ?_
    intro M2 e2
    have hS : pz_rl pz_Q2 M M2 := by
      rw [e2]
      exact pz_rl_u hS (by unfold pz_Q2; decide) (pz_iom_13 (by omega))
    have hI : pz_im M2 := hS.1 hI0
    have T2_0 : M2 1 13 = (0) := by rw [e2]; exact pz_uu
    have T2_1 : M2 1 14 = M 1 14 := by
      rw [e2]
      exact (pz_une (by decide))
    have T2_2 : M2 1 17 = M 1 17 := by
      rw [e2]
      exact (pz_une (by decide))
    have T2_3 : M2 1 18 = M 1 18 := by
      rw [e2]
      exact (pz_une (by decide))
    have T2_4 : M2 1 19 = M 1 19 := by
      rw [e2]
      exact (pz_une (by decide))
    intro M7 e7
    have hS : pz_rl pz_Q2 M M7 := by
      rw [e7]
      exact pz_rl_u hS (by unfold pz_Q2; decide) (pz_iom_14 (by omega))
    have hI : pz_im M7 := hS.1 hI0
    have T7_0 : M7 1 13 = (0) := by
      rw [e7]
      exact (pz_une (by decide)).trans T2_0
    clear T2_0
    have T7_1 : M7 1 14 = (0) := by rw [e7]; exact pz_uu
    have T7_2 : M7 1 17 = M 1 17 := by
      rw [e7]
      exact (pz_une (by decide)).trans T2_2
    clear T2_2
    have T7_3 : M7 1 18 = M 1 18 := by
      rw [e7]
      exact (pz_une (by decide)).trans T2_3
    clear T2_3
    have T7_4 : M7 1 19 = M 1 19 := by
      rw [e7]
      exact (pz_une (by decide)).trans T2_4
    clear T2_4
    have G7 : (1 : Int) = 1 → pz_wfl M7 ∧ (M7 1 19 ≤ M7 1 17 ∧ (M7 1 18 ≠ 0 → M7 1 19 + 1 ≤ M7 1 17)) ∧ M7 1 14 ≤ M7 1 19 := fun _ => ⟨fun i i0 i1 => absurd i1 (by omega), ⟨by omega, by omega⟩, by omega⟩
    have Q7 : (1 : Int) = 1 → pq_RN M M7 := fun _ => pq_RN_0 e2 e7
    exact L12 _ _ _ (Nat.lt_succ_self _) hS (by first | omega | assumption | exact (fun y => absurd y (by decide))) (by first | omega | assumption | exact (fun y => absurd y (by decide))) (by first | omega | assumption | exact (fun y => absurd y (by decide))) (by first | omega | assumption | exact (fun y => absurd y (by decide)))
theorem v_X12_readsLaw {fr lo i : Nat} {own : String} (h1 : 40 + 1 ≤ fr) (h2 : 8 + (2 + 11) + 937 ≤ lo) (h3 : .methodLink own i yX12_readsLaw ∈ lw_tbl) : pz_cV fr lo own i k_X12_readsLaw :=
  pz_cVk (maxL := 2) (fr' := 40) (lo' := 937) 0 12 h_X12_readsLaw rfl ⟨(pz_nhc_RX12 yX12_readsLaw rfl).1, (pz_nhc_RX12 yX12_readsLaw rfl).2, pz_ds3⟩ ⟨pz_wq1306, pz_wq1305, pz_ws13, pz_wq13⟩ (Or.inl ⟨TX12, 28, rfl⟩) (fun a M _ h => by
    have h : (match (generalizing := false) a with | [.inr (.inr (12, th))] => pz_im M ∧ M 1 19 ≤ M 1 17 ∧ (M 1 18 ≠ 0 → M 1 19 + 1 ≤ M 1 17) | _ => False) := h
    split at h
    · exact ⟨_, _, rfl⟩
    · exact h.elim) h1 h2 h3
end
section
theorem pz_law1 {f g w : Nat → Int} {x : Int} {i1 i2 i3 i4 : Nat} {v1 v2 v3 v4 : Int} (hx : 0 ≤ x) (hx2 : x < 16) (h1 : (i1 : Int) = 841 + x) (h2 : (i2 : Int) = 857 + x) (h3 : (i3 : Int) = 873 + x) (h4 : (i4 : Int) = 889 + x)
    (U1 : ∀ j, w j = if j = i4 then v4 else if j = i3 then v3 else if j = i2 then v2 else if j = i1 then v1 else f j) (e1 : v1 = g (4 * x).toNat) (e2 : v2 = g (4 * x + 1).toNat) (e3 : v3 = g (4 * x + 2).toNat) (e4 : v4 = g (4 * x + 3).toNat)
    (IH : ∀ k : Nat, (k : Int) < x → f (841 + k) = g (4 * k) ∧ f (857 + k) = g (4 * k + 1) ∧ f (873 + k) = g (4 * k + 2) ∧ f (889 + k) = g (4 * k + 3)) :
    ∀ k : Nat, (k : Int) < x + 1 → w (841 + k) = g (4 * k) ∧ w (857 + k) = g (4 * k + 1) ∧ w (873 + k) = g (4 * k + 2) ∧ w (889 + k) = g (4 * k + 3) := by
  intro k hk
  rcases Int.lt_or_le (k : Int) x with h9 | h9
  · obtain ⟨a, b, c, d⟩ := IH k h9
    refine ⟨?_, ?_, ?_, ?_⟩
    · rw [U1, if_neg (by omega), if_neg (by omega), if_neg (by omega), if_neg (by omega)]; exact a
    · rw [U1, if_neg (by omega), if_neg (by omega), if_neg (by omega), if_neg (by omega)]; exact b
    · rw [U1, if_neg (by omega), if_neg (by omega), if_neg (by omega), if_neg (by omega)]; exact c
    · rw [U1, if_neg (by omega), if_neg (by omega), if_neg (by omega), if_neg (by omega)]; exact d
  · have hk9 : (k : Int) = x := by omega
    refine ⟨?_, ?_, ?_, ?_⟩
    · rw [U1, if_neg (by omega), if_neg (by omega), if_neg (by omega), if_pos (by omega), e1, show (4 * x).toNat = 4 * k by omega]
    · rw [U1, if_neg (by omega), if_neg (by omega), if_pos (by omega), e2, show (4 * x + 1).toNat = 4 * k + 1 by omega]
    · rw [U1, if_neg (by omega), if_pos (by omega), e3, show (4 * x + 2).toNat = 4 * k + 2 by omega]
    · rw [U1, if_pos (by omega), e4, show (4 * x + 3).toNat = 4 * k + 3 by omega]
theorem pz_law2 {f g h w : Nat → Int} {x n : Int} {i1 : Nat} {v1 : Int} (hx : 0 ≤ x) (h1 : (i1 : Int) = 905 + x) (hn : n ≤ 16) (U1 : ∀ j, w j = if j = i1 then v1 else f j) (e1 : v1 = h x.toNat)
    (IH : ∀ k : Nat, (k : Int) < n → f (841 + k) = g (4 * k) ∧ f (857 + k) = g (4 * k + 1) ∧ f (873 + k) = g (4 * k + 2) ∧ f (889 + k) = g (4 * k + 3)) (IH2 : ∀ k : Nat, (k : Int) < x → f (905 + k) = h k) :
    (∀ k : Nat, (k : Int) < n → w (841 + k) = g (4 * k) ∧ w (857 + k) = g (4 * k + 1) ∧ w (873 + k) = g (4 * k + 2) ∧ w (889 + k) = g (4 * k + 3)) ∧ (∀ k : Nat, (k : Int) < x + 1 → w (905 + k) = h k) := by
  refine ⟨fun k hk => ?_, fun k hk => ?_⟩
  · obtain ⟨a, b, c, d⟩ := IH k hk
    refine ⟨?_, ?_, ?_, ?_⟩
    · rw [U1, if_neg (by omega)]; exact a
    · rw [U1, if_neg (by omega)]; exact b
    · rw [U1, if_neg (by omega)]; exact c
    · rw [U1, if_neg (by omega)]; exact d
  · rcases Int.lt_or_le (k : Int) x with h9 | h9
    · rw [U1, if_neg (by omega)]
      exact IH2 k h9
    · rw [U1, if_pos (by omega), e1, show x.toNat = k by omega]
def pz_r0 (P : Nat → Nat → Prop) (M M' : pz_M) : Prop := ∀ b j : Nat, ¬ P b j → M' b j = M b j
theorem pz_r0.rf {P : Nat → Nat → Prop} {M : pz_M} : pz_r0 P M M := fun _ _ _ => rfl
theorem pz_r0_u {P : Nat → Nat → Prop} {M M' : pz_M} {a k : Nat} {v : Int} (hs : pz_r0 P M M') (hp : P a k) : pz_r0 P M (pz_u M' a k v) := by
  intro b j hb
  have q1 := pz_uv M' a k v b j
  rcases q1 with ⟨rfl, rfl, -⟩ | ⟨-, q1⟩
  · exact absurd hp hb
  · rw [q1]
    exact hs b j hb
def pz_W1 (b j : Nat) : Prop := b = 60 ∧ (j = 89 ∨ 841 ≤ j)
def pz_W2 (b j : Nat) : Prop := b = 60 ∨ b = 61
theorem pz_lw_of {M M' : pz_M} {a b : Nat} (h : pz_lw M b) (hw : M b 89 ≤ 16) (he : ∀ j, j < 1725 → M' a j = M b j) : pz_lw M' a := by
  intro i q1 q2
  rw [he 89 (by omega)] at q2
  obtain ⟨h1, h2, h3, h4⟩ := h i q1 q2
  have l3 := h3.1
  rw [he (841 + i).toNat (by omega), he (857 + i).toNat (by omega), he (873 + i).toNat (by omega)]
  have l4 : M b (857 + i).toNat ≤ M b (873 + i).toNat := by
    rcases h4 with h4 | h4
    · omega
    · have := h4.1
      omega
  refine ⟨h1, h2, pz_sg_cg h3 h1 (fun j _ q => he _ (by omega)), ?_⟩
  rcases h4 with h4 | h4
  · exact Or.inl h4
  · exact Or.inr (pz_sg_cg h4 (by omega) (fun j _ q => he _ (by omega)))
theorem pz_iw_of {M M' : pz_M} {a b : Nat} (h : pz_iw M b) (he : ∀ j, j < 1725 → M' a j = M b j) : pz_iw M' a := by
  unfold pz_iw
  rw [he 88 (by omega), he 89 (by omega), he 90 (by omega), he 92 (by omega), he 3 (by omega)]
  exact h
theorem pz_ix_of {M M' : pz_M} (h : pz_ix M) (h1 : ∀ j, j ≠ 4 → M' 1 j = M 1 j) (h4 : 0 ≤ M' 1 4 ∧ M' 1 4 ≤ 6) (h62 : ∀ j, M' 62 j = M 62 j) (h63 : M' 63 3 = M 63 3) : pz_ix M' := by
  obtain ⟨i1, i2, i3, i4, i5, i6, i7, i8, i9⟩ := h
  refine ⟨h4, ?_, ?_, ?_, ?_, ?_, ?_, ?_, fun j hj => ?_⟩
  · rw [h1 16 (by omega)]; exact i2
  · rw [h63]; exact i3
  · rw [h1 17 (by omega)]; exact i4
  · rw [h1 19 (by omega)]; exact i5
  · rw [h1 13 (by omega)]; exact i6
  · rw [h1 14 (by omega)]; exact i7
  · rw [h1 15 (by omega)]; exact i8
  · rw [h62]; exact i9 j hj
theorem pz_img {M N : pz_M} {x : Int} (hI : pz_im M) (hS : pz_r0 pz_W2 M N) (h4 : N 1 4 = M 1 4) (hg : (x = 0 → ∀ k : Nat, (k : Int) < (1725 : Int) → N 60 k = M 61 k) ∧ (x = 0 → ∀ k, N 61 k = M 61 k) ∧ (x ≠ 0 → ∀ k : Nat, (k : Int) < (1725 : Int) → N 61 k = M 60 k) ∧ (x ≠ 0 → ∀ k, N 60 k = M 60 k)) : pz_im N := by
  obtain ⟨i1, i2, i3, i4, i5⟩ := hI
  obtain ⟨g1, g2, g3, g4⟩ := hg
  have hx : pz_ix N := pz_ix_of i2 (fun j hj => hS 1 j (by unfold pz_W2; omega)) (by rw [h4]; exact i2.1) (fun j => hS 62 j (by unfold pz_W2; omega)) (hS 63 3 (by unfold pz_W2; omega))
  by_cases hx0 : x = 0
  · have e60 : ∀ j, j < 1725 → N 60 j = M 61 j := fun j hj => g1 hx0 j (by omega)
    have e61 : ∀ j, j < 1725 → N 61 j = M 61 j := fun j _ => g2 hx0 j
    exact ⟨pz_iw_of i4 e60, hx, pz_lw_of i5 i4.2.1.2 e60, pz_iw_of i4 e61, pz_lw_of i5 i4.2.1.2 e61⟩
  · have e60 : ∀ j, j < 1725 → N 60 j = M 60 j := fun j _ => g4 hx0 j
    have e61 : ∀ j, j < 1725 → N 61 j = M 60 j := fun j hj => g3 hx0 j (by omega)
    exact ⟨pz_iw_of i1 e60, hx, pz_lw_of i3 i1.2.1.2 e60, pz_iw_of i1 e61, pz_lw_of i3 i1.2.1.2 e61⟩
theorem pz_img1 {M N N' : pz_M} {x y v : Int} {k : Nat} (hk : (k : Int) = y) (hx : x ≠ 0) (e : N' = pz_u N 61 k v) (ev : v = N 60 k) (o : (x = 0 → ∀ k : Nat, (k : Int) < y → N 60 k = M 61 k) ∧ (x = 0 → ∀ k, N 61 k = M 61 k) ∧ (x ≠ 0 → ∀ k : Nat, (k : Int) < y → N 61 k = M 60 k) ∧ (x ≠ 0 → ∀ k, N 60 k = M 60 k)) : (x = 0 → ∀ k : Nat, (k : Int) < y + 1 → N' 60 k = M 61 k) ∧ (x = 0 → ∀ k, N' 61 k = M 61 k) ∧ (x ≠ 0 → ∀ k : Nat, (k : Int) < y + 1 → N' 61 k = M 60 k) ∧ (x ≠ 0 → ∀ k, N' 60 k = M 60 k) := by
  obtain ⟨o1, o2, o3, o4⟩ := o
  refine ⟨fun q => absurd q hx, fun q => absurd q hx, fun q j hj => ?_, fun q j => ?_⟩
  · rw [pz_u64 e j]
    by_cases h : j = k
    · rw [if_pos h, ev, h]
      exact o4 q k
    · rw [if_neg h]
      exact o3 q j (by omega)
  · rw [e, pz_una (by decide)]
    exact o4 q j
theorem pz_img2 {M N N' : pz_M} {x y v : Int} {k : Nat} (hk : (k : Int) = y) (hx : x = 0) (e : N' = pz_u N 60 k v) (ev : v = N 61 k) (o : (x = 0 → ∀ k : Nat, (k : Int) < y → N 60 k = M 61 k) ∧ (x = 0 → ∀ k, N 61 k = M 61 k) ∧ (x ≠ 0 → ∀ k : Nat, (k : Int) < y → N 61 k = M 60 k) ∧ (x ≠ 0 → ∀ k, N 60 k = M 60 k)) : (x = 0 → ∀ k : Nat, (k : Int) < y + 1 → N' 60 k = M 61 k) ∧ (x = 0 → ∀ k, N' 61 k = M 61 k) ∧ (x ≠ 0 → ∀ k : Nat, (k : Int) < y + 1 → N' 61 k = M 60 k) ∧ (x ≠ 0 → ∀ k, N' 60 k = M 60 k) := by
  obtain ⟨o1, o2, o3, o4⟩ := o
  refine ⟨fun q j hj => ?_, fun q j => ?_, fun q => absurd hx q, fun q => absurd hx q⟩
  · rw [pz_u64 e j]
    by_cases h : j = k
    · rw [if_pos h, ev, h]
      exact o2 q k
    · rw [if_neg h]
      exact o1 q j (by omega)
  · rw [e, pz_una (by decide)]
    exact o2 q j
end
section
/-! a TEXT is told, and put into w -/
theorem pq_mi_0 {M N : pz_M} (h : M 1 17 = 0) (b : pz_tb M) (q : pz_rl pz_Q0 M N) (s : pz_tb M → pz_nxt M N) : pq_mi N 0 := by
  obtain ⟨s1, s2, s3, s4⟩ := s b
  have e := pq_Q0 q
  have p : pz_nxp M = pz_tp (M 67) (M 1 16).toNat 0 := by
    unfold pz_nxp
    rw [h]
    rfl
  rw [p] at s1 s2 s3 s4
  refine ⟨fun k hk => by rw [e.1]; exact b k (by rw [← e.2.1]; exact hk), ?_, ?_, ?_, fun y => ?_⟩
  · rw [s1, e.T.2.2]
    rfl
  · rw [s2, e.1, e.2.1]
  · rw [s3, e.T.1, e.2.2]
    rfl
  · rw [e.T.1] at y
    rw [s4 y, e.T.2.1]
    rfl
theorem pq_T_cg {M N : pz_M} (e : N 67 = M 67) (e2 : N 1 16 = M 1 16) : pq_TM N = pq_TM M ∧ pq_XM N = pq_XM M ∧ pq_PM N = pq_PM M := by
  unfold pq_TM pq_XM
  refine ⟨by rw [e, e2], by rw [e, e2], funext fun i => ?_⟩
  unfold pq_PM
  rw [e, e2]
theorem pq_tb_cg {M N : pz_M} (e : N 67 = M 67) (e2 : N 1 16 = M 1 16) (h : pz_tb M) : pz_tb N := fun k hk => by rw [e]; exact h k (by rw [← e2]; exact hk)
def pq_gl (ls : List (List Int)) (r c : Nat) : Int := (ls.getD r []).getD c 0
def pq_wlw (ls : List pz_lne) (f : Nat → Int) : Prop := f 89 = (ls.length : Int) ∧ (∀ k : Nat, k < ls.length → pq_l2 ls k (f (841 + k)) (f (857 + k)) (f (873 + k)) (f (889 + k))) ∧ pq_st (pz_catl ls) (fun j => f (905 + j))
def pq_wp (ls : List (List Int)) (f : Nat → Int) : Prop := f 90 = (ls.length : Int) ∧ ∀ r c : Nat, r < ls.length → c < 5 → f (129 + (5 * r + c)) = pq_gl ls r c - (if c = 1 then 10 else 0)
def pq_wh (ls : List (List Int)) (n : Int) (f : Nat → Int) : Prop := f 91 = (ls.length : Int) ∧ ∀ i : Nat, i < 12 → (i : Int) < n → f (105 + 2 * i) = pz_ph (pq_gl ls) i 0 1 ls.length ∧ f (106 + 2 * i) = pz_ph (pq_gl ls) i 240 2 ls.length
def pq_wd (ls : List (List Int)) (f : Nat → Int) : Prop := f 92 = (ls.length : Int) ∧ ∀ r c : Nat, r < ls.length → c < 2 → f (209 + (2 * r + c)) = pq_gl ls r c
def pq_w3 (k : Int) (ls : List (List Int)) (f : Nat → Int) : Prop := (k = 1 → pq_wp ls f) ∧ (k = 2 → ∀ n : Int, pq_wh ls n f) ∧ (k = 3 → pq_wd ls f)
/-- the cells of a TEXT -/
def pq_wf (k : Int) (j : Nat) : Prop := (k = 0 ∧ (j = 89 ∨ 841 ≤ j)) ∨ (k = 1 ∧ (j = 90 ∨ (129 ≤ j ∧ j < 209))) ∨ (k = 2 ∧ (j = 91 ∨ (105 ≤ j ∧ j < 129))) ∨ (k = 3 ∧ (j = 92 ∨ (209 ≤ j ∧ j ≤ 240)))
def pz_lwc (M N : pz_M) : Prop := N 60 89 = M 1 13 ∧ (∀ k : Nat, (k : Int) < M 1 13 → N 60 (841 + k) = M 64 (4 * k) ∧ N 60 (857 + k) = M 64 (4 * k + 1) ∧ N 60 (873 + k) = M 64 (4 * k + 2) ∧ N 60 (889 + k) = M 64 (4 * k + 3)) ∧ ∀ k : Nat, (k : Int) < 2 * M 1 14 → N 60 (905 + k) = M 65 k
def pz_pcc (i j k : Int) (M N : pz_M) : Prop := N 60 i.toNat = M 1 15 ∧ ∀ n : Nat, (n : Int) < k * M 1 15 → N 60 (j.toNat + n) = M 66 n
def pz_mph (M : pz_M) (r c : Nat) : Int := M 66 (3 * r + c)
def pz_phc (M N : pz_M) : Prop := N 60 91 = M 1 15 ∧ ∀ i : Nat, i < 12 → N 60 (105 + 2 * i) = pz_ph (pz_mph M) i 0 1 (M 1 15).toNat ∧ N 60 (106 + 2 * i) = pz_ph (pz_mph M) i 240 2 (M 1 15).toNat
def pq_pt (k : Int) (M N : pz_M) (v : Int) : Prop := (k = 0 → v = M 1 13 ∧ pz_lwc M N) ∧ (k = 1 → v = M 1 15 ∧ pz_pcc 90 129 5 M N) ∧ (k = 2 → v = M 1 15 ∧ pz_phc M N) ∧ (k = 3 → v = M 1 15 ∧ pz_pcc 92 209 2 M N) ∧ ∀ j : Nat, ¬ pq_wf k j → N 60 j = M 60 j
theorem pz_pcc_cg {i j k : Int} {M M' N : pz_M} (h : pz_pcc i j k M' N) (e : M' 1 15 = M 1 15) (e2 : ∀ n, M' 66 n = M 66 n) : pz_pcc i j k M N := by
  obtain ⟨a, b⟩ := h
  rw [e] at a b
  exact ⟨a, fun n hn => (b n hn).trans (e2 n)⟩
theorem pq_wl_of {ls : List pz_lne} {M N : pz_M} (l : pq_ls ls (M 1 13) (M 1 14) (M 64) (M 65)) (w : pz_lwc M N) : pq_wlw ls (N 60) := by
  obtain ⟨l1, l2, l3, l4⟩ := l
  obtain ⟨w1, w2, w3⟩ := w
  refine ⟨w1.trans l1, fun k hk => ?_, fun k hk => ?_⟩
  · obtain ⟨a, b, c, d⟩ := w2 k (by omega)
    rw [a, b, c, d]
    exact l4 k hk
  · show N 60 (905 + 2 * k) = _ ∧ (_ → N 60 (905 + (2 * k + 1)) = _)
    rw [w3 _ (by omega), w3 _ (by omega)]
    exact l3 k hk
theorem pq_wp_of {ls : List (List Int)} {M N : pz_M} (h1 : M 1 15 = (ls.length : Int)) (hl : pq_lys 1 (M 66) ls) (w : pz_pcc 90 129 5 M N) : pq_wp ls (N 60) := by
  refine ⟨w.1.trans h1, fun r c hr hc => ?_⟩
  obtain ⟨x0, x1, x2, x3, x4⟩ := (hl r hr).1 rfl
  have e : N 60 (129 + (5 * r + c)) = M 66 (5 * r + c) := w.2 (5 * r + c) (by omega)
  rw [e]
  have hc9 : c = 0 ∨ c = 1 ∨ c = 2 ∨ c = 3 ∨ c = 4 := by omega
  rcases hc9 with rfl | rfl | rfl | rfl | rfl
  · rw [if_neg (by decide), Int.sub_zero]; exact x0
  · rw [if_pos rfl]; exact x1
  · rw [if_neg (by decide), Int.sub_zero]; exact x2
  · rw [if_neg (by decide), Int.sub_zero]; exact x3
  · rw [if_neg (by decide), Int.sub_zero]; exact x4
theorem pq_wh_of {ls : List (List Int)} {n : Int} {M N : pz_M} (h1 : M 1 15 = (ls.length : Int)) (hl : pq_lys 2 (M 66) ls) (w : pz_phc M N) : pq_wh ls n (N 60) := by
  refine ⟨w.1.trans h1, fun i hi _ => ?_⟩
  obtain ⟨a, b⟩ := w.2 i hi
  have en : (M 1 15).toNat = ls.length := by omega
  have g : ∀ r, r < ls.length → pz_mph M r 0 = pq_gl ls r 0 ∧ pz_mph M r 1 = pq_gl ls r 1 ∧ pz_mph M r 2 = pq_gl ls r 2 := fun r hr => (hl r hr).2.1 rfl
  rw [a, b, en]
  exact ⟨pz_ph_cg (fun r hr => ⟨(g r hr).1, (g r hr).2.1⟩), pz_ph_cg (fun r hr => ⟨(g r hr).1, (g r hr).2.2⟩)⟩
theorem pq_wd_of {ls : List (List Int)} {M N : pz_M} (h1 : M 1 15 = (ls.length : Int)) (hl : pq_lys 3 (M 66) ls) (w : pz_pcc 92 209 2 M N) : pq_wd ls (N 60) := by
  refine ⟨w.1.trans h1, fun r c hr hc => ?_⟩
  obtain ⟨x0, x1⟩ := (hl r hr).2.2 rfl
  have e : N 60 (209 + (2 * r + c)) = M 66 (2 * r + c) := w.2 (2 * r + c) (by omega)
  rw [e]
  have hc9 : c = 0 ∨ c = 1 := by omega
  rcases hc9 with rfl | rfl
  · exact x0
  · exact x1
def pq_tx (k : Int) (M N : pz_M) (v : Int) : Prop := pz_tb M → (k = 0 → (∃ ls : List pz_lne, pz_gl (pq_TM M) (pq_XM M) 0 0 (.ok ls) ∧ v = (ls.length : Int) ∧ N 1 23 = 0 ∧ N 1 25 = -1 ∧ pq_wlw ls (N 60) ∧ ∀ j : Nat, ¬ pq_wf k j → N 60 j = M 60 j) ∨ (∃ (f : Int) (j : Nat), pz_gl (pq_TM M) (pq_XM M) 0 0 (.bad f j) ∧ v = -1 ∧ N 1 23 = f ∧ N 1 25 = pq_PM M j ∧ ∀ j : Nat, N 60 j = M 60 j)) ∧
  (1 ≤ k ∧ k ≤ 3 → (∃ ls : List (List Int), pz_gw (pz_fw k) (pz_row k (M 60 88) (pq_TM M) (pq_XM M)) (pq_TM M) 16 0 = .inl ls ∧ v = (ls.length : Int) ∧ N 1 23 = 0 ∧ N 1 25 = -1 ∧ pq_w3 k ls (N 60) ∧ ∀ j : Nat, ¬ pq_wf k j → N 60 j = M 60 j) ∨ (∃ (f : Int) (j : Nat), pz_gw (pz_fw k) (pz_row k (M 60 88) (pq_TM M) (pq_XM M)) (pq_TM M) 16 0 = .inr (f, j) ∧ v = -1 ∧ N 1 23 = f ∧ N 1 25 = pq_PM M j ∧ ∀ j : Nat, N 60 j = M 60 j)) ∧
  (¬ (0 ≤ k ∧ k ≤ 3) → v = -1 ∧ N 1 23 = 0 ∧ N 1 25 = -1 ∧ ∀ j : Nat, N 60 j = M 60 j)
theorem pq_tx_out {k v : Int} {M N : pz_M} (h : ¬ (0 ≤ k ∧ k ≤ 3)) (hv : v = -1) (a : N 1 23 = 0) (b : N 1 25 = -1) (fr : ∀ j : Nat, N 60 j = M 60 j) : pq_tx k M N v := fun _ => ⟨fun y => absurd ⟨by omega, by omega⟩ h, fun y => absurd ⟨by omega, y.2⟩ h, fun _ => ⟨hv, a, b, fr⟩⟩
theorem pq_tx_0 {k v : Int} {M M1 M2 M3 M4 N : pz_M} (hk : k = 0) (e : M1 67 = M 67) (e2 : M1 1 16 = M 1 16) (h17 : M1 1 17 = 0) (h12 : M1 1 12 = k) (q : pz_rl pz_Q0 M1 M2) (s : pz_tb M1 → pz_nxt M1 M2) (r : pq_RE M2 M3) (c13 : M4 1 13 = M3 1 13) (c14 : M4 1 14 = M3 1 14) (c64 : M4 64 = M3 64) (c65 : M4 65 = M3 65) (w : pq_pt k M4 N v) (fr : ∀ j : Nat, M4 60 j = M 60 j) (a : N 1 23 = 0) (b : N 1 25 = -1) : pq_tx k M N v := by
  intro tb
  have T := pq_T_cg e e2
  have t2 := pq_Q0 q
  have m0 := pq_mi_0 h17 (pq_tb_cg e e2 tb) q s
  have z0 : pq_mz M2 0 := ⟨m0, by rw [t2.2.2, h12]; exact hk⟩
  obtain ⟨ls, g, l⟩ := r 0 z0
  rw [t2.T.1, t2.T.2.1, T.1, T.2.1] at g
  rw [← c13, ← c14, ← c64, ← c65] at l
  obtain ⟨w1, w2⟩ := w.1 hk
  exact ⟨fun _ => Or.inl ⟨ls, g, w1.trans l.1, a, b, pq_wl_of l w2, fun j y => (w.2.2.2.2 j y).trans (fr j)⟩, fun y => absurd y.1 (by omega), fun y => absurd ⟨by omega, by omega⟩ y⟩
theorem pq_tx_0b {k v : Int} {M M1 M2 M3 N : pz_M} (hk : k = 0) (e : M1 67 = M 67) (e2 : M1 1 16 = M 1 16) (h17 : M1 1 17 = 0) (h12 : M1 1 12 = k) (q : pz_rl pz_Q0 M1 M2) (s : pz_tb M1 → pz_nxt M1 M2) (r : pq_RB M2 M3) (hv : v = -1) (fr : ∀ j : Nat, N 60 j = M 60 j) (a : N 1 23 = M3 1 21) (b : N 1 25 = M3 1 22) : pq_tx k M N v := by
  intro tb
  have T := pq_T_cg e e2
  have t2 := pq_Q0 q
  have m0 := pq_mi_0 h17 (pq_tb_cg e e2 tb) q s
  have z0 : pq_mz M2 0 := ⟨m0, by rw [t2.2.2, h12]; exact hk⟩
  obtain ⟨f, j, g, l⟩ := r 0 z0
  rw [t2.T.1, t2.T.2.1, T.1, T.2.1] at g
  have l2 := l.2
  rw [t2.T.2.2, T.2.2] at l2
  exact ⟨fun _ => Or.inr ⟨f, j, g, hv, a.trans l.1, b.trans l2, fr⟩, fun y => absurd y.1 (by omega), fun y => absurd ⟨by omega, by omega⟩ y⟩
theorem pq_GW_cg {M N : pz_M} {k : Int} (h12 : N 1 12 = k) (e88 : N 60 88 = M 60 88) (t : pq_TM N = pq_TM M) (x : pq_XM N = pq_XM M) : pq_GW N 16 0 = pz_gw (pz_fw k) (pz_row k (M 60 88) (pq_TM M) (pq_XM M)) (pq_TM M) 16 0 := by
  unfold pq_GW
  rw [h12, e88, t, x]
theorem pq_tx_r {k v : Int} {M M1 M2 M3 M4 N : pz_M} (hk : 1 ≤ k ∧ k ≤ 3) (e : M1 67 = M 67) (e2 : M1 1 16 = M 1 16) (e3 : M1 60 88 = M 60 88) (h17 : M1 1 17 = 0) (h12 : M1 1 12 = k) (q : pz_rl pz_Q0 M1 M2) (s : pz_tb M1 → pz_nxt M1 M2) (r : pq_QE M2 M3) (c15 : M4 1 15 = M3 1 15) (c66 : M4 66 = M3 66) (w : pq_pt k M4 N v) (fr : ∀ j : Nat, M4 60 j = M 60 j) (a : N 1 23 = 0) (b : N 1 25 = -1) : pq_tx k M N v := by
  intro tb
  have T := pq_T_cg e e2
  have t2 := pq_Q0 q
  have m0 := pq_mi_0 h17 (pq_tb_cg e e2 tb) q s
  obtain ⟨ls, g, l, -, lay⟩ := r 0 m0
  have k2 : M2 1 12 = k := t2.2.2.trans h12
  rw [pq_GW_cg (M := M) k2 ((q.2 60 88 (by unfold pz_Q0; omega)).trans e3) (t2.T.1.trans T.1) (t2.T.2.1.trans T.2.1)] at g
  rw [← c15] at l
  rw [k2, ← c66] at lay
  obtain ⟨-, w1, w2, w3, w4⟩ := w
  have x1 : ∀ h : k = 1, v = M4 1 15 ∧ pq_wp ls (N 60) := fun h => ⟨(w1 h).1, pq_wp_of l (by rw [← h]; exact lay) (w1 h).2⟩
  have x2 : ∀ h : k = 2, v = M4 1 15 ∧ ∀ n : Int, pq_wh ls n (N 60) := fun h => ⟨(w2 h).1, fun n => pq_wh_of l (by rw [← h]; exact lay) (w2 h).2⟩
  have x3 : ∀ h : k = 3, v = M4 1 15 ∧ pq_wd ls (N 60) := fun h => ⟨(w3 h).1, pq_wd_of l (by rw [← h]; exact lay) (w3 h).2⟩
  have hv : v = M4 1 15 := by
    have h : k = 1 ∨ k = 2 ∨ k = 3 := by omega
    rcases h with h | h | h
    · exact (x1 h).1
    · exact (x2 h).1
    · exact (x3 h).1
  exact ⟨fun y => absurd y (by omega), fun _ => Or.inl ⟨ls, g, hv.trans l, a, b, ⟨fun h => (x1 h).2, fun h => (x2 h).2, fun h => (x3 h).2⟩, fun j y => (w4 j y).trans (fr j)⟩, fun y => absurd ⟨by omega, by omega⟩ y⟩
theorem pq_tx_rb {k v : Int} {M M1 M2 M3 N : pz_M} (hk : 1 ≤ k ∧ k ≤ 3) (e : M1 67 = M 67) (e2 : M1 1 16 = M 1 16) (e3 : M1 60 88 = M 60 88) (h17 : M1 1 17 = 0) (h12 : M1 1 12 = k) (q : pz_rl pz_Q0 M1 M2) (s : pz_tb M1 → pz_nxt M1 M2) (r : pq_QB M2 M3) (hv : v = -1) (fr : ∀ j : Nat, N 60 j = M 60 j) (a : N 1 23 = M3 1 21) (b : N 1 25 = M3 1 22) : pq_tx k M N v := by
  intro tb
  have T := pq_T_cg e e2
  have t2 := pq_Q0 q
  have m0 := pq_mi_0 h17 (pq_tb_cg e e2 tb) q s
  obtain ⟨f, j, g, l⟩ := r 0 m0
  rw [pq_GW_cg (M := M) (t2.2.2.trans h12) ((q.2 60 88 (by unfold pz_Q0; omega)).trans e3) (t2.T.1.trans T.1) (t2.T.2.1.trans T.2.1)] at g
  have l2 := l.2
  rw [t2.T.2.2, T.2.2] at l2
  exact ⟨fun y => absurd y (by omega), fun _ => Or.inr ⟨f, j, g, hv, a.trans l.1, b.trans l2, fr⟩, fun y => absurd ⟨by omega, by omega⟩ y⟩
/-! how it is put -/
theorem pz_pc_s {M N N' : pz_M} {j x y v : Int} {p : Nat} (hj : 0 ≤ j) (hx : 0 ≤ x) (hp : (p : Int) = j + x) (e : N' = pz_u N 60 p v) (ev : v = M 66 x.toNat) (hy : y = x + 1) (h : ∀ n : Nat, (n : Int) < x → N 60 (j.toNat + n) = M 66 n) : ∀ n : Nat, (n : Int) < y → N' 60 (j.toNat + n) = M 66 n := by
  intro n hn
  by_cases c : (n : Int) = x
  · rw [e, pz_ue (by omega), ev, show x.toNat = n by omega]
  · rw [e, pz_une (by omega)]
    exact h n (by omega)
theorem pz_ph_s {M N N1 N2 : pz_M} {x y l v1 v2 : Int} {p1 p2 : Nat} (hx : 0 ≤ x) (hy : y = x + 1) (hl : l = M 66 (3 * x).toNat) (h0 : 0 ≤ l) (e1 : N1 = pz_u N 60 p1 v1) (hp1 : (p1 : Int) = 105 + 2 * l) (hv1 : v1 = M 66 (3 * x.toNat + 1)) (e2 : N2 = pz_u N1 60 p2 v2) (hp2 : (p2 : Int) = 106 + 2 * l) (hv2 : v2 = M 66 (3 * x.toNat + 2)) (h : ∀ i : Nat, i < 12 → N 60 (105 + 2 * i) = pz_ph (pz_mph M) i 0 1 x.toNat ∧ N 60 (106 + 2 * i) = pz_ph (pz_mph M) i 240 2 x.toNat) : ∀ i : Nat, i < 12 → N2 60 (105 + 2 * i) = pz_ph (pz_mph M) i 0 1 y.toNat ∧ N2 60 (106 + 2 * i) = pz_ph (pz_mph M) i 240 2 y.toNat := by
  intro i hi
  obtain ⟨a, b⟩ := h i hi
  have ey : y.toNat = x.toNat + 1 := by omega
  have g0 : pz_mph M x.toNat 0 = l := by
    show M 66 (3 * x.toNat + 0) = l
    rw [hl, show 3 * x.toNat + 0 = (3 * x).toNat by omega]
  rw [ey]
  show N2 60 (105 + 2 * i) = (if pz_mph M x.toNat 0 = (i : Int) then pz_mph M x.toNat 1 else pz_ph (pz_mph M) i 0 1 x.toNat) ∧ N2 60 (106 + 2 * i) = (if pz_mph M x.toNat 0 = (i : Int) then pz_mph M x.toNat 2 else pz_ph (pz_mph M) i 240 2 x.toNat)
  rw [g0]
  by_cases c : l = (i : Int)
  · rw [if_pos c, if_pos c]
    refine ⟨?_, ?_⟩
    · rw [e2, pz_une (by omega), e1, pz_ue (by omega), hv1]
      rfl
    · rw [e2, pz_ue (by omega), hv2]
      rfl
  · rw [if_neg c, if_neg c]
    refine ⟨?_, ?_⟩
    · rw [e2, pz_une (by omega), e1, pz_une (by omega)]
      exact a
    · rw [e2, pz_une (by omega), e1, pz_une (by omega)]
      exact b
theorem pz_ph_z {N N1 N2 : pz_M} {x y v1 v2 : Int} {p1 p2 : Nat} (hx : 0 ≤ x) (hy : y = x + 1) (e1 : N1 = pz_u N 60 p1 v1) (hp1 : (p1 : Int) = 105 + 2 * x) (hv1 : v1 = 0) (e2 : N2 = pz_u N1 60 p2 v2) (hp2 : (p2 : Int) = 106 + 2 * x) (hv2 : v2 = 240) (h : ∀ i : Nat, (i : Int) < x → N 60 (105 + 2 * i) = 0 ∧ N 60 (106 + 2 * i) = 240) : ∀ i : Nat, (i : Int) < y → N2 60 (105 + 2 * i) = 0 ∧ N2 60 (106 + 2 * i) = 240 := by
  intro i hi
  by_cases c : x = (i : Int)
  · refine ⟨?_, ?_⟩
    · rw [e2, pz_une (by omega), e1, pz_ue (by omega), hv1]
    · rw [e2, pz_ue (by omega), hv2]
  · obtain ⟨a, b⟩ := h i (by omega)
    refine ⟨?_, ?_⟩
    · rw [e2, pz_une (by omega), e1, pz_une (by omega)]
      exact a
    · rw [e2, pz_une (by omega), e1, pz_une (by omega)]
      exact b
end
