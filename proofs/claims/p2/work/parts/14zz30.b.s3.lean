def k4_X12_leastBy : pz_C := (3, 2, fun a M => (match a with | [.inr (.inr (12, th)), .inl x, .inl n] => pz_im M | _ => False), fun a M r M' => (match a, r with | [.inr (.inr (12, th)), .inl x, .inl n], some (.inr (.inl v)) => (∀ ls : List pz_lne, pq_wlw ls (M 60) → (∀ q ∈ ls, pv_ln q) → sd_wf (M 60) → 0 ≤ n → ∀ b : Nat → Bool, pz_zs x b → b 0 = false → v = sd_lsv ls (M 60) n.toNat b) ∧ pz_rl pz_QV M M' | _, _ => False))
abbrev ct4_X12_leastBy : List (Bool × Nat × pz_C) := [(true, 294, k3_X12_endOf), (true, 415, k4_X12_allBy)]
set_option maxRecDepth 100000 in
set_option maxHeartbeats 4000000 in
theorem h4_X12_leastBy : pz_H yX12_leastBy cX12_leastBy 9 (some .long) k4_X12_leastBy 7 164 := by
  refine pz_mk (own := RX12) (tb := t_X12_leastBy) (fl := pz_flf fl_RX12) (ci := pz_cif ci_RX12) (ct := pz_ctf ct4_X12_leastBy) (rz := false) (by decide +kernel) rfl t_X12_leastBy_ok (pz_flk fl_RX12_ok) (pz_cik ci_RX12_ok) ?_ ?_ (rfl) ?_ ?_
  · exact fun i k' h => pz_ctk (l := ct4_X12_leastBy) (P := fun b i k => b = true → pz_cV 7 164 RX12 i k) (List.forall_mem_cons.mpr ⟨(fun _ => v3_X12_endOf (by decide) (by decide) (pz_mt 1458 (by decide +kernel))), List.forall_mem_cons.mpr ⟨(fun _ => v4_X12_allBy (by decide) (by decide) (pz_mt 1617 (by decide +kernel))), fun _ h => absurd h List.not_mem_nil⟩⟩) true i k' h rfl
  · exact fun i k' h => pz_ctk (l := ct4_X12_leastBy) (P := fun b i k => b = false → (pz_cS 7 164 RX12 i k ∨ (k = pz_kac ∧ 1 ≤ 7 ∧ 60 ≤ 164 ∧ Cond.methodLink RX12 i arraycopyName ∈ pz_tbl))) (List.forall_mem_cons.mpr ⟨((fun z => by cases z)), List.forall_mem_cons.mpr ⟨((fun z => by cases z)), fun _ h => absurd h List.not_mem_nil⟩⟩) false i k' h rfl
  · intro a M hlen hpre
    obtain ⟨th, x, n, rfl, hpre⟩ : ∃ th x n, a = [.inr (.inr (12, th)), .inl x, .inl n] ∧ (pz_im M) := by
      have hpre : (match (generalizing := false) a with | [.inr (.inr (12, th)), .inl x, .inl n] => pz_im M | _ => False) := hpre
      split at hpre
      · exact ⟨_, _, _, rfl, hpre⟩
      · exact hpre.elim
    exact Nat.le_of_ble_eq_true rfl
  · intro a M hlen hcan hM hpre Ok hgo
    obtain ⟨th, x, n, rfl, hpre⟩ : ∃ th x n, a = [.inr (.inr (12, th)), .inl x, .inl n] ∧ (pz_im M) := by
      have hpre : (match (generalizing := false) a with | [.inr (.inr (12, th)), .inl x, .inl n] => pz_im M | _ => False) := hpre
      split at hpre
      · exact ⟨_, _, _, rfl, hpre⟩
      · exact hpre.elim
    obtain ⟨k_th, hc_th⟩ := pz_tlm hcan
    have k_th : pz_kd th = 12 ∧ th < 231 := k_th
    have R_th := pz_kd12 k_th.1
    subst R_th
    clear k_th
    obtain ⟨k_x, hc_x⟩ := pz_tlm hc_th
    have l_x : -2147483648 ≤ x := k_x.1
    have u_x : x ≤ 2147483647 := k_x.2
    obtain ⟨k_n, hc_n⟩ := pz_tlm hc_x
    have l_n : -2147483648 ≤ n := k_n.1
    have u_n : n ≤ 2147483647 := k_n.2
    have hI : pz_im M := hpre
    have hI0 := hI
    have hS : pz_rl pz_QV M M := pz_rl.rf
    have L7 : ∀ (fu : Nat) (x3 : Int) (x5 : Int) (d6 : Option pz_V) (d7 : Option pz_V) (d8 : Option pz_V) (N7 : pz_M), (12 - x5).toNat < fu → (pz_rl pz_QV M N7) → (0 ≤ x5) → (∀ ls : List pz_lne, pq_wlw ls (M 60) → (∀ q ∈ ls, pv_ln q) → sd_wf (M 60) → 0 ≤ n → ∀ b : Nat → Bool, pz_zs x b → b 0 = false → sd_lmE ls (M 60) n.toNat b x3 x5) → Ok 7 [some (.inr (.inr (12, 1))), some (.inl x), some (.inl n), some (.inr (.inl x3)), none, some (.inl x5), d6, d7, d8] [] N7 := by
      intro fu
      induction fu with
      | zero => exact fun _ _ _ _ _ _ hn => absurd hn (Nat.not_lt_zero _)
      | succ fu ih7 =>
        intro x3 x5 d6 d7 d8 N7 hn7 hS g7_1 g7_2
        have hI : pz_im N7 := hS.1 hI0
        have F88 : N7 60 88 = M 60 88 := hS.2 60 88 (by unfold pz_QV; omega)
        have I88 := hI0.1.1
        have W7 : N7 60 = M 60 := funext fun j => hS.2 60 j (by unfold pz_QV; omega)
        refine hgo (fun p => Nat.beq p 7) 49 7 _ _ _ ?_
        refine pz_nrc (c := 60) rfl ?_
        refine And.intro (by omega) (And.intro (show _ < (1725 : Int) from by omega) ?_)
        intro v15 e15 a15 b15
        replace e15 : v15 = N7 60 88 := e15
        have I15 : 0 ≤ v15 ∧ v15 ≤ 12 := by
          rw [e15]
          exact hI.1.1
        clear a15 b15
        refine And.intro (fun h16 => ?_) (fun h16 => ?_)
        · skip
          refine And.intro rfl ?_
          refine ⟨fun ls hl hq hW hn b hb b0 => ?_, hS⟩
          obtain ⟨g1, g2⟩ := (by assumption : ∀ ls : List pz_lne, pq_wlw ls (M 60) → (∀ q ∈ ls, pv_ln q) → sd_wf (M 60) → 0 ≤ n → ∀ b : Nat → Bool, pz_zs x b → b 0 = false → sd_lmE ls (M 60) n.toNat b x3 x5) ls hl hq hW hn b hb b0
          rcases g2 with ⟨z1, z2⟩ | ⟨z1, z2, z3⟩
          · exact z2
          · exfalso
            omega
        · skip
          refine And.intro (And.intro hI (And.intro (by omega) (by omega))) ?_
          intro v23 M23 a23 b23 q23
          obtain ⟨q23, z23⟩ := q23
          subst z23
          rw [W7] at q23
          refine And.intro (And.intro hI (And.intro (by omega) (by omega))) ?_
          intro v34 M34 a34 b34 q34
          obtain ⟨q34, z34⟩ := q34
          have hS : pz_rl pz_QV M M34 := hS.tr z34
          have hI : pz_im M34 := hS.1 hI0
          have G88 : M34 60 88 = M 60 88 := hS.2 60 88 (by unfold pz_QV; omega)
          rw [W7] at q34
          have G34 : ∀ ls : List pz_lne, pq_wlw ls (M 60) → (∀ q ∈ ls, pv_ln q) → sd_wf (M 60) → 0 ≤ n → ∀ b : Nat → Bool, pz_zs x b → b 0 = false → v34 = sd_o2 ls (M 60) n.toNat x5.toNat v23.toNat ∧ v23 = (sd_end b (sd_n (M 60)) x5.toNat : Int) := fun ls hl hq hW hn b hb b0 => by
            have e := q23.2 b hb (by omega) (by omega)
            refine ⟨?_, e⟩
            rw [q34 ls hl hq hW (by omega) hn]
            unfold sd_o2
            rw [show (v23 + 1 - x5).toNat = v23.toNat + 1 - x5.toNat by omega]
          refine And.intro (fun h42 => ?_) ?_
          · skip
            refine And.intro (fun h43 => ?_) (fun h43 => ?_)
            · skip
              refine pz_nrc (c := 60) rfl ?_
              refine And.intro (by omega) (And.intro (show _ < (1725 : Int) from by omega) ?_)
              intro v61 e61 a61 b61
              replace e61 : v61 = M34 60 88 := e61
              have I61 : 0 ≤ v61 ∧ v61 ≤ 12 := by
                rw [e61]
                exact hI.1.1
              clear a61 b61
              intro v63 e63 a63 b63
              rw [pz_wi (by omega) (by omega)] at e63
              clear a63 b63
              refine And.intro (fun h64 => ?_) (fun h64 => ?_)
              · skip
                first
                  | (have G7 : ∀ ls : List pz_lne, pq_wlw ls (M 60) → (∀ q ∈ ls, pv_ln q) → sd_wf (M 60) → 0 ≤ n → ∀ b : Nat → Bool, pz_zs x b → b 0 = false → sd_lmE ls (M 60) n.toNat b x3 v23 := fun ls hl hq hW hn b hb b0 => by
                      obtain ⟨p, e⟩ := (by assumption : ∀ ls : List pz_lne, pq_wlw ls (M 60) → (∀ q ∈ ls, pv_ln q) → sd_wf (M 60) → 0 ≤ n → ∀ b : Nat → Bool, pz_zs x b → b 0 = false → v34 = sd_o2 ls (M 60) n.toNat x5.toNat v23.toNat ∧ v23 = (sd_end b (sd_n (M 60)) x5.toNat : Int)) ls hl hq hW hn b hb b0
                      exact sd_lmE_s ((by assumption : ∀ ls : List pz_lne, pq_wlw ls (M 60) → (∀ q ∈ ls, pv_ln q) → sd_wf (M 60) → 0 ≤ n → ∀ b : Nat → Bool, pz_zs x b → b 0 = false → sd_lmE ls (M 60) n.toNat b x3 x5) ls hl hq hW hn b hb b0) hW b0 (by omega) (by omega) e p (by omega) (Or.inr ⟨by omega, rfl⟩))
                  | (have G7 : ∀ ls : List pz_lne, pq_wlw ls (M 60) → (∀ q ∈ ls, pv_ln q) → sd_wf (M 60) → 0 ≤ n → ∀ b : Nat → Bool, pz_zs x b → b 0 = false → sd_lmE ls (M 60) n.toNat b v34 v23 := fun ls hl hq hW hn b hb b0 => by
                      obtain ⟨p, e⟩ := (by assumption : ∀ ls : List pz_lne, pq_wlw ls (M 60) → (∀ q ∈ ls, pv_ln q) → sd_wf (M 60) → 0 ≤ n → ∀ b : Nat → Bool, pz_zs x b → b 0 = false → v34 = sd_o2 ls (M 60) n.toNat x5.toNat v23.toNat ∧ v23 = (sd_end b (sd_n (M 60)) x5.toNat : Int)) ls hl hq hW hn b hb b0
                      exact sd_lmE_s ((by assumption : ∀ ls : List pz_lne, pq_wlw ls (M 60) → (∀ q ∈ ls, pv_ln q) → sd_wf (M 60) → 0 ≤ n → ∀ b : Nat → Bool, pz_zs x b → b 0 = false → sd_lmE ls (M 60) n.toNat b x3 x5) ls hl hq hW hn b hb b0) hW b0 (by omega) (by omega) e p (by omega) (Or.inr ⟨by omega, rfl⟩))
                exact ih7 _ _ _ _ _ _ (by omega) hS (by first | omega | assumption | exact fun ls hl hq hW hn b hb b0 => sd_lmE_0 hW) (by first | omega | assumption | exact fun ls hl hq hW hn b hb b0 => sd_lmE_0 hW)
              · skip
                skip
                refine pz_nrc (c := 60) rfl ?_
                refine And.intro (by omega) (And.intro (show _ < (1725 : Int) from by omega) ?_)
                intro v73 e73 a73 b73
                replace e73 : v73 = M34 60 88 := e73
                have I73 : 0 ≤ v73 ∧ v73 ≤ 12 := by
                  rw [e73]
                  exact hI.1.1
                clear a73 b73
                first
                  | (have G7 : ∀ ls : List pz_lne, pq_wlw ls (M 60) → (∀ q ∈ ls, pv_ln q) → sd_wf (M 60) → 0 ≤ n → ∀ b : Nat → Bool, pz_zs x b → b 0 = false → sd_lmE ls (M 60) n.toNat b x3 v73 := fun ls hl hq hW hn b hb b0 => by
                      obtain ⟨p, e⟩ := (by assumption : ∀ ls : List pz_lne, pq_wlw ls (M 60) → (∀ q ∈ ls, pv_ln q) → sd_wf (M 60) → 0 ≤ n → ∀ b : Nat → Bool, pz_zs x b → b 0 = false → v34 = sd_o2 ls (M 60) n.toNat x5.toNat v23.toNat ∧ v23 = (sd_end b (sd_n (M 60)) x5.toNat : Int)) ls hl hq hW hn b hb b0
                      exact sd_lmE_s ((by assumption : ∀ ls : List pz_lne, pq_wlw ls (M 60) → (∀ q ∈ ls, pv_ln q) → sd_wf (M 60) → 0 ≤ n → ∀ b : Nat → Bool, pz_zs x b → b 0 = false → sd_lmE ls (M 60) n.toNat b x3 x5) ls hl hq hW hn b hb b0) hW b0 (by omega) (by omega) e p (by omega) (Or.inl ⟨by omega, by omega⟩))
                  | (have G7 : ∀ ls : List pz_lne, pq_wlw ls (M 60) → (∀ q ∈ ls, pv_ln q) → sd_wf (M 60) → 0 ≤ n → ∀ b : Nat → Bool, pz_zs x b → b 0 = false → sd_lmE ls (M 60) n.toNat b v34 v73 := fun ls hl hq hW hn b hb b0 => by
                      obtain ⟨p, e⟩ := (by assumption : ∀ ls : List pz_lne, pq_wlw ls (M 60) → (∀ q ∈ ls, pv_ln q) → sd_wf (M 60) → 0 ≤ n → ∀ b : Nat → Bool, pz_zs x b → b 0 = false → v34 = sd_o2 ls (M 60) n.toNat x5.toNat v23.toNat ∧ v23 = (sd_end b (sd_n (M 60)) x5.toNat : Int)) ls hl hq hW hn b hb b0
                      exact sd_lmE_s ((by assumption : ∀ ls : List pz_lne, pq_wlw ls (M 60) → (∀ q ∈ ls, pv_ln q) → sd_wf (M 60) → 0 ≤ n → ∀ b : Nat → Bool, pz_zs x b → b 0 = false → sd_lmE ls (M 60) n.toNat b x3 x5) ls hl hq hW hn b hb b0) hW b0 (by omega) (by omega) e p (by omega) (Or.inl ⟨by omega, by omega⟩))
                exact ih7 _ _ _ _ _ _ (by omega) hS (by first | omega | assumption | exact fun ls hl hq hW hn b hb b0 => sd_lmE_0 hW) (by first | omega | assumption | exact fun ls hl hq hW hn b hb b0 => sd_lmE_0 hW)
            · skip
              refine pz_nrc (c := 60) rfl ?_
              refine And.intro (by omega) (And.intro (show _ < (1725 : Int) from by omega) ?_)
              intro v61 e61 a61 b61
              replace e61 : v61 = M34 60 88 := e61
              have I61 : 0 ≤ v61 ∧ v61 ≤ 12 := by
                rw [e61]
                exact hI.1.1
              clear a61 b61
              intro v63 e63 a63 b63
              rw [pz_wi (by omega) (by omega)] at e63
              clear a63 b63
              refine And.intro (fun h64 => ?_) (fun h64 => ?_)
              · skip
                first
                  | (have G7 : ∀ ls : List pz_lne, pq_wlw ls (M 60) → (∀ q ∈ ls, pv_ln q) → sd_wf (M 60) → 0 ≤ n → ∀ b : Nat → Bool, pz_zs x b → b 0 = false → sd_lmE ls (M 60) n.toNat b x3 v23 := fun ls hl hq hW hn b hb b0 => by
                      obtain ⟨p, e⟩ := (by assumption : ∀ ls : List pz_lne, pq_wlw ls (M 60) → (∀ q ∈ ls, pv_ln q) → sd_wf (M 60) → 0 ≤ n → ∀ b : Nat → Bool, pz_zs x b → b 0 = false → v34 = sd_o2 ls (M 60) n.toNat x5.toNat v23.toNat ∧ v23 = (sd_end b (sd_n (M 60)) x5.toNat : Int)) ls hl hq hW hn b hb b0
                      exact sd_lmE_s ((by assumption : ∀ ls : List pz_lne, pq_wlw ls (M 60) → (∀ q ∈ ls, pv_ln q) → sd_wf (M 60) → 0 ≤ n → ∀ b : Nat → Bool, pz_zs x b → b 0 = false → sd_lmE ls (M 60) n.toNat b x3 x5) ls hl hq hW hn b hb b0) hW b0 (by omega) (by omega) e p (by omega) (Or.inr ⟨by omega, rfl⟩))
                  | (have G7 : ∀ ls : List pz_lne, pq_wlw ls (M 60) → (∀ q ∈ ls, pv_ln q) → sd_wf (M 60) → 0 ≤ n → ∀ b : Nat → Bool, pz_zs x b → b 0 = false → sd_lmE ls (M 60) n.toNat b v34 v23 := fun ls hl hq hW hn b hb b0 => by
                      obtain ⟨p, e⟩ := (by assumption : ∀ ls : List pz_lne, pq_wlw ls (M 60) → (∀ q ∈ ls, pv_ln q) → sd_wf (M 60) → 0 ≤ n → ∀ b : Nat → Bool, pz_zs x b → b 0 = false → v34 = sd_o2 ls (M 60) n.toNat x5.toNat v23.toNat ∧ v23 = (sd_end b (sd_n (M 60)) x5.toNat : Int)) ls hl hq hW hn b hb b0
                      exact sd_lmE_s ((by assumption : ∀ ls : List pz_lne, pq_wlw ls (M 60) → (∀ q ∈ ls, pv_ln q) → sd_wf (M 60) → 0 ≤ n → ∀ b : Nat → Bool, pz_zs x b → b 0 = false → sd_lmE ls (M 60) n.toNat b x3 x5) ls hl hq hW hn b hb b0) hW b0 (by omega) (by omega) e p (by omega) (Or.inr ⟨by omega, rfl⟩))
                exact ih7 _ _ _ _ _ _ (by omega) hS (by first | omega | assumption | exact fun ls hl hq hW hn b hb b0 => sd_lmE_0 hW) (by first | omega | assumption | exact fun ls hl hq hW hn b hb b0 => sd_lmE_0 hW)
              · skip
                skip
                refine pz_nrc (c := 60) rfl ?_
                refine And.intro (by omega) (And.intro (show _ < (1725 : Int) from by omega) ?_)
                intro v73 e73 a73 b73
                replace e73 : v73 = M34 60 88 := e73
                have I73 : 0 ≤ v73 ∧ v73 ≤ 12 := by
                  rw [e73]
                  exact hI.1.1
                clear a73 b73
                first
                  | (have G7 : ∀ ls : List pz_lne, pq_wlw ls (M 60) → (∀ q ∈ ls, pv_ln q) → sd_wf (M 60) → 0 ≤ n → ∀ b : Nat → Bool, pz_zs x b → b 0 = false → sd_lmE ls (M 60) n.toNat b x3 v73 := fun ls hl hq hW hn b hb b0 => by
                      obtain ⟨p, e⟩ := (by assumption : ∀ ls : List pz_lne, pq_wlw ls (M 60) → (∀ q ∈ ls, pv_ln q) → sd_wf (M 60) → 0 ≤ n → ∀ b : Nat → Bool, pz_zs x b → b 0 = false → v34 = sd_o2 ls (M 60) n.toNat x5.toNat v23.toNat ∧ v23 = (sd_end b (sd_n (M 60)) x5.toNat : Int)) ls hl hq hW hn b hb b0
                      exact sd_lmE_s ((by assumption : ∀ ls : List pz_lne, pq_wlw ls (M 60) → (∀ q ∈ ls, pv_ln q) → sd_wf (M 60) → 0 ≤ n → ∀ b : Nat → Bool, pz_zs x b → b 0 = false → sd_lmE ls (M 60) n.toNat b x3 x5) ls hl hq hW hn b hb b0) hW b0 (by omega) (by omega) e p (by omega) (Or.inl ⟨by omega, by omega⟩))
                  | (have G7 : ∀ ls : List pz_lne, pq_wlw ls (M 60) → (∀ q ∈ ls, pv_ln q) → sd_wf (M 60) → 0 ≤ n → ∀ b : Nat → Bool, pz_zs x b → b 0 = false → sd_lmE ls (M 60) n.toNat b v34 v73 := fun ls hl hq hW hn b hb b0 => by
                      obtain ⟨p, e⟩ := (by assumption : ∀ ls : List pz_lne, pq_wlw ls (M 60) → (∀ q ∈ ls, pv_ln q) → sd_wf (M 60) → 0 ≤ n → ∀ b : Nat → Bool, pz_zs x b → b 0 = false → v34 = sd_o2 ls (M 60) n.toNat x5.toNat v23.toNat ∧ v23 = (sd_end b (sd_n (M 60)) x5.toNat : Int)) ls hl hq hW hn b hb b0
                      exact sd_lmE_s ((by assumption : ∀ ls : List pz_lne, pq_wlw ls (M 60) → (∀ q ∈ ls, pv_ln q) → sd_wf (M 60) → 0 ≤ n → ∀ b : Nat → Bool, pz_zs x b → b 0 = false → sd_lmE ls (M 60) n.toNat b x3 x5) ls hl hq hW hn b hb b0) hW b0 (by omega) (by omega) e p (by omega) (Or.inl ⟨by omega, by omega⟩))
                exact ih7 _ _ _ _ _ _ (by omega) hS (by first | omega | assumption | exact fun ls hl hq hW hn b hb b0 => sd_lmE_0 hW) (by first | omega | assumption | exact fun ls hl hq hW hn b hb b0 => sd_lmE_0 hW)
          refine And.intro (fun h42 => ?_) ?_
          · skip
            refine And.intro (fun h43 => ?_) (fun h43 => ?_)
            · skip
              refine pz_nrc (c := 60) rfl ?_
              refine And.intro (by omega) (And.intro (show _ < (1725 : Int) from by omega) ?_)
              intro v61 e61 a61 b61
              replace e61 : v61 = M34 60 88 := e61
              have I61 : 0 ≤ v61 ∧ v61 ≤ 12 := by
                rw [e61]
                exact hI.1.1
              clear a61 b61
              intro v63 e63 a63 b63
              rw [pz_wi (by omega) (by omega)] at e63
              clear a63 b63
              refine And.intro (fun h64 => ?_) (fun h64 => ?_)
              · skip
                first
                  | (have G7 : ∀ ls : List pz_lne, pq_wlw ls (M 60) → (∀ q ∈ ls, pv_ln q) → sd_wf (M 60) → 0 ≤ n → ∀ b : Nat → Bool, pz_zs x b → b 0 = false → sd_lmE ls (M 60) n.toNat b x3 v23 := fun ls hl hq hW hn b hb b0 => by
                      obtain ⟨p, e⟩ := (by assumption : ∀ ls : List pz_lne, pq_wlw ls (M 60) → (∀ q ∈ ls, pv_ln q) → sd_wf (M 60) → 0 ≤ n → ∀ b : Nat → Bool, pz_zs x b → b 0 = false → v34 = sd_o2 ls (M 60) n.toNat x5.toNat v23.toNat ∧ v23 = (sd_end b (sd_n (M 60)) x5.toNat : Int)) ls hl hq hW hn b hb b0
                      exact sd_lmE_s ((by assumption : ∀ ls : List pz_lne, pq_wlw ls (M 60) → (∀ q ∈ ls, pv_ln q) → sd_wf (M 60) → 0 ≤ n → ∀ b : Nat → Bool, pz_zs x b → b 0 = false → sd_lmE ls (M 60) n.toNat b x3 x5) ls hl hq hW hn b hb b0) hW b0 (by omega) (by omega) e p (by omega) (Or.inr ⟨by omega, rfl⟩))
                  | (have G7 : ∀ ls : List pz_lne, pq_wlw ls (M 60) → (∀ q ∈ ls, pv_ln q) → sd_wf (M 60) → 0 ≤ n → ∀ b : Nat → Bool, pz_zs x b → b 0 = false → sd_lmE ls (M 60) n.toNat b v34 v23 := fun ls hl hq hW hn b hb b0 => by
                      obtain ⟨p, e⟩ := (by assumption : ∀ ls : List pz_lne, pq_wlw ls (M 60) → (∀ q ∈ ls, pv_ln q) → sd_wf (M 60) → 0 ≤ n → ∀ b : Nat → Bool, pz_zs x b → b 0 = false → v34 = sd_o2 ls (M 60) n.toNat x5.toNat v23.toNat ∧ v23 = (sd_end b (sd_n (M 60)) x5.toNat : Int)) ls hl hq hW hn b hb b0
                      exact sd_lmE_s ((by assumption : ∀ ls : List pz_lne, pq_wlw ls (M 60) → (∀ q ∈ ls, pv_ln q) → sd_wf (M 60) → 0 ≤ n → ∀ b : Nat → Bool, pz_zs x b → b 0 = false → sd_lmE ls (M 60) n.toNat b x3 x5) ls hl hq hW hn b hb b0) hW b0 (by omega) (by omega) e p (by omega) (Or.inr ⟨by omega, rfl⟩))
                exact ih7 _ _ _ _ _ _ (by omega) hS (by first | omega | assumption | exact fun ls hl hq hW hn b hb b0 => sd_lmE_0 hW) (by first | omega | assumption | exact fun ls hl hq hW hn b hb b0 => sd_lmE_0 hW)
              · skip
                skip
                refine pz_nrc (c := 60) rfl ?_
                refine And.intro (by omega) (And.intro (show _ < (1725 : Int) from by omega) ?_)
                intro v73 e73 a73 b73
                replace e73 : v73 = M34 60 88 := e73
                have I73 : 0 ≤ v73 ∧ v73 ≤ 12 := by
                  rw [e73]
                  exact hI.1.1
                clear a73 b73
                first
                  | (have G7 : ∀ ls : List pz_lne, pq_wlw ls (M 60) → (∀ q ∈ ls, pv_ln q) → sd_wf (M 60) → 0 ≤ n → ∀ b : Nat → Bool, pz_zs x b → b 0 = false → sd_lmE ls (M 60) n.toNat b x3 v73 := fun ls hl hq hW hn b hb b0 => by
                      obtain ⟨p, e⟩ := (by assumption : ∀ ls : List pz_lne, pq_wlw ls (M 60) → (∀ q ∈ ls, pv_ln q) → sd_wf (M 60) → 0 ≤ n → ∀ b : Nat → Bool, pz_zs x b → b 0 = false → v34 = sd_o2 ls (M 60) n.toNat x5.toNat v23.toNat ∧ v23 = (sd_end b (sd_n (M 60)) x5.toNat : Int)) ls hl hq hW hn b hb b0
                      exact sd_lmE_s ((by assumption : ∀ ls : List pz_lne, pq_wlw ls (M 60) → (∀ q ∈ ls, pv_ln q) → sd_wf (M 60) → 0 ≤ n → ∀ b : Nat → Bool, pz_zs x b → b 0 = false → sd_lmE ls (M 60) n.toNat b x3 x5) ls hl hq hW hn b hb b0) hW b0 (by omega) (by omega) e p (by omega) (Or.inl ⟨by omega, by omega⟩))
                  | (have G7 : ∀ ls : List pz_lne, pq_wlw ls (M 60) → (∀ q ∈ ls, pv_ln q) → sd_wf (M 60) → 0 ≤ n → ∀ b : Nat → Bool, pz_zs x b → b 0 = false → sd_lmE ls (M 60) n.toNat b v34 v73 := fun ls hl hq hW hn b hb b0 => by
                      obtain ⟨p, e⟩ := (by assumption : ∀ ls : List pz_lne, pq_wlw ls (M 60) → (∀ q ∈ ls, pv_ln q) → sd_wf (M 60) → 0 ≤ n → ∀ b : Nat → Bool, pz_zs x b → b 0 = false → v34 = sd_o2 ls (M 60) n.toNat x5.toNat v23.toNat ∧ v23 = (sd_end b (sd_n (M 60)) x5.toNat : Int)) ls hl hq hW hn b hb b0
                      exact sd_lmE_s ((by assumption : ∀ ls : List pz_lne, pq_wlw ls (M 60) → (∀ q ∈ ls, pv_ln q) → sd_wf (M 60) → 0 ≤ n → ∀ b : Nat → Bool, pz_zs x b → b 0 = false → sd_lmE ls (M 60) n.toNat b x3 x5) ls hl hq hW hn b hb b0) hW b0 (by omega) (by omega) e p (by omega) (Or.inl ⟨by omega, by omega⟩))
                exact ih7 _ _ _ _ _ _ (by omega) hS (by first | omega | assumption | exact fun ls hl hq hW hn b hb b0 => sd_lmE_0 hW) (by first | omega | assumption | exact fun ls hl hq hW hn b hb b0 => sd_lmE_0 hW)
            · skip
              refine pz_nrc (c := 60) rfl ?_
              refine And.intro (by omega) (And.intro (show _ < (1725 : Int) from by omega) ?_)
              intro v61 e61 a61 b61
              replace e61 : v61 = M34 60 88 := e61
              have I61 : 0 ≤ v61 ∧ v61 ≤ 12 := by
                rw [e61]
                exact hI.1.1
              clear a61 b61
              intro v63 e63 a63 b63
              rw [pz_wi (by omega) (by omega)] at e63
              clear a63 b63
              refine And.intro (fun h64 => ?_) (fun h64 => ?_)
              · skip
                first
                  | (have G7 : ∀ ls : List pz_lne, pq_wlw ls (M 60) → (∀ q ∈ ls, pv_ln q) → sd_wf (M 60) → 0 ≤ n → ∀ b : Nat → Bool, pz_zs x b → b 0 = false → sd_lmE ls (M 60) n.toNat b x3 v23 := fun ls hl hq hW hn b hb b0 => by
                      obtain ⟨p, e⟩ := (by assumption : ∀ ls : List pz_lne, pq_wlw ls (M 60) → (∀ q ∈ ls, pv_ln q) → sd_wf (M 60) → 0 ≤ n → ∀ b : Nat → Bool, pz_zs x b → b 0 = false → v34 = sd_o2 ls (M 60) n.toNat x5.toNat v23.toNat ∧ v23 = (sd_end b (sd_n (M 60)) x5.toNat : Int)) ls hl hq hW hn b hb b0
                      exact sd_lmE_s ((by assumption : ∀ ls : List pz_lne, pq_wlw ls (M 60) → (∀ q ∈ ls, pv_ln q) → sd_wf (M 60) → 0 ≤ n → ∀ b : Nat → Bool, pz_zs x b → b 0 = false → sd_lmE ls (M 60) n.toNat b x3 x5) ls hl hq hW hn b hb b0) hW b0 (by omega) (by omega) e p (by omega) (Or.inr ⟨by omega, rfl⟩))
                  | (have G7 : ∀ ls : List pz_lne, pq_wlw ls (M 60) → (∀ q ∈ ls, pv_ln q) → sd_wf (M 60) → 0 ≤ n → ∀ b : Nat → Bool, pz_zs x b → b 0 = false → sd_lmE ls (M 60) n.toNat b v34 v23 := fun ls hl hq hW hn b hb b0 => by
                      obtain ⟨p, e⟩ := (by assumption : ∀ ls : List pz_lne, pq_wlw ls (M 60) → (∀ q ∈ ls, pv_ln q) → sd_wf (M 60) → 0 ≤ n → ∀ b : Nat → Bool, pz_zs x b → b 0 = false → v34 = sd_o2 ls (M 60) n.toNat x5.toNat v23.toNat ∧ v23 = (sd_end b (sd_n (M 60)) x5.toNat : Int)) ls hl hq hW hn b hb b0
                      exact sd_lmE_s ((by assumption : ∀ ls : List pz_lne, pq_wlw ls (M 60) → (∀ q ∈ ls, pv_ln q) → sd_wf (M 60) → 0 ≤ n → ∀ b : Nat → Bool, pz_zs x b → b 0 = false → sd_lmE ls (M 60) n.toNat b x3 x5) ls hl hq hW hn b hb b0) hW b0 (by omega) (by omega) e p (by omega) (Or.inr ⟨by omega, rfl⟩))
                exact ih7 _ _ _ _ _ _ (by omega) hS (by first | omega | assumption | exact fun ls hl hq hW hn b hb b0 => sd_lmE_0 hW) (by first | omega | assumption | exact fun ls hl hq hW hn b hb b0 => sd_lmE_0 hW)
              · skip
                skip
                refine pz_nrc (c := 60) rfl ?_
                refine And.intro (by omega) (And.intro (show _ < (1725 : Int) from by omega) ?_)
                intro v73 e73 a73 b73
                replace e73 : v73 = M34 60 88 := e73
                have I73 : 0 ≤ v73 ∧ v73 ≤ 12 := by
                  rw [e73]
                  exact hI.1.1
                clear a73 b73
                first
                  | (have G7 : ∀ ls : List pz_lne, pq_wlw ls (M 60) → (∀ q ∈ ls, pv_ln q) → sd_wf (M 60) → 0 ≤ n → ∀ b : Nat → Bool, pz_zs x b → b 0 = false → sd_lmE ls (M 60) n.toNat b x3 v73 := fun ls hl hq hW hn b hb b0 => by
                      obtain ⟨p, e⟩ := (by assumption : ∀ ls : List pz_lne, pq_wlw ls (M 60) → (∀ q ∈ ls, pv_ln q) → sd_wf (M 60) → 0 ≤ n → ∀ b : Nat → Bool, pz_zs x b → b 0 = false → v34 = sd_o2 ls (M 60) n.toNat x5.toNat v23.toNat ∧ v23 = (sd_end b (sd_n (M 60)) x5.toNat : Int)) ls hl hq hW hn b hb b0
                      exact sd_lmE_s ((by assumption : ∀ ls : List pz_lne, pq_wlw ls (M 60) → (∀ q ∈ ls, pv_ln q) → sd_wf (M 60) → 0 ≤ n → ∀ b : Nat → Bool, pz_zs x b → b 0 = false → sd_lmE ls (M 60) n.toNat b x3 x5) ls hl hq hW hn b hb b0) hW b0 (by omega) (by omega) e p (by omega) (Or.inl ⟨by omega, by omega⟩))
                  | (have G7 : ∀ ls : List pz_lne, pq_wlw ls (M 60) → (∀ q ∈ ls, pv_ln q) → sd_wf (M 60) → 0 ≤ n → ∀ b : Nat → Bool, pz_zs x b → b 0 = false → sd_lmE ls (M 60) n.toNat b v34 v73 := fun ls hl hq hW hn b hb b0 => by
                      obtain ⟨p, e⟩ := (by assumption : ∀ ls : List pz_lne, pq_wlw ls (M 60) → (∀ q ∈ ls, pv_ln q) → sd_wf (M 60) → 0 ≤ n → ∀ b : Nat → Bool, pz_zs x b → b 0 = false → v34 = sd_o2 ls (M 60) n.toNat x5.toNat v23.toNat ∧ v23 = (sd_end b (sd_n (M 60)) x5.toNat : Int)) ls hl hq hW hn b hb b0
                      exact sd_lmE_s ((by assumption : ∀ ls : List pz_lne, pq_wlw ls (M 60) → (∀ q ∈ ls, pv_ln q) → sd_wf (M 60) → 0 ≤ n → ∀ b : Nat → Bool, pz_zs x b → b 0 = false → sd_lmE ls (M 60) n.toNat b x3 x5) ls hl hq hW hn b hb b0) hW b0 (by omega) (by omega) e p (by omega) (Or.inl ⟨by omega, by omega⟩))
                exact ih7 _ _ _ _ _ _ (by omega) hS (by first | omega | assumption | exact fun ls hl hq hW hn b hb b0 => sd_lmE_0 hW) (by first | omega | assumption | exact fun ls hl hq hW hn b hb b0 => sd_lmE_0 hW)
          intro h42
          refine And.intro (fun h43 => ?_) (fun h43 => ?_)
          · skip
            refine pz_nrc (c := 60) rfl ?_
            refine And.intro (by omega) (And.intro (show _ < (1725 : Int) from by omega) ?_)
            intro v61 e61 a61 b61
            replace e61 : v61 = M34 60 88 := e61
            have I61 : 0 ≤ v61 ∧ v61 ≤ 12 := by
              rw [e61]
              exact hI.1.1
            clear a61 b61
            intro v63 e63 a63 b63
            rw [pz_wi (by omega) (by omega)] at e63
            clear a63 b63
            refine And.intro (fun h64 => ?_) (fun h64 => ?_)
            · skip
              first
                | (have G7 : ∀ ls : List pz_lne, pq_wlw ls (M 60) → (∀ q ∈ ls, pv_ln q) → sd_wf (M 60) → 0 ≤ n → ∀ b : Nat → Bool, pz_zs x b → b 0 = false → sd_lmE ls (M 60) n.toNat b x3 v23 := fun ls hl hq hW hn b hb b0 => by
                    obtain ⟨p, e⟩ := (by assumption : ∀ ls : List pz_lne, pq_wlw ls (M 60) → (∀ q ∈ ls, pv_ln q) → sd_wf (M 60) → 0 ≤ n → ∀ b : Nat → Bool, pz_zs x b → b 0 = false → v34 = sd_o2 ls (M 60) n.toNat x5.toNat v23.toNat ∧ v23 = (sd_end b (sd_n (M 60)) x5.toNat : Int)) ls hl hq hW hn b hb b0
                    exact sd_lmE_s ((by assumption : ∀ ls : List pz_lne, pq_wlw ls (M 60) → (∀ q ∈ ls, pv_ln q) → sd_wf (M 60) → 0 ≤ n → ∀ b : Nat → Bool, pz_zs x b → b 0 = false → sd_lmE ls (M 60) n.toNat b x3 x5) ls hl hq hW hn b hb b0) hW b0 (by omega) (by omega) e p (by omega) (Or.inr ⟨by omega, rfl⟩))
                | (have G7 : ∀ ls : List pz_lne, pq_wlw ls (M 60) → (∀ q ∈ ls, pv_ln q) → sd_wf (M 60) → 0 ≤ n → ∀ b : Nat → Bool, pz_zs x b → b 0 = false → sd_lmE ls (M 60) n.toNat b v34 v23 := fun ls hl hq hW hn b hb b0 => by
                    obtain ⟨p, e⟩ := (by assumption : ∀ ls : List pz_lne, pq_wlw ls (M 60) → (∀ q ∈ ls, pv_ln q) → sd_wf (M 60) → 0 ≤ n → ∀ b : Nat → Bool, pz_zs x b → b 0 = false → v34 = sd_o2 ls (M 60) n.toNat x5.toNat v23.toNat ∧ v23 = (sd_end b (sd_n (M 60)) x5.toNat : Int)) ls hl hq hW hn b hb b0
                    exact sd_lmE_s ((by assumption : ∀ ls : List pz_lne, pq_wlw ls (M 60) → (∀ q ∈ ls, pv_ln q) → sd_wf (M 60) → 0 ≤ n → ∀ b : Nat → Bool, pz_zs x b → b 0 = false → sd_lmE ls (M 60) n.toNat b x3 x5) ls hl hq hW hn b hb b0) hW b0 (by omega) (by omega) e p (by omega) (Or.inr ⟨by omega, rfl⟩))
              exact ih7 _ _ _ _ _ _ (by omega) hS (by first | omega | assumption | exact fun ls hl hq hW hn b hb b0 => sd_lmE_0 hW) (by first | omega | assumption | exact fun ls hl hq hW hn b hb b0 => sd_lmE_0 hW)
            · skip
              skip
              refine pz_nrc (c := 60) rfl ?_
              refine And.intro (by omega) (And.intro (show _ < (1725 : Int) from by omega) ?_)
              intro v73 e73 a73 b73
              replace e73 : v73 = M34 60 88 := e73
              have I73 : 0 ≤ v73 ∧ v73 ≤ 12 := by
                rw [e73]
                exact hI.1.1
              clear a73 b73
              first
                | (have G7 : ∀ ls : List pz_lne, pq_wlw ls (M 60) → (∀ q ∈ ls, pv_ln q) → sd_wf (M 60) → 0 ≤ n → ∀ b : Nat → Bool, pz_zs x b → b 0 = false → sd_lmE ls (M 60) n.toNat b x3 v73 := fun ls hl hq hW hn b hb b0 => by
                    obtain ⟨p, e⟩ := (by assumption : ∀ ls : List pz_lne, pq_wlw ls (M 60) → (∀ q ∈ ls, pv_ln q) → sd_wf (M 60) → 0 ≤ n → ∀ b : Nat → Bool, pz_zs x b → b 0 = false → v34 = sd_o2 ls (M 60) n.toNat x5.toNat v23.toNat ∧ v23 = (sd_end b (sd_n (M 60)) x5.toNat : Int)) ls hl hq hW hn b hb b0
                    exact sd_lmE_s ((by assumption : ∀ ls : List pz_lne, pq_wlw ls (M 60) → (∀ q ∈ ls, pv_ln q) → sd_wf (M 60) → 0 ≤ n → ∀ b : Nat → Bool, pz_zs x b → b 0 = false → sd_lmE ls (M 60) n.toNat b x3 x5) ls hl hq hW hn b hb b0) hW b0 (by omega) (by omega) e p (by omega) (Or.inl ⟨by omega, by omega⟩))
                | (have G7 : ∀ ls : List pz_lne, pq_wlw ls (M 60) → (∀ q ∈ ls, pv_ln q) → sd_wf (M 60) → 0 ≤ n → ∀ b : Nat → Bool, pz_zs x b → b 0 = false → sd_lmE ls (M 60) n.toNat b v34 v73 := fun ls hl hq hW hn b hb b0 => by
                    obtain ⟨p, e⟩ := (by assumption : ∀ ls : List pz_lne, pq_wlw ls (M 60) → (∀ q ∈ ls, pv_ln q) → sd_wf (M 60) → 0 ≤ n → ∀ b : Nat → Bool, pz_zs x b → b 0 = false → v34 = sd_o2 ls (M 60) n.toNat x5.toNat v23.toNat ∧ v23 = (sd_end b (sd_n (M 60)) x5.toNat : Int)) ls hl hq hW hn b hb b0
                    exact sd_lmE_s ((by assumption : ∀ ls : List pz_lne, pq_wlw ls (M 60) → (∀ q ∈ ls, pv_ln q) → sd_wf (M 60) → 0 ≤ n → ∀ b : Nat → Bool, pz_zs x b → b 0 = false → sd_lmE ls (M 60) n.toNat b x3 x5) ls hl hq hW hn b hb b0) hW b0 (by omega) (by omega) e p (by omega) (Or.inl ⟨by omega, by omega⟩))
              exact ih7 _ _ _ _ _ _ (by omega) hS (by first | omega | assumption | exact fun ls hl hq hW hn b hb b0 => sd_lmE_0 hW) (by first | omega | assumption | exact fun ls hl hq hW hn b hb b0 => sd_lmE_0 hW)
          · skip
            refine pz_nrc (c := 60) rfl ?_
            refine And.intro (by omega) (And.intro (show _ < (1725 : Int) from by omega) ?_)
            intro v61 e61 a61 b61
            replace e61 : v61 = M34 60 88 := e61
            have I61 : 0 ≤ v61 ∧ v61 ≤ 12 := by
              rw [e61]
              exact hI.1.1
            clear a61 b61
            intro v63 e63 a63 b63
            rw [pz_wi (by omega) (by omega)] at e63
            clear a63 b63
            refine And.intro (fun h64 => ?_) (fun h64 => ?_)
            · skip
              first
                | (have G7 : ∀ ls : List pz_lne, pq_wlw ls (M 60) → (∀ q ∈ ls, pv_ln q) → sd_wf (M 60) → 0 ≤ n → ∀ b : Nat → Bool, pz_zs x b → b 0 = false → sd_lmE ls (M 60) n.toNat b x3 v23 := fun ls hl hq hW hn b hb b0 => by
                    obtain ⟨p, e⟩ := (by assumption : ∀ ls : List pz_lne, pq_wlw ls (M 60) → (∀ q ∈ ls, pv_ln q) → sd_wf (M 60) → 0 ≤ n → ∀ b : Nat → Bool, pz_zs x b → b 0 = false → v34 = sd_o2 ls (M 60) n.toNat x5.toNat v23.toNat ∧ v23 = (sd_end b (sd_n (M 60)) x5.toNat : Int)) ls hl hq hW hn b hb b0
                    exact sd_lmE_s ((by assumption : ∀ ls : List pz_lne, pq_wlw ls (M 60) → (∀ q ∈ ls, pv_ln q) → sd_wf (M 60) → 0 ≤ n → ∀ b : Nat → Bool, pz_zs x b → b 0 = false → sd_lmE ls (M 60) n.toNat b x3 x5) ls hl hq hW hn b hb b0) hW b0 (by omega) (by omega) e p (by omega) (Or.inr ⟨by omega, rfl⟩))
                | (have G7 : ∀ ls : List pz_lne, pq_wlw ls (M 60) → (∀ q ∈ ls, pv_ln q) → sd_wf (M 60) → 0 ≤ n → ∀ b : Nat → Bool, pz_zs x b → b 0 = false → sd_lmE ls (M 60) n.toNat b v34 v23 := fun ls hl hq hW hn b hb b0 => by
                    obtain ⟨p, e⟩ := (by assumption : ∀ ls : List pz_lne, pq_wlw ls (M 60) → (∀ q ∈ ls, pv_ln q) → sd_wf (M 60) → 0 ≤ n → ∀ b : Nat → Bool, pz_zs x b → b 0 = false → v34 = sd_o2 ls (M 60) n.toNat x5.toNat v23.toNat ∧ v23 = (sd_end b (sd_n (M 60)) x5.toNat : Int)) ls hl hq hW hn b hb b0
                    exact sd_lmE_s ((by assumption : ∀ ls : List pz_lne, pq_wlw ls (M 60) → (∀ q ∈ ls, pv_ln q) → sd_wf (M 60) → 0 ≤ n → ∀ b : Nat → Bool, pz_zs x b → b 0 = false → sd_lmE ls (M 60) n.toNat b x3 x5) ls hl hq hW hn b hb b0) hW b0 (by omega) (by omega) e p (by omega) (Or.inr ⟨by omega, rfl⟩))
              exact ih7 _ _ _ _ _ _ (by omega) hS (by first | omega | assumption | exact fun ls hl hq hW hn b hb b0 => sd_lmE_0 hW) (by first | omega | assumption | exact fun ls hl hq hW hn b hb b0 => sd_lmE_0 hW)
            · skip
              skip
              refine pz_nrc (c := 60) rfl ?_
              refine And.intro (by omega) (And.intro (show _ < (1725 : Int) from by omega) ?_)
              intro v73 e73 a73 b73
              replace e73 : v73 = M34 60 88 := e73
              have I73 : 0 ≤ v73 ∧ v73 ≤ 12 := by
                rw [e73]
                exact hI.1.1
              clear a73 b73
              first
                | (have G7 : ∀ ls : List pz_lne, pq_wlw ls (M 60) → (∀ q ∈ ls, pv_ln q) → sd_wf (M 60) → 0 ≤ n → ∀ b : Nat → Bool, pz_zs x b → b 0 = false → sd_lmE ls (M 60) n.toNat b x3 v73 := fun ls hl hq hW hn b hb b0 => by
                    obtain ⟨p, e⟩ := (by assumption : ∀ ls : List pz_lne, pq_wlw ls (M 60) → (∀ q ∈ ls, pv_ln q) → sd_wf (M 60) → 0 ≤ n → ∀ b : Nat → Bool, pz_zs x b → b 0 = false → v34 = sd_o2 ls (M 60) n.toNat x5.toNat v23.toNat ∧ v23 = (sd_end b (sd_n (M 60)) x5.toNat : Int)) ls hl hq hW hn b hb b0
                    exact sd_lmE_s ((by assumption : ∀ ls : List pz_lne, pq_wlw ls (M 60) → (∀ q ∈ ls, pv_ln q) → sd_wf (M 60) → 0 ≤ n → ∀ b : Nat → Bool, pz_zs x b → b 0 = false → sd_lmE ls (M 60) n.toNat b x3 x5) ls hl hq hW hn b hb b0) hW b0 (by omega) (by omega) e p (by omega) (Or.inl ⟨by omega, by omega⟩))
                | (have G7 : ∀ ls : List pz_lne, pq_wlw ls (M 60) → (∀ q ∈ ls, pv_ln q) → sd_wf (M 60) → 0 ≤ n → ∀ b : Nat → Bool, pz_zs x b → b 0 = false → sd_lmE ls (M 60) n.toNat b v34 v73 := fun ls hl hq hW hn b hb b0 => by
                    obtain ⟨p, e⟩ := (by assumption : ∀ ls : List pz_lne, pq_wlw ls (M 60) → (∀ q ∈ ls, pv_ln q) → sd_wf (M 60) → 0 ≤ n → ∀ b : Nat → Bool, pz_zs x b → b 0 = false → v34 = sd_o2 ls (M 60) n.toNat x5.toNat v23.toNat ∧ v23 = (sd_end b (sd_n (M 60)) x5.toNat : Int)) ls hl hq hW hn b hb b0
                    exact sd_lmE_s ((by assumption : ∀ ls : List pz_lne, pq_wlw ls (M 60) → (∀ q ∈ ls, pv_ln q) → sd_wf (M 60) → 0 ≤ n → ∀ b : Nat → Bool, pz_zs x b → b 0 = false → sd_lmE ls (M 60) n.toNat b x3 x5) ls hl hq hW hn b hb b0) hW b0 (by omega) (by omega) e p (by omega) (Or.inl ⟨by omega, by omega⟩))
              exact ih7 _ _ _ _ _ _ (by omega) hS (by first | omega | assumption | exact fun ls hl hq hW hn b hb b0 => sd_lmE_0 hW) (by first | omega | assumption | exact fun ls hl hq hW hn b hb b0 => sd_lmE_0 hW)
    refine hgo (fun p => Nat.beq p 7) 49 0 _ [] M ?_
    exact L7 _ _ _ _ _ _ _ (Nat.lt_succ_self _) hS (by first | omega | assumption | exact fun ls hl hq hW hn b hb b0 => sd_lmE_0 hW) (by first | omega | assumption | exact fun ls hl hq hW hn b hb b0 => sd_lmE_0 hW)
theorem v4_X12_leastBy {fr lo i : Nat} {own : String} (h1 : 7 + 1 ≤ fr) (h2 : 8 + (9 + 11) + 164 ≤ lo) (h3 : .methodLink own i yX12_leastBy ∈ lw_tbl) : pz_cV fr lo own i k4_X12_leastBy :=
  pz_cVk (maxL := 9) (fr' := 7) (lo' := 164) 2 12 h4_X12_leastBy rfl ⟨by decide +kernel, by decide +kernel, by decide +kernel⟩ ⟨(pz_mt 1660 (by decide +kernel)), (pz_mt 1659 (by decide +kernel)), (pz_ms 77 (by decide +kernel)), (pz_mt 13 (by decide +kernel))⟩ (Or.inl ⟨TX12, 28, rfl⟩) (fun a M _ h => by
    have h : (match (generalizing := false) a with | [.inr (.inr (12, th)), .inl x, .inl n] => pz_im M | _ => False) := h
    split at h
    · exact ⟨_, _, rfl⟩
    · exact h.elim) h1 h2 h3
def k4_X12_split : pz_C := (3, 1, fun a M => (match a with | [.inr (.inr (12, th)), .inl n, .inl w] => pz_im M | _ => False), fun a M r M' => (match a, r with | [.inr (.inr (12, th)), .inl n, .inl w], some (.inl v) => (sd_wm M v (fun ls F => sd_spv ls F n w)) ∧ pz_rl pz_QV M M' | _, _ => False))
abbrev ct4_X12_split : List (Bool × Nat × pz_C) := [(false, 54, k_X12_isIn), (true, 336, k3_X12_canBridge), (true, 291, k3_X12_bridgedOnes), (true, 427, k4_X12_leastBy)]
set_option maxRecDepth 100000 in
set_option maxHeartbeats 4000000 in
theorem h4_X12_split : pz_H yX12_split cX12_split 9 (some .int) k4_X12_split 8 192 := by
  refine pz_mk (own := RX12) (tb := t_X12_split) (fl := pz_flf fl_RX12) (ci := pz_cif ci_RX12) (ct := pz_ctf ct4_X12_split) (rz := false) (by decide +kernel) rfl t_X12_split_ok (pz_flk fl_RX12_ok) (pz_cik ci_RX12_ok) ?_ ?_ (Or.inl ⟨rfl, rfl⟩) ?_ ?_
  · exact fun i k' h => pz_ctk (l := ct4_X12_split) (P := fun b i k => b = true → pz_cV 8 192 RX12 i k) (List.forall_mem_cons.mpr ⟨((fun z => by cases z)), List.forall_mem_cons.mpr ⟨(fun _ => v3_X12_canBridge (by decide) (by decide) (pz_mt 1491 (by decide +kernel))), List.forall_mem_cons.mpr ⟨(fun _ => v3_X12_bridgedOnes (by decide) (by decide) (pz_mt 1454 (by decide +kernel))), List.forall_mem_cons.mpr ⟨(fun _ => v4_X12_leastBy (by decide) (by decide) (pz_mt 1657 (by decide +kernel))), fun _ h => absurd h List.not_mem_nil⟩⟩⟩⟩) true i k' h rfl
  · exact fun i k' h => pz_ctk (l := ct4_X12_split) (P := fun b i k => b = false → (pz_cS 8 192 RX12 i k ∨ (k = pz_kac ∧ 1 ≤ 8 ∧ 60 ≤ 192 ∧ Cond.methodLink RX12 i arraycopyName ∈ pz_tbl))) (List.forall_mem_cons.mpr ⟨(fun _ => Or.inl (s_X12_isIn (by decide) (by decide) (Or.inl (pz_mt 1217 (by decide +kernel))))), List.forall_mem_cons.mpr ⟨((fun z => by cases z)), List.forall_mem_cons.mpr ⟨((fun z => by cases z)), List.forall_mem_cons.mpr ⟨((fun z => by cases z)), fun _ h => absurd h List.not_mem_nil⟩⟩⟩⟩) false i k' h rfl
  · intro a M hlen hpre
    obtain ⟨th, n, w, rfl, hpre⟩ : ∃ th n w, a = [.inr (.inr (12, th)), .inl n, .inl w] ∧ (pz_im M) := by
      have hpre : (match (generalizing := false) a with | [.inr (.inr (12, th)), .inl n, .inl w] => pz_im M | _ => False) := hpre
      split at hpre
      · exact ⟨_, _, _, rfl, hpre⟩
      · exact hpre.elim
    exact Nat.le_of_ble_eq_true rfl
  · intro a M hlen hcan hM hpre Ok hgo
    obtain ⟨th, n, w, rfl, hpre⟩ : ∃ th n w, a = [.inr (.inr (12, th)), .inl n, .inl w] ∧ (pz_im M) := by
      have hpre : (match (generalizing := false) a with | [.inr (.inr (12, th)), .inl n, .inl w] => pz_im M | _ => False) := hpre
      split at hpre
      · exact ⟨_, _, _, rfl, hpre⟩
      · exact hpre.elim
    obtain ⟨k_th, hc_th⟩ := pz_tlm hcan
    have k_th : pz_kd th = 12 ∧ th < 231 := k_th
    have R_th := pz_kd12 k_th.1
    subst R_th
    clear k_th
    obtain ⟨k_n, hc_n⟩ := pz_tlm hc_th
    have l_n : -2147483648 ≤ n := k_n.1
    have u_n : n ≤ 2147483647 := k_n.2
    obtain ⟨k_w, hc_w⟩ := pz_tlm hc_n
    have l_w : -2147483648 ≤ w := k_w.1
    have u_w : w ≤ 2147483647 := k_w.2
    have hI : pz_im M := hpre
    have hI0 := hI
    have hS : pz_rl pz_QV M M := pz_rl.rf
    have I88 := hI.1.1
    have L31 : ∀ (fu : Nat) (x3 : Int) (x4 : Int) (x6 : Int) (d7 : Option pz_V) (d8 : Option pz_V) (N31 : pz_M), (12 - x6).toNat < fu → (pz_rl pz_QV M N31) → (0 ≤ x6) → ((1 ≤ n ∧ n ≤ 60) ∧ 0 ≤ w ∧ w ≤ 1) → (∀ ls : List pz_lne, pq_wlw ls (M 60) → (∀ q ∈ ls, pv_ln q) → sd_wf (M 60) → sd_spE ls (M 60) n.toNat x3 x4 x6) → Ok 31 [some (.inr (.inr (12, 1))), some (.inl n), some (.inl w), some (.inl x3), some (.inr (.inl x4)), none, some (.inl x6), d7, d8] [] N31 := by
      intro fu
      induction fu with
      | zero => exact fun _ _ _ _ _ _ hn => absurd hn (Nat.not_lt_zero _)
      | succ fu ih31 =>
        intro x3 x4 x6 d7 d8 N31 hn31 hS g31_1 g31_2 g31_3
        have hI : pz_im N31 := hS.1 hI0
        have W31 : N31 60 = M 60 := funext fun j => hS.2 60 j (by unfold pz_QV; omega)
        have L92 : ∀ (x3 : Int) (x4 : Int) (x6 : Int) (x7 : Int) (N92 : pz_M), (pz_rl pz_QV M N92) → (0 ≤ x6) → (x6 < 12) → ((12 - x6).toNat < fu + 1) → ((1 ≤ n ∧ n ≤ 60) ∧ 0 ≤ w ∧ w ≤ 1) → (x6 < M 60 88) → (∀ ls : List pz_lne, pq_wlw ls (M 60) → (∀ q ∈ ls, pv_ln q) → sd_wf (M 60) → sd_spE ls (M 60) n.toNat x3 x4 (x6 + 1)) → Ok 92 [some (.inr (.inr (12, 1))), some (.inl n), some (.inl w), some (.inl x3), some (.inr (.inl x4)), none, some (.inl x6), some (.inr (.inl x7)), none] [] N92 := by
          intro x3 x4 x6 x7 N92 hS g92_1 g92_2 g92_3 g92_4 g92_5 g92_6
          have hI : pz_im N92 := hS.1 hI0
          refine hgo (fun p => Nat.beq p 31 || Nat.beq p 72 || Nat.beq p 92) 63 92 _ _ _ ?_
          intro v92 e92 a92 b92
          rw [pz_wi (by omega) (by omega)] at e92
          have G31 : ∀ ls : List pz_lne, pq_wlw ls (M 60) → (∀ q ∈ ls, pv_ln q) → sd_wf (M 60) → sd_spE ls (M 60) n.toNat x3 x4 v92 := by
            rw [e92]
            assumption
          exact ih31 _ _ _ _ _ _ (by omega) hS (by first | omega | assumption | exact fun ls hl hq hW => sd_spE_0 hW) (by first | omega | assumption | exact fun ls hl hq hW => sd_spE_0 hW) (by first | omega | assumption | exact fun ls hl hq hW => sd_spE_0 hW)
        have L72 : ∀ (x3 : Int) (x4 : Int) (x6 : Int) (d7 : Option pz_V) (d8 : Option pz_V) (s0 : Int) (N72 : pz_M), (pz_rl pz_QV M N72) → (0 ≤ x6) → (x6 < 12) → ((12 - x6).toNat < fu + 1) → ((1 ≤ n ∧ n ≤ 60) ∧ 0 ≤ w ∧ w ≤ 1) → (x6 < M 60 88) → (∀ ls : List pz_lne, pq_wlw ls (M 60) → (∀ q ∈ ls, pv_ln q) → sd_wf (M 60) → sd_spE ls (M 60) n.toNat x3 x4 x6 ∧ ((sd_cb (M 60) x6.toNat ∧ s0 = sd_lsv ls (M 60) n.toNat (sd_bi (M 60) x6.toNat)) ∨ (¬ sd_cb (M 60) x6.toNat ∧ s0 = -1))) → Ok 72 [some (.inr (.inr (12, 1))), some (.inl n), some (.inl w), some (.inl x3), some (.inr (.inl x4)), none, some (.inl x6), d7, d8] [.inr (.inl s0)] N72 := by
          intro x3 x4 x6 d7 d8 s0 N72 hS g72_1 g72_2 g72_3 g72_4 g72_5 g72_6
          have hI : pz_im N72 := hS.1 hI0
          refine hgo (fun p => Nat.beq p 31 || Nat.beq p 72 || Nat.beq p 92) 63 72 _ _ _ ?_
          refine And.intro (fun h78 => ?_) ?_
          · skip
            refine And.intro (fun h79 => ?_) (fun h79 => ?_)
            · skip
              have G92 : ∀ ls : List pz_lne, pq_wlw ls (M 60) → (∀ q ∈ ls, pv_ln q) → sd_wf (M 60) → sd_spE ls (M 60) n.toNat x6 s0 (x6 + 1) := fun ls hl hq hW => by
                obtain ⟨g, c⟩ := (by assumption : ∀ ls : List pz_lne, pq_wlw ls (M 60) → (∀ q ∈ ls, pv_ln q) → sd_wf (M 60) → sd_spE ls (M 60) n.toNat x3 x4 x6 ∧ ((sd_cb (M 60) x6.toNat ∧ s0 = sd_lsv ls (M 60) n.toNat (sd_bi (M 60) x6.toNat)) ∨ (¬ sd_cb (M 60) x6.toNat ∧ s0 = -1))) ls hl hq hW
                have g2 := g.2.1
                exact c.elim (fun c => sd_spE_y g hW (by omega) rfl c.1 c.2 (by omega)) (fun c => by
                  have c2 := c.2
                  exfalso
                  omega)
              exact L92 _ _ _ _ _ hS (by first | omega | assumption) (by first | omega | assumption) (by first | omega | assumption) (by first | omega | assumption) (by first | omega | assumption) (by first | omega | assumption)
            · skip
              have G92 : ∀ ls : List pz_lne, pq_wlw ls (M 60) → (∀ q ∈ ls, pv_ln q) → sd_wf (M 60) → sd_spE ls (M 60) n.toNat x3 x4 (x6 + 1) := fun ls hl hq hW => by
                obtain ⟨g, c⟩ := (by assumption : ∀ ls : List pz_lne, pq_wlw ls (M 60) → (∀ q ∈ ls, pv_ln q) → sd_wf (M 60) → sd_spE ls (M 60) n.toNat x3 x4 x6 ∧ ((sd_cb (M 60) x6.toNat ∧ s0 = sd_lsv ls (M 60) n.toNat (sd_bi (M 60) x6.toNat)) ∨ (¬ sd_cb (M 60) x6.toNat ∧ s0 = -1))) ls hl hq hW
                exact sd_spE_n g hW (by omega) rfl (fun z => c.elim (fun c => by
                  have c2 := c.2
                  have z2 := z.2
                  omega) (fun c => c.1 z.1))
              exact L92 _ _ _ _ _ hS (by first | omega | assumption) (by first | omega | assumption) (by first | omega | assumption) (by first | omega | assumption) (by first | omega | assumption) (by first | omega | assumption)
          refine And.intro (fun h78 => ?_) ?_
          · skip
            refine And.intro (fun h79 => ?_) (fun h79 => ?_)
            · skip
              have G92 : ∀ ls : List pz_lne, pq_wlw ls (M 60) → (∀ q ∈ ls, pv_ln q) → sd_wf (M 60) → sd_spE ls (M 60) n.toNat x6 s0 (x6 + 1) := fun ls hl hq hW => by
                obtain ⟨g, c⟩ := (by assumption : ∀ ls : List pz_lne, pq_wlw ls (M 60) → (∀ q ∈ ls, pv_ln q) → sd_wf (M 60) → sd_spE ls (M 60) n.toNat x3 x4 x6 ∧ ((sd_cb (M 60) x6.toNat ∧ s0 = sd_lsv ls (M 60) n.toNat (sd_bi (M 60) x6.toNat)) ∨ (¬ sd_cb (M 60) x6.toNat ∧ s0 = -1))) ls hl hq hW
                have g2 := g.2.1
                exact c.elim (fun c => sd_spE_y g hW (by omega) rfl c.1 c.2 (by omega)) (fun c => by
                  have c2 := c.2
                  exfalso
                  omega)
              exact L92 _ _ _ _ _ hS (by first | omega | assumption) (by first | omega | assumption) (by first | omega | assumption) (by first | omega | assumption) (by first | omega | assumption) (by first | omega | assumption)
            · skip
              have G92 : ∀ ls : List pz_lne, pq_wlw ls (M 60) → (∀ q ∈ ls, pv_ln q) → sd_wf (M 60) → sd_spE ls (M 60) n.toNat x3 x4 (x6 + 1) := fun ls hl hq hW => by
                obtain ⟨g, c⟩ := (by assumption : ∀ ls : List pz_lne, pq_wlw ls (M 60) → (∀ q ∈ ls, pv_ln q) → sd_wf (M 60) → sd_spE ls (M 60) n.toNat x3 x4 x6 ∧ ((sd_cb (M 60) x6.toNat ∧ s0 = sd_lsv ls (M 60) n.toNat (sd_bi (M 60) x6.toNat)) ∨ (¬ sd_cb (M 60) x6.toNat ∧ s0 = -1))) ls hl hq hW
                exact sd_spE_n g hW (by omega) rfl (fun z => c.elim (fun c => by
                  have c2 := c.2
                  have z2 := z.2
                  omega) (fun c => c.1 z.1))
              exact L92 _ _ _ _ _ hS (by first | omega | assumption) (by first | omega | assumption) (by first | omega | assumption) (by first | omega | assumption) (by first | omega | assumption) (by first | omega | assumption)
          intro h78
          refine And.intro (fun h79 => ?_) (fun h79 => ?_)
          · skip
            have G92 : ∀ ls : List pz_lne, pq_wlw ls (M 60) → (∀ q ∈ ls, pv_ln q) → sd_wf (M 60) → sd_spE ls (M 60) n.toNat x6 s0 (x6 + 1) := fun ls hl hq hW => by
              obtain ⟨g, c⟩ := (by assumption : ∀ ls : List pz_lne, pq_wlw ls (M 60) → (∀ q ∈ ls, pv_ln q) → sd_wf (M 60) → sd_spE ls (M 60) n.toNat x3 x4 x6 ∧ ((sd_cb (M 60) x6.toNat ∧ s0 = sd_lsv ls (M 60) n.toNat (sd_bi (M 60) x6.toNat)) ∨ (¬ sd_cb (M 60) x6.toNat ∧ s0 = -1))) ls hl hq hW
              have g2 := g.2.1
              exact c.elim (fun c => sd_spE_y g hW (by omega) rfl c.1 c.2 (by omega)) (fun c => by
                have c2 := c.2
                exfalso
                omega)
            exact L92 _ _ _ _ _ hS (by first | omega | assumption) (by first | omega | assumption) (by first | omega | assumption) (by first | omega | assumption) (by first | omega | assumption) (by first | omega | assumption)
          · skip
            have G92 : ∀ ls : List pz_lne, pq_wlw ls (M 60) → (∀ q ∈ ls, pv_ln q) → sd_wf (M 60) → sd_spE ls (M 60) n.toNat x3 x4 (x6 + 1) := fun ls hl hq hW => by
              obtain ⟨g, c⟩ := (by assumption : ∀ ls : List pz_lne, pq_wlw ls (M 60) → (∀ q ∈ ls, pv_ln q) → sd_wf (M 60) → sd_spE ls (M 60) n.toNat x3 x4 x6 ∧ ((sd_cb (M 60) x6.toNat ∧ s0 = sd_lsv ls (M 60) n.toNat (sd_bi (M 60) x6.toNat)) ∨ (¬ sd_cb (M 60) x6.toNat ∧ s0 = -1))) ls hl hq hW
              exact sd_spE_n g hW (by omega) rfl (fun z => c.elim (fun c => by
                have c2 := c.2
                have z2 := z.2
                omega) (fun c => c.1 z.1))
            exact L92 _ _ _ _ _ hS (by first | omega | assumption) (by first | omega | assumption) (by first | omega | assumption) (by first | omega | assumption) (by first | omega | assumption) (by first | omega | assumption)
        refine hgo (fun p => Nat.beq p 31 || Nat.beq p 72 || Nat.beq p 92) 63 31 _ _ _ ?_
        refine pz_nrc (c := 60) rfl ?_
        refine And.intro (by omega) (And.intro (show _ < (1725 : Int) from by omega) ?_)
        intro v39 e39 a39 b39
        replace e39 : v39 = N31 60 88 := e39
        have I39 : 0 ≤ v39 ∧ v39 ≤ 12 := by
          rw [e39]
          exact hI.1.1
        clear a39 b39
        rw [W31] at e39
        refine And.intro (fun h40 => ?_) (fun h40 => ?_)
        · skip
          refine And.intro (fun h100 => ?_) (fun h100 => ?_)
          · skip
            refine And.intro rfl ?_
            refine ⟨fun ls hl hq hW => ?_, hS⟩
            have hm := hW.1
            show _ = sd_spv ls (M 60) n w
            have g := (by assumption : ∀ ls : List pz_lne, pq_wlw ls (M 60) → (∀ q ∈ ls, pv_ln q) → sd_wf (M 60) → sd_spE ls (M 60) n.toNat x3 x4 x6) ls hl hq hW
            have z := sd_spE_z g hW (by omega)
            have g2 := g.2.1
            unfold sd_spv
            rw [if_pos (by omega), ← z]
            first
              | (rw [if_pos (by omega)]; done)
              | (rw [if_neg (by omega), e113, pz_wi (by omega) (by omega)]; done)
              | (by_cases ww : w = 0
                 · rw [if_pos ww]
                 · rw [if_neg ww]
                   show x3 = x4
                   omega)
          · skip
            refine And.intro (fun h104 => ?_) (fun h104 => ?_)
            · skip
              replace h104 : 1 ≤ w := by omega
              intro v113 e113 a113 b113
              refine And.intro rfl ?_
              refine ⟨fun ls hl hq hW => ?_, hS⟩
              have hm := hW.1
              show _ = sd_spv ls (M 60) n w
              have g := (by assumption : ∀ ls : List pz_lne, pq_wlw ls (M 60) → (∀ q ∈ ls, pv_ln q) → sd_wf (M 60) → sd_spE ls (M 60) n.toNat x3 x4 x6) ls hl hq hW
              have z := sd_spE_z g hW (by omega)
              have g2 := g.2.1
              unfold sd_spv
              rw [if_pos (by omega), ← z]
              first
                | (rw [if_pos (by omega)]; done)
                | (rw [if_neg (by omega), e113, pz_wi (by omega) (by omega)]; done)
                | (by_cases ww : w = 0
                   · rw [if_pos ww]
                   · rw [if_neg ww]
                     show x3 = x4
                     omega)
            · skip
              refine And.intro rfl ?_
              refine ⟨fun ls hl hq hW => ?_, hS⟩
              have hm := hW.1
              show _ = sd_spv ls (M 60) n w
              have g := (by assumption : ∀ ls : List pz_lne, pq_wlw ls (M 60) → (∀ q ∈ ls, pv_ln q) → sd_wf (M 60) → sd_spE ls (M 60) n.toNat x3 x4 x6) ls hl hq hW
              have z := sd_spE_z g hW (by omega)
              have g2 := g.2.1
              unfold sd_spv
              rw [if_pos (by omega), ← z]
              first
                | (rw [if_pos (by omega)]; done)
                | (rw [if_neg (by omega), e113, pz_wi (by omega) (by omega)]; done)
                | (by_cases ww : w = 0
                   · rw [if_pos ww]
                   · rw [if_neg ww]
                     show x3 = x4
                     omega)
        · skip
          refine And.intro (hI) ?_
          intro v46 M46 a46 b46 q46
          obtain ⟨q46, z46⟩ := q46
          subst z46
          clear a46 b46
          rw [W31] at q46
          refine And.intro (fun h49 => ?_) (fun h49 => ?_)
          · skip
            have G72 : ∀ ls : List pz_lne, pq_wlw ls (M 60) → (∀ q ∈ ls, pv_ln q) → sd_wf (M 60) → sd_spE ls (M 60) n.toNat x3 x4 x6 ∧ ((sd_cb (M 60) x6.toNat ∧ (-1 : Int) = sd_lsv ls (M 60) n.toNat (sd_bi (M 60) x6.toNat)) ∨ (¬ sd_cb (M 60) x6.toNat ∧ (-1 : Int) = -1)) := fun ls hl hq hW => by
              refine ⟨(by assumption : ∀ ls : List pz_lne, pq_wlw ls (M 60) → (∀ q ∈ ls, pv_ln q) → sd_wf (M 60) → sd_spE ls (M 60) n.toNat x3 x4 x6) ls hl hq hW, Or.inr ⟨fun z => ?_, rfl⟩⟩
              rw [show (52 + x6).toNat = 52 + x6.toNat by omega, show (76 + x6).toNat = 76 + x6.toNat by omega, show (64 + x6).toNat = 64 + x6.toNat by omega] at q46
              unfold sd_cb sd_in at z
              omega
            replace q46 := q46.resolve_left (fun z => absurd (z.1.symm.trans h49) (by decide))
            exact L72 _ _ _ _ _ _ _ hS (by first | omega | assumption) (by first | omega | assumption) (by first | omega | assumption) (by first | omega | assumption) (by first | omega | assumption) (by first | omega | assumption)
          · skip
            skip
            replace q46 := q46.resolve_right (fun z => h49 z.1)
            refine And.intro (hI) ?_
            intro v54 M54 a54 b54 q54
            obtain ⟨q54, z54⟩ := q54
            subst z54
            rw [W31] at q54
            intro v60 e60 a60 b60
            intro v61 e61 a61 b61
            refine And.intro (hI) ?_
            intro v63 M63 a63 b63 q63
            obtain ⟨q63, z63⟩ := q63
            have hS : pz_rl pz_QV M M63 := hS.tr z63
            have hI : pz_im M63 := hS.1 hI0
            rw [W31] at q63
            have G72 : ∀ ls : List pz_lne, pq_wlw ls (M 60) → (∀ q ∈ ls, pv_ln q) → sd_wf (M 60) → sd_spE ls (M 60) n.toNat x3 x4 x6 ∧ ((sd_cb (M 60) x6.toNat ∧ v63 = sd_lsv ls (M 60) n.toNat (sd_bi (M 60) x6.toNat)) ∨ (¬ sd_cb (M 60) x6.toNat ∧ v63 = -1)) := fun ls hl hq hW => by
              have c : sd_cb (M 60) x6.toNat := by
                rw [show (52 + x6).toNat = 52 + x6.toNat by omega, show (76 + x6).toNat = 76 + x6.toNat by omega, show (64 + x6).toNat = 64 + x6.toNat by omega] at q46
                unfold sd_cb sd_in
                omega
              exact ⟨(by assumption : ∀ ls : List pz_lne, pq_wlw ls (M 60) → (∀ q ∈ ls, pv_ln q) → sd_wf (M 60) → sd_spE ls (M 60) n.toNat x3 x4 x6) ls hl hq hW, Or.inl ⟨c, q63 ls hl hq hW (by omega) _ (sd_bi_z q54 (by omega) (by omega) e60 e61) (sd_bi_0 hW c)⟩⟩
            exact L72 _ _ _ _ _ _ _ hS (by first | omega | assumption) (by first | omega | assumption) (by first | omega | assumption) (by first | omega | assumption) (by first | omega | assumption) (by first | omega | assumption)
    refine hgo (fun p => Nat.beq p 31 || Nat.beq p 72 || Nat.beq p 92) 63 0 _ [] M ?_
    refine And.intro (True.intro) ?_
    intro v4 M4 a4 b4 q4
    obtain ⟨q4, z4⟩ := q4
    subst z4
    clear a4 b4
    refine And.intro (fun h7 => ?_) (fun h7 => ?_)
    · skip
      replace q4 := q4.resolve_left (fun z => absurd (z.1.symm.trans h7) (by decide))
      clear h7
      refine And.intro rfl ?_
      refine ⟨fun ls hl hq hW => ?_, hS⟩
      have hm := hW.1
      show _ = sd_spv ls (M 60) n w
      unfold sd_spv
      rw [if_neg (by omega)]
    · skip
      replace q4 := q4.resolve_right (fun z => h7 z.1)
      clear h7
      refine And.intro (True.intro) ?_
      intro v13 M13 a13 b13 q13
      obtain ⟨q13, z13⟩ := q13
      subst z13
      clear a13 b13
      refine And.intro (fun h16 => ?_) (fun h16 => ?_)
      · skip
        have GP : (1 ≤ n ∧ n ≤ 60) ∧ 0 ≤ w ∧ w ≤ 1 := by omega
        replace q13 := q13.resolve_right (fun z => h16 z.1)
        clear h16
        exact L31 _ _ _ _ _ _ _ (Nat.lt_succ_self _) hS (by first | omega | assumption | exact fun ls hl hq hW => sd_spE_0 hW) (by first | omega | assumption | exact fun ls hl hq hW => sd_spE_0 hW) (by first | omega | assumption | exact fun ls hl hq hW => sd_spE_0 hW)
      · skip
        skip
        replace q13 := q13.resolve_left (fun z => absurd (z.1.symm.trans h16) (by decide))
        clear h16
        refine And.intro rfl ?_
        refine ⟨fun ls hl hq hW => ?_, hS⟩
        have hm := hW.1
        show _ = sd_spv ls (M 60) n w
        unfold sd_spv
        rw [if_neg (by omega)]
theorem v4_X12_split {fr lo i : Nat} {own : String} (h1 : 8 + 1 ≤ fr) (h2 : 8 + (9 + 11) + 192 ≤ lo) (h3 : .methodLink own i yX12_split ∈ lw_tbl) : pz_cV fr lo own i k4_X12_split :=
  pz_cVk (maxL := 9) (fr' := 8) (lo' := 192) 2 12 h4_X12_split rfl ⟨by decide +kernel, by decide +kernel, by decide +kernel⟩ ⟨(pz_mt 1655 (by decide +kernel)), (pz_mt 1653 (by decide +kernel)), (pz_mt 1654 (by decide +kernel)), (pz_mt 13 (by decide +kernel))⟩ (Or.inl ⟨TX12, 28, rfl⟩) (fun a M _ h => by
    have h : (match (generalizing := false) a with | [.inr (.inr (12, th)), .inl n, .inl w] => pz_im M | _ => False) := h
    split at h
    · exact ⟨_, _, rfl⟩
    · exact h.elim) h1 h2 h3
