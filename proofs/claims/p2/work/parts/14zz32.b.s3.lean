def k3_X12_bridgeable : pz_C := (1, 1, fun a M => (match a with | [.inr (.inr (12, th))] => pz_im M | _ => False), fun a M r M' => (match a, r with | [.inr (.inr (12, th))], some (.inl v) => ((0 ≤ v ∧ v ≤ 4095) ∧ pz_zs v (fun k => decide (sd_cb (M 60) k))) ∧ M = M' | _, _ => False))
abbrev ct3_X12_bridgeable : List (Bool × Nat × pz_C) := [(true, 336, k3_X12_canBridge)]
set_option maxRecDepth 100000 in
set_option maxHeartbeats 4000000 in
theorem h3_X12_bridgeable : pz_H yX12_bridgeable cX12_bridgeable 3 (some .int) k3_X12_bridgeable 4 85 := by
  refine pz_mk (own := RX12) (tb := t_X12_bridgeable) (fl := pz_flf fl_RX12) (ci := pz_cif ci_RX12) (ct := pz_ctf ct3_X12_bridgeable) (rz := false) (by decide +kernel) rfl t_X12_bridgeable_ok (pz_flk fl_RX12_ok) (pz_cik ci_RX12_ok) ?_ ?_ (Or.inl ⟨rfl, rfl⟩) ?_ ?_
  · exact fun i k' h => pz_ctk (l := ct3_X12_bridgeable) (P := fun b i k => b = true → pz_cV 4 85 RX12 i k) (List.forall_mem_cons.mpr ⟨(fun _ => v3_X12_canBridge (by decide) (by decide) (pz_mt 1491 (by decide +kernel))), fun _ h => absurd h List.not_mem_nil⟩) true i k' h rfl
  · exact fun i k' h => pz_ctk (l := ct3_X12_bridgeable) (P := fun b i k => b = false → (pz_cS 4 85 RX12 i k ∨ (k = pz_kac ∧ 1 ≤ 4 ∧ 60 ≤ 85 ∧ Cond.methodLink RX12 i arraycopyName ∈ pz_tbl))) (List.forall_mem_cons.mpr ⟨((fun z => by cases z)), fun _ h => absurd h List.not_mem_nil⟩) false i k' h rfl
  · intro a M hlen hpre
    obtain ⟨th, rfl, hpre⟩ : ∃ th, a = [.inr (.inr (12, th))] ∧ (pz_im M) := by
      have hpre : (match (generalizing := false) a with | [.inr (.inr (12, th))] => pz_im M | _ => False) := hpre
      split at hpre
      · exact ⟨_, rfl, hpre⟩
      · exact hpre.elim
    exact Nat.le_of_ble_eq_true rfl
  · intro a M hlen hcan hM hpre Ok hgo
    obtain ⟨th, rfl, hpre⟩ : ∃ th, a = [.inr (.inr (12, th))] ∧ (pz_im M) := by
      have hpre : (match (generalizing := false) a with | [.inr (.inr (12, th))] => pz_im M | _ => False) := hpre
      split at hpre
      · exact ⟨_, rfl, hpre⟩
      · exact hpre.elim
    obtain ⟨k_th, hc_th⟩ := pz_tlm hcan
    have k_th : pz_kd th = 12 ∧ th < 231 := k_th
    have R_th := pz_kd12 k_th.1
    subst R_th
    clear k_th
    have hI : pz_im M := hpre
    have I88 := hI.1.1
    have L4 : ∀ (fu : Nat) (x1 : Int) (x2 : Int), (12 - x2).toNat < fu → (0 ≤ x2) → (0 ≤ x1) → (x1 ≤ 4095) → (x2 ≤ M 60 88) → (pz_bt x2 (fun k => decide (sd_cb (M 60) k)) x1) → Ok 4 [some (.inr (.inr (12, 1))), some (.inl x1), some (.inl x2)] [] M := by
      intro fu
      induction fu with
      | zero => exact fun _ _ hn => absurd hn (Nat.not_lt_zero _)
      | succ fu ih4 =>
        intro x1 x2 hn4 g4_0 g4_1 g4_2 g4_3 g4_4
        have L31 : ∀ (x1 : Int) (x2 : Int) (s0 : Int) (s1 : Int), (0 ≤ x2) → (x2 < 12) → (0 ≤ s0) → (s0 ≤ 4095) → (0 ≤ s1) → (s1 ≤ 4095) → ((12 - x2).toNat < fu + 1) → (x2 < M 60 88) → (pz_bt x2 (fun k => decide (sd_cb (M 60) k)) s0) → (pz_bO x2 (fun k => decide (sd_cb (M 60) k)) s1) → Ok 31 [some (.inr (.inr (12, 1))), some (.inl x1), some (.inl x2)] [.inl s1, .inl s0] M := by
          intro x1 x2 s0 s1 g31_0 g31_1 g31_2 g31_3 g31_4 g31_5 g31_6 g31_7 g31_8 g31_9
          refine hgo (fun p => Nat.beq p 4 || Nat.beq p 31) 28 31 _ _ _ ?_
          intro v31 e31 a31 b31
          have e31k := e31
          have X31 := pz_or12 (x := s0) (y := s1) (by omega) (by omega) (by omega) (by omega)
          rw [← e31] at X31
          intro v33 e33 a33 b33
          rw [pz_wi (by omega) (by omega)] at e33
          have G4 : pz_bt v33 (fun k => decide (sd_cb (M 60) k)) v31 := pz_bt_s ⟨by omega, by omega⟩ e33 (by assumption : pz_bt x2 (fun k => decide (sd_cb (M 60) k)) s0) (by assumption : pz_bO x2 (fun k => decide (sd_cb (M 60) k)) s1) e31k
          exact ih4 _ _ (by omega) (by first | omega | assumption | exact pz_bt_0) (by first | omega | assumption | exact pz_bt_0) (by first | omega | assumption | exact pz_bt_0) (by first | omega | assumption | exact pz_bt_0) (by first | omega | assumption | exact pz_bt_0)
        refine hgo (fun p => Nat.beq p 4 || Nat.beq p 31) 28 4 _ _ _ ?_
        refine pz_nrc (c := 60) rfl ?_
        refine And.intro (by omega) (And.intro (show _ < (1725 : Int) from by omega) ?_)
        intro v11 e11 a11 b11
        replace e11 : v11 = M 60 88 := e11
        have I11 : 0 ≤ v11 ∧ v11 ≤ 12 := by
          rw [e11]
          exact hI.1.1
        clear a11 b11
        refine And.intro (fun h12 => ?_) (fun h12 => ?_)
        · skip
          refine And.intro rfl ?_
          exact ⟨⟨by omega, pz_bt_e (by assumption : pz_bt x2 (fun k => decide (sd_cb (M 60) k)) x1) (sd_cbn_e (by omega) (by omega))⟩, rfl⟩
        · skip
          refine And.intro (hI) ?_
          intro v18 M18 a18 b18 q18
          obtain ⟨q18, z18⟩ := q18
          subst z18
          clear a18 b18
          refine And.intro (fun h21 => ?_) (fun h21 => ?_)
          · skip
            have G31 : pz_bO x2 (fun k => decide (sd_cb (M 60) k)) 0 := pz_bO_n (decide_eq_false (fun z => by
              rw [show (52 + x2).toNat = 52 + x2.toNat by omega, show (76 + x2).toNat = 76 + x2.toNat by omega, show (64 + x2).toNat = 64 + x2.toNat by omega] at q18
              unfold sd_cb sd_in at z
              omega))
            replace q18 := q18.resolve_left (fun z => absurd (z.1.symm.trans h21) (by decide))
            exact L31 _ _ _ _ (by first | omega | assumption) (by first | omega | assumption) (by first | omega | assumption) (by first | omega | assumption) (by first | omega | assumption) (by first | omega | assumption) (by first | omega | assumption) (by first | omega | assumption) (by first | omega | assumption) (by first | omega | assumption)
          · skip
            skip
            replace q18 := q18.resolve_right (fun z => h21 z.1)
            intro v26 e26 a26 b26
            have e26k := e26
            have G31 : pz_bO x2 (fun k => decide (sd_cb (M 60) k)) v26 := pz_bO_y ⟨by omega, by omega⟩ (decide_eq_true (by
              rw [show (52 + x2).toNat = 52 + x2.toNat by omega, show (76 + x2).toNat = 76 + x2.toNat by omega, show (64 + x2).toNat = 64 + x2.toNat by omega] at q18
              unfold sd_cb sd_in
              omega)) e26k
            have S26 := pz_shl1 (c := x2) (by omega) (by omega)
            rw [← e26] at S26
            exact L31 _ _ _ _ (by first | omega | assumption) (by first | omega | assumption) (by first | omega | assumption) (by first | omega | assumption) (by first | omega | assumption) (by first | omega | assumption) (by first | omega | assumption) (by first | omega | assumption) (by first | omega | assumption) (by first | omega | assumption)
    refine hgo (fun p => Nat.beq p 4 || Nat.beq p 31) 28 0 _ [] M ?_
    exact L4 _ _ _ (Nat.lt_succ_self _) (by first | omega | assumption | exact pz_bt_0) (by first | omega | assumption | exact pz_bt_0) (by first | omega | assumption | exact pz_bt_0) (by first | omega | assumption | exact pz_bt_0) (by first | omega | assumption | exact pz_bt_0)
theorem v3_X12_bridgeable {fr lo i : Nat} {own : String} (h1 : 4 + 1 ≤ fr) (h2 : 8 + (3 + 11) + 85 ≤ lo) (h3 : .methodLink own i yX12_bridgeable ∈ lw_tbl) : pz_cV fr lo own i k3_X12_bridgeable :=
  pz_cVk (maxL := 3) (fr' := 4) (lo' := 85) 0 12 h3_X12_bridgeable rfl ⟨by decide +kernel, by decide +kernel, by decide +kernel⟩ ⟨(pz_mt 1668 (by decide +kernel)), (pz_mt 1667 (by decide +kernel)), (pz_ms 78 (by decide +kernel)), (pz_mt 13 (by decide +kernel))⟩ (Or.inl ⟨TX12, 28, rfl⟩) (fun a M _ h => by
    have h : (match (generalizing := false) a with | [.inr (.inr (12, th))] => pz_im M | _ => False) := h
    split at h
    · exact ⟨_, _, rfl⟩
    · exact h.elim) h1 h2 h3
def k4_X12_costsOf : pz_C := (2, 1, fun a M => (match a with | [.inr (.inr (12, th)), .inl x] => pz_im M | _ => False), fun a M r M' => (match a, r with | [.inr (.inr (12, th)), .inl x], some (.inl v) => (∀ ls : List pz_lne, pq_wlw ls (M 60) → (∀ q ∈ ls, pv_ln q) → sd_wf (M 60) → ∀ u : Nat, x = (u : Int) → u < 4096 → v = sd_cst ls (M 60) u) ∧ pz_rl pz_QV M M' | _, _ => False))
abbrev ct4_X12_costsOf : List (Bool × Nat × pz_C) := [(true, 385, k3_X12_costOf)]
set_option maxRecDepth 100000 in
set_option maxHeartbeats 4000000 in
theorem h4_X12_costsOf : pz_H yX12_costsOf cX12_costsOf 4 (some .int) k4_X12_costsOf 5 116 := by
  refine pz_mk (own := RX12) (tb := t_X12_costsOf) (fl := pz_flf fl_RX12) (ci := pz_cif ci_RX12) (ct := pz_ctf ct4_X12_costsOf) (rz := false) (by decide +kernel) rfl t_X12_costsOf_ok (pz_flk fl_RX12_ok) (pz_cik ci_RX12_ok) ?_ ?_ (Or.inl ⟨rfl, rfl⟩) ?_ ?_
  · exact fun i k' h => pz_ctk (l := ct4_X12_costsOf) (P := fun b i k => b = true → pz_cV 5 116 RX12 i k) (List.forall_mem_cons.mpr ⟨(fun _ => v3_X12_costOf (by decide) (by decide) (pz_mt 1577 (by decide +kernel))), fun _ h => absurd h List.not_mem_nil⟩) true i k' h rfl
  · exact fun i k' h => pz_ctk (l := ct4_X12_costsOf) (P := fun b i k => b = false → (pz_cS 5 116 RX12 i k ∨ (k = pz_kac ∧ 1 ≤ 5 ∧ 60 ≤ 116 ∧ Cond.methodLink RX12 i arraycopyName ∈ pz_tbl))) (List.forall_mem_cons.mpr ⟨((fun z => by cases z)), fun _ h => absurd h List.not_mem_nil⟩) false i k' h rfl
  · intro a M hlen hpre
    obtain ⟨th, x, rfl, hpre⟩ : ∃ th x, a = [.inr (.inr (12, th)), .inl x] ∧ (pz_im M) := by
      have hpre : (match (generalizing := false) a with | [.inr (.inr (12, th)), .inl x] => pz_im M | _ => False) := hpre
      split at hpre
      · exact ⟨_, _, rfl, hpre⟩
      · exact hpre.elim
    exact Nat.le_of_ble_eq_true rfl
  · intro a M hlen hcan hM hpre Ok hgo
    obtain ⟨th, x, rfl, hpre⟩ : ∃ th x, a = [.inr (.inr (12, th)), .inl x] ∧ (pz_im M) := by
      have hpre : (match (generalizing := false) a with | [.inr (.inr (12, th)), .inl x] => pz_im M | _ => False) := hpre
      split at hpre
      · exact ⟨_, _, rfl, hpre⟩
      · exact hpre.elim
    obtain ⟨k_th, hc_th⟩ := pz_tlm hcan
    have k_th : pz_kd th = 12 ∧ th < 231 := k_th
    have R_th := pz_kd12 k_th.1
    subst R_th
    clear k_th
    obtain ⟨k_x, hc_x⟩ := pz_tlm hc_th
    have l_x : -2147483648 ≤ x := k_x.1
    have u_x : x ≤ 2147483647 := k_x.2
    have hI : pz_im M := hpre
    have hI0 := hI
    have hS : pz_rl pz_QV M M := pz_rl.rf
    have I88 := hI.1.1
    have L4 : ∀ (fu : Nat) (x2 : Int) (x3 : Int) (N4 : pz_M), (12 - x3).toNat < fu → (pz_rl pz_QV M N4) → (0 ≤ x3) → (x3 ≤ M 60 88) → (∀ ls : List pz_lne, pq_wlw ls (M 60) → (∀ q ∈ ls, pv_ln q) → sd_wf (M 60) → ∀ u : Nat, x = (u : Int) → u < 4096 → x2 = sd_cs ls (M 60) u x3.toNat) → Ok 4 [some (.inr (.inr (12, 1))), some (.inl x), some (.inl x2), some (.inl x3)] [] N4 := by
      intro fu
      induction fu with
      | zero => exact fun _ _ _ hn => absurd hn (Nat.not_lt_zero _)
      | succ fu ih4 =>
        intro x2 x3 N4 hn4 hS g4_1 g4_2 g4_3
        have hI : pz_im N4 := hS.1 hI0
        have W4 : N4 60 = M 60 := funext fun j => hS.2 60 j (by unfold pz_QV; omega)
        have L34 : ∀ (x2 : Int) (x3 : Int) (s0 : Int) (s1 : Int) (N34 : pz_M), (pz_rl pz_QV M N34) → (0 ≤ x3) → (x3 < 12) → ((12 - x3).toNat < fu + 1) → (x3 < M 60 88) → (∀ ls : List pz_lne, pq_wlw ls (M 60) → (∀ q ∈ ls, pv_ln q) → sd_wf (M 60) → ∀ u : Nat, x = (u : Int) → u < 4096 → s0 = sd_cs ls (M 60) u x3.toNat ∧ s1 = if u.testBit x3.toNat = true then sd_co ls (M 60) x3.toNat else 0) → Ok 34 [some (.inr (.inr (12, 1))), some (.inl x), some (.inl x2), some (.inl x3)] [.inl s1, .inl s0] N34 := by
          intro x2 x3 s0 s1 N34 hS g34_1 g34_2 g34_3 g34_4 g34_5
          have hI : pz_im N34 := hS.1 hI0
          refine hgo (fun p => Nat.beq p 4 || Nat.beq p 34) 31 34 _ _ _ ?_
          intro v34 e34 a34 b34
          have e34k := e34
          intro v36 e36 a36 b36
          rw [pz_wi (by omega) (by omega)] at e36
          have G4 : ∀ ls : List pz_lne, pq_wlw ls (M 60) → (∀ q ∈ ls, pv_ln q) → sd_wf (M 60) → ∀ u : Nat, x = (u : Int) → u < 4096 → v34 = sd_cs ls (M 60) u v36.toNat := fun ls hl hq hW u hu hl2 => by
            obtain ⟨a, b⟩ := (by assumption : ∀ ls : List pz_lne, pq_wlw ls (M 60) → (∀ q ∈ ls, pv_ln q) → sd_wf (M 60) → ∀ u : Nat, x = (u : Int) → u < 4096 → s0 = sd_cs ls (M 60) u x3.toNat ∧ s1 = if u.testBit x3.toNat = true then sd_co ls (M 60) x3.toNat else 0) ls hl hq hW u hu hl2
            have bb := sd_cs_b (ls := ls) (F := M 60) (u := u) x3.toNat
            have cb := sd_co_b (ls := ls) (F := M 60) (i := x3.toNat)
            have s1b : 0 ≤ s1 ∧ s1 ≤ 99 := by
              rw [b]
              split <;> omega
            rw [show v36.toNat = x3.toNat + 1 by omega]
            show v34 = sd_cs ls (M 60) u x3.toNat + (if u.testBit x3.toNat = true then sd_co ls (M 60) x3.toNat else 0)
            rw [← b, ← a, e34k, pz_wi (by omega) (by omega)]
          exact ih4 _ _ _ (by omega) hS (by first | omega | assumption | exact fun ls hl hq hW u hu hl2 => rfl) (by first | omega | assumption | exact fun ls hl hq hW u hu hl2 => rfl) (by first | omega | assumption | exact fun ls hl hq hW u hu hl2 => rfl)
        refine hgo (fun p => Nat.beq p 4 || Nat.beq p 34) 31 4 _ _ _ ?_
        refine pz_nrc (c := 60) rfl ?_
        refine And.intro (by omega) (And.intro (show _ < (1725 : Int) from by omega) ?_)
        intro v11 e11 a11 b11
        replace e11 : v11 = N4 60 88 := e11
        have I11 : 0 ≤ v11 ∧ v11 ≤ 12 := by
          rw [e11]
          exact hI.1.1
        clear a11 b11
        rw [W4] at e11
        refine And.intro (fun h12 => ?_) (fun h12 => ?_)
        · skip
          refine And.intro rfl ?_
          refine ⟨fun ls hl hq hW u hu hl2 => ?_, hS⟩
          have g := (by assumption : ∀ ls : List pz_lne, pq_wlw ls (M 60) → (∀ q ∈ ls, pv_ln q) → sd_wf (M 60) → ∀ u : Nat, x = (u : Int) → u < 4096 → x2 = sd_cs ls (M 60) u x3.toNat) ls hl hq hW u hu hl2
          rw [show x3.toNat = sd_n (M 60) by unfold sd_n; omega] at g
          exact g
        · skip
          intro v18 e18 a18 b18
          intro v20 e20 a20 b20
          have X20 := pz_a1 e20
          refine And.intro (fun h22 => ?_) (fun h22 => ?_)
          · skip
            have G34 : ∀ ls : List pz_lne, pq_wlw ls (M 60) → (∀ q ∈ ls, pv_ln q) → sd_wf (M 60) → ∀ u : Nat, x = (u : Int) → u < 4096 → x2 = sd_cs ls (M 60) u x3.toNat ∧ 0 = if u.testBit x3.toNat = true then sd_co ls (M 60) x3.toNat else 0 := fun ls hl hq hW u hu hl2 => by
              have B := pz_sb_at (f := u.testBit) ⟨u, hu, hl2, fun _ => rfl⟩ (by omega) (by omega) e18 e20
              refine ⟨(by assumption : ∀ ls : List pz_lne, pq_wlw ls (M 60) → (∀ q ∈ ls, pv_ln q) → sd_wf (M 60) → ∀ u : Nat, x = (u : Int) → u < 4096 → x2 = sd_cs ls (M 60) u x3.toNat) ls hl hq hW u hu hl2, ?_⟩
              by_cases y : u.testBit x3.toNat = true
              · rw [if_pos y] at B
                exfalso
                omega
              · rw [if_neg y]
            replace h22 : v20 ≤ 0 := by omega
            exact L34 _ _ _ _ _ hS (by first | omega | assumption) (by first | omega | assumption) (by first | omega | assumption) (by first | omega | assumption) (by first | omega | assumption)
          · skip
            skip
            refine And.intro (And.intro hI (And.intro (by omega) (by omega))) ?_
            intro v27 M27 a27 b27 q27
            obtain ⟨q27, z27⟩ := q27
            have hS : pz_rl pz_QV M M27 := hS.tr (pz_rl.wk (by intro b j q; unfold pz_QS at q; unfold pz_QV; omega) z27)
            have hI : pz_im M27 := hS.1 hI0
            clear a27 b27
            rw [W4] at q27
            have G34 : ∀ ls : List pz_lne, pq_wlw ls (M 60) → (∀ q ∈ ls, pv_ln q) → sd_wf (M 60) → ∀ u : Nat, x = (u : Int) → u < 4096 → x2 = sd_cs ls (M 60) u x3.toNat ∧ v27 = if u.testBit x3.toNat = true then sd_co ls (M 60) x3.toNat else 0 := fun ls hl hq hW u hu hl2 => by
              have B := pz_sb_at (f := u.testBit) ⟨u, hu, hl2, fun _ => rfl⟩ (by omega) (by omega) e18 e20
              refine ⟨(by assumption : ∀ ls : List pz_lne, pq_wlw ls (M 60) → (∀ q ∈ ls, pv_ln q) → sd_wf (M 60) → ∀ u : Nat, x = (u : Int) → u < 4096 → x2 = sd_cs ls (M 60) u x3.toNat) ls hl hq hW u hu hl2, ?_⟩
              by_cases y : u.testBit x3.toNat = true
              · rw [if_pos y]
                exact q27.1 (by omega) ls hl hq
              · rw [if_neg y] at B
                exfalso
                omega
            exact L34 _ _ _ _ _ hS (by first | omega | assumption) (by first | omega | assumption) (by first | omega | assumption) (by first | omega | assumption) (by first | omega | assumption)
    refine hgo (fun p => Nat.beq p 4 || Nat.beq p 34) 31 0 _ [] M ?_
    exact L4 _ _ _ _ (Nat.lt_succ_self _) hS (by first | omega | assumption | exact fun ls hl hq hW u hu hl2 => rfl) (by first | omega | assumption | exact fun ls hl hq hW u hu hl2 => rfl) (by first | omega | assumption | exact fun ls hl hq hW u hu hl2 => rfl)
theorem v4_X12_costsOf {fr lo i : Nat} {own : String} (h1 : 5 + 1 ≤ fr) (h2 : 8 + (4 + 11) + 116 ≤ lo) (h3 : .methodLink own i yX12_costsOf ∈ lw_tbl) : pz_cV fr lo own i k4_X12_costsOf :=
  pz_cVk (maxL := 4) (fr' := 5) (lo' := 116) 1 12 h4_X12_costsOf rfl ⟨by decide +kernel, by decide +kernel, by decide +kernel⟩ ⟨(pz_mt 1672 (by decide +kernel)), (pz_mt 1671 (by decide +kernel)), (pz_ms 79 (by decide +kernel)), (pz_mt 13 (by decide +kernel))⟩ (Or.inl ⟨TX12, 28, rfl⟩) (fun a M _ h => by
    have h : (match (generalizing := false) a with | [.inr (.inr (12, th)), .inl x] => pz_im M | _ => False) := h
    split at h
    · exact ⟨_, _, rfl⟩
    · exact h.elim) h1 h2 h3
def k4_X12_bridges : pz_C := (4, 1, fun a M => (match a with | [.inr (.inr (12, th)), .inl n, .inl h, .inl w] => pz_im M | _ => False), fun a M r M' => (match a, r with | [.inr (.inr (12, th)), .inl n, .inl h, .inl w], some (.inl v) => (sd_wm M v (fun ls F => sd_brv ls F n h w)) ∧ pz_rl pz_QV M M' | _, _ => False))
abbrev ct4_X12_bridges : List (Bool × Nat × pz_C) := [(false, 54, k_X12_isIn), (true, 430, k3_X12_bridgeable), (true, 433, k4_X12_costsOf), (false, 398, k3_X12_count), (true, 291, k3_X12_bridgedOnes), (true, 427, k4_X12_leastBy)]
set_option maxRecDepth 100000 in
set_option maxHeartbeats 4000000 in
theorem h4_X12_bridges : pz_H yX12_bridges cX12_bridges 8 (some .int) k4_X12_bridges 8 192 := by
  refine pz_mk (own := RX12) (tb := t_X12_bridges) (fl := pz_flf fl_RX12) (ci := pz_cif ci_RX12) (ct := pz_ctf ct4_X12_bridges) (rz := false) (by decide +kernel) rfl t_X12_bridges_ok (pz_flk fl_RX12_ok) (pz_cik ci_RX12_ok) ?_ ?_ (Or.inl ⟨rfl, rfl⟩) ?_ ?_
  · exact fun i k' h => pz_ctk (l := ct4_X12_bridges) (P := fun b i k => b = true → pz_cV 8 192 RX12 i k) (List.forall_mem_cons.mpr ⟨((fun z => by cases z)), List.forall_mem_cons.mpr ⟨(fun _ => v3_X12_bridgeable (by decide) (by decide) (pz_mt 1665 (by decide +kernel))), List.forall_mem_cons.mpr ⟨(fun _ => v4_X12_costsOf (by decide) (by decide) (pz_mt 1669 (by decide +kernel))), List.forall_mem_cons.mpr ⟨((fun z => by cases z)), List.forall_mem_cons.mpr ⟨(fun _ => v3_X12_bridgedOnes (by decide) (by decide) (pz_mt 1454 (by decide +kernel))), List.forall_mem_cons.mpr ⟨(fun _ => v4_X12_leastBy (by decide) (by decide) (pz_mt 1657 (by decide +kernel))), fun _ h => absurd h List.not_mem_nil⟩⟩⟩⟩⟩⟩) true i k' h rfl
  · exact fun i k' h => pz_ctk (l := ct4_X12_bridges) (P := fun b i k => b = false → (pz_cS 8 192 RX12 i k ∨ (k = pz_kac ∧ 1 ≤ 8 ∧ 60 ≤ 192 ∧ Cond.methodLink RX12 i arraycopyName ∈ pz_tbl))) (List.forall_mem_cons.mpr ⟨(fun _ => Or.inl (s_X12_isIn (by decide) (by decide) (Or.inl (pz_mt 1217 (by decide +kernel))))), List.forall_mem_cons.mpr ⟨((fun z => by cases z)), List.forall_mem_cons.mpr ⟨((fun z => by cases z)), List.forall_mem_cons.mpr ⟨(fun _ => Or.inl (s3_X12_count (by decide) (by decide) (Or.inl (pz_mt 1606 (by decide +kernel))))), List.forall_mem_cons.mpr ⟨((fun z => by cases z)), List.forall_mem_cons.mpr ⟨((fun z => by cases z)), fun _ h => absurd h List.not_mem_nil⟩⟩⟩⟩⟩⟩) false i k' h rfl
  · intro a M hlen hpre
    obtain ⟨th, n, h, w, rfl, hpre⟩ : ∃ th n h w, a = [.inr (.inr (12, th)), .inl n, .inl h, .inl w] ∧ (pz_im M) := by
      have hpre : (match (generalizing := false) a with | [.inr (.inr (12, th)), .inl n, .inl h, .inl w] => pz_im M | _ => False) := hpre
      split at hpre
      · exact ⟨_, _, _, _, rfl, hpre⟩
      · exact hpre.elim
    exact Nat.le_of_ble_eq_true rfl
  · intro a M hlen hcan hM hpre Ok hgo
    obtain ⟨th, n, h, w, rfl, hpre⟩ : ∃ th n h w, a = [.inr (.inr (12, th)), .inl n, .inl h, .inl w] ∧ (pz_im M) := by
      have hpre : (match (generalizing := false) a with | [.inr (.inr (12, th)), .inl n, .inl h, .inl w] => pz_im M | _ => False) := hpre
      split at hpre
      · exact ⟨_, _, _, _, rfl, hpre⟩
      · exact hpre.elim
    obtain ⟨k_th, hc_th⟩ := pz_tlm hcan
    have k_th : pz_kd th = 12 ∧ th < 231 := k_th
    have R_th := pz_kd12 k_th.1
    subst R_th
    clear k_th
    obtain ⟨k_n, hc_n⟩ := pz_tlm hc_th
    have l_n : -2147483648 ≤ n := k_n.1
    have u_n : n ≤ 2147483647 := k_n.2
    obtain ⟨k_h, hc_h⟩ := pz_tlm hc_n
    have l_h : -2147483648 ≤ h := k_h.1
    have u_h : h ≤ 2147483647 := k_h.2
    obtain ⟨k_w, hc_w⟩ := pz_tlm hc_h
    have l_w : -2147483648 ≤ w := k_w.1
    have u_w : w ≤ 2147483647 := k_w.2
    have hI : pz_im M := hpre
    have hI0 := hI
    have hS : pz_rl pz_QV M M := pz_rl.rf
    have I88 := hI.1.1
    have L44 : ∀ (fu : Nat) (x4 : Int) (x5 : Int) (x6 : Int) (d7 : Option pz_V) (N44 : pz_M), (4096 - x6).toNat < fu → (pz_rl pz_QV M N44) → (0 ≤ x6) → (x4 ≤ 4095) → ((1 ≤ n ∧ n ≤ 60) ∧ (0 ≤ h ∧ h ≤ 1000000) ∧ 0 ≤ w ∧ w ≤ 1) → (0 ≤ x4) → (-1 ≤ x5) → (x5 < 4096) → (sd_wf (M 60) → x4 = (sd_cC (M 60) : Int)) → (∀ ls : List pz_lne, pq_wlw ls (M 60) → (∀ q ∈ ls, pv_ln q) → sd_wf (M 60) → x4 = (sd_cC (M 60) : Int) ∧ sd_bmE ls (M 60) n.toNat h x5 x6) → Ok 44 [some (.inr (.inr (12, 1))), some (.inl n), some (.inl h), some (.inl w), some (.inl x4), some (.inl x5), some (.inl x6), d7] [] N44 := by
      intro fu
      induction fu with
      | zero => exact fun _ _ _ _ _ hn => absurd hn (Nat.not_lt_zero _)
      | succ fu ih44 =>
        intro x4 x5 x6 d7 N44 hn44 hS g44_1 g44_2 g44_3 g44_4 g44_5 g44_6 g44_7 g44_8
        have hI : pz_im N44 := hS.1 hI0
        have W44 : N44 60 = M 60 := funext fun j => hS.2 60 j (by unfold pz_QV; omega)
        have L137 : ∀ (x4 : Int) (x5 : Int) (x6 : Int) (d7 : Option pz_V) (N137 : pz_M), (pz_rl pz_QV M N137) → (0 ≤ x6) → (x6 ≤ 4095) → (x4 ≤ 4095) → ((4096 - x6).toNat < fu + 1) → ((1 ≤ n ∧ n ≤ 60) ∧ (0 ≤ h ∧ h ≤ 1000000) ∧ 0 ≤ w ∧ w ≤ 1) → (0 ≤ x4) → (-1 ≤ x5) → (x5 < 4096) → (sd_wf (M 60) → x4 = (sd_cC (M 60) : Int)) → (∀ ls : List pz_lne, pq_wlw ls (M 60) → (∀ q ∈ ls, pv_ln q) → sd_wf (M 60) → x4 = (sd_cC (M 60) : Int) ∧ sd_bmE ls (M 60) n.toNat h x5 (x6 + 1)) → Ok 137 [some (.inr (.inr (12, 1))), some (.inl n), some (.inl h), some (.inl w), some (.inl x4), some (.inl x5), some (.inl x6), d7] [] N137 := by
          intro x4 x5 x6 d7 N137 hS g137_1 g137_2 g137_3 g137_4 g137_5 g137_6 g137_7 g137_8 g137_9 g137_10
          have hI : pz_im N137 := hS.1 hI0
          refine hgo (fun p => Nat.beq p 44 || Nat.beq p 87 || Nat.beq p 112 || Nat.beq p 137) 88 137 _ _ _ ?_
          intro v137 e137 a137 b137
          rw [pz_wi (by omega) (by omega)] at e137
          have G44 : ∀ ls : List pz_lne, pq_wlw ls (M 60) → (∀ q ∈ ls, pv_ln q) → sd_wf (M 60) → x4 = (sd_cC (M 60) : Int) ∧ sd_bmE ls (M 60) n.toNat h x5 v137 := by
            rw [e137]
            assumption
          exact ih44 _ _ _ _ _ (by omega) hS (by first | omega | assumption) (by first | omega | assumption) (by first | omega | assumption) (by first | omega | assumption) (by first | omega | assumption) (by first | omega | assumption) (by first | omega | assumption) (by first | omega | assumption)
        have L112 : ∀ (x4 : Int) (x5 : Int) (x6 : Int) (x7 : Int) (N112 : pz_M), (pz_rl pz_QV M N112) → (0 ≤ x6) → (x6 ≤ 4095) → (x4 ≤ 4095) → ((4096 - x6).toNat < fu + 1) → ((1 ≤ n ∧ n ≤ 60) ∧ (0 ≤ h ∧ h ≤ 1000000) ∧ 0 ≤ w ∧ w ≤ 1) → (0 ≤ x4) → (-1 ≤ x5) → (x5 < 4096) → (sd_wf (M 60) → x4 = (sd_cC (M 60) : Int)) → (∀ ls : List pz_lne, pq_wlw ls (M 60) → (∀ q ∈ ls, pv_ln q) → sd_wf (M 60) → x4 = (sd_cC (M 60) : Int) ∧ sd_bmE ls (M 60) n.toNat h x5 x6 ∧ (∀ j, x6.toNat.testBit j = true → (sd_cC (M 60)).testBit j = true) ∧ sd_btr ls (M 60) x6.toNat x5) → Ok 112 [some (.inr (.inr (12, 1))), some (.inl n), some (.inl h), some (.inl w), some (.inl x4), some (.inl x5), some (.inl x6), some (.inl x7)] [] N112 := by
          intro x4 x5 x6 x7 N112 hS g112_1 g112_2 g112_3 g112_4 g112_5 g112_6 g112_7 g112_8 g112_9 g112_10
          have hI : pz_im N112 := hS.1 hI0
          have W112 : N112 60 = M 60 := funext fun j => hS.2 60 j (by unfold pz_QV; omega)
          refine hgo (fun p => Nat.beq p 44 || Nat.beq p 87 || Nat.beq p 112 || Nat.beq p 137) 88 112 _ _ _ ?_
          refine And.intro (hI) ?_
          intro v114 M114 a114 b114 q114
          obtain ⟨q114, z114⟩ := q114
          subst z114
          rw [W112] at q114
          intro v119 e119 a119 b119
          refine And.intro (hI) ?_
          intro v121 M121 a121 b121 q121
          obtain ⟨q121, z121⟩ := q121
          have hS : pz_rl pz_QV M M121 := hS.tr z121
          have hI : pz_im M121 := hS.1 hI0
          rw [W112] at q121
          have G121 : ∀ ls : List pz_lne, pq_wlw ls (M 60) → (∀ q ∈ ls, pv_ln q) → sd_wf (M 60) → (∀ j, x6.toNat.testBit j = true → (sd_cC (M 60)).testBit j = true) → v121 = sd_lsv ls (M 60) n.toNat (sd_bu (M 60) x6.toNat) := fun ls hl hq hW g3 => by
            exact q121 ls hl hq hW (by omega) (sd_bu (M 60) x6.toNat) (sd_bu_z (u := x6.toNat) q114 (by omega) (by rw [show ((x6.toNat : Nat) : Int) = x6 by omega]; exact e119)) (sd_bu_0 hW g3)
          refine And.intro (fun h126 => ?_) ?_
          · skip
            refine And.intro (fun h127 => ?_) (fun h127 => ?_)
            · skip
              have G137 : ∀ ls : List pz_lne, pq_wlw ls (M 60) → (∀ q ∈ ls, pv_ln q) → sd_wf (M 60) → x4 = (sd_cC (M 60) : Int) ∧ sd_bmE ls (M 60) n.toNat h x6 (x6 + 1) := fun ls hl hq hW => by
                obtain ⟨g1, g2, g3, g4⟩ := (by assumption : ∀ ls : List pz_lne, pq_wlw ls (M 60) → (∀ q ∈ ls, pv_ln q) → sd_wf (M 60) → x4 = (sd_cC (M 60) : Int) ∧ sd_bmE ls (M 60) n.toNat h x5 x6 ∧ (∀ j, x6.toNat.testBit j = true → (sd_cC (M 60)).testBit j = true) ∧ sd_btr ls (M 60) x6.toNat x5) ls hl hq hW
                have o := G121 ls hl hq hW g3
                refine ⟨g1, sd_bmE_y g2 rfl g3 ?_⟩
                refine Eq.trans ?_ (if_pos ⟨by omega, g4⟩).symm
                omega
              exact L137 _ _ _ _ _ hS (by first | omega | assumption) (by first | omega | assumption) (by first | omega | assumption) (by first | omega | assumption) (by first | omega | assumption) (by first | omega | assumption) (by first | omega | assumption) (by first | omega | assumption) (by first | omega | assumption) (by first | omega | assumption)
            · skip
              have G137 : ∀ ls : List pz_lne, pq_wlw ls (M 60) → (∀ q ∈ ls, pv_ln q) → sd_wf (M 60) → x4 = (sd_cC (M 60) : Int) ∧ sd_bmE ls (M 60) n.toNat h x5 (x6 + 1) := fun ls hl hq hW => by
                obtain ⟨g1, g2, g3, g4⟩ := (by assumption : ∀ ls : List pz_lne, pq_wlw ls (M 60) → (∀ q ∈ ls, pv_ln q) → sd_wf (M 60) → x4 = (sd_cC (M 60) : Int) ∧ sd_bmE ls (M 60) n.toNat h x5 x6 ∧ (∀ j, x6.toNat.testBit j = true → (sd_cC (M 60)).testBit j = true) ∧ sd_btr ls (M 60) x6.toNat x5) ls hl hq hW
                have o := G121 ls hl hq hW g3
                refine ⟨g1, sd_bmE_y g2 rfl g3 (if_neg (fun z => ?_)).symm⟩
                have z1 := z.1
                omega
              exact L137 _ _ _ _ _ hS (by first | omega | assumption) (by first | omega | assumption) (by first | omega | assumption) (by first | omega | assumption) (by first | omega | assumption) (by first | omega | assumption) (by first | omega | assumption) (by first | omega | assumption) (by first | omega | assumption) (by first | omega | assumption)
          refine And.intro (fun h126 => ?_) ?_
          · skip
            refine And.intro (fun h127 => ?_) (fun h127 => ?_)
            · skip
              have G137 : ∀ ls : List pz_lne, pq_wlw ls (M 60) → (∀ q ∈ ls, pv_ln q) → sd_wf (M 60) → x4 = (sd_cC (M 60) : Int) ∧ sd_bmE ls (M 60) n.toNat h x6 (x6 + 1) := fun ls hl hq hW => by
                obtain ⟨g1, g2, g3, g4⟩ := (by assumption : ∀ ls : List pz_lne, pq_wlw ls (M 60) → (∀ q ∈ ls, pv_ln q) → sd_wf (M 60) → x4 = (sd_cC (M 60) : Int) ∧ sd_bmE ls (M 60) n.toNat h x5 x6 ∧ (∀ j, x6.toNat.testBit j = true → (sd_cC (M 60)).testBit j = true) ∧ sd_btr ls (M 60) x6.toNat x5) ls hl hq hW
                have o := G121 ls hl hq hW g3
                refine ⟨g1, sd_bmE_y g2 rfl g3 ?_⟩
                refine Eq.trans ?_ (if_pos ⟨by omega, g4⟩).symm
                omega
              exact L137 _ _ _ _ _ hS (by first | omega | assumption) (by first | omega | assumption) (by first | omega | assumption) (by first | omega | assumption) (by first | omega | assumption) (by first | omega | assumption) (by first | omega | assumption) (by first | omega | assumption) (by first | omega | assumption) (by first | omega | assumption)
            · skip
              have G137 : ∀ ls : List pz_lne, pq_wlw ls (M 60) → (∀ q ∈ ls, pv_ln q) → sd_wf (M 60) → x4 = (sd_cC (M 60) : Int) ∧ sd_bmE ls (M 60) n.toNat h x5 (x6 + 1) := fun ls hl hq hW => by
                obtain ⟨g1, g2, g3, g4⟩ := (by assumption : ∀ ls : List pz_lne, pq_wlw ls (M 60) → (∀ q ∈ ls, pv_ln q) → sd_wf (M 60) → x4 = (sd_cC (M 60) : Int) ∧ sd_bmE ls (M 60) n.toNat h x5 x6 ∧ (∀ j, x6.toNat.testBit j = true → (sd_cC (M 60)).testBit j = true) ∧ sd_btr ls (M 60) x6.toNat x5) ls hl hq hW
                have o := G121 ls hl hq hW g3
                refine ⟨g1, sd_bmE_y g2 rfl g3 (if_neg (fun z => ?_)).symm⟩
                have z1 := z.1
                omega
              exact L137 _ _ _ _ _ hS (by first | omega | assumption) (by first | omega | assumption) (by first | omega | assumption) (by first | omega | assumption) (by first | omega | assumption) (by first | omega | assumption) (by first | omega | assumption) (by first | omega | assumption) (by first | omega | assumption) (by first | omega | assumption)
          intro h126
          refine And.intro (fun h127 => ?_) (fun h127 => ?_)
          · skip
            have G137 : ∀ ls : List pz_lne, pq_wlw ls (M 60) → (∀ q ∈ ls, pv_ln q) → sd_wf (M 60) → x4 = (sd_cC (M 60) : Int) ∧ sd_bmE ls (M 60) n.toNat h x6 (x6 + 1) := fun ls hl hq hW => by
              obtain ⟨g1, g2, g3, g4⟩ := (by assumption : ∀ ls : List pz_lne, pq_wlw ls (M 60) → (∀ q ∈ ls, pv_ln q) → sd_wf (M 60) → x4 = (sd_cC (M 60) : Int) ∧ sd_bmE ls (M 60) n.toNat h x5 x6 ∧ (∀ j, x6.toNat.testBit j = true → (sd_cC (M 60)).testBit j = true) ∧ sd_btr ls (M 60) x6.toNat x5) ls hl hq hW
              have o := G121 ls hl hq hW g3
              refine ⟨g1, sd_bmE_y g2 rfl g3 ?_⟩
              refine Eq.trans ?_ (if_pos ⟨by omega, g4⟩).symm
              omega
            exact L137 _ _ _ _ _ hS (by first | omega | assumption) (by first | omega | assumption) (by first | omega | assumption) (by first | omega | assumption) (by first | omega | assumption) (by first | omega | assumption) (by first | omega | assumption) (by first | omega | assumption) (by first | omega | assumption) (by first | omega | assumption)
          · skip
            have G137 : ∀ ls : List pz_lne, pq_wlw ls (M 60) → (∀ q ∈ ls, pv_ln q) → sd_wf (M 60) → x4 = (sd_cC (M 60) : Int) ∧ sd_bmE ls (M 60) n.toNat h x5 (x6 + 1) := fun ls hl hq hW => by
              obtain ⟨g1, g2, g3, g4⟩ := (by assumption : ∀ ls : List pz_lne, pq_wlw ls (M 60) → (∀ q ∈ ls, pv_ln q) → sd_wf (M 60) → x4 = (sd_cC (M 60) : Int) ∧ sd_bmE ls (M 60) n.toNat h x5 x6 ∧ (∀ j, x6.toNat.testBit j = true → (sd_cC (M 60)).testBit j = true) ∧ sd_btr ls (M 60) x6.toNat x5) ls hl hq hW
              have o := G121 ls hl hq hW g3
              refine ⟨g1, sd_bmE_y g2 rfl g3 (if_neg (fun z => ?_)).symm⟩
              have z1 := z.1
              omega
            exact L137 _ _ _ _ _ hS (by first | omega | assumption) (by first | omega | assumption) (by first | omega | assumption) (by first | omega | assumption) (by first | omega | assumption) (by first | omega | assumption) (by first | omega | assumption) (by first | omega | assumption) (by first | omega | assumption) (by first | omega | assumption)
        have L87 : ∀ (x4 : Int) (x5 : Int) (x6 : Int) (d7 : Option pz_V) (s0 : Int) (N87 : pz_M), (pz_rl pz_QV M N87) → (0 ≤ x6) → (x6 ≤ 4095) → (x4 ≤ 4095) → ((4096 - x6).toNat < fu + 1) → ((1 ≤ n ∧ n ≤ 60) ∧ (0 ≤ h ∧ h ≤ 1000000) ∧ 0 ≤ w ∧ w ≤ 1) → (0 ≤ x4) → (-1 ≤ x5) → (x5 < 4096) → (sd_wf (M 60) → x4 = (sd_cC (M 60) : Int)) → (∀ ls : List pz_lne, pq_wlw ls (M 60) → (∀ q ∈ ls, pv_ln q) → sd_wf (M 60) → x4 = (sd_cC (M 60) : Int) ∧ sd_bmE ls (M 60) n.toNat h x5 x6 ∧ (∀ j, x6.toNat.testBit j = true → (sd_cC (M 60)).testBit j = true) ∧ ((x5 = -1 ∧ s0 = -1) ∨ (x5 ≠ -1 ∧ s0 = sd_cst ls (M 60) x6.toNat - sd_cst ls (M 60) x5.toNat))) → Ok 87 [some (.inr (.inr (12, 1))), some (.inl n), some (.inl h), some (.inl w), some (.inl x4), some (.inl x5), some (.inl x6), d7] [.inl s0] N87 := by
          intro x4 x5 x6 d7 s0 N87 hS g87_1 g87_2 g87_3 g87_4 g87_5 g87_6 g87_7 g87_8 g87_9 g87_10
          have hI : pz_im N87 := hS.1 hI0
          have W87 : N87 60 = M 60 := funext fun j => hS.2 60 j (by unfold pz_QV; omega)
          refine hgo (fun p => Nat.beq p 44 || Nat.beq p 87 || Nat.beq p 112 || Nat.beq p 137) 88 87 _ _ _ ?_
          refine And.intro (fun h91 => ?_) (fun h91 => ?_)
          · skip
            have G137 : ∀ ls : List pz_lne, pq_wlw ls (M 60) → (∀ q ∈ ls, pv_ln q) → sd_wf (M 60) → x4 = (sd_cC (M 60) : Int) ∧ sd_bmE ls (M 60) n.toNat h x5 (x6 + 1) := fun ls hl hq hW => by
              obtain ⟨g1, g2, g3, g4⟩ := (by assumption : ∀ ls : List pz_lne, pq_wlw ls (M 60) → (∀ q ∈ ls, pv_ln q) → sd_wf (M 60) → x4 = (sd_cC (M 60) : Int) ∧ sd_bmE ls (M 60) n.toNat h x5 x6 ∧ (∀ j, x6.toNat.testBit j = true → (sd_cC (M 60)).testBit j = true) ∧ ((x5 = -1 ∧ s0 = -1) ∨ (x5 ≠ -1 ∧ s0 = sd_cst ls (M 60) x6.toNat - sd_cst ls (M 60) x5.toNat))) ls hl hq hW
              refine ⟨g1, sd_bmE_y g2 rfl g3 (if_neg (fun z => ?_)).symm⟩
              have z2 := z.2
              unfold sd_btr at z2
              omega
            exact L137 _ _ _ _ _ hS (by first | omega | assumption) (by first | omega | assumption) (by first | omega | assumption) (by first | omega | assumption) (by first | omega | assumption) (by first | omega | assumption) (by first | omega | assumption) (by first | omega | assumption) (by first | omega | assumption) (by first | omega | assumption)
          · skip
            skip
            refine And.intro (fun h96 => ?_) (fun h96 => ?_)
            · skip
              have G112 : ∀ ls : List pz_lne, pq_wlw ls (M 60) → (∀ q ∈ ls, pv_ln q) → sd_wf (M 60) → x4 = (sd_cC (M 60) : Int) ∧ sd_bmE ls (M 60) n.toNat h x5 x6 ∧ (∀ j, x6.toNat.testBit j = true → (sd_cC (M 60)).testBit j = true) ∧ sd_btr ls (M 60) x6.toNat x5 := fun ls hl hq hW => by
                obtain ⟨g1, g2, g3, g4⟩ := (by assumption : ∀ ls : List pz_lne, pq_wlw ls (M 60) → (∀ q ∈ ls, pv_ln q) → sd_wf (M 60) → x4 = (sd_cC (M 60) : Int) ∧ sd_bmE ls (M 60) n.toNat h x5 x6 ∧ (∀ j, x6.toNat.testBit j = true → (sd_cC (M 60)).testBit j = true) ∧ ((x5 = -1 ∧ s0 = -1) ∨ (x5 ≠ -1 ∧ s0 = sd_cst ls (M 60) x6.toNat - sd_cst ls (M 60) x5.toNat))) ls hl hq hW
                refine ⟨g1, g2, g3, ?_⟩
                unfold sd_btr
                omega
              replace h96 : s0 ≤ -1 := by omega
              exact L112 _ _ _ _ _ hS (by first | omega | assumption) (by first | omega | assumption) (by first | omega | assumption) (by first | omega | assumption) (by first | omega | assumption) (by first | omega | assumption) (by first | omega | assumption) (by first | omega | assumption) (by first | omega | assumption) (by first | omega | assumption)
            · skip
              skip
              refine And.intro (True.intro) ?_
              intro v101 M101 a101 b101 q101
              obtain ⟨q101, z101⟩ := q101
              subst z101
              refine And.intro (True.intro) ?_
              intro v106 M106 a106 b106 q106
              obtain ⟨q106, z106⟩ := q106
              subst z106
              refine And.intro (fun h109 => ?_) (fun h109 => ?_)
              · skip
                have G137 : ∀ ls : List pz_lne, pq_wlw ls (M 60) → (∀ q ∈ ls, pv_ln q) → sd_wf (M 60) → x4 = (sd_cC (M 60) : Int) ∧ sd_bmE ls (M 60) n.toNat h x5 (x6 + 1) := fun ls hl hq hW => by
                  obtain ⟨g1, g2, g3, g4⟩ := (by assumption : ∀ ls : List pz_lne, pq_wlw ls (M 60) → (∀ q ∈ ls, pv_ln q) → sd_wf (M 60) → x4 = (sd_cC (M 60) : Int) ∧ sd_bmE ls (M 60) n.toNat h x5 x6 ∧ (∀ j, x6.toNat.testBit j = true → (sd_cC (M 60)).testBit j = true) ∧ ((x5 = -1 ∧ s0 = -1) ∨ (x5 ≠ -1 ∧ s0 = sd_cst ls (M 60) x6.toNat - sd_cst ls (M 60) x5.toNat))) ls hl hq hW
                  refine ⟨g1, sd_bmE_y g2 rfl g3 (if_neg (fun z => ?_)).symm⟩
                  have z2 := z.2
                  unfold sd_btr at z2
                  have c1 := q101 _ (sd_zsn (v := x6) (by omega) (by omega))
                  have c2 := q106 _ (sd_zsn (v := x5) (by omega) (by omega))
                  omega
                exact L137 _ _ _ _ _ hS (by first | omega | assumption) (by first | omega | assumption) (by first | omega | assumption) (by first | omega | assumption) (by first | omega | assumption) (by first | omega | assumption) (by first | omega | assumption) (by first | omega | assumption) (by first | omega | assumption) (by first | omega | assumption)
              · skip
                have G112 : ∀ ls : List pz_lne, pq_wlw ls (M 60) → (∀ q ∈ ls, pv_ln q) → sd_wf (M 60) → x4 = (sd_cC (M 60) : Int) ∧ sd_bmE ls (M 60) n.toNat h x5 x6 ∧ (∀ j, x6.toNat.testBit j = true → (sd_cC (M 60)).testBit j = true) ∧ sd_btr ls (M 60) x6.toNat x5 := fun ls hl hq hW => by
                  obtain ⟨g1, g2, g3, g4⟩ := (by assumption : ∀ ls : List pz_lne, pq_wlw ls (M 60) → (∀ q ∈ ls, pv_ln q) → sd_wf (M 60) → x4 = (sd_cC (M 60) : Int) ∧ sd_bmE ls (M 60) n.toNat h x5 x6 ∧ (∀ j, x6.toNat.testBit j = true → (sd_cC (M 60)).testBit j = true) ∧ ((x5 = -1 ∧ s0 = -1) ∨ (x5 ≠ -1 ∧ s0 = sd_cst ls (M 60) x6.toNat - sd_cst ls (M 60) x5.toNat))) ls hl hq hW
                  refine ⟨g1, g2, g3, ?_⟩
                  by_cases y : x5 = -1
                  · exact Or.inl y
                  · have c1 := q101 _ (sd_zsn (v := x6) (by omega) (by omega))
                    have c2 := q106 _ (sd_zsn (v := x5) (by omega) (by omega))
                    exact Or.inr (Or.inr ⟨by omega, by omega⟩)
                exact L112 _ _ _ _ _ hS (by first | omega | assumption) (by first | omega | assumption) (by first | omega | assumption) (by first | omega | assumption) (by first | omega | assumption) (by first | omega | assumption) (by first | omega | assumption) (by first | omega | assumption) (by first | omega | assumption) (by first | omega | assumption)
        refine hgo (fun p => Nat.beq p 44 || Nat.beq p 87 || Nat.beq p 112 || Nat.beq p 137) 88 44 _ _ _ ?_
        refine And.intro (fun h48 => ?_) (fun h48 => ?_)
        · skip
          refine And.intro (fun h146 => ?_) (fun h146 => ?_)
          · skip
            refine And.intro rfl ?_
            refine ⟨fun ls hl hq hW => ?_, hS⟩
            have hm := hW.1
            show _ = sd_brv ls (M 60) n h w
            obtain ⟨g1, g2⟩ := (by assumption : ∀ ls : List pz_lne, pq_wlw ls (M 60) → (∀ q ∈ ls, pv_ln q) → sd_wf (M 60) → x4 = (sd_cC (M 60) : Int) ∧ sd_bmE ls (M 60) n.toNat h x5 x6) ls hl hq hW
            have z := sd_bmE_z g2 (by omega)
            unfold sd_brv
            rw [if_pos (by omega), ← z]
            first
              | (rw [if_pos (by omega)]; done)
              | (have k := q163 ls hl hq hW x5.toNat (by omega) (by omega)
                 rw [if_neg (by omega), e166, k])
          · skip
            replace h146 : 0 ≤ x5 := by omega
            refine And.intro (fun h151 => ?_) (fun h151 => ?_)
            · skip
              replace h151 : w ≤ 0 := by omega
              refine And.intro (hI) ?_
              intro v163 M163 a163 b163 q163
              obtain ⟨q163, z163⟩ := q163
              have hS : pz_rl pz_QV M M163 := hS.tr z163
              have hI : pz_im M163 := hS.1 hI0
              rw [W44] at q163
              intro v166 e166 a166 b166
              refine And.intro rfl ?_
              refine ⟨fun ls hl hq hW => ?_, hS⟩
              have hm := hW.1
              show _ = sd_brv ls (M 60) n h w
              obtain ⟨g1, g2⟩ := (by assumption : ∀ ls : List pz_lne, pq_wlw ls (M 60) → (∀ q ∈ ls, pv_ln q) → sd_wf (M 60) → x4 = (sd_cC (M 60) : Int) ∧ sd_bmE ls (M 60) n.toNat h x5 x6) ls hl hq hW
              have z := sd_bmE_z g2 (by omega)
              unfold sd_brv
              rw [if_pos (by omega), ← z]
              first
                | (rw [if_pos (by omega)]; done)
                | (have k := q163 ls hl hq hW x5.toNat (by omega) (by omega)
                   rw [if_neg (by omega), e166, k])
            · skip
              refine And.intro rfl ?_
              refine ⟨fun ls hl hq hW => ?_, hS⟩
              have hm := hW.1
              show _ = sd_brv ls (M 60) n h w
              obtain ⟨g1, g2⟩ := (by assumption : ∀ ls : List pz_lne, pq_wlw ls (M 60) → (∀ q ∈ ls, pv_ln q) → sd_wf (M 60) → x4 = (sd_cC (M 60) : Int) ∧ sd_bmE ls (M 60) n.toNat h x5 x6) ls hl hq hW
              have z := sd_bmE_z g2 (by omega)
              unfold sd_brv
              rw [if_pos (by omega), ← z]
              first
                | (rw [if_pos (by omega)]; done)
                | (have k := q163 ls hl hq hW x5.toNat (by omega) (by omega)
                   rw [if_neg (by omega), e166, k])
        · skip
          intro v56 e56 a56 b56
          intro v57 e57 a57 b57
          have G56 : sd_wf (M 60) → x4 = (sd_cC (M 60) : Int) := by assumption
          have sb : sd_wf (M 60) → (v57 = 0 ↔ (∀ j, x6.toNat.testBit j = true → (sd_cC (M 60)).testBit j = true)) := fun hW => by
            have xz := sd_zsn (v := x6) (by omega) (by omega)
            have zz := pz_sb_an xz (show pz_zs x4 (sd_cC (M 60)).testBit from ⟨sd_cC (M 60), (G56 hW), sd_cC_l, fun _ => rfl⟩) e56 e57
            exact sd_sub0 zz
          refine And.intro (fun h58 => ?_) (fun h58 => ?_)
          · skip
            skip
            refine And.intro (fun h67 => ?_) (fun h67 => ?_)
            · skip
              skip
              replace h67 : 0 ≤ x5 := by omega
              refine And.intro (hI) ?_
              intro v77 M77 a77 b77 q77
              obtain ⟨q77, z77⟩ := q77
              have hS : pz_rl pz_QV M M77 := hS.tr z77
              have hI : pz_im M77 := hS.1 hI0
              rw [W44] at q77
              have W77 : M77 60 = M 60 := (funext fun j => z77.2 60 j (by unfold pz_QV; omega)).trans W44
              refine And.intro (hI) ?_
              intro v83 M83 a83 b83 q83
              obtain ⟨q83, z83⟩ := q83
              have hS : pz_rl pz_QV M M83 := hS.tr z83
              have hI : pz_im M83 := hS.1 hI0
              rw [W77] at q83
              intro v86 e86 a86 b86
              have e86k := e86
              have G87 : ∀ ls : List pz_lne, pq_wlw ls (M 60) → (∀ q ∈ ls, pv_ln q) → sd_wf (M 60) → x4 = (sd_cC (M 60) : Int) ∧ sd_bmE ls (M 60) n.toNat h x5 x6 ∧ (∀ j, x6.toNat.testBit j = true → (sd_cC (M 60)).testBit j = true) ∧ ((x5 = -1 ∧ v86 = -1) ∨ (x5 ≠ -1 ∧ v86 = sd_cst ls (M 60) x6.toNat - sd_cst ls (M 60) x5.toNat)) := fun ls hl hq hW => by
                obtain ⟨g1, g2⟩ := (by assumption : ∀ ls : List pz_lne, pq_wlw ls (M 60) → (∀ q ∈ ls, pv_ln q) → sd_wf (M 60) → x4 = (sd_cC (M 60) : Int) ∧ sd_bmE ls (M 60) n.toNat h x5 x6) ls hl hq hW
                have k1 := q77 ls hl hq hW x6.toNat (by omega) (by omega)
                have k2 := q83 ls hl hq hW x5.toNat (by omega) (by omega)
                have b1 := sd_cst_b (ls := ls) (u := x6.toNat) hW
                have b2 := sd_cst_b (ls := ls) (u := x5.toNat) hW
                rw [pz_wi (by omega) (by omega)] at e86k
                exact ⟨g1, g2, (sb hW).mp (by omega), Or.inr ⟨by omega, by omega⟩⟩
              exact L87 _ _ _ _ _ _ hS (by first | omega | assumption) (by first | omega | assumption) (by first | omega | assumption) (by first | omega | assumption) (by first | omega | assumption) (by first | omega | assumption) (by first | omega | assumption) (by first | omega | assumption) (by first | omega | assumption) (by first | omega | assumption)
            · skip
              have G87 : ∀ ls : List pz_lne, pq_wlw ls (M 60) → (∀ q ∈ ls, pv_ln q) → sd_wf (M 60) → x4 = (sd_cC (M 60) : Int) ∧ sd_bmE ls (M 60) n.toNat h x5 x6 ∧ (∀ j, x6.toNat.testBit j = true → (sd_cC (M 60)).testBit j = true) ∧ ((x5 = -1 ∧ (-1 : Int) = -1) ∨ (x5 ≠ -1 ∧ (-1 : Int) = sd_cst ls (M 60) x6.toNat - sd_cst ls (M 60) x5.toNat)) := fun ls hl hq hW => by
                obtain ⟨g1, g2⟩ := (by assumption : ∀ ls : List pz_lne, pq_wlw ls (M 60) → (∀ q ∈ ls, pv_ln q) → sd_wf (M 60) → x4 = (sd_cC (M 60) : Int) ∧ sd_bmE ls (M 60) n.toNat h x5 x6) ls hl hq hW
                exact ⟨g1, g2, (sb hW).mp (by omega), Or.inl ⟨by omega, rfl⟩⟩
              exact L87 _ _ _ _ _ _ hS (by first | omega | assumption) (by first | omega | assumption) (by first | omega | assumption) (by first | omega | assumption) (by first | omega | assumption) (by first | omega | assumption) (by first | omega | assumption) (by first | omega | assumption) (by first | omega | assumption) (by first | omega | assumption)
          · skip
            have G137 : ∀ ls : List pz_lne, pq_wlw ls (M 60) → (∀ q ∈ ls, pv_ln q) → sd_wf (M 60) → x4 = (sd_cC (M 60) : Int) ∧ sd_bmE ls (M 60) n.toNat h x5 (x6 + 1) := fun ls hl hq hW => by
              obtain ⟨g1, g2⟩ := (by assumption : ∀ ls : List pz_lne, pq_wlw ls (M 60) → (∀ q ∈ ls, pv_ln q) → sd_wf (M 60) → x4 = (sd_cC (M 60) : Int) ∧ sd_bmE ls (M 60) n.toNat h x5 x6) ls hl hq hW
              exact ⟨g1, sd_bmE_n g2 rfl (fun z => absurd ((sb hW).mpr z) (by omega))⟩
            exact L137 _ _ _ _ _ hS (by first | omega | assumption) (by first | omega | assumption) (by first | omega | assumption) (by first | omega | assumption) (by first | omega | assumption) (by first | omega | assumption) (by first | omega | assumption) (by first | omega | assumption) (by first | omega | assumption) (by first | omega | assumption)
    refine hgo (fun p => Nat.beq p 44 || Nat.beq p 87 || Nat.beq p 112 || Nat.beq p 137) 88 0 _ [] M ?_
    refine And.intro (True.intro) ?_
    intro v4 M4 a4 b4 q4
    obtain ⟨q4, z4⟩ := q4
    subst z4
    clear a4 b4
    refine And.intro (fun h7 => ?_) (fun h7 => ?_)
    · skip
      replace q4 := q4.resolve_left (fun z => absurd (z.1.symm.trans h7) (by decide))
      clear h7
      refine And.intro rfl ?_
      refine ⟨fun ls hl hq hW => ?_, hS⟩
      have hm := hW.1
      show _ = sd_brv ls (M 60) n h w
      unfold sd_brv
      rw [if_neg (by omega)]
    · skip
      replace q4 := q4.resolve_right (fun z => h7 z.1)
      clear h7
      refine And.intro (True.intro) ?_
      intro v15 M15 a15 b15 q15
      obtain ⟨q15, z15⟩ := q15
      subst z15
      clear a15 b15
      refine And.intro (fun h18 => ?_) (fun h18 => ?_)
      · skip
        replace q15 := q15.resolve_left (fun z => absurd (z.1.symm.trans h18) (by decide))
        clear h18
        refine And.intro rfl ?_
        refine ⟨fun ls hl hq hW => ?_, hS⟩
        have hm := hW.1
        show _ = sd_brv ls (M 60) n h w
        unfold sd_brv
        rw [if_neg (by omega)]
      · skip
        replace q15 := q15.resolve_right (fun z => h18 z.1)
        clear h18
        refine And.intro (True.intro) ?_
        intro v24 M24 a24 b24 q24
        obtain ⟨q24, z24⟩ := q24
        subst z24
        clear a24 b24
        refine And.intro (fun h27 => ?_) (fun h27 => ?_)
        · skip
          have GP : (1 ≤ n ∧ n ≤ 60) ∧ (0 ≤ h ∧ h ≤ 1000000) ∧ 0 ≤ w ∧ w ≤ 1 := by omega
          replace q24 := q24.resolve_right (fun z => h27 z.1)
          clear h27
          refine And.intro (hI) ?_
          intro v33 M33 a33 b33 q33
          obtain ⟨q33, z33⟩ := q33
          subst z33
          have G33 : sd_wf (M 60) → v33 = (sd_cC (M 60) : Int) := fun hW => sd_cC_z hW q33.2
          have G44 : ∀ ls : List pz_lne, pq_wlw ls (M 60) → (∀ q ∈ ls, pv_ln q) → sd_wf (M 60) → v33 = (sd_cC (M 60) : Int) ∧ sd_bmE ls (M 60) n.toNat h (-1) 0 := fun ls hl hq hW => ⟨G33 hW, sd_bmE_0⟩
          exact L44 _ _ _ _ _ _ (Nat.lt_succ_self _) hS (by first | omega | assumption) (by first | omega | assumption) (by first | omega | assumption) (by first | omega | assumption) (by first | omega | assumption) (by first | omega | assumption) (by first | omega | assumption) (by first | omega | assumption)
        · skip
          skip
          replace q24 := q24.resolve_left (fun z => absurd (z.1.symm.trans h27) (by decide))
          clear h27
          refine And.intro rfl ?_
          refine ⟨fun ls hl hq hW => ?_, hS⟩
          have hm := hW.1
          show _ = sd_brv ls (M 60) n h w
          unfold sd_brv
          rw [if_neg (by omega)]
theorem v4_X12_bridges {fr lo i : Nat} {own : String} (h1 : 8 + 1 ≤ fr) (h2 : 8 + (8 + 11) + 192 ≤ lo) (h3 : .methodLink own i yX12_bridges ∈ lw_tbl) : pz_cV fr lo own i k4_X12_bridges :=
  pz_cVk (maxL := 8) (fr' := 8) (lo' := 192) 3 12 h4_X12_bridges rfl ⟨by decide +kernel, by decide +kernel, by decide +kernel⟩ ⟨(pz_mt 1664 (by decide +kernel)), (pz_mt 1662 (by decide +kernel)), (pz_mt 1663 (by decide +kernel)), (pz_mt 13 (by decide +kernel))⟩ (Or.inl ⟨TX12, 28, rfl⟩) (fun a M _ h => by
    have h : (match (generalizing := false) a with | [.inr (.inr (12, th)), .inl n, .inl h, .inl w] => pz_im M | _ => False) := h
    split at h
    · exact ⟨_, _, rfl⟩
    · exact h.elim) h1 h2 h3
