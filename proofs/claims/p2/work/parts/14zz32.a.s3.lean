def k3_X0_bridgeableOnes : pz_C := (1, 1, fun a M => (match a with | [.inr (.inr (0, c))] => pz_ic M | _ => False), fun a M r M' => (match a, r with | [.inr (.inr (0, c))], some (.inl v) => (sd_q M c (fun F => pz_zs v (fun k => decide (sd_cb F k)))) ∧ M = M' | _, _ => False))
abbrev ct3_X0_bridgeableOnes : List (Bool × Nat × pz_C) := [(true, 90, k3_X0_canBridge)]
set_option maxRecDepth 100000 in
set_option maxHeartbeats 4000000 in
theorem h3_X0_bridgeableOnes : pz_H yX0_bridgeableOnes cX0_bridgeableOnes 3 (some .int) k3_X0_bridgeableOnes 2 42 := by
  refine pz_mk (own := RX0) (tb := t_X0_bridgeableOnes) (fl := pz_flf fl_RX0) (ci := pz_cif ci_RX0) (ct := pz_ctf ct3_X0_bridgeableOnes) (rz := false) (by decide +kernel) rfl t_X0_bridgeableOnes_ok (pz_flk fl_RX0_ok) (pz_cik ci_RX0_ok) ?_ ?_ (Or.inl ⟨rfl, rfl⟩) ?_ ?_
  · exact fun i k' h => pz_ctk (l := ct3_X0_bridgeableOnes) (P := fun b i k => b = true → pz_cV 2 42 RX0 i k) (List.forall_mem_cons.mpr ⟨(fun _ => v3_X0_canBridge (by decide) (by decide) (pz_mt 944 (by decide +kernel))), fun _ h => absurd h List.not_mem_nil⟩) true i k' h rfl
  · exact fun i k' h => pz_ctk (l := ct3_X0_bridgeableOnes) (P := fun b i k => b = false → (pz_cS 2 42 RX0 i k ∨ (k = pz_kac ∧ 1 ≤ 2 ∧ 60 ≤ 42 ∧ Cond.methodLink RX0 i arraycopyName ∈ pz_tbl))) (List.forall_mem_cons.mpr ⟨((fun z => by cases z)), fun _ h => absurd h List.not_mem_nil⟩) false i k' h rfl
  · intro a M hlen hpre
    obtain ⟨c, rfl, hpre⟩ : ∃ c, a = [.inr (.inr (0, c))] ∧ (pz_ic M) := by
      have hpre : (match (generalizing := false) a with | [.inr (.inr (0, c))] => pz_ic M | _ => False) := hpre
      split at hpre
      · exact ⟨_, rfl, hpre⟩
      · exact hpre.elim
    exact Nat.le_of_ble_eq_true rfl
  · intro a M hlen hcan hM hpre Ok hgo
    obtain ⟨c, rfl, hpre⟩ : ∃ c, a = [.inr (.inr (0, c))] ∧ (pz_ic M) := by
      have hpre : (match (generalizing := false) a with | [.inr (.inr (0, c))] => pz_ic M | _ => False) := hpre
      split at hpre
      · exact ⟨_, rfl, hpre⟩
      · exact hpre.elim
    obtain ⟨k_c, hc_c⟩ := pz_tlm hcan
    have k_c : pz_kd c = 0 ∧ c < 231 := k_c
    have R_c := pz_kd0 k_c.1
    have hI : pz_ic M := hpre
    have L4 : ∀ (fu : Nat) (x1 : Int) (x2 : Int), (M c 3 - x2).toNat < fu → (0 ≤ x2) → (sd_q M c (fun F => x2 ≤ F 88 ∧ pz_bt x2 (fun k => decide (sd_cb F k)) x1)) → Ok 4 [some (.inr (.inr (0, c))), some (.inl x1), some (.inl x2)] [] M := by
      intro fu
      induction fu with
      | zero => exact fun _ _ hn => absurd hn (Nat.not_lt_zero _)
      | succ fu ih4 =>
        intro x1 x2 hn4 g4_0 g4_1
        refine hgo (fun p => Nat.beq p 4) 26 4 _ _ _ ?_
        intro v6 e6 a6 b6
        have I6 := hI.1 c (by omega) (by omega)
        refine And.intro (fun h9 => ?_) (fun h9 => ?_)
        · skip
          refine And.intro rfl ?_
          refine ⟨fun F hF hW => ?_, rfl⟩
          obtain ⟨g1, g2⟩ := (by assumption : sd_q M c (fun F => x2 ≤ F 88 ∧ pz_bt x2 (fun k => decide (sd_cb F k)) x1)) F hF hW
          have hn := hF.1
          exact pz_bt_e g2 (sd_cbn_e (by omega) (by omega))
        · skip
          refine And.intro (hI) ?_
          intro v15 M15 a15 b15 q15
          obtain ⟨q15, z15⟩ := q15
          subst z15
          refine And.intro (fun h18 => ?_) (fun h18 => ?_)
          · skip
            intro v28 e28 a28 b28
            intro v30 e30 a30 b30
            rw [pz_wi (by omega) (by omega)] at e30
            have G4 : sd_q M c (fun F => v30 ≤ F 88 ∧ pz_bt v30 (fun k => decide (sd_cb F k)) v28) := fun F hF hW => by
              obtain ⟨g1, g2⟩ := (by assumption : sd_q M c (fun F => x2 ≤ F 88 ∧ pz_bt x2 (fun k => decide (sd_cb F k)) x1)) F hF hW
              have hn := hF.1
              have hm := hW.1
              have cb := q15.2 F hF hW
              refine ⟨by omega, pz_bt_s ⟨by omega, by omega⟩ e30 g2 ?_ e28⟩
              first
                | exact pz_bO_y ⟨by omega, by omega⟩ (decide_eq_true (cb.mp (by omega)).2) e23
                | exact pz_bO_n (decide_eq_false (fun z => absurd (cb.mpr ⟨by omega, z⟩) (by omega)))
            exact ih4 _ _ (by omega) (by first | omega | assumption | exact fun F hF hW => ⟨hW.1.1, pz_bt_0⟩) (by first | omega | assumption | exact fun F hF hW => ⟨hW.1.1, pz_bt_0⟩)
          · skip
            intro v23 e23 a23 b23
            intro v28 e28 a28 b28
            intro v30 e30 a30 b30
            rw [pz_wi (by omega) (by omega)] at e30
            have G4 : sd_q M c (fun F => v30 ≤ F 88 ∧ pz_bt v30 (fun k => decide (sd_cb F k)) v28) := fun F hF hW => by
              obtain ⟨g1, g2⟩ := (by assumption : sd_q M c (fun F => x2 ≤ F 88 ∧ pz_bt x2 (fun k => decide (sd_cb F k)) x1)) F hF hW
              have hn := hF.1
              have hm := hW.1
              have cb := q15.2 F hF hW
              refine ⟨by omega, pz_bt_s ⟨by omega, by omega⟩ e30 g2 ?_ e28⟩
              first
                | exact pz_bO_y ⟨by omega, by omega⟩ (decide_eq_true (cb.mp (by omega)).2) e23
                | exact pz_bO_n (decide_eq_false (fun z => absurd (cb.mpr ⟨by omega, z⟩) (by omega)))
            exact ih4 _ _ (by omega) (by first | omega | assumption | exact fun F hF hW => ⟨hW.1.1, pz_bt_0⟩) (by first | omega | assumption | exact fun F hF hW => ⟨hW.1.1, pz_bt_0⟩)
    refine hgo (fun p => Nat.beq p 4) 26 0 _ [] M ?_
    exact L4 _ _ _ (Nat.lt_succ_self _) (by first | omega | assumption | exact fun F hF hW => ⟨hW.1.1, pz_bt_0⟩) (by first | omega | assumption | exact fun F hF hW => ⟨hW.1.1, pz_bt_0⟩)
theorem v3_X0_bridgeableOnes {fr lo i : Nat} {own : String} (h1 : 2 + 1 ≤ fr) (h2 : 8 + (3 + 11) + 42 ≤ lo) (h3 : .methodLink own i yX0_bridgeableOnes ∈ lw_tbl) : pz_cV fr lo own i k3_X0_bridgeableOnes :=
  pz_cVk (maxL := 3) (fr' := 2) (lo' := 42) 0 0 h3_X0_bridgeableOnes rfl ⟨by decide +kernel, by decide +kernel, by decide +kernel⟩ ⟨(pz_mt 943 (by decide +kernel)), (pz_mt 941 (by decide +kernel)), (pz_mt 942 (by decide +kernel)), (pz_mt 2 (by decide +kernel))⟩ (Or.inl ⟨TX0, 8, rfl⟩) (fun a M _ h => by
    have h : (match (generalizing := false) a with | [.inr (.inr (0, c))] => pz_ic M | _ => False) := h
    split at h
    · exact ⟨_, _, rfl⟩
    · exact h.elim) h1 h2 h3
def k3_X4_costOf : pz_C := (3, 1, fun a M => (match a with | [.inr (.inr (4, k)), .inr (.inr (0, c)), .inl i] => pz_ic M | _ => False), fun a M r M' => (match a, r with | [.inr (.inr (4, k)), .inr (.inr (0, c)), .inl i], some (.inl v) => (c = 71 → ∀ (ls : List pz_lne) (F : Nat → Int) (d u : Nat), sd_se M 71 F → sd_wf F → sd_ar M ls F d (F 88) → i = (u : Int) → u < 4096 → v = sd_cst ls F u) ∧ M = M' | _, _ => False))
abbrev ct3_X4_costOf : List (Bool × Nat × pz_C) := []
set_option maxRecDepth 100000 in
set_option maxHeartbeats 4000000 in
theorem h3_X4_costOf : pz_H yX4_costOf cX4_costOf 5 (some .int) k3_X4_costOf 0 0 := by
  refine pz_mk (own := RX4) (tb := t_X4_costOf) (fl := pz_flf fl_RX4) (ci := pz_cif ci_RX4) (ct := pz_ctf ct3_X4_costOf) (rz := false) (by decide +kernel) rfl t_X4_costOf_ok (pz_flk fl_RX4_ok) (pz_cik ci_RX4_ok) ?_ ?_ (Or.inl ⟨rfl, rfl⟩) ?_ ?_
  · exact fun i k' h => pz_ctk (l := ct3_X4_costOf) (P := fun b i k => b = true → pz_cV 0 0 RX4 i k) (fun _ h => absurd h List.not_mem_nil) true i k' h rfl
  · exact fun i k' h => pz_ctk (l := ct3_X4_costOf) (P := fun b i k => b = false → (pz_cS 0 0 RX4 i k ∨ (k = pz_kac ∧ 1 ≤ 0 ∧ 60 ≤ 0 ∧ Cond.methodLink RX4 i arraycopyName ∈ pz_tbl))) (fun _ h => absurd h List.not_mem_nil) false i k' h rfl
  · intro a M hlen hpre
    obtain ⟨k, c, i, rfl, hpre⟩ : ∃ k c i, a = [.inr (.inr (4, k)), .inr (.inr (0, c)), .inl i] ∧ (pz_ic M) := by
      have hpre : (match (generalizing := false) a with | [.inr (.inr (4, k)), .inr (.inr (0, c)), .inl i] => pz_ic M | _ => False) := hpre
      split at hpre
      · exact ⟨_, _, _, rfl, hpre⟩
      · exact hpre.elim
    exact Nat.le_of_ble_eq_true rfl
  · intro a M hlen hcan hM hpre Ok hgo
    obtain ⟨k, c, i, rfl, hpre⟩ : ∃ k c i, a = [.inr (.inr (4, k)), .inr (.inr (0, c)), .inl i] ∧ (pz_ic M) := by
      have hpre : (match (generalizing := false) a with | [.inr (.inr (4, k)), .inr (.inr (0, c)), .inl i] => pz_ic M | _ => False) := hpre
      split at hpre
      · exact ⟨_, _, _, rfl, hpre⟩
      · exact hpre.elim
    obtain ⟨k_k, hc_k⟩ := pz_tlm hcan
    have k_k : pz_kd k = 4 ∧ k < 231 := k_k
    have R_k := pz_kd4 k_k.1
    subst R_k
    obtain ⟨k_c, hc_c⟩ := pz_tlm hc_k
    have k_c : pz_kd c = 0 ∧ c < 231 := k_c
    have R_c := pz_kd0 k_c.1
    obtain ⟨k_i, hc_i⟩ := pz_tlm hc_c
    have l_i : -2147483648 ≤ i := k_i.1
    have u_i : i ≤ 2147483647 := k_i.2
    have hI : pz_ic M := hpre
    have L5 : ∀ (fu : Nat) (x3 : Int) (x4 : Int), (12 - x4).toNat < fu → (0 ≤ x4) → (c = 71 → ∀ (ls : List pz_lne) (F : Nat → Int) (d u : Nat), sd_se M 71 F → sd_wf F → sd_ar M ls F d (F 88) → i = (u : Int) → u < 4096 → x4 ≤ F 88 ∧ x3 = sd_cs ls F u x4.toNat) → Ok 5 [some (.inr (.inr (4, 6))), some (.inr (.inr (0, c))), some (.inl i), some (.inl x3), some (.inl x4)] [] M := by
      intro fu
      induction fu with
      | zero => exact fun _ _ hn => absurd hn (Nat.not_lt_zero _)
      | succ fu ih5 =>
        intro x3 x4 hn5 g5_0 g5_1
        refine hgo (fun p => Nat.beq p 5) 32 5 _ _ _ ?_
        intro v8 e8 a8 b8
        have I8 := hI.1 c (by omega) (by omega)
        refine And.intro (fun h11 => ?_) (fun h11 => ?_)
        · skip
          refine And.intro rfl ?_
          refine ⟨fun c9 ls F d u s w a hu hl => ?_, rfl⟩
          obtain ⟨g1, g2⟩ := (by assumption : c = 71 → ∀ (ls : List pz_lne) (F : Nat → Int) (d u : Nat), sd_se M 71 F → sd_wf F → sd_ar M ls F d (F 88) → i = (u : Int) → u < 4096 → x4 ≤ F 88 ∧ x3 = sd_cs ls F u x4.toNat) c9 ls F d u s w a hu hl
          subst c9
          have n8 := s.1
          have m := w.1
          have k9 := sd_n_i w
          rw [show x4.toNat = sd_n F by omega] at g2
          exact g2
        · skip
          refine And.intro (fun h18 => ?_) (fun h18 => ?_)
          · skip
            refine And.intro rfl ?_
            refine ⟨fun c9 ls F d u s w a hu hl => ?_, rfl⟩
            obtain ⟨g1, g2⟩ := (by assumption : c = 71 → ∀ (ls : List pz_lne) (F : Nat → Int) (d u : Nat), sd_se M 71 F → sd_wf F → sd_ar M ls F d (F 88) → i = (u : Int) → u < 4096 → x4 ≤ F 88 ∧ x3 = sd_cs ls F u x4.toNat) c9 ls F d u s w a hu hl
            subst c9
            have n8 := s.1
            have m := w.1
            have k9 := sd_n_i w
            rw [show x4.toNat = sd_n F by omega] at g2
            exact g2
          · skip
            intro v25 e25 a25 b25
            intro v27 e27 a27 b27
            have X27 := pz_a1 e27
            refine And.intro (fun h28 => ?_) (fun h28 => ?_)
            · skip
              intro v42 e42 a42 b42
              intro v44 e44 a44 b44
              rw [pz_wi (by omega) (by omega)] at e44
              have G5 : c = 71 → ∀ (ls : List pz_lne) (F : Nat → Int) (d u : Nat), sd_se M 71 F → sd_wf F → sd_ar M ls F d (F 88) → i = (u : Int) → u < 4096 → v44 ≤ F 88 ∧ v42 = sd_cs ls F u v44.toNat := fun c9 ls F d u s w a hu hl => by
                obtain ⟨g1, g2⟩ := (by assumption : c = 71 → ∀ (ls : List pz_lne) (F : Nat → Int) (d u : Nat), sd_se M 71 F → sd_wf F → sd_ar M ls F d (F 88) → i = (u : Int) → u < 4096 → x4 ≤ F 88 ∧ x3 = sd_cs ls F u x4.toNat) c9 ls F d u s w a hu hl
                subst c9
                have n8 := s.1
                have m := w.1
                have B := pz_sb_at (f := u.testBit) ⟨u, hu, hl, fun _ => rfl⟩ (by omega) (by omega) e25 e27
                have b := sd_cs_b (ls := ls) (F := F) (u := u) x4.toNat
                have g := (a x4.toNat (by omega)).2.2
                have cb := sd_co_b (ls := ls) (F := F) (i := x4.toNat)
                refine ⟨by omega, ?_⟩
                rw [show v44.toNat = x4.toNat + 1 by omega]
                show v42 = sd_cs ls F u x4.toNat + (if u.testBit x4.toNat = true then sd_co ls F x4.toNat else 0)
                by_cases y : u.testBit x4.toNat = true
                · rw [if_pos y] at B ⊢
                  rw [pz_wi (by omega) (by omega)] at e42
                  omega
                · rw [if_neg y] at B ⊢
                  rw [pz_wi (by omega) (by omega)] at e42
                  omega
              exact ih5 _ _ (by omega) (by first | omega | assumption | exact fun _ ls F d u s w a hu hl => ⟨w.1.1, rfl⟩) (by first | omega | assumption | exact fun _ ls F d u s w a hu hl => ⟨w.1.1, rfl⟩)
            · skip
              intro r32 e32 k32
              have R32 := pz_kdA k32 (by decide) (by decide)
              have W32 : r32 = 54 := e32
              refine And.intro (by omega) (And.intro (show _ < (12 : Int) from by omega) ?_)
              intro v37 e37 a37 b37
              rw [W32] at e37
              intro v42 e42 a42 b42
              intro v44 e44 a44 b44
              rw [pz_wi (by omega) (by omega)] at e44
              have G5 : c = 71 → ∀ (ls : List pz_lne) (F : Nat → Int) (d u : Nat), sd_se M 71 F → sd_wf F → sd_ar M ls F d (F 88) → i = (u : Int) → u < 4096 → v44 ≤ F 88 ∧ v42 = sd_cs ls F u v44.toNat := fun c9 ls F d u s w a hu hl => by
                obtain ⟨g1, g2⟩ := (by assumption : c = 71 → ∀ (ls : List pz_lne) (F : Nat → Int) (d u : Nat), sd_se M 71 F → sd_wf F → sd_ar M ls F d (F 88) → i = (u : Int) → u < 4096 → x4 ≤ F 88 ∧ x3 = sd_cs ls F u x4.toNat) c9 ls F d u s w a hu hl
                subst c9
                have n8 := s.1
                have m := w.1
                have B := pz_sb_at (f := u.testBit) ⟨u, hu, hl, fun _ => rfl⟩ (by omega) (by omega) e25 e27
                have b := sd_cs_b (ls := ls) (F := F) (u := u) x4.toNat
                have g := (a x4.toNat (by omega)).2.2
                have cb := sd_co_b (ls := ls) (F := F) (i := x4.toNat)
                refine ⟨by omega, ?_⟩
                rw [show v44.toNat = x4.toNat + 1 by omega]
                show v42 = sd_cs ls F u x4.toNat + (if u.testBit x4.toNat = true then sd_co ls F x4.toNat else 0)
                by_cases y : u.testBit x4.toNat = true
                · rw [if_pos y] at B ⊢
                  rw [pz_wi (by omega) (by omega)] at e42
                  omega
                · rw [if_neg y] at B ⊢
                  rw [pz_wi (by omega) (by omega)] at e42
                  omega
              exact ih5 _ _ (by omega) (by first | omega | assumption | exact fun _ ls F d u s w a hu hl => ⟨w.1.1, rfl⟩) (by first | omega | assumption | exact fun _ ls F d u s w a hu hl => ⟨w.1.1, rfl⟩)
    refine hgo (fun p => Nat.beq p 5) 32 0 _ [] M ?_
    exact L5 _ _ _ (Nat.lt_succ_self _) (by first | omega | assumption | exact fun _ ls F d u s w a hu hl => ⟨w.1.1, rfl⟩) (by first | omega | assumption | exact fun _ ls F d u s w a hu hl => ⟨w.1.1, rfl⟩)
theorem v3_X4_costOf {fr lo i : Nat} {own : String} (h1 : 0 + 1 ≤ fr) (h2 : 8 + (5 + 11) + 0 ≤ lo) (h3 : .methodLink own i yX4_costOf ∈ lw_tbl) : pz_cV fr lo own i k3_X4_costOf :=
  pz_cVk (maxL := 5) (fr' := 0) (lo' := 0) 2 4 h3_X4_costOf rfl ⟨by decide +kernel, by decide +kernel, by decide +kernel⟩ ⟨(pz_mt 959 (by decide +kernel)), (pz_mt 957 (by decide +kernel)), (pz_mt 958 (by decide +kernel)), (pz_mt 11 (by decide +kernel))⟩ (Or.inl ⟨TX4, 5, rfl⟩) (fun a M _ h => by
    have h : (match (generalizing := false) a with | [.inr (.inr (4, k)), .inr (.inr (0, c)), .inl i] => pz_ic M | _ => False) := h
    split at h
    · exact ⟨_, _, rfl⟩
    · exact h.elim) h1 h2 h3
def k4_X4_cheapestBridges : pz_C := (3, 1, fun a M => (match a with | [.inr (.inr (4, k)), .inr (.inr (0, c)), .inl i] => pz_ic M | _ => False), fun a M r M' => (match a, r with | [.inr (.inr (4, k)), .inr (.inr (0, c)), .inl i], some (.inl v) => (c = 71 → ∀ (ls : List pz_lne) (F : Nat → Int) (d : Nat), sd_se M 71 F → sd_wf F → sd_ar M ls F d (F 88) → v = sd_bbe ls F d i ∧ sd_ar M' ls F d (F 88)) ∧ pq_pr pq_Pk M M' | _, _ => False))
abbrev ct4_X4_cheapestBridges : List (Bool × Nat × pz_C) := [(true, 83, k3_X0_bridgeableOnes), (true, 87, k3_X0_bridgedOnes), (true, 90, k4_X4_reckonSpans), (false, 94, k_J6_bitCount_0f7a4), (true, 99, k3_X4_leastOdds), (true, 103, k3_X4_costOf)]
set_option maxRecDepth 100000 in
set_option maxHeartbeats 4000000 in
theorem h4_X4_cheapestBridges : pz_H yX4_cheapestBridges cX4_cheapestBridges 11 (some .int) k4_X4_cheapestBridges 3 70 := by
  refine pz_mk (own := RX4) (tb := t_X4_cheapestBridges) (fl := pz_flf fl_RX4) (ci := pz_cif ci_RX4) (ct := pz_ctf ct4_X4_cheapestBridges) (rz := false) (by decide +kernel) rfl t_X4_cheapestBridges_ok (pz_flk fl_RX4_ok) (pz_cik ci_RX4_ok) ?_ ?_ (Or.inl ⟨rfl, rfl⟩) ?_ ?_
  · exact fun i k' h => pz_ctk (l := ct4_X4_cheapestBridges) (P := fun b i k => b = true → pz_cV 3 70 RX4 i k) (List.forall_mem_cons.mpr ⟨(fun _ => v3_X0_bridgeableOnes (by decide) (by decide) (pz_mt 940 (by decide +kernel))), List.forall_mem_cons.mpr ⟨(fun _ => v3_X0_bridgedOnes (by decide) (by decide) (pz_mt 945 (by decide +kernel))), List.forall_mem_cons.mpr ⟨(fun _ => v4_X4_reckonSpans (by decide) (by decide) (pz_mt 946 (by decide +kernel))), List.forall_mem_cons.mpr ⟨((fun z => by cases z)), List.forall_mem_cons.mpr ⟨(fun _ => v3_X4_leastOdds (by decide) (by decide) (pz_mt 951 (by decide +kernel))), List.forall_mem_cons.mpr ⟨(fun _ => v3_X4_costOf (by decide) (by decide) (pz_mt 956 (by decide +kernel))), fun _ h => absurd h List.not_mem_nil⟩⟩⟩⟩⟩⟩) true i k' h rfl
  · exact fun i k' h => pz_ctk (l := ct4_X4_cheapestBridges) (P := fun b i k => b = false → (pz_cS 3 70 RX4 i k ∨ (k = pz_kac ∧ 1 ≤ 3 ∧ 60 ≤ 70 ∧ Cond.methodLink RX4 i arraycopyName ∈ pz_tbl))) (List.forall_mem_cons.mpr ⟨((fun z => by cases z)), List.forall_mem_cons.mpr ⟨((fun z => by cases z)), List.forall_mem_cons.mpr ⟨((fun z => by cases z)), List.forall_mem_cons.mpr ⟨(fun _ => Or.inl (s_J6_bitCount_0f7a4 (by decide) (by decide) (Or.inl (pz_mt 950 (by decide +kernel))))), List.forall_mem_cons.mpr ⟨((fun z => by cases z)), List.forall_mem_cons.mpr ⟨((fun z => by cases z)), fun _ h => absurd h List.not_mem_nil⟩⟩⟩⟩⟩⟩) false i k' h rfl
  · intro a M hlen hpre
    obtain ⟨k, c, i, rfl, hpre⟩ : ∃ k c i, a = [.inr (.inr (4, k)), .inr (.inr (0, c)), .inl i] ∧ (pz_ic M) := by
      have hpre : (match (generalizing := false) a with | [.inr (.inr (4, k)), .inr (.inr (0, c)), .inl i] => pz_ic M | _ => False) := hpre
      split at hpre
      · exact ⟨_, _, _, rfl, hpre⟩
      · exact hpre.elim
    exact Nat.le_of_ble_eq_true rfl
  · intro a M hlen hcan hM hpre Ok hgo
    obtain ⟨k, c, i, rfl, hpre⟩ : ∃ k c i, a = [.inr (.inr (4, k)), .inr (.inr (0, c)), .inl i] ∧ (pz_ic M) := by
      have hpre : (match (generalizing := false) a with | [.inr (.inr (4, k)), .inr (.inr (0, c)), .inl i] => pz_ic M | _ => False) := hpre
      split at hpre
      · exact ⟨_, _, _, rfl, hpre⟩
      · exact hpre.elim
    obtain ⟨k_k, hc_k⟩ := pz_tlm hcan
    have k_k : pz_kd k = 4 ∧ k < 231 := k_k
    have R_k := pz_kd4 k_k.1
    subst R_k
    obtain ⟨k_c, hc_c⟩ := pz_tlm hc_k
    have k_c : pz_kd c = 0 ∧ c < 231 := k_c
    have R_c := pz_kd0 k_c.1
    obtain ⟨k_i, hc_i⟩ := pz_tlm hc_c
    have l_i : -2147483648 ≤ i := k_i.1
    have u_i : i ≤ 2147483647 := k_i.2
    have hI : pz_ic M := hpre
    have hI0 := hI
    have hS : pq_pr pq_Pk M M := pq_pr.rf
    have L33 : ∀ (fu : Nat) (x3 : Int) (x4 : Int) (x5 : Int) (x6 : Int) (x7 : Int) (x8 : Int) (d9 : Option pz_V) (d10 : Option pz_V) (N33 : pz_M), x8.toNat < fu → (pq_pr pq_Pk M N33) → (x8 ≤ 2147483647) → (c = 71 → ∀ (ls : List pz_lne) (F : Nat → Int) (d : Nat), sd_se M 71 F → sd_wf F → sd_ar M ls F d (F 88) → (sd_sp N33 ls F d ∧ sd_ar N33 ls F d (F 88)) ∧ (x3 = (sd_cC F : Int) ∧ pz_zs x4 (sd_bn F) ∧ 0 ≤ x8) ∧ sd_bcE ls F d i x5 x6 x7 x8 0) → Ok 33 [some (.inr (.inr (4, 6))), some (.inr (.inr (0, c))), some (.inl i), some (.inl x3), some (.inl x4), some (.inl x5), some (.inl x6), some (.inl x7), some (.inl x8), d9, d10] [] N33 := by
      intro fu
      induction fu with
      | zero => exact fun _ _ _ _ _ _ _ _ _ hn => absurd hn (Nat.not_lt_zero _)
      | succ fu ih33 =>
        intro x3 x4 x5 x6 x7 x8 d9 d10 N33 hn33 hS g33_1 g33_2
        have hI : pz_ic N33 := hS.1 hI0
        have hS33 := hS
        have L114 : ∀ (x3 : Int) (x4 : Int) (x5 : Int) (x6 : Int) (x7 : Int) (x8 : Int) (d9 : Option pz_V) (d10 : Option pz_V) (N114 : pz_M), (pq_pr pq_Pk M N114) → (0 < x8) → (x8 ≤ 2147483647) → (x8.toNat < fu + 1) → (c = 71 → ∀ (ls : List pz_lne) (F : Nat → Int) (d : Nat), sd_se M 71 F → sd_wf F → sd_ar M ls F d (F 88) → (sd_sp N114 ls F d ∧ sd_ar N114 ls F d (F 88)) ∧ (x3 = (sd_cC F : Int) ∧ pz_zs x4 (sd_bn F) ∧ 0 ≤ x8) ∧ sd_bcE ls F d i x5 x6 x7 x8 1) → Ok 114 [some (.inr (.inr (4, 6))), some (.inr (.inr (0, c))), some (.inl i), some (.inl x3), some (.inl x4), some (.inl x5), some (.inl x6), some (.inl x7), some (.inl x8), d9, d10] [] N114 := by
          intro x3 x4 x5 x6 x7 x8 d9 d10 N114 hS g114_1 g114_2 g114_3 g114_4
          have hI : pz_ic N114 := hS.1 hI0
          refine hgo (fun p => Nat.beq p 33 || Nat.beq p 114) 71 114 _ _ _ ?_
          intro v117 e117 a117 b117
          intro v119 e119 a119 b119
          intro v122 e122 a122 b122
          rw [pz_wi (by omega) (by omega)] at e122
          have G33 : c = 71 → ∀ (ls : List pz_lne) (F : Nat → Int) (d : Nat), sd_se M 71 F → sd_wf F → sd_ar M ls F d (F 88) → (sd_sp N114 ls F d ∧ sd_ar N114 ls F d (F 88)) ∧ (x3 = (sd_cC F : Int) ∧ pz_zs x4 (sd_bn F) ∧ 0 ≤ v122) ∧ sd_bcE ls F d i x5 x6 v119 v122 0 := fun c9 ls F d s w a => by
            obtain ⟨p1, ⟨p3, p4, p5⟩, p6⟩ := (by assumption : c = 71 → ∀ (ls : List pz_lne) (F : Nat → Int) (d : Nat), sd_se M 71 F → sd_wf F → sd_ar M ls F d (F 88) → (sd_sp N114 ls F d ∧ sd_ar N114 ls F d (F 88)) ∧ (x3 = (sd_cC F : Int) ∧ pz_zs x4 (sd_bn F) ∧ 0 ≤ x8) ∧ sd_bcE ls F d i x5 x6 x7 x8 1) c9 ls F d s w a
            exact ⟨p1, ⟨p3, p4, by omega⟩, sd_bcE_s p6 p3 e117 e119 (by omega)⟩
          exact ih33 _ _ _ _ _ _ _ _ _ (by omega) hS (by first | omega | assumption) (by first | omega | assumption)
        refine hgo (fun p => Nat.beq p 33 || Nat.beq p 114) 71 33 _ _ _ ?_
        refine And.intro (fun h35 => ?_) (fun h35 => ?_)
        · skip
          refine And.intro rfl ?_
          refine ⟨fun c9 ls F d s w a => ?_, hS⟩
          obtain ⟨⟨p1, p2⟩, ⟨p3, p4, p5⟩, p6⟩ := (by assumption : c = 71 → ∀ (ls : List pz_lne) (F : Nat → Int) (d : Nat), sd_se M 71 F → sd_wf F → sd_ar M ls F d (F 88) → (sd_sp N33 ls F d ∧ sd_ar N33 ls F d (F 88)) ∧ (x3 = (sd_cC F : Int) ∧ pz_zs x4 (sd_bn F) ∧ 0 ≤ x8) ∧ sd_bcE ls F d i x5 x6 x7 x8 0) c9 ls F d s w a
          exact ⟨sd_bcE_z p6 (by omega), p2⟩
        · skip
          intro v44 e44 a44 b44
          refine And.intro (hI) ?_
          intro v45 M45 a45 b45 q45
          obtain ⟨q45, z45⟩ := q45
          subst z45
          refine And.intro (fun h49 => ?_) (fun h49 => ?_)
          · skip
            have G114 : c = 71 → ∀ (ls : List pz_lne) (F : Nat → Int) (d : Nat), sd_se M 71 F → sd_wf F → sd_ar M ls F d (F 88) → (sd_sp N33 ls F d ∧ sd_ar N33 ls F d (F 88)) ∧ (x3 = (sd_cC F : Int) ∧ pz_zs x4 (sd_bn F) ∧ 0 ≤ x8) ∧ sd_bcE ls F d i x5 x6 x7 x8 1 := fun c9 ls F d s w a => by
              obtain ⟨⟨p1, p2⟩, ⟨p3, p4, p5⟩, p6⟩ := (by assumption : c = 71 → ∀ (ls : List pz_lne) (F : Nat → Int) (d : Nat), sd_se M 71 F → sd_wf F → sd_ar M ls F d (F 88) → (sd_sp N33 ls F d ∧ sd_ar N33 ls F d (F 88)) ∧ (x3 = (sd_cC F : Int) ∧ pz_zs x4 (sd_bn F) ∧ 0 ≤ x8) ∧ sd_bcE ls F d i x5 x6 x7 x8 0) c9 ls F d s w a
              have pb := sd_bcE_b p6
              subst c9
              have s2 := sd_se_k s w hS33
              have o := q45 rfl ls F d (sd_bu F x7.toNat) s2 w p1 (sd_bu_z (u := x7.toNat) p4 (by omega) (by rw [show ((x7.toNat : Nat) : Int) = x7 by omega]; exact e44))
              refine ⟨⟨p1, p2⟩, ⟨p3, p4, p5⟩, sd_bcE_n p6 (fun z => ?_)⟩
              have z1 := z.1
              omega
            exact L114 _ _ _ _ _ _ _ _ _ hS (by first | omega | assumption) (by first | omega | assumption) (by first | omega | assumption) (by first | omega | assumption)
          · skip
            skip
            refine And.intro (hI) ?_
            intro v56 M56 a56 b56 q56
            obtain ⟨q56, z56⟩ := q56
            subst z56
            refine And.intro (True.intro) ?_
            intro v63 M63 a63 b63 q63
            obtain ⟨q63, z63⟩ := q63
            subst z63
            refine And.intro (True.intro) ?_
            intro v68 M68 a68 b68 q68
            obtain ⟨q68, z68⟩ := q68
            subst z68
            refine And.intro (fun h71 => ?_) (fun h71 => ?_)
            · skip
              refine And.intro (fun h84 => ?_) (fun h84 => ?_)
              · skip
                have G114 : c = 71 → ∀ (ls : List pz_lne) (F : Nat → Int) (d : Nat), sd_se M 71 F → sd_wf F → sd_ar M ls F d (F 88) → (sd_sp N33 ls F d ∧ sd_ar N33 ls F d (F 88)) ∧ (x3 = (sd_cC F : Int) ∧ pz_zs x4 (sd_bn F) ∧ 0 ≤ x8) ∧ sd_bcE ls F d i x7 v56 x7 x8 1 := fun c9 ls F d s w a => by
                  obtain ⟨⟨p1, p2⟩, ⟨p3, p4, p5⟩, p6⟩ := (by assumption : c = 71 → ∀ (ls : List pz_lne) (F : Nat → Int) (d : Nat), sd_se M 71 F → sd_wf F → sd_ar M ls F d (F 88) → (sd_sp N33 ls F d ∧ sd_ar N33 ls F d (F 88)) ∧ (x3 = (sd_cC F : Int) ∧ pz_zs x4 (sd_bn F) ∧ 0 ≤ x8) ∧ sd_bcE ls F d i x5 x6 x7 x8 0) c9 ls F d s w a
                  have pb := sd_bcE_b p6
                  subst c9
                  have s2 := sd_se_k s w hS33
                  have o := q45 rfl ls F d (sd_bu F x7.toNat) s2 w p1 (sd_bu_z (u := x7.toNat) p4 (by omega) (by rw [show ((x7.toNat : Nat) : Int) = x7 by omega]; exact e44))
                  have kc := q56 rfl ls F d x7.toNat s2 w p2 (by omega) (by omega)
                  have c63 := q63 _ (sd_zsn pb.2.1 pb.2.2)
                  refine ⟨⟨p1, p2⟩, ⟨p3, p4, p5⟩, sd_bcE_y p6 (by omega) ?_ kc⟩
                  obtain ⟨r, h1, h2, h3, h4⟩ := p6
                  exact Or.inl (by omega)
                exact L114 _ _ _ _ _ _ _ _ _ hS (by first | omega | assumption) (by first | omega | assumption) (by first | omega | assumption) (by first | omega | assumption)
              · skip
                skip
                refine And.intro (fun h91 => ?_) (fun h91 => ?_)
                · skip
                  have G114 : c = 71 → ∀ (ls : List pz_lne) (F : Nat → Int) (d : Nat), sd_se M 71 F → sd_wf F → sd_ar M ls F d (F 88) → (sd_sp N33 ls F d ∧ sd_ar N33 ls F d (F 88)) ∧ (x3 = (sd_cC F : Int) ∧ pz_zs x4 (sd_bn F) ∧ 0 ≤ x8) ∧ sd_bcE ls F d i x7 v56 x7 x8 1 := fun c9 ls F d s w a => by
                    obtain ⟨⟨p1, p2⟩, ⟨p3, p4, p5⟩, p6⟩ := (by assumption : c = 71 → ∀ (ls : List pz_lne) (F : Nat → Int) (d : Nat), sd_se M 71 F → sd_wf F → sd_ar M ls F d (F 88) → (sd_sp N33 ls F d ∧ sd_ar N33 ls F d (F 88)) ∧ (x3 = (sd_cC F : Int) ∧ pz_zs x4 (sd_bn F) ∧ 0 ≤ x8) ∧ sd_bcE ls F d i x5 x6 x7 x8 0) c9 ls F d s w a
                    have pb := sd_bcE_b p6
                    subst c9
                    have s2 := sd_se_k s w hS33
                    have o := q45 rfl ls F d (sd_bu F x7.toNat) s2 w p1 (sd_bu_z (u := x7.toNat) p4 (by omega) (by rw [show ((x7.toNat : Nat) : Int) = x7 by omega]; exact e44))
                    have kc := q56 rfl ls F d x7.toNat s2 w p2 (by omega) (by omega)
                    have c63 := q63 _ (sd_zsn pb.2.1 pb.2.2)
                    refine ⟨⟨p1, p2⟩, ⟨p3, p4, p5⟩, sd_bcE_y p6 (by omega) ?_ kc⟩
                    obtain ⟨r, h1, h2, h3, h4⟩ := p6
                    have k5 := h4 (by omega)
                    exact Or.inr (Or.inl (by omega))
                  exact L114 _ _ _ _ _ _ _ _ _ hS (by first | omega | assumption) (by first | omega | assumption) (by first | omega | assumption) (by first | omega | assumption)
                · skip
                  skip
                  refine And.intro (fun h98 => ?_) (fun h98 => ?_)
                  · skip
                    have G114 : c = 71 → ∀ (ls : List pz_lne) (F : Nat → Int) (d : Nat), sd_se M 71 F → sd_wf F → sd_ar M ls F d (F 88) → (sd_sp N33 ls F d ∧ sd_ar N33 ls F d (F 88)) ∧ (x3 = (sd_cC F : Int) ∧ pz_zs x4 (sd_bn F) ∧ 0 ≤ x8) ∧ sd_bcE ls F d i x5 x6 x7 x8 1 := fun c9 ls F d s w a => by
                      obtain ⟨⟨p1, p2⟩, ⟨p3, p4, p5⟩, p6⟩ := (by assumption : c = 71 → ∀ (ls : List pz_lne) (F : Nat → Int) (d : Nat), sd_se M 71 F → sd_wf F → sd_ar M ls F d (F 88) → (sd_sp N33 ls F d ∧ sd_ar N33 ls F d (F 88)) ∧ (x3 = (sd_cC F : Int) ∧ pz_zs x4 (sd_bn F) ∧ 0 ≤ x8) ∧ sd_bcE ls F d i x5 x6 x7 x8 0) c9 ls F d s w a
                      have pb := sd_bcE_b p6
                      subst c9
                      have s2 := sd_se_k s w hS33
                      have o := q45 rfl ls F d (sd_bu F x7.toNat) s2 w p1 (sd_bu_z (u := x7.toNat) p4 (by omega) (by rw [show ((x7.toNat : Nat) : Int) = x7 by omega]; exact e44))
                      refine ⟨⟨p1, p2⟩, ⟨p3, p4, p5⟩, sd_bcE_n p6 (fun z => ?_)⟩
                      have kc := q56 rfl ls F d x7.toNat s2 w p2 (by omega) (by omega)
                      have c63 := q63 _ (sd_zsn pb.2.1 pb.2.2)
                      obtain ⟨r, h1, h2, h3, h4⟩ := p6
                      obtain ⟨z1, z2⟩ := z
                      by_cases y : x5 = -1
                      · omega
                      · have k5 := h4 y
                        have c68 := q68 _ (sd_zsn (v := x5) (by omega) (by omega))
                        rcases z2 with z2 | z2 | z2
                        · omega
                        · omega
                        · omega
                    exact L114 _ _ _ _ _ _ _ _ _ hS (by first | omega | assumption) (by first | omega | assumption) (by first | omega | assumption) (by first | omega | assumption)
                  · skip
                    skip
                    refine And.intro (fun h103 => ?_) (fun h103 => ?_)
                    · skip
                      have G114 : c = 71 → ∀ (ls : List pz_lne) (F : Nat → Int) (d : Nat), sd_se M 71 F → sd_wf F → sd_ar M ls F d (F 88) → (sd_sp N33 ls F d ∧ sd_ar N33 ls F d (F 88)) ∧ (x3 = (sd_cC F : Int) ∧ pz_zs x4 (sd_bn F) ∧ 0 ≤ x8) ∧ sd_bcE ls F d i x5 x6 x7 x8 1 := fun c9 ls F d s w a => by
                        obtain ⟨⟨p1, p2⟩, ⟨p3, p4, p5⟩, p6⟩ := (by assumption : c = 71 → ∀ (ls : List pz_lne) (F : Nat → Int) (d : Nat), sd_se M 71 F → sd_wf F → sd_ar M ls F d (F 88) → (sd_sp N33 ls F d ∧ sd_ar N33 ls F d (F 88)) ∧ (x3 = (sd_cC F : Int) ∧ pz_zs x4 (sd_bn F) ∧ 0 ≤ x8) ∧ sd_bcE ls F d i x5 x6 x7 x8 0) c9 ls F d s w a
                        have pb := sd_bcE_b p6
                        subst c9
                        have s2 := sd_se_k s w hS33
                        have o := q45 rfl ls F d (sd_bu F x7.toNat) s2 w p1 (sd_bu_z (u := x7.toNat) p4 (by omega) (by rw [show ((x7.toNat : Nat) : Int) = x7 by omega]; exact e44))
                        refine ⟨⟨p1, p2⟩, ⟨p3, p4, p5⟩, sd_bcE_n p6 (fun z => ?_)⟩
                        have kc := q56 rfl ls F d x7.toNat s2 w p2 (by omega) (by omega)
                        have c63 := q63 _ (sd_zsn pb.2.1 pb.2.2)
                        obtain ⟨r, h1, h2, h3, h4⟩ := p6
                        obtain ⟨z1, z2⟩ := z
                        by_cases y : x5 = -1
                        · omega
                        · have k5 := h4 y
                          have c68 := q68 _ (sd_zsn (v := x5) (by omega) (by omega))
                          rcases z2 with z2 | z2 | z2
                          · omega
                          · omega
                          · omega
                      exact L114 _ _ _ _ _ _ _ _ _ hS (by first | omega | assumption) (by first | omega | assumption) (by first | omega | assumption) (by first | omega | assumption)
                    · skip
                      have G114 : c = 71 → ∀ (ls : List pz_lne) (F : Nat → Int) (d : Nat), sd_se M 71 F → sd_wf F → sd_ar M ls F d (F 88) → (sd_sp N33 ls F d ∧ sd_ar N33 ls F d (F 88)) ∧ (x3 = (sd_cC F : Int) ∧ pz_zs x4 (sd_bn F) ∧ 0 ≤ x8) ∧ sd_bcE ls F d i x7 v56 x7 x8 1 := fun c9 ls F d s w a => by
                        obtain ⟨⟨p1, p2⟩, ⟨p3, p4, p5⟩, p6⟩ := (by assumption : c = 71 → ∀ (ls : List pz_lne) (F : Nat → Int) (d : Nat), sd_se M 71 F → sd_wf F → sd_ar M ls F d (F 88) → (sd_sp N33 ls F d ∧ sd_ar N33 ls F d (F 88)) ∧ (x3 = (sd_cC F : Int) ∧ pz_zs x4 (sd_bn F) ∧ 0 ≤ x8) ∧ sd_bcE ls F d i x5 x6 x7 x8 0) c9 ls F d s w a
                        have pb := sd_bcE_b p6
                        subst c9
                        have s2 := sd_se_k s w hS33
                        have o := q45 rfl ls F d (sd_bu F x7.toNat) s2 w p1 (sd_bu_z (u := x7.toNat) p4 (by omega) (by rw [show ((x7.toNat : Nat) : Int) = x7 by omega]; exact e44))
                        have kc := q56 rfl ls F d x7.toNat s2 w p2 (by omega) (by omega)
                        have c63 := q63 _ (sd_zsn pb.2.1 pb.2.2)
                        refine ⟨⟨p1, p2⟩, ⟨p3, p4, p5⟩, sd_bcE_y p6 (by omega) ?_ kc⟩
                        obtain ⟨r, h1, h2, h3, h4⟩ := p6
                        by_cases y : x5 = -1
                        · exact Or.inl y
                        · have k5 := h4 y
                          have c68 := q68 _ (sd_zsn (v := x5) (by omega) (by omega))
                          first
                            | exact Or.inr (Or.inr ⟨by omega, by omega⟩)
                            | (exfalso; omega)
                      exact L114 _ _ _ _ _ _ _ _ _ hS (by first | omega | assumption) (by first | omega | assumption) (by first | omega | assumption) (by first | omega | assumption)
            · skip
              refine And.intro (fun h84 => ?_) (fun h84 => ?_)
              · skip
                have G114 : c = 71 → ∀ (ls : List pz_lne) (F : Nat → Int) (d : Nat), sd_se M 71 F → sd_wf F → sd_ar M ls F d (F 88) → (sd_sp N33 ls F d ∧ sd_ar N33 ls F d (F 88)) ∧ (x3 = (sd_cC F : Int) ∧ pz_zs x4 (sd_bn F) ∧ 0 ≤ x8) ∧ sd_bcE ls F d i x7 v56 x7 x8 1 := fun c9 ls F d s w a => by
                  obtain ⟨⟨p1, p2⟩, ⟨p3, p4, p5⟩, p6⟩ := (by assumption : c = 71 → ∀ (ls : List pz_lne) (F : Nat → Int) (d : Nat), sd_se M 71 F → sd_wf F → sd_ar M ls F d (F 88) → (sd_sp N33 ls F d ∧ sd_ar N33 ls F d (F 88)) ∧ (x3 = (sd_cC F : Int) ∧ pz_zs x4 (sd_bn F) ∧ 0 ≤ x8) ∧ sd_bcE ls F d i x5 x6 x7 x8 0) c9 ls F d s w a
                  have pb := sd_bcE_b p6
                  subst c9
                  have s2 := sd_se_k s w hS33
                  have o := q45 rfl ls F d (sd_bu F x7.toNat) s2 w p1 (sd_bu_z (u := x7.toNat) p4 (by omega) (by rw [show ((x7.toNat : Nat) : Int) = x7 by omega]; exact e44))
                  have kc := q56 rfl ls F d x7.toNat s2 w p2 (by omega) (by omega)
                  have c63 := q63 _ (sd_zsn pb.2.1 pb.2.2)
                  refine ⟨⟨p1, p2⟩, ⟨p3, p4, p5⟩, sd_bcE_y p6 (by omega) ?_ kc⟩
                  obtain ⟨r, h1, h2, h3, h4⟩ := p6
                  exact Or.inl (by omega)
                exact L114 _ _ _ _ _ _ _ _ _ hS (by first | omega | assumption) (by first | omega | assumption) (by first | omega | assumption) (by first | omega | assumption)
              · skip
                skip
                refine And.intro (fun h91 => ?_) (fun h91 => ?_)
                · skip
                  have G114 : c = 71 → ∀ (ls : List pz_lne) (F : Nat → Int) (d : Nat), sd_se M 71 F → sd_wf F → sd_ar M ls F d (F 88) → (sd_sp N33 ls F d ∧ sd_ar N33 ls F d (F 88)) ∧ (x3 = (sd_cC F : Int) ∧ pz_zs x4 (sd_bn F) ∧ 0 ≤ x8) ∧ sd_bcE ls F d i x7 v56 x7 x8 1 := fun c9 ls F d s w a => by
                    obtain ⟨⟨p1, p2⟩, ⟨p3, p4, p5⟩, p6⟩ := (by assumption : c = 71 → ∀ (ls : List pz_lne) (F : Nat → Int) (d : Nat), sd_se M 71 F → sd_wf F → sd_ar M ls F d (F 88) → (sd_sp N33 ls F d ∧ sd_ar N33 ls F d (F 88)) ∧ (x3 = (sd_cC F : Int) ∧ pz_zs x4 (sd_bn F) ∧ 0 ≤ x8) ∧ sd_bcE ls F d i x5 x6 x7 x8 0) c9 ls F d s w a
                    have pb := sd_bcE_b p6
                    subst c9
                    have s2 := sd_se_k s w hS33
                    have o := q45 rfl ls F d (sd_bu F x7.toNat) s2 w p1 (sd_bu_z (u := x7.toNat) p4 (by omega) (by rw [show ((x7.toNat : Nat) : Int) = x7 by omega]; exact e44))
                    have kc := q56 rfl ls F d x7.toNat s2 w p2 (by omega) (by omega)
                    have c63 := q63 _ (sd_zsn pb.2.1 pb.2.2)
                    refine ⟨⟨p1, p2⟩, ⟨p3, p4, p5⟩, sd_bcE_y p6 (by omega) ?_ kc⟩
                    obtain ⟨r, h1, h2, h3, h4⟩ := p6
                    have k5 := h4 (by omega)
                    exact Or.inr (Or.inl (by omega))
                  exact L114 _ _ _ _ _ _ _ _ _ hS (by first | omega | assumption) (by first | omega | assumption) (by first | omega | assumption) (by first | omega | assumption)
                · skip
                  skip
                  refine And.intro (fun h98 => ?_) (fun h98 => ?_)
                  · skip
                    have G114 : c = 71 → ∀ (ls : List pz_lne) (F : Nat → Int) (d : Nat), sd_se M 71 F → sd_wf F → sd_ar M ls F d (F 88) → (sd_sp N33 ls F d ∧ sd_ar N33 ls F d (F 88)) ∧ (x3 = (sd_cC F : Int) ∧ pz_zs x4 (sd_bn F) ∧ 0 ≤ x8) ∧ sd_bcE ls F d i x5 x6 x7 x8 1 := fun c9 ls F d s w a => by
                      obtain ⟨⟨p1, p2⟩, ⟨p3, p4, p5⟩, p6⟩ := (by assumption : c = 71 → ∀ (ls : List pz_lne) (F : Nat → Int) (d : Nat), sd_se M 71 F → sd_wf F → sd_ar M ls F d (F 88) → (sd_sp N33 ls F d ∧ sd_ar N33 ls F d (F 88)) ∧ (x3 = (sd_cC F : Int) ∧ pz_zs x4 (sd_bn F) ∧ 0 ≤ x8) ∧ sd_bcE ls F d i x5 x6 x7 x8 0) c9 ls F d s w a
                      have pb := sd_bcE_b p6
                      subst c9
                      have s2 := sd_se_k s w hS33
                      have o := q45 rfl ls F d (sd_bu F x7.toNat) s2 w p1 (sd_bu_z (u := x7.toNat) p4 (by omega) (by rw [show ((x7.toNat : Nat) : Int) = x7 by omega]; exact e44))
                      refine ⟨⟨p1, p2⟩, ⟨p3, p4, p5⟩, sd_bcE_n p6 (fun z => ?_)⟩
                      have kc := q56 rfl ls F d x7.toNat s2 w p2 (by omega) (by omega)
                      have c63 := q63 _ (sd_zsn pb.2.1 pb.2.2)
                      obtain ⟨r, h1, h2, h3, h4⟩ := p6
                      obtain ⟨z1, z2⟩ := z
                      by_cases y : x5 = -1
                      · omega
                      · have k5 := h4 y
                        have c68 := q68 _ (sd_zsn (v := x5) (by omega) (by omega))
                        rcases z2 with z2 | z2 | z2
                        · omega
                        · omega
                        · omega
                    exact L114 _ _ _ _ _ _ _ _ _ hS (by first | omega | assumption) (by first | omega | assumption) (by first | omega | assumption) (by first | omega | assumption)
                  · skip
                    skip
                    refine And.intro (fun h103 => ?_) (fun h103 => ?_)
                    · skip
                      have G114 : c = 71 → ∀ (ls : List pz_lne) (F : Nat → Int) (d : Nat), sd_se M 71 F → sd_wf F → sd_ar M ls F d (F 88) → (sd_sp N33 ls F d ∧ sd_ar N33 ls F d (F 88)) ∧ (x3 = (sd_cC F : Int) ∧ pz_zs x4 (sd_bn F) ∧ 0 ≤ x8) ∧ sd_bcE ls F d i x5 x6 x7 x8 1 := fun c9 ls F d s w a => by
                        obtain ⟨⟨p1, p2⟩, ⟨p3, p4, p5⟩, p6⟩ := (by assumption : c = 71 → ∀ (ls : List pz_lne) (F : Nat → Int) (d : Nat), sd_se M 71 F → sd_wf F → sd_ar M ls F d (F 88) → (sd_sp N33 ls F d ∧ sd_ar N33 ls F d (F 88)) ∧ (x3 = (sd_cC F : Int) ∧ pz_zs x4 (sd_bn F) ∧ 0 ≤ x8) ∧ sd_bcE ls F d i x5 x6 x7 x8 0) c9 ls F d s w a
                        have pb := sd_bcE_b p6
                        subst c9
                        have s2 := sd_se_k s w hS33
                        have o := q45 rfl ls F d (sd_bu F x7.toNat) s2 w p1 (sd_bu_z (u := x7.toNat) p4 (by omega) (by rw [show ((x7.toNat : Nat) : Int) = x7 by omega]; exact e44))
                        refine ⟨⟨p1, p2⟩, ⟨p3, p4, p5⟩, sd_bcE_n p6 (fun z => ?_)⟩
                        have kc := q56 rfl ls F d x7.toNat s2 w p2 (by omega) (by omega)
                        have c63 := q63 _ (sd_zsn pb.2.1 pb.2.2)
                        obtain ⟨r, h1, h2, h3, h4⟩ := p6
                        obtain ⟨z1, z2⟩ := z
                        by_cases y : x5 = -1
                        · omega
                        · have k5 := h4 y
                          have c68 := q68 _ (sd_zsn (v := x5) (by omega) (by omega))
                          rcases z2 with z2 | z2 | z2
                          · omega
                          · omega
                          · omega
                      exact L114 _ _ _ _ _ _ _ _ _ hS (by first | omega | assumption) (by first | omega | assumption) (by first | omega | assumption) (by first | omega | assumption)
                    · skip
                      have G114 : c = 71 → ∀ (ls : List pz_lne) (F : Nat → Int) (d : Nat), sd_se M 71 F → sd_wf F → sd_ar M ls F d (F 88) → (sd_sp N33 ls F d ∧ sd_ar N33 ls F d (F 88)) ∧ (x3 = (sd_cC F : Int) ∧ pz_zs x4 (sd_bn F) ∧ 0 ≤ x8) ∧ sd_bcE ls F d i x7 v56 x7 x8 1 := fun c9 ls F d s w a => by
                        obtain ⟨⟨p1, p2⟩, ⟨p3, p4, p5⟩, p6⟩ := (by assumption : c = 71 → ∀ (ls : List pz_lne) (F : Nat → Int) (d : Nat), sd_se M 71 F → sd_wf F → sd_ar M ls F d (F 88) → (sd_sp N33 ls F d ∧ sd_ar N33 ls F d (F 88)) ∧ (x3 = (sd_cC F : Int) ∧ pz_zs x4 (sd_bn F) ∧ 0 ≤ x8) ∧ sd_bcE ls F d i x5 x6 x7 x8 0) c9 ls F d s w a
                        have pb := sd_bcE_b p6
                        subst c9
                        have s2 := sd_se_k s w hS33
                        have o := q45 rfl ls F d (sd_bu F x7.toNat) s2 w p1 (sd_bu_z (u := x7.toNat) p4 (by omega) (by rw [show ((x7.toNat : Nat) : Int) = x7 by omega]; exact e44))
                        have kc := q56 rfl ls F d x7.toNat s2 w p2 (by omega) (by omega)
                        have c63 := q63 _ (sd_zsn pb.2.1 pb.2.2)
                        refine ⟨⟨p1, p2⟩, ⟨p3, p4, p5⟩, sd_bcE_y p6 (by omega) ?_ kc⟩
                        obtain ⟨r, h1, h2, h3, h4⟩ := p6
                        by_cases y : x5 = -1
                        · exact Or.inl y
                        · have k5 := h4 y
                          have c68 := q68 _ (sd_zsn (v := x5) (by omega) (by omega))
                          first
                            | exact Or.inr (Or.inr ⟨by omega, by omega⟩)
                            | (exfalso; omega)
                      exact L114 _ _ _ _ _ _ _ _ _ hS (by first | omega | assumption) (by first | omega | assumption) (by first | omega | assumption) (by first | omega | assumption)
    refine hgo (fun p => Nat.beq p 33 || Nat.beq p 114) 71 0 _ [] M ?_
    refine And.intro (hI) ?_
    intro v1 M1 a1 b1 q1
    obtain ⟨q1, z1⟩ := q1
    subst z1
    refine And.intro (hI) ?_
    intro v6 M6 a6 b6 q6
    obtain ⟨q6, z6⟩ := q6
    subst z6
    refine And.intro (hI) ?_
    intro M19 q19
    obtain ⟨q19, z19⟩ := q19
    have hS : pq_pr pq_Pk M M19 := hS.tr z19
    have hI : pz_ic M19 := hS.1 hI0
    have G19 : c = 71 → ∀ (ls : List pz_lne) (F : Nat → Int) (d : Nat), sd_se M 71 F → sd_wf F → sd_ar M ls F d (F 88) → (sd_sp M19 ls F d ∧ sd_ar M19 ls F d (F 88)) ∧ v1 = (sd_cC F : Int) ∧ pz_zs v6 (sd_bn F) := fun c9 ls F d s w a => by
      subst c9
      have ar : sd_ar M19 ls F d (F 88) := sd_ar_cg a (fun b j h1 h2 => q19.1 b j (by omega))
      exact ⟨⟨q19.2 rfl ls F d s w a.al, ar⟩, sd_cC_z w (q1 F s w), q6 F s w⟩
    refine And.intro (True.intro) ?_
    intro v27 M27 a27 b27 q27
    obtain ⟨q27, z27⟩ := q27
    subst z27
    intro v30 e30 a30 b30
    have G33 : c = 71 → ∀ (ls : List pz_lne) (F : Nat → Int) (d : Nat), sd_se M 71 F → sd_wf F → sd_ar M ls F d (F 88) → (sd_sp M19 ls F d ∧ sd_ar M19 ls F d (F 88)) ∧ (v1 = (sd_cC F : Int) ∧ pz_zs v6 (sd_bn F) ∧ 0 ≤ v30) ∧ sd_bcE ls F d i (-1) 0 0 v30 0 := fun c9 ls F d s w a => by
      obtain ⟨p1, p2, p3⟩ := G19 c9 ls F d s w a
      have q := q27
      rw [p2] at q
      have e := sd_bcE_0 (ls := ls) (d := d) (h := i) q e30
      exact ⟨p1, ⟨p2, p3, e.2⟩, e.1⟩
    exact L33 _ _ _ _ _ _ _ _ _ _ (Nat.lt_succ_self _) hS (by first | omega | assumption) (by first | omega | assumption)
theorem v4_X4_cheapestBridges {fr lo i : Nat} {own : String} (h1 : 3 + 1 ≤ fr) (h2 : 8 + (11 + 11) + 70 ≤ lo) (h3 : .methodLink own i yX4_cheapestBridges ∈ lw_tbl) : pz_cV fr lo own i k4_X4_cheapestBridges :=
  pz_cVk (maxL := 11) (fr' := 3) (lo' := 70) 2 4 h4_X4_cheapestBridges rfl ⟨by decide +kernel, by decide +kernel, by decide +kernel⟩ ⟨(pz_mt 939 (by decide +kernel)), (pz_mt 937 (by decide +kernel)), (pz_mt 938 (by decide +kernel)), (pz_mt 11 (by decide +kernel))⟩ (Or.inl ⟨TX4, 5, rfl⟩) (fun a M _ h => by
    have h : (match (generalizing := false) a with | [.inr (.inr (4, k)), .inr (.inr (0, c)), .inl i] => pz_ic M | _ => False) := h
    split at h
    · exact ⟨_, _, rfl⟩
    · exact h.elim) h1 h2 h3
def k4_X11_bridges : pz_C := (4, 1, fun a M => (match a with | [.inr (.inr (11, th)), .inl d, .inl h, .inl w] => pz_ic M | _ => False), fun a M r M' => (match a, r with | [.inr (.inr (11, th)), .inl d, .inl h, .inl w], some (.inl v) => (sd_wc M v (fun ls F => sd_brv ls F d h w)) ∧ pq_pr pq_Pk M M' | _, _ => False))
abbrev ct4_X11_bridges : List (Bool × Nat × pz_C) := [(false, 137, k_X11_within), (true, 255, k4_X4_reckon), (true, 276, k4_X4_cheapestBridges), (true, 280, k3_X4_costOf)]
set_option maxRecDepth 100000 in
set_option maxHeartbeats 4000000 in
theorem h4_X11_bridges : pz_H yX11_bridges cX11_bridges 5 (some .int) k4_X11_bridges 5 120 := by
  refine pz_mk (own := RX11) (tb := t_X11_bridges) (fl := pz_flf fl_RX11) (ci := pz_cif ci_RX11) (ct := pz_ctf ct4_X11_bridges) (rz := false) (by decide +kernel) rfl t_X11_bridges_ok (pz_flk fl_RX11_ok) (pz_cik ci_RX11_ok) ?_ ?_ (Or.inl ⟨rfl, rfl⟩) ?_ ?_
  · exact fun i k' h => pz_ctk (l := ct4_X11_bridges) (P := fun b i k => b = true → pz_cV 5 120 RX11 i k) (List.forall_mem_cons.mpr ⟨((fun z => by cases z)), List.forall_mem_cons.mpr ⟨(fun _ => v4_X4_reckon (by decide) (by decide) (pz_mt 884 (by decide +kernel))), List.forall_mem_cons.mpr ⟨(fun _ => v4_X4_cheapestBridges (by decide) (by decide) (pz_mt 936 (by decide +kernel))), List.forall_mem_cons.mpr ⟨(fun _ => v3_X4_costOf (by decide) (by decide) (pz_mt 960 (by decide +kernel))), fun _ h => absurd h List.not_mem_nil⟩⟩⟩⟩) true i k' h rfl
  · exact fun i k' h => pz_ctk (l := ct4_X11_bridges) (P := fun b i k => b = false → (pz_cS 5 120 RX11 i k ∨ (k = pz_kac ∧ 1 ≤ 5 ∧ 60 ≤ 120 ∧ Cond.methodLink RX11 i arraycopyName ∈ pz_tbl))) (List.forall_mem_cons.mpr ⟨(fun _ => Or.inl (s_X11_within (by decide) (by decide) (Or.inl (pz_mt 425 (by decide +kernel))))), List.forall_mem_cons.mpr ⟨((fun z => by cases z)), List.forall_mem_cons.mpr ⟨((fun z => by cases z)), List.forall_mem_cons.mpr ⟨((fun z => by cases z)), fun _ h => absurd h List.not_mem_nil⟩⟩⟩⟩) false i k' h rfl
  · intro a M hlen hpre
    obtain ⟨th, d, h, w, rfl, hpre⟩ : ∃ th d h w, a = [.inr (.inr (11, th)), .inl d, .inl h, .inl w] ∧ (pz_ic M) := by
      have hpre : (match (generalizing := false) a with | [.inr (.inr (11, th)), .inl d, .inl h, .inl w] => pz_ic M | _ => False) := hpre
      split at hpre
      · exact ⟨_, _, _, _, rfl, hpre⟩
      · exact hpre.elim
    exact Nat.le_of_ble_eq_true rfl
  · intro a M hlen hcan hM hpre Ok hgo
    obtain ⟨th, d, h, w, rfl, hpre⟩ : ∃ th d h w, a = [.inr (.inr (11, th)), .inl d, .inl h, .inl w] ∧ (pz_ic M) := by
      have hpre : (match (generalizing := false) a with | [.inr (.inr (11, th)), .inl d, .inl h, .inl w] => pz_ic M | _ => False) := hpre
      split at hpre
      · exact ⟨_, _, _, _, rfl, hpre⟩
      · exact hpre.elim
    obtain ⟨k_th, hc_th⟩ := pz_tlm hcan
    have k_th : pz_kd th = 11 ∧ th < 231 := k_th
    have R_th := pz_kd11 k_th.1
    subst R_th
    obtain ⟨k_d, hc_d⟩ := pz_tlm hc_th
    have l_d : -2147483648 ≤ d := k_d.1
    have u_d : d ≤ 2147483647 := k_d.2
    obtain ⟨k_h, hc_h⟩ := pz_tlm hc_d
    have l_h : -2147483648 ≤ h := k_h.1
    have u_h : h ≤ 2147483647 := k_h.2
    obtain ⟨k_w, hc_w⟩ := pz_tlm hc_h
    have l_w : -2147483648 ≤ w := k_w.1
    have u_w : w ≤ 2147483647 := k_w.2
    have hI : pz_ic M := hpre
    have hI0 := hI
    have hS : pq_pr pq_Pk M M := pq_pr.rf
    refine hgo (fun _ => false) 49 0 _ [] M ?_
    refine And.intro (True.intro) ?_
    intro v4 M4 a4 b4 q4
    obtain ⟨q4, z4⟩ := q4
    subst z4
    refine And.intro (fun h7 => ?_) (fun h7 => ?_)
    · skip
      refine And.intro rfl ?_
      refine ⟨fun ls l1 F hT hF hW => ?_, hS⟩
      show _ = sd_brv ls F d h w
      unfold sd_brv
      rw [if_neg (fun z => by
        first
          | (split at q4 <;> omega)
          | (split at q4 <;> split at q15 <;> omega)
          | (split at q4 <;> split at q15 <;> split at q24 <;> omega)
          | omega)]
    · skip
      refine And.intro (True.intro) ?_
      intro v15 M15 a15 b15 q15
      obtain ⟨q15, z15⟩ := q15
      subst z15
      refine And.intro (fun h18 => ?_) (fun h18 => ?_)
      · skip
        refine And.intro rfl ?_
        refine ⟨fun ls l1 F hT hF hW => ?_, hS⟩
        show _ = sd_brv ls F d h w
        unfold sd_brv
        rw [if_neg (fun z => by
          first
            | (split at q4 <;> omega)
            | (split at q4 <;> split at q15 <;> omega)
            | (split at q4 <;> split at q15 <;> split at q24 <;> omega)
            | omega)]
      · skip
        refine And.intro (True.intro) ?_
        intro v24 M24 a24 b24 q24
        obtain ⟨q24, z24⟩ := q24
        subst z24
        refine And.intro (fun h27 => ?_) (fun h27 => ?_)
        · skip
          have GP : (1 ≤ d ∧ d ≤ 60) ∧ (0 ≤ h ∧ h ≤ 1000000) ∧ 0 ≤ w ∧ w ≤ 1 := by
            split at q4 <;> split at q15 <;> split at q24 <;> omega
          refine pz_nrc (c := 6) rfl ?_
          refine pz_nrc (c := 71) rfl ?_
          refine And.intro (hI) ?_
          intro M41 q41
          obtain ⟨q41, z41⟩ := q41
          have hS : pq_pr pq_Pk M M41 := hS.tr z41
          have hI : pz_ic M41 := hS.1 hI0
          have hS41 := hS
          refine pz_nrc (c := 6) rfl ?_
          refine pz_nrc (c := 71) rfl ?_
          refine And.intro (hI) ?_
          intro v53 M53 a53 b53 q53
          obtain ⟨q53, z53⟩ := q53
          have hS : pq_pr pq_Pk M M53 := hS.tr z53
          have hI : pz_ic M53 := hS.1 hI0
          refine And.intro (fun h61 => ?_) (fun h61 => ?_)
          · skip
            refine And.intro rfl ?_
            refine ⟨fun ls l1 F hT hF hW => ?_, hS⟩
            have a := q41 rfl (by omega) ls l1 F hT hF hW
            have b := q53 rfl ls F d.toNat (sd_se_k hF hW hS41) hW a
            have l := sd_bf_b (ls := ls) (F := F) (d := d.toNat) (h := h) (C := sd_cC F) (2 ^ sd_pc 12 (sd_cC F))
            have l2 := sd_cC_l (F := F)
            have b1 : v53 = sd_bbe ls F d.toNat h := b.1
            have l3 : -1 ≤ sd_bbe ls F d.toNat h ∧ sd_bbe ls F d.toNat h ≤ (sd_cC F : Int) := l
            show _ = sd_brv ls F d h w
            unfold sd_brv
            rw [if_pos (by omega), ← b1]
            first
              | (rw [if_pos (by omega)]; done)
              | (have k := q85 rfl ls F d.toNat v53.toNat (sd_se_k hF hW hS) hW b.2 (by omega) (by omega)
                 rw [if_neg (by omega), e88, k])
          · skip
            refine And.intro (fun h66 => ?_) (fun h66 => ?_)
            · skip
              refine pz_nrc (c := 6) rfl ?_
              refine pz_nrc (c := 71) rfl ?_
              refine And.intro (hI) ?_
              intro v85 M85 a85 b85 q85
              obtain ⟨q85, z85⟩ := q85
              subst z85
              intro v88 e88 a88 b88
              refine And.intro rfl ?_
              refine ⟨fun ls l1 F hT hF hW => ?_, hS⟩
              have a := q41 rfl (by omega) ls l1 F hT hF hW
              have b := q53 rfl ls F d.toNat (sd_se_k hF hW hS41) hW a
              have l := sd_bf_b (ls := ls) (F := F) (d := d.toNat) (h := h) (C := sd_cC F) (2 ^ sd_pc 12 (sd_cC F))
              have l2 := sd_cC_l (F := F)
              have b1 : v53 = sd_bbe ls F d.toNat h := b.1
              have l3 : -1 ≤ sd_bbe ls F d.toNat h ∧ sd_bbe ls F d.toNat h ≤ (sd_cC F : Int) := l
              show _ = sd_brv ls F d h w
              unfold sd_brv
              rw [if_pos (by omega), ← b1]
              first
                | (rw [if_pos (by omega)]; done)
                | (have k := q85 rfl ls F d.toNat v53.toNat (sd_se_k hF hW hS) hW b.2 (by omega) (by omega)
                   rw [if_neg (by omega), e88, k])
            · skip
              refine And.intro rfl ?_
              refine ⟨fun ls l1 F hT hF hW => ?_, hS⟩
              have a := q41 rfl (by omega) ls l1 F hT hF hW
              have b := q53 rfl ls F d.toNat (sd_se_k hF hW hS41) hW a
              have l := sd_bf_b (ls := ls) (F := F) (d := d.toNat) (h := h) (C := sd_cC F) (2 ^ sd_pc 12 (sd_cC F))
              have l2 := sd_cC_l (F := F)
              have b1 : v53 = sd_bbe ls F d.toNat h := b.1
              have l3 : -1 ≤ sd_bbe ls F d.toNat h ∧ sd_bbe ls F d.toNat h ≤ (sd_cC F : Int) := l
              show _ = sd_brv ls F d h w
              unfold sd_brv
              rw [if_pos (by omega), ← b1]
              first
                | (rw [if_pos (by omega)]; done)
                | (have k := q85 rfl ls F d.toNat v53.toNat (sd_se_k hF hW hS) hW b.2 (by omega) (by omega)
                   rw [if_neg (by omega), e88, k])
        · skip
          skip
          refine And.intro rfl ?_
          refine ⟨fun ls l1 F hT hF hW => ?_, hS⟩
          show _ = sd_brv ls F d h w
          unfold sd_brv
          rw [if_neg (fun z => by
            first
              | (split at q4 <;> omega)
              | (split at q4 <;> split at q15 <;> omega)
              | (split at q4 <;> split at q15 <;> split at q24 <;> omega)
              | omega)]
theorem v4_X11_bridges {fr lo i : Nat} {own : String} (h1 : 5 + 1 ≤ fr) (h2 : 8 + (5 + 11) + 120 ≤ lo) (h3 : .methodLink own i yX11_bridges ∈ lw_tbl) : pz_cV fr lo own i k4_X11_bridges :=
  pz_cVk (maxL := 5) (fr' := 5) (lo' := 120) 3 11 h4_X11_bridges rfl ⟨by decide +kernel, by decide +kernel, by decide +kernel⟩ ⟨(pz_mt 935 (by decide +kernel)), (pz_mt 933 (by decide +kernel)), (pz_mt 934 (by decide +kernel)), (pz_mt 1 (by decide +kernel))⟩ (Or.inl ⟨TX11, 14, rfl⟩) (fun a M _ h => by
    have h : (match (generalizing := false) a with | [.inr (.inr (11, th)), .inl d, .inl h, .inl w] => pz_ic M | _ => False) := h
    split at h
    · exact ⟨_, _, rfl⟩
    · exact h.elim) h1 h2 h3
