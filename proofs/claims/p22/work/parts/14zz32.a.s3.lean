section
noncomputable def k3_X0_bridgeableOnes : pz_C := (1, 1, fun a M => (match a with | [.inr (.inr (0, c))] => pz_ic M | _ => False), fun a M r M' => (match a, r with | [.inr (.inr (0, c))], some (.inl v) => (sd_q M c (fun F => pz_zs v (fun k => decide (sd_cb F k)))) ∧ M = M' | _, _ => False))
noncomputable abbrev ct3_X0_bridgeableOnes : List (Bool × Nat × pz_C) := [(true, 90, k3_X0_canBridge)]
set_option maxRecDepth 100000 in
set_option maxHeartbeats 4000000 in
theorem h3_X0_bridgeableOnes : pz_H yX0_bridgeableOnes cX0_bridgeableOnes 3 (some .int) k3_X0_bridgeableOnes 2 42 := by
  refine pz_mk (own := RX0) (tb := t_X0_bridgeableOnes) (fl := pz_flf fl_RX0) (ci := pz_cif ci_RX0) (ct := pz_ctf ct3_X0_bridgeableOnes) (rz := false) (pz_pfc_RX0 yX0_bridgeableOnes rfl) rfl t_X0_bridgeableOnes_ok (pz_flk fl_RX0_ok) (pz_cik ci_RX0_ok) ?_ ?_ (Or.inl ⟨rfl, rfl⟩) ?_ ?_
  · exact fun i k' h => pz_ctk (l := ct3_X0_bridgeableOnes) (P := fun b i k => b = true → pz_cV 2 42 RX0 i k) (List.forall_mem_cons.mpr ⟨(fun _ => v3_X0_canBridge (by decide) (by decide) pz_wq944), fun _ h => absurd h List.not_mem_nil⟩) true i k' h rfl
  · exact fun i k' h => pz_ctk (l := ct3_X0_bridgeableOnes) (P := fun b i k => b = false → (pz_cS 2 42 RX0 i k ∨ (k = pz_kac ∧ 1 ≤ 2 ∧ 60 ≤ 42 ∧ Cond.methodLink RX0 i arraycopyName ∈ pz_tbl))) (List.forall_mem_cons.mpr ⟨((fun z => by cases z)), fun _ h => absurd h List.not_mem_nil⟩) false i k' h rfl
  · intro a M hlen hpre
    obtain ⟨c, rfl, hpre⟩ : ∃ c, a = [.inr (.inr (0, c))] ∧ (pz_ic M) := by
      have hpre : (match (generalizing := false) a with | [.inr (.inr (0, c))] => pz_ic M | _ => False) := hpre
      split at hpre
      · exact ⟨_, rfl, hpre⟩
      · exact hpre.elim
    exact Nat.le_of_ble_eq_true rfl
  · intro a M hlen hcan hM hpre Ok hgo
    obtain ⟨c, rfl, hpre⟩ : ∃ c, a = [.inr (.inr (0, c))] ∧ (pz_ic M) := by
      have hpre : (match (generalizing := false) a with | [.inr (.inr (0, c))] => pz_ic M | _ => False) := hpre
      split at hpre
      · exact ⟨_, rfl, hpre⟩
      · exact hpre.elim
    obtain ⟨k_c, hc_c⟩ := pz_tlm hcan
    have k_c : pz_kd c = 0 ∧ c < 231 := k_c
    have R_c := pz_kd0 k_c.1
    have hI : pz_ic M := hpre
    have L4 : ∀ (fu : Nat) (x1 : Int) (x2 : Int), (M c 3 - x2).toNat < fu → (0 ≤ x2) → (sd_q M c (fun F => x2 ≤ F 88 ∧ pz_bt x2 (fun k => decide (sd_cb F k)) x1)) → Ok 4 [some (.inr (.inr (0, c))), some (.inl x1), some (.inl x2)] [] M := by
      intro fu
      induction fu with
      | zero => exact fun _ _ hn => absurd hn (Nat.not_lt_zero _)
      | succ fu ih4 =>
        intro x1 x2 hn4 g4_0 g4_1
        refine hgo (fun p => Nat.beq p 4) 26 4 _ _ _ ?_
        intro v6 e6 a6 b6
        have I6 := hI.1 c (by first | decide | omega) (by first | decide | omega)
        refine And.intro (fun h9 => ?_) (fun h9 => ?_)
        · skip
          refine And.intro rfl ?_
          refine ⟨fun F hF hW => ?_, rfl⟩
          obtain ⟨g1, g2⟩ := (by assumption : sd_q M c (fun F => x2 ≤ F 88 ∧ pz_bt x2 (fun k => decide (sd_cb F k)) x1)) F hF hW
          have hn := hF.1
          exact pz_bt_e g2 (sd_cbn_e (by first | decide | omega) (by first | decide | omega))
        · skip
          refine And.intro (hI) ?_
          intro v15 M15 a15 b15 q15
          obtain ⟨q15, z15⟩ := q15
          subst z15
          refine And.intro (fun h18 => ?_) (fun h18 => ?_)
          · skip
            intro v28 e28 a28 b28
            intro v30 e30 a30 b30
            rw [pz_wi (by first | decide | omega) (by first | decide | omega)] at e30
            have G4 : sd_q M c (fun F => v30 ≤ F 88 ∧ pz_bt v30 (fun k => decide (sd_cb F k)) v28) := fun F hF hW => by
              obtain ⟨g1, g2⟩ := (by assumption : sd_q M c (fun F => x2 ≤ F 88 ∧ pz_bt x2 (fun k => decide (sd_cb F k)) x1)) F hF hW
              have hn := hF.1
              have hm := hW.1
              have cb := q15.2 F hF hW
              refine ⟨by omega, pz_bt_s ⟨by omega, by omega⟩ e30 g2 ?_ e28⟩
              first
                | exact pz_bO_y ⟨by omega, by omega⟩ (decide_eq_true (cb.mp (by first | decide | omega)).2) e23
                | exact pz_bO_n (decide_eq_false (fun z => absurd (cb.mpr ⟨by omega, z⟩) (by first | decide | omega)))
            exact ih4 _ _ (by first | decide | omega) (by first | omega | assumption | exact fun F hF hW => ⟨hW.1.1, pz_bt_0⟩) (by first | omega | assumption | exact fun F hF hW => ⟨hW.1.1, pz_bt_0⟩)
          · skip
            intro v23 e23 a23 b23
            intro v28 e28 a28 b28
            intro v30 e30 a30 b30
            rw [pz_wi (by first | decide | omega) (by first | decide | omega)] at e30
            have G4 : sd_q M c (fun F => v30 ≤ F 88 ∧ pz_bt v30 (fun k => decide (sd_cb F k)) v28) := fun F hF hW => by
              obtain ⟨g1, g2⟩ := (by assumption : sd_q M c (fun F => x2 ≤ F 88 ∧ pz_bt x2 (fun k => decide (sd_cb F k)) x1)) F hF hW
              have hn := hF.1
              have hm := hW.1
              have cb := q15.2 F hF hW
              refine ⟨by omega, pz_bt_s ⟨by omega, by omega⟩ e30 g2 ?_ e28⟩
              first
                | exact pz_bO_y ⟨by omega, by omega⟩ (decide_eq_true (cb.mp (by first | decide | omega)).2) e23
                | exact pz_bO_n (decide_eq_false (fun z => absurd (cb.mpr ⟨by omega, z⟩) (by first | decide | omega)))
            exact ih4 _ _ (by first | decide | omega) (by first | omega | assumption | exact fun F hF hW => ⟨hW.1.1, pz_bt_0⟩) (by first | omega | assumption | exact fun F hF hW => ⟨hW.1.1, pz_bt_0⟩)
    refine hgo (fun p => Nat.beq p 4) 26 0 _ [] M ?_
    exact L4 _ _ _ (Nat.lt_succ_self _) (by first | omega | assumption | exact fun F hF hW => ⟨hW.1.1, pz_bt_0⟩) (by first | omega | assumption | exact fun F hF hW => ⟨hW.1.1, pz_bt_0⟩)
theorem v3_X0_bridgeableOnes {fr lo i : Nat} {own : String} (h1 : 2 + 1 ≤ fr) (h2 : 8 + (3 + 11) + 42 ≤ lo) (h3 : .methodLink own i yX0_bridgeableOnes ∈ lw_tbl) : pz_cV fr lo own i k3_X0_bridgeableOnes :=
  pz_cVk (maxL := 3) (fr' := 2) (lo' := 42) 0 0 h3_X0_bridgeableOnes rfl ⟨(pz_nhc_RX0 yX0_bridgeableOnes rfl).1, (pz_nhc_RX0 yX0_bridgeableOnes rfl).2, pz_ds1⟩ ⟨pz_wq943, pz_wq941, pz_wq942, pz_wq2⟩ (Or.inl ⟨TX0, 8, rfl⟩) (fun a M _ h => by
    have h : (match (generalizing := false) a with | [.inr (.inr (0, c))] => pz_ic M | _ => False) := h
    split at h
    · exact ⟨_, _, rfl⟩
    · exact h.elim) h1 h2 h3
noncomputable def k3_X4_costOf : pz_C := (3, 1, fun a M => (match a with | [.inr (.inr (4, k)), .inr (.inr (0, c)), .inl i] => pz_ic M | _ => False), fun a M r M' => (match a, r with | [.inr (.inr (4, k)), .inr (.inr (0, c)), .inl i], some (.inl v) => (c = 71 → ∀ (ls : List pz_lne) (F : Nat → Int) (d u : Nat), sd_se M 71 F → sd_wf F → sd_ar M ls F d (F 88) → i = (u : Int) → u < 4096 → v = sd_cst ls F u) ∧ M = M' | _, _ => False))
noncomputable abbrev ct3_X4_costOf : List (Bool × Nat × pz_C) := []
set_option maxRecDepth 100000 in
set_option maxHeartbeats 4000000 in
theorem h3_X4_costOf : pz_H yX4_costOf cX4_costOf 5 (some .int) k3_X4_costOf 0 0 := by
  refine pz_mk (own := RX4) (tb := t_X4_costOf) (fl := pz_flf fl_RX4) (ci := pz_cif ci_RX4) (ct := pz_ctf ct3_X4_costOf) (rz := false) (pz_pfc_RX4 yX4_costOf rfl) rfl t_X4_costOf_ok (pz_flk fl_RX4_ok) (pz_cik ci_RX4_ok) ?_ ?_ (Or.inl ⟨rfl, rfl⟩) ?_ ?_
  · exact fun i k' h => pz_ctk (l := ct3_X4_costOf) (P := fun b i k => b = true → pz_cV 0 0 RX4 i k) (fun _ h => absurd h List.not_mem_nil) true i k' h rfl
  · exact fun i k' h => pz_ctk (l := ct3_X4_costOf) (P := fun b i k => b = false → (pz_cS 0 0 RX4 i k ∨ (k = pz_kac ∧ 1 ≤ 0 ∧ 60 ≤ 0 ∧ Cond.methodLink RX4 i arraycopyName ∈ pz_tbl))) (fun _ h => absurd h List.not_mem_nil) false i k' h rfl
  · intro a M hlen hpre
    obtain ⟨k, c, i, rfl, hpre⟩ : ∃ k c i, a = [.inr (.inr (4, k)), .inr (.inr (0, c)), .inl i] ∧ (pz_ic M) := by
      have hpre : (match (generalizing := false) a with | [.inr (.inr (4, k)), .inr (.inr (0, c)), .inl i] => pz_ic M | _ => False) := hpre
      split at hpre
      · exact ⟨_, _, _, rfl, hpre⟩
      · exact hpre.elim
    exact Nat.le_of_ble_eq_true rfl
  · intro a M hlen hcan hM hpre Ok hgo
    obtain ⟨k, c, i, rfl, hpre⟩ : ∃ k c i, a = [.inr (.inr (4, k)), .inr (.inr (0, c)), .inl i] ∧ (pz_ic M) := by
      have hpre : (match (generalizing := false) a with | [.inr (.inr (4, k)), .inr (.inr (0, c)), .inl i] => pz_ic M | _ => False) := hpre
      split at hpre
      · exact ⟨_, _, _, rfl, hpre⟩
      · exact hpre.elim
    obtain ⟨k_k, hc_k⟩ := pz_tlm hcan
    have k_k : pz_kd k = 4 ∧ k < 231 := k_k
    have R_k := pz_kd4 k_k.1
    subst R_k
    obtain ⟨k_c, hc_c⟩ := pz_tlm hc_k
    have k_c : pz_kd c = 0 ∧ c < 231 := k_c
    have R_c := pz_kd0 k_c.1
    obtain ⟨k_i, hc_i⟩ := pz_tlm hc_c
    have l_i : -2147483648 ≤ i := k_i.1
    have u_i : i ≤ 2147483647 := k_i.2
    have hI : pz_ic M := hpre
    have L5 : ∀ (fu : Nat) (x3 : Int) (x4 : Int), (12 - x4).toNat < fu → (0 ≤ x4) → (c = 71 → ∀ (ls : List pz_lne) (F : Nat → Int) (d u : Nat), sd_se M 71 F → sd_wf F → sd_ar M ls F d (F 88) → i = (u : Int) → u < 4096 → x4 ≤ F 88 ∧ x3 = sd_cs ls F u x4.toNat) → Ok 5 [some (.inr (.inr (4, 6))), some (.inr (.inr (0, c))), some (.inl i), some (.inl x3), some (.inl x4)] [] M := by
      intro fu
      induction fu with
      | zero => exact fun _ _ hn => absurd hn (Nat.not_lt_zero _)
      | succ fu ih5 =>
        intro x3 x4 hn5 g5_0 g5_1
        refine hgo (fun p => Nat.beq p 5) 32 5 _ _ _ ?_
        intro v8 e8 a8 b8
        have I8 := hI.1 c (by first | decide | omega) (by first | decide | omega)
        refine And.intro (fun h11 => ?_) (fun h11 => ?_)
        · skip
          refine And.intro rfl ?_
          refine ⟨fun c9 ls F d u s w a hu hl => ?_, rfl⟩
          obtain ⟨g1, g2⟩ := (by assumption : c = 71 → ∀ (ls : List pz_lne) (F : Nat → Int) (d u : Nat), sd_se M 71 F → sd_wf F → sd_ar M ls F d (F 88) → i = (u : Int) → u < 4096 → x4 ≤ F 88 ∧ x3 = sd_cs ls F u x4.toNat) c9 ls F d u s w a hu hl
          subst c9
          have n8 := s.1
          have m := w.1
          have k9 := sd_n_i w
          rw [show x4.toNat = sd_n F by omega] at g2
          exact g2
        · skip
          refine And.intro (fun h18 => ?_) (fun h18 => ?_)
          · skip
            refine And.intro rfl ?_
            refine ⟨fun c9 ls F d u s w a hu hl => ?_, rfl⟩
            obtain ⟨g1, g2⟩ := (by assumption : c = 71 → ∀ (ls : List pz_lne) (F : Nat → Int) (d u : Nat), sd_se M 71 F → sd_wf F → sd_ar M ls F d (F 88) → i = (u : Int) → u < 4096 → x4 ≤ F 88 ∧ x3 = sd_cs ls F u x4.toNat) c9 ls F d u s w a hu hl
            subst c9
            have n8 := s.1
            have m := w.1
            have k9 := sd_n_i w
            rw [show x4.toNat = sd_n F by omega] at g2
            exact g2
          · skip
            intro v25 e25 a25 b25
            intro v27 e27 a27 b27
            have X27 := pz_a1 e27
            refine And.intro (fun h28 => ?_) (fun h28 => ?_)
            · skip
              intro v42 e42 a42 b42
              intro v44 e44 a44 b44
              rw [pz_wi (by first | decide | omega) (by first | decide | omega)] at e44
              have G5 : c = 71 → ∀ (ls : List pz_lne) (F : Nat → Int) (d u : Nat), sd_se M 71 F → sd_wf F → sd_ar M ls F d (F 88) → i = (u : Int) → u < 4096 → v44 ≤ F 88 ∧ v42 = sd_cs ls F u v44.toNat := fun c9 ls F d u s w a hu hl => by
                obtain ⟨g1, g2⟩ := (by assumption : c = 71 → ∀ (ls : List pz_lne) (F : Nat → Int) (d u : Nat), sd_se M 71 F → sd_wf F → sd_ar M ls F d (F 88) → i = (u : Int) → u < 4096 → x4 ≤ F 88 ∧ x3 = sd_cs ls F u x4.toNat) c9 ls F d u s w a hu hl
                subst c9
                have n8 := s.1
                have m := w.1
                have B := pz_sb_at (f := u.testBit) ⟨u, hu, hl, fun _ => rfl⟩ (by first | decide | omega) (by first | decide | omega) e25 e27
                have b := sd_cs_b (ls := ls) (F := F) (u := u) x4.toNat
                have g := (a x4.toNat (by first | decide | omega)).2.2
                have cb := sd_co_b (ls := ls) (F := F) (i := x4.toNat)
                refine ⟨by omega, ?_⟩
                rw [show v44.toNat = x4.toNat + 1 by omega]
                show v42 = sd_cs ls F u x4.toNat + (if u.testBit x4.toNat = true then sd_co ls F x4.toNat else 0)
                by_cases y : u.testBit x4.toNat = true
                · rw [if_pos y] at B ⊢
                  rw [pz_wi (by first | decide | omega) (by first | decide | omega)] at e42
                  omega
                · rw [if_neg y] at B ⊢
                  rw [pz_wi (by first | decide | omega) (by first | decide | omega)] at e42
                  omega
              exact ih5 _ _ (by first | decide | omega) (by first | omega | assumption | exact fun _ ls F d u s w a hu hl => ⟨w.1.1, rfl⟩) (by first | omega | assumption | exact fun _ ls F d u s w a hu hl => ⟨w.1.1, rfl⟩)
            · skip
              intro r32 e32 k32
              have R32 := pz_kdA k32 (by decide) (by decide)
              have W32 : r32 = 54 := e32
              have lo37 : (0 : Int) ≤ x4 := by omega
              have tn37 : (((x4).toNat : Nat) : Int) = x4 := Int.toNat_of_nonneg lo37
              refine And.intro (lo37) (And.intro (show _ < (12 : Int) from by omega) ?_)
              intro v37 e37 a37 b37
              rw [W32] at e37
              intro v42 e42 a42 b42
              intro v44 e44 a44 b44
              rw [pz_wi (by first | decide | omega) (by first | decide | omega)] at e44
              have G5 : c = 71 → ∀ (ls : List pz_lne) (F : Nat → Int) (d u : Nat), sd_se M 71 F → sd_wf F → sd_ar M ls F d (F 88) → i = (u : Int) → u < 4096 → v44 ≤ F 88 ∧ v42 = sd_cs ls F u v44.toNat := fun c9 ls F d u s w a hu hl => by
                obtain ⟨g1, g2⟩ := (by assumption : c = 71 → ∀ (ls : List pz_lne) (F : Nat → Int) (d u : Nat), sd_se M 71 F → sd_wf F → sd_ar M ls F d (F 88) → i = (u : Int) → u < 4096 → x4 ≤ F 88 ∧ x3 = sd_cs ls F u x4.toNat) c9 ls F d u s w a hu hl
                subst c9
                have n8 := s.1
                have m := w.1
                have B := pz_sb_at (f := u.testBit) ⟨u, hu, hl, fun _ => rfl⟩ (by first | decide | omega) (by first | decide | omega) e25 e27
                have b := sd_cs_b (ls := ls) (F := F) (u := u) x4.toNat
                have g := (a x4.toNat (by first | decide | omega)).2.2
                have cb := sd_co_b (ls := ls) (F := F) (i := x4.toNat)
                refine ⟨by omega, ?_⟩
                rw [show v44.toNat = x4.toNat + 1 by omega]
                show v42 = sd_cs ls F u x4.toNat + (if u.testBit x4.toNat = true then sd_co ls F x4.toNat else 0)
                by_cases y : u.testBit x4.toNat = true
                · rw [if_pos y] at B ⊢
                  rw [pz_wi (by first | decide | omega) (by first | decide | omega)] at e42
                  omega
                · rw [if_neg y] at B ⊢
                  rw [pz_wi (by first | decide | omega) (by first | decide | omega)] at e42
                  omega
              exact ih5 _ _ (by first | decide | omega) (by first | omega | assumption | exact fun _ ls F d u s w a hu hl => ⟨w.1.1, rfl⟩) (by first | omega | assumption | exact fun _ ls F d u s w a hu hl => ⟨w.1.1, rfl⟩)
    refine hgo (fun p => Nat.beq p 5) 32 0 _ [] M ?_
    exact L5 _ _ _ (Nat.lt_succ_self _) (by first | omega | assumption | exact fun _ ls F d u s w a hu hl => ⟨w.1.1, rfl⟩) (by first | omega | assumption | exact fun _ ls F d u s w a hu hl => ⟨w.1.1, rfl⟩)
theorem v3_X4_costOf {fr lo i : Nat} {own : String} (h1 : 0 + 1 ≤ fr) (h2 : 8 + (5 + 11) + 0 ≤ lo) (h3 : .methodLink own i yX4_costOf ∈ lw_tbl) : pz_cV fr lo own i k3_X4_costOf :=
  pz_cVk (maxL := 5) (fr' := 0) (lo' := 0) 2 4 h3_X4_costOf rfl ⟨(pz_nhc_RX4 yX4_costOf rfl).1, (pz_nhc_RX4 yX4_costOf rfl).2, pz_ds33⟩ ⟨pz_wq959, pz_wq957, pz_wq958, pz_wq11⟩ (Or.inl ⟨TX4, 5, rfl⟩) (fun a M _ h => by
    have h : (match (generalizing := false) a with | [.inr (.inr (4, k)), .inr (.inr (0, c)), .inl i] => pz_ic M | _ => False) := h
    split at h
    · exact ⟨_, _, rfl⟩
    · exact h.elim) h1 h2 h3
noncomputable def k4_X4_cheapestBridges : pz_C := (3, 1, fun a M => (match a with | [.inr (.inr (4, k)), .inr (.inr (0, c)), .inl i] => pz_ic M | _ => False), fun a M r M' => (match a, r with | [.inr (.inr (4, k)), .inr (.inr (0, c)), .inl i], some (.inl v) => (c = 71 → ∀ (ls : List pz_lne) (F : Nat → Int) (d : Nat), sd_se M 71 F → sd_wf F → sd_ar M ls F d (F 88) → v = sd_bbe ls F d i ∧ sd_ar M' ls F d (F 88)) ∧ pq_pr pq_Pk M M' | _, _ => False))
noncomputable abbrev ct4_X4_cheapestBridges : List (Bool × Nat × pz_C) := [(true, 83, k3_X0_bridgeableOnes), (true, 87, k3_X0_bridgedOnes), (true, 90, k4_X4_reckonSpans), (false, 94, k_J6_bitCount_0f7a4), (true, 99, k3_X4_leastOdds), (true, 103, k3_X4_costOf)]
set_option maxRecDepth 100000 in
set_option maxHeartbeats 4000000 in
theorem h4_X4_cheapestBridges : pz_H yX4_cheapestBridges cX4_cheapestBridges 11 (some .int) k4_X4_cheapestBridges 3 70 := by
  refine pz_mk (own := RX4) (tb := t_X4_cheapestBridges) (fl := pz_flf fl_RX4) (ci := pz_cif ci_RX4) (ct := pz_ctf ct4_X4_cheapestBridges) (rz := false) (pz_pfc_RX4 yX4_cheapestBridges rfl) rfl t_X4_cheapestBridges_ok (pz_flk fl_RX4_ok) (pz_cik ci_RX4_ok) ?_ ?_ (Or.inl ⟨rfl, rfl⟩) ?_ ?_
  · exact fun i k' h => pz_ctk (l := ct4_X4_cheapestBridges) (P := fun b i k => b = true → pz_cV 3 70 RX4 i k) (List.forall_mem_cons.mpr ⟨(fun _ => v3_X0_bridgeableOnes (by decide) (by decide) pz_wq940), List.forall_mem_cons.mpr ⟨(fun _ => v3_X0_bridgedOnes (by decide) (by decide) pz_wq945), List.forall_mem_cons.mpr ⟨(fun _ => v4_X4_reckonSpans (by decide) (by decide) pz_wq946), List.forall_mem_cons.mpr ⟨((fun z => by cases z)), List.forall_mem_cons.mpr ⟨(fun _ => v3_X4_leastOdds (by decide) (by decide) pz_wq951), List.forall_mem_cons.mpr ⟨(fun _ => v3_X4_costOf (by decide) (by decide) pz_wq956), fun _ h => absurd h List.not_mem_nil⟩⟩⟩⟩⟩⟩) true i k' h rfl
  · exact fun i k' h => pz_ctk (l := ct4_X4_cheapestBridges) (P := fun b i k => b = false → (pz_cS 3 70 RX4 i k ∨ (k = pz_kac ∧ 1 ≤ 3 ∧ 60 ≤ 70 ∧ Cond.methodLink RX4 i arraycopyName ∈ pz_tbl))) (List.forall_mem_cons.mpr ⟨((fun z => by cases z)), List.forall_mem_cons.mpr ⟨((fun z => by cases z)), List.forall_mem_cons.mpr ⟨((fun z => by cases z)), List.forall_mem_cons.mpr ⟨(fun _ => Or.inl (s_J6_bitCount_0f7a4 (by decide) (by decide) (Or.inl pz_wq950))), List.forall_mem_cons.mpr ⟨((fun z => by cases z)), List.forall_mem_cons.mpr ⟨((fun z => by cases z)), fun _ h => absurd h List.not_mem_nil⟩⟩⟩⟩⟩⟩) false i k' h rfl
  · intro a M hlen hpre
    obtain ⟨k, c, i, rfl, hpre⟩ : ∃ k c i, a = [.inr (.inr (4, k)), .inr (.inr (0, c)), .inl i] ∧ (pz_ic M) := by
      have hpre : (match (generalizing := false) a with | [.inr (.inr (4, k)), .inr (.inr (0, c)), .inl i] => pz_ic M | _ => False) := hpre
      split at hpre
      · exact ⟨_, _, _, rfl, hpre⟩
      · exact hpre.elim
    exact Nat.le_of_ble_eq_true rfl
  · intro a M hlen hcan hM hpre Ok hgo
    obtain ⟨k, c, i, rfl, hpre⟩ : ∃ k c i, a = [.inr (.inr (4, k)), .inr (.inr (0, c)), .inl i] ∧ (pz_ic M) := by
      have hpre : (match (generalizing := false) a with | [.inr (.inr (4, k)), .inr (.inr (0, c)), .inl i] => pz_ic M | _ => False) := hpre
      split at hpre
      · exact ⟨_, _, _, rfl, hpre⟩
      · exact hpre.elim
    obtain ⟨k_k, hc_k⟩ := pz_tlm hcan
    have k_k : pz_kd k = 4 ∧ k < 231 := k_k
    have R_k := pz_kd4 k_k.1
    subst R_k
    obtain ⟨k_c, hc_c⟩ := pz_tlm hc_k
    have k_c : pz_kd c = 0 ∧ c < 231 := k_c
    have R_c := pz_kd0 k_c.1
    obtain ⟨k_i, hc_i⟩ := pz_tlm hc_c
    have l_i : -2147483648 ≤ i := k_i.1
    have u_i : i ≤ 2147483647 := k_i.2
    have hI : pz_ic M := hpre
    have hI0 := hI
    have hS : pq_pr pq_Pk M M := pq_pr.rf
    have L33 : ∀ (fu : Nat) (x3 : Int) (x4 : Int) (x5 : Int) (x6 : Int) (x7 : Int) (x8 : Int) (d9 : Option pz_V) (d10 : Option pz_V) (N33 : pz_M), x8.toNat < fu → (pq_pr pq_Pk M N33) → (x8 ≤ 2147483647) → (c = 71 → ∀ (ls : List pz_lne) (F : Nat → Int) (d : Nat), sd_se M 71 F → sd_wf F → sd_ar M ls F d (F 88) → (sd_sp N33 ls F d ∧ sd_ar N33 ls F d (F 88)) ∧ (x3 = (sd_cC F : Int) ∧ pz_zs x4 (sd_bn F) ∧ 0 ≤ x8) ∧ sd_bcE ls F d i x5 x6 x7 x8 0) → Ok 33 [some (.inr (.inr (4, 6))), some (.inr (.inr (0, c))), some (.inl i), some (.inl x3), some (.inl x4), some (.inl x5), some (.inl x6), some (.inl x7), some (.inl x8), d9, d10] [] N33 := by
      intro fu
      induction fu with
      | zero => exact fun _ _ _ _ _ _ _ _ _ hn => absurd hn (Nat.not_lt_zero _)
      | succ fu ih33 =>
        intro x3 x4 x5 x6 x7 x8 d9 d10 N33 hn33 hS g33_1 g33_2
        have hI : pz_ic N33 := hS.1 hI0
        have hS33 := hS
        have L114 : ∀ (x3 : Int) (x4 : Int) (x5 : Int) (x6 : Int) (x7 : Int) (x8 : Int) (d9 : Option pz_V) (d10 : Option pz_V) (N114 : pz_M), (pq_pr pq_Pk M N114) → (0 < x8) → (x8 ≤ 2147483647) → (x8.toNat < fu + 1) → (c = 71 → ∀ (ls : List pz_lne) (F : Nat → Int) (d : Nat), sd_se M 71 F → sd_wf F → sd_ar M ls F d (F 88) → (sd_sp N114 ls F d ∧ sd_ar N114 ls F d (F 88)) ∧ (x3 = (sd_cC F : Int) ∧ pz_zs x4 (sd_bn F) ∧ 0 ≤ x8) ∧ sd_bcE ls F d i x5 x6 x7 x8 1) → Ok 114 [some (.inr (.inr (4, 6))), some (.inr (.inr (0, c))), some (.inl i), some (.inl x3), some (.inl x4), some (.inl x5), some (.inl x6), some (.inl x7), some (.inl x8), d9, d10] [] N114 := by
          intro x3 x4 x5 x6 x7 x8 d9 d10 N114 hS g114_1 g114_2 g114_3 g114_4
          have hI : pz_ic N114 := hS.1 hI0
          refine hgo (fun p => Nat.beq p 33 || Nat.beq p 114) 71 114 _ _ _ ?_
          intro v117 e117 a117 b117
          intro v119 e119 a119 b119
          intro v122 e122 a122 b122
          rw [pz_wi (by first | decide | omega) (by first | decide | omega)] at e122
          have G33 : c = 71 → ∀ (ls : List pz_lne) (F : Nat → Int) (d : Nat), sd_se M 71 F → sd_wf F → sd_ar M ls F d (F 88) → (sd_sp N114 ls F d ∧ sd_ar N114 ls F d (F 88)) ∧ (x3 = (sd_cC F : Int) ∧ pz_zs x4 (sd_bn F) ∧ 0 ≤ v122) ∧ sd_bcE ls F d i x5 x6 v119 v122 0 := fun c9 ls F d s w a => by
            obtain ⟨p1, ⟨p3, p4, p5⟩, p6⟩ := (by assumption : c = 71 → ∀ (ls : List pz_lne) (F : Nat → Int) (d : Nat), sd_se M 71 F → sd_wf F → sd_ar M ls F d (F 88) → (sd_sp N114 ls F d ∧ sd_ar N114 ls F d (F 88)) ∧ (x3 = (sd_cC F : Int) ∧ pz_zs x4 (sd_bn F) ∧ 0 ≤ x8) ∧ sd_bcE ls F d i x5 x6 x7 x8 1) c9 ls F d s w a
            exact ⟨p1, ⟨p3, p4, by omega⟩, sd_bcE_s p6 p3 e117 e119 (by first | decide | omega)⟩
          exact ih33 _ _ _ _ _ _ _ _ _ (by first | decide | omega) hS (by first | omega | assumption) (by first | omega | assumption)
        refine hgo (fun p => Nat.beq p 33 || Nat.beq p 114) 71 33 _ _ _ ?_
        refine And.intro (fun h35 => ?_) (fun h35 => ?_)
        · skip
          refine And.intro rfl ?_
          refine ⟨fun c9 ls F d s w a => ?_, hS⟩
          obtain ⟨⟨p1, p2⟩, ⟨p3, p4, p5⟩, p6⟩ := (by assumption : c = 71 → ∀ (ls : List pz_lne) (F : Nat → Int) (d : Nat), sd_se M 71 F → sd_wf F → sd_ar M ls F d (F 88) → (sd_sp N33 ls F d ∧ sd_ar N33 ls F d (F 88)) ∧ (x3 = (sd_cC F : Int) ∧ pz_zs x4 (sd_bn F) ∧ 0 ≤ x8) ∧ sd_bcE ls F d i x5 x6 x7 x8 0) c9 ls F d s w a
          exact ⟨sd_bcE_z p6 (by first | decide | omega), p2⟩
        · skip
          intro v44 e44 a44 b44
          refine And.intro (hI) ?_
          intro v45 M45 a45 b45 q45
          obtain ⟨q45, z45⟩ := q45
          subst z45
          refine And.intro (fun h49 => ?_) (fun h49 => ?_)
          · skip
            have G114 : c = 71 → ∀ (ls : List pz_lne) (F : Nat → Int) (d : Nat), sd_se M 71 F → sd_wf F → sd_ar M ls F d (F 88) → (sd_sp N33 ls F d ∧ sd_ar N33 ls F d (F 88)) ∧ (x3 = (sd_cC F : Int) ∧ pz_zs x4 (sd_bn F) ∧ 0 ≤ x8) ∧ sd_bcE ls F d i x5 x6 x7 x8 1 := fun c9 ls F d s w a => by
              obtain ⟨⟨p1, p2⟩, ⟨p3, p4, p5⟩, p6⟩ := (by assumption : c = 71 → ∀ (ls : List pz_lne) (F : Nat → Int) (d : Nat), sd_se M 71 F → sd_wf F → sd_ar M ls F d (F 88) → (sd_sp N33 ls F d ∧ sd_ar N33 ls F d (F 88)) ∧ (x3 = (sd_cC F : Int) ∧ pz_zs x4 (sd_bn F) ∧ 0 ≤ x8) ∧ sd_bcE ls F d i x5 x6 x7 x8 0) c9 ls F d s w a
              have pb := sd_bcE_b p6
              subst c9
              have s2 := sd_se_k s w hS33
              have o := q45 rfl ls F d (sd_bu F x7.toNat) s2 w p1 (sd_bu_z (u := x7.toNat) p4 (by first | decide | omega) (by rw [show ((x7.toNat : Nat) : Int) = x7 by omega]; exact e44))
              refine ⟨⟨p1, p2⟩, ⟨p3, p4, p5⟩, sd_bcE_n p6 (fun z => ?_)⟩
              have z1 := z.1
              omega
            exact L114 _ _ _ _ _ _ _ _ _ hS (by first | omega | assumption) (by first | omega | assumption) (by first | omega | assumption) (by first | omega | assumption)
          · skip
            skip
            refine And.intro (hI) ?_
            intro v56 M56 a56 b56 q56
            obtain ⟨q56, z56⟩ := q56
            subst z56
            refine And.intro (True.intro) ?_
            intro v63 M63 a63 b63 q63
            obtain ⟨q63, z63⟩ := q63
            subst z63
            refine And.intro (True.intro) ?_
            intro v68 M68 a68 b68 q68
            obtain ⟨q68, z68⟩ := q68
            subst z68
            refine And.intro (fun h71 => ?_) (fun h71 => ?_)
            · skip
              refine And.intro (fun h84 => ?_) (fun h84 => ?_)
              · skip
                have G114 : c = 71 → ∀ (ls : List pz_lne) (F : Nat → Int) (d : Nat), sd_se M 71 F → sd_wf F → sd_ar M ls F d (F 88) → (sd_sp N33 ls F d ∧ sd_ar N33 ls F d (F 88)) ∧ (x3 = (sd_cC F : Int) ∧ pz_zs x4 (sd_bn F) ∧ 0 ≤ x8) ∧ sd_bcE ls F d i x7 v56 x7 x8 1 := fun c9 ls F d s w a => by
                  obtain ⟨⟨p1, p2⟩, ⟨p3, p4, p5⟩, p6⟩ := (by assumption : c = 71 → ∀ (ls : List pz_lne) (F : Nat → Int) (d : Nat), sd_se M 71 F → sd_wf F → sd_ar M ls F d (F 88) → (sd_sp N33 ls F d ∧ sd_ar N33 ls F d (F 88)) ∧ (x3 = (sd_cC F : Int) ∧ pz_zs x4 (sd_bn F) ∧ 0 ≤ x8) ∧ sd_bcE ls F d i x5 x6 x7 x8 0) c9 ls F d s w a
                  have pb := sd_bcE_b p6
                  subst c9
                  have s2 := sd_se_k s w hS33
                  have o := q45 rfl ls F d (sd_bu F x7.toNat) s2 w p1 (sd_bu_z (u := x7.toNat) p4 (by first | decide | omega) (by rw [show ((x7.toNat : Nat) : Int) = x7 by omega]; exact e44))
                  have kc := q56 rfl ls F d x7.toNat s2 w p2 (by first | decide | omega) (by first | decide | omega)
                  have c63 := q63 _ (sd_zsn pb.2.1 pb.2.2)
                  refine ⟨⟨p1, p2⟩, ⟨p3, p4, p5⟩, sd_bcE_y p6 (by first | decide | omega) ?_ kc⟩
                  obtain ⟨r, h1, h2, h3, h4⟩ := p6
                  exact Or.inl (by first | decide | omega)
                exact L114 _ _ _ _ _ _ _ _ _ hS (by first | omega | assumption) (by first | omega | assumption) (by first | omega | assumption) (by first | omega | assumption)
              · skip
                skip
                refine And.intro (fun h91 => ?_) (fun h91 => ?_)
                · skip
                  have G114 : c = 71 → ∀ (ls : List pz_lne) (F : Nat → Int) (d : Nat), sd_se M 71 F → sd_wf F → sd_ar M ls F d (F 88) → (sd_sp N33 ls F d ∧ sd_ar N33 ls F d (F 88)) ∧ (x3 = (sd_cC F : Int) ∧ pz_zs x4 (sd_bn F) ∧ 0 ≤ x8) ∧ sd_bcE ls F d i x7 v56 x7 x8 1 := fun c9 ls F d s w a => by
                    obtain ⟨⟨p1, p2⟩, ⟨p3, p4, p5⟩, p6⟩ := (by assumption : c = 71 → ∀ (ls : List pz_lne) (F : Nat → Int) (d : Nat), sd_se M 71 F → sd_wf F → sd_ar M ls F d (F 88) → (sd_sp N33 ls F d ∧ sd_ar N33 ls F d (F 88)) ∧ (x3 = (sd_cC F : Int) ∧ pz_zs x4 (sd_bn F) ∧ 0 ≤ x8) ∧ sd_bcE ls F d i x5 x6 x7 x8 0) c9 ls F d s w a
                    have pb := sd_bcE_b p6
                    subst c9
                    have s2 := sd_se_k s w hS33
                    have o := q45 rfl ls F d (sd_bu F x7.toNat) s2 w p1 (sd_bu_z (u := x7.toNat) p4 (by first | decide | omega) (by rw [show ((x7.toNat : Nat) : Int) = x7 by omega]; exact e44))
                    have kc := q56 rfl ls F d x7.toNat s2 w p2 (by first | decide | omega) (by first | decide | omega)
                    have c63 := q63 _ (sd_zsn pb.2.1 pb.2.2)
                    refine ⟨⟨p1, p2⟩, ⟨p3, p4, p5⟩, sd_bcE_y p6 (by first | decide | omega) ?_ kc⟩
                    obtain ⟨r, h1, h2, h3, h4⟩ := p6
                    have k5 := h4 (by first | decide | omega)
                    exact Or.inr (Or.inl (by first | decide | omega))
                  exact L114 _ _ _ _ _ _ _ _ _ hS (by first | omega | assumption) (by first | omega | assumption) (by first | omega | assumption) (by first | omega | assumption)
                · skip
                  skip
                  refine And.intro (fun h98 => ?_) (fun h98 => ?_)
                  · skip
                    have G114 : c = 71 → ∀ (ls : List pz_lne) (F : Nat → Int) (d : Nat), sd_se M 71 F → sd_wf F → sd_ar M ls F d (F 88) → (sd_sp N33 ls F d ∧ sd_ar N33 ls F d (F 88)) ∧ (x3 = (sd_cC F : Int) ∧ pz_zs x4 (sd_bn F) ∧ 0 ≤ x8) ∧ sd_bcE ls F d i x5 x6 x7 x8 1 := fun c9 ls F d s w a => by
                      obtain ⟨⟨p1, p2⟩, ⟨p3, p4, p5⟩, p6⟩ := (by assumption : c = 71 → ∀ (ls : List pz_lne) (F : Nat → Int) (d : Nat), sd_se M 71 F → sd_wf F → sd_ar M ls F d (F 88) → (sd_sp N33 ls F d ∧ sd_ar N33 ls F d (F 88)) ∧ (x3 = (sd_cC F : Int) ∧ pz_zs x4 (sd_bn F) ∧ 0 ≤ x8) ∧ sd_bcE ls F d i x5 x6 x7 x8 0) c9 ls F d s w a
                      have pb := sd_bcE_b p6
                      subst c9
                      have s2 := sd_se_k s w hS33
                      have o := q45 rfl ls F d (sd_bu F x7.toNat) s2 w p1 (sd_bu_z (u := x7.toNat) p4 (by first | decide | omega) (by rw [show ((x7.toNat : Nat) : Int) = x7 by omega]; exact e44))
                      refine ⟨⟨p1, p2⟩, ⟨p3, p4, p5⟩, sd_bcE_n p6 (fun z => ?_)⟩
                      have kc := q56 rfl ls F d x7.toNat s2 w p2 (by first | decide | omega) (by first | decide | omega)
                      have c63 := q63 _ (sd_zsn pb.2.1 pb.2.2)
                      obtain ⟨r, h1, h2, h3, h4⟩ := p6
                      obtain ⟨z1, z2⟩ := z
                      by_cases y : x5 = -1
                      · omega
                      · have k5 := h4 y
                        have c68 := q68 _ (sd_zsn (v := x5) (by first | decide | omega) (by first | decide | omega))
                        rcases z2 with z2 | z2 | z2
                        · omega
                        · omega
                        · omega
                    exact L114 _ _ _ _ _ _ _ _ _ hS (by first | omega | assumption) (by first | omega | assumption) (by first | omega | assumption) (by first | omega | assumption)
                  · skip
                    skip
                    refine And.intro (fun h103 => ?_) (fun h103 => ?_)
                    · skip
                      have G114 : c = 71 → ∀ (ls : List pz_lne) (F : Nat → Int) (d : Nat), sd_se M 71 F → sd_wf F → sd_ar M ls F d (F 88) → (sd_sp N33 ls F d ∧ sd_ar N33 ls F d (F 88)) ∧ (x3 = (sd_cC F : Int) ∧ pz_zs x4 (sd_bn F) ∧ 0 ≤ x8) ∧ sd_bcE ls F d i x5 x6 x7 x8 1 := fun c9 ls F d s w a => by
                        obtain ⟨⟨p1, p2⟩, ⟨p3, p4, p5⟩, p6⟩ := (by assumption : c = 71 → ∀ (ls : List pz_lne) (F : Nat → Int) (d : Nat), sd_se M 71 F → sd_wf F → sd_ar M ls F d (F 88) → (sd_sp N33 ls F d ∧ sd_ar N33 ls F d (F 88)) ∧ (x3 = (sd_cC F : Int) ∧ pz_zs x4 (sd_bn F) ∧ 0 ≤ x8) ∧ sd_bcE ls F d i x5 x6 x7 x8 0) c9 ls F d s w a
                        have pb := sd_bcE_b p6
                        subst c9
                        have s2 := sd_se_k s w hS33
                        have o := q45 rfl ls F d (sd_bu F x7.toNat) s2 w p1 (sd_bu_z (u := x7.toNat) p4 (by first | decide | omega) (by rw [show ((x7.toNat : Nat) : Int) = x7 by omega]; exact e44))
                        refine ⟨⟨p1, p2⟩, ⟨p3, p4, p5⟩, sd_bcE_n p6 (fun z => ?_)⟩
                        have kc := q56 rfl ls F d x7.toNat s2 w p2 (by first | decide | omega) (by first | decide | omega)
                        have c63 := q63 _ (sd_zsn pb.2.1 pb.2.2)
                        obtain ⟨r, h1, h2, h3, h4⟩ := p6
                        obtain ⟨z1, z2⟩ := z
                        by_cases y : x5 = -1
                        · omega
                        · have k5 := h4 y
                          have c68 := q68 _ (sd_zsn (v := x5) (by first | decide | omega) (by first | decide | omega))
                          rcases z2 with z2 | z2 | z2
                          · omega
                          · omega
                          · omega
                      exact L114 _ _ _ _ _ _ _ _ _ hS (by first | omega | assumption) (by first | omega | assumption) (by first | omega | assumption) (by first | omega | assumption)
                    · skip
                      exact absurd h103 (by decide)
            · skip
              refine And.intro (fun h84 => ?_) (fun h84 => ?_)
              · skip
                have G114 : c = 71 → ∀ (ls : List pz_lne) (F : Nat → Int) (d : Nat), sd_se M 71 F → sd_wf F → sd_ar M ls F d (F 88) → (sd_sp N33 ls F d ∧ sd_ar N33 ls F d (F 88)) ∧ (x3 = (sd_cC F : Int) ∧ pz_zs x4 (sd_bn F) ∧ 0 ≤ x8) ∧ sd_bcE ls F d i x7 v56 x7 x8 1 := fun c9 ls F d s w a => by
                  obtain ⟨⟨p1, p2⟩, ⟨p3, p4, p5⟩, p6⟩ := (by assumption : c = 71 → ∀ (ls : List pz_lne) (F : Nat → Int) (d : Nat), sd_se M 71 F → sd_wf F → sd_ar M ls F d (F 88) → (sd_sp N33 ls F d ∧ sd_ar N33 ls F d (F 88)) ∧ (x3 = (sd_cC F : Int) ∧ pz_zs x4 (sd_bn F) ∧ 0 ≤ x8) ∧ sd_bcE ls F d i x5 x6 x7 x8 0) c9 ls F d s w a
                  have pb := sd_bcE_b p6
                  subst c9
                  have s2 := sd_se_k s w hS33
                  have o := q45 rfl ls F d (sd_bu F x7.toNat) s2 w p1 (sd_bu_z (u := x7.toNat) p4 (by first | decide | omega) (by rw [show ((x7.toNat : Nat) : Int) = x7 by omega]; exact e44))
                  have kc := q56 rfl ls F d x7.toNat s2 w p2 (by first | decide | omega) (by first | decide | omega)
                  have c63 := q63 _ (sd_zsn pb.2.1 pb.2.2)
                  refine ⟨⟨p1, p2⟩, ⟨p3, p4, p5⟩, sd_bcE_y p6 (by first | decide | omega) ?_ kc⟩
                  obtain ⟨r, h1, h2, h3, h4⟩ := p6
                  exact Or.inl (by first | decide | omega)
                exact L114 _ _ _ _ _ _ _ _ _ hS (by first | omega | assumption) (by first | omega | assumption) (by first | omega | assumption) (by first | omega | assumption)
              · skip
                skip
                refine And.intro (fun h91 => ?_) (fun h91 => ?_)
                · skip
                  have G114 : c = 71 → ∀ (ls : List pz_lne) (F : Nat → Int) (d : Nat), sd_se M 71 F → sd_wf F → sd_ar M ls F d (F 88) → (sd_sp N33 ls F d ∧ sd_ar N33 ls F d (F 88)) ∧ (x3 = (sd_cC F : Int) ∧ pz_zs x4 (sd_bn F) ∧ 0 ≤ x8) ∧ sd_bcE ls F d i x7 v56 x7 x8 1 := fun c9 ls F d s w a => by
                    obtain ⟨⟨p1, p2⟩, ⟨p3, p4, p5⟩, p6⟩ := (by assumption : c = 71 → ∀ (ls : List pz_lne) (F : Nat → Int) (d : Nat), sd_se M 71 F → sd_wf F → sd_ar M ls F d (F 88) → (sd_sp N33 ls F d ∧ sd_ar N33 ls F d (F 88)) ∧ (x3 = (sd_cC F : Int) ∧ pz_zs x4 (sd_bn F) ∧ 0 ≤ x8) ∧ sd_bcE ls F d i x5 x6 x7 x8 0) c9 ls F d s w a
                    have pb := sd_bcE_b p6
                    subst c9
                    have s2 := sd_se_k s w hS33
                    have o := q45 rfl ls F d (sd_bu F x7.toNat) s2 w p1 (sd_bu_z (u := x7.toNat) p4 (by first | decide | omega) (by rw [show ((x7.toNat : Nat) : Int) = x7 by omega]; exact e44))
                    have kc := q56 rfl ls F d x7.toNat s2 w p2 (by first | decide | omega) (by first | decide | omega)
                    have c63 := q63 _ (sd_zsn pb.2.1 pb.2.2)
                    refine ⟨⟨p1, p2⟩, ⟨p3, p4, p5⟩, sd_bcE_y p6 (by first | decide | omega) ?_ kc⟩
                    obtain ⟨r, h1, h2, h3, h4⟩ := p6
                    have k5 := h4 (by first | decide | omega)
                    exact Or.inr (Or.inl (by first | decide | omega))
                  exact L114 _ _ _ _ _ _ _ _ _ hS (by first | omega | assumption) (by first | omega | assumption) (by first | omega | assumption) (by first | omega | assumption)
                · skip
                  skip
                  refine And.intro (fun h98 => ?_) (fun h98 => ?_)
                  · skip
                    have G114 : c = 71 → ∀ (ls : List pz_lne) (F : Nat → Int) (d : Nat), sd_se M 71 F → sd_wf F → sd_ar M ls F d (F 88) → (sd_sp N33 ls F d ∧ sd_ar N33 ls F d (F 88)) ∧ (x3 = (sd_cC F : Int) ∧ pz_zs x4 (sd_bn F) ∧ 0 ≤ x8) ∧ sd_bcE ls F d i x5 x6 x7 x8 1 := fun c9 ls F d s w a => by
                      obtain ⟨⟨p1, p2⟩, ⟨p3, p4, p5⟩, p6⟩ := (by assumption : c = 71 → ∀ (ls : List pz_lne) (F : Nat → Int) (d : Nat), sd_se M 71 F → sd_wf F → sd_ar M ls F d (F 88) → (sd_sp N33 ls F d ∧ sd_ar N33 ls F d (F 88)) ∧ (x3 = (sd_cC F : Int) ∧ pz_zs x4 (sd_bn F) ∧ 0 ≤ x8) ∧ sd_bcE ls F d i x5 x6 x7 x8 0) c9 ls F d s w a
                      have pb := sd_bcE_b p6
                      subst c9
                      have s2 := sd_se_k s w hS33
                      have o := q45 rfl ls F d (sd_bu F x7.toNat) s2 w p1 (sd_bu_z (u := x7.toNat) p4 (by first | decide | omega) (by rw [show ((x7.toNat : Nat) : Int) = x7 by omega]; exact e44))
                      refine ⟨⟨p1, p2⟩, ⟨p3, p4, p5⟩, sd_bcE_n p6 (fun z => ?_)⟩
                      have kc := q56 rfl ls F d x7.toNat s2 w p2 (by first | decide | omega) (by first | decide | omega)
                      have c63 := q63 _ (sd_zsn pb.2.1 pb.2.2)
                      obtain ⟨r, h1, h2, h3, h4⟩ := p6
                      obtain ⟨z1, z2⟩ := z
                      by_cases y : x5 = -1
                      · omega
                      · have k5 := h4 y
                        have c68 := q68 _ (sd_zsn (v := x5) (by first | decide | omega) (by first | decide | omega))
                        rcases z2 with z2 | z2 | z2
                        · omega
                        · omega
                        · omega
                    exact L114 _ _ _ _ _ _ _ _ _ hS (by first | omega | assumption) (by first | omega | assumption) (by first | omega | assumption) (by first | omega | assumption)
                  · skip
                    skip
                    refine And.intro (fun h103 => ?_) (fun h103 => ?_)
                    · skip
                      exact absurd h103 (by decide)
                    · skip
                      have G114 : c = 71 → ∀ (ls : List pz_lne) (F : Nat → Int) (d : Nat), sd_se M 71 F → sd_wf F → sd_ar M ls F d (F 88) → (sd_sp N33 ls F d ∧ sd_ar N33 ls F d (F 88)) ∧ (x3 = (sd_cC F : Int) ∧ pz_zs x4 (sd_bn F) ∧ 0 ≤ x8) ∧ sd_bcE ls F d i x7 v56 x7 x8 1 := fun c9 ls F d s w a => by
                        obtain ⟨⟨p1, p2⟩, ⟨p3, p4, p5⟩, p6⟩ := (by assumption : c = 71 → ∀ (ls : List pz_lne) (F : Nat → Int) (d : Nat), sd_se M 71 F → sd_wf F → sd_ar M ls F d (F 88) → (sd_sp N33 ls F d ∧ sd_ar N33 ls F d (F 88)) ∧ (x3 = (sd_cC F : Int) ∧ pz_zs x4 (sd_bn F) ∧ 0 ≤ x8) ∧ sd_bcE ls F d i x5 x6 x7 x8 0) c9 ls F d s w a
                        have pb := sd_bcE_b p6
                        subst c9
                        have s2 := sd_se_k s w hS33
                        have o := q45 rfl ls F d (sd_bu F x7.toNat) s2 w p1 (sd_bu_z (u := x7.toNat) p4 (by first | decide | omega) (by rw [show ((x7.toNat : Nat) : Int) = x7 by omega]; exact e44))
                        have kc := q56 rfl ls F d x7.toNat s2 w p2 (by first | decide | omega) (by first | decide | omega)
                        have c63 := q63 _ (sd_zsn pb.2.1 pb.2.2)
                        refine ⟨⟨p1, p2⟩, ⟨p3, p4, p5⟩, sd_bcE_y p6 (by first | decide | omega) ?_ kc⟩
                        obtain ⟨r, h1, h2, h3, h4⟩ := p6
                        by_cases y : x5 = -1
                        · exact Or.inl y
                        · have k5 := h4 y
                          have c68 := q68 _ (sd_zsn (v := x5) (by first | decide | omega) (by first | decide | omega))
                          first
                            | exact Or.inr (Or.inr ⟨by omega, by omega⟩)
                            | (exfalso; omega)
                      exact L114 _ _ _ _ _ _ _ _ _ hS (by first | omega | assumption) (by first | omega | assumption) (by first | omega | assumption) (by first | omega | assumption)
    refine hgo (fun p => Nat.beq p 33 || Nat.beq p 114) 71 0 _ [] M ?_
    refine And.intro (hI) ?_
    intro v1 M1 a1 b1 q1
    obtain ⟨q1, z1⟩ := q1
    subst z1
    refine And.intro (hI) ?_
    intro v6 M6 a6 b6 q6
    obtain ⟨q6, z6⟩ := q6
    subst z6
    refine And.intro (hI) ?_
    intro M19 q19
    obtain ⟨q19, z19⟩ := q19
    have hS : pq_pr pq_Pk M M19 := hS.tr z19
    have hI : pz_ic M19 := hS.1 hI0
    have G19 : c = 71 → ∀ (ls : List pz_lne) (F : Nat → Int) (d : Nat), sd_se M 71 F → sd_wf F → sd_ar M ls F d (F 88) → (sd_sp M19 ls F d ∧ sd_ar M19 ls F d (F 88)) ∧ v1 = (sd_cC F : Int) ∧ pz_zs v6 (sd_bn F) := fun c9 ls F d s w a => by
      subst c9
      have ar : sd_ar M19 ls F d (F 88) := sd_ar_cg a (fun b j h1 h2 => q19.1 b j (by first | decide | omega))
      exact ⟨⟨q19.2 rfl ls F d s w a.al, ar⟩, sd_cC_z w (q1 F s w), q6 F s w⟩
    refine And.intro (True.intro) ?_
    intro v27 M27 a27 b27 q27
    obtain ⟨q27, z27⟩ := q27
    subst z27
    intro v30 e30 a30 b30
    have G33 : c = 71 → ∀ (ls : List pz_lne) (F : Nat → Int) (d : Nat), sd_se M 71 F → sd_wf F → sd_ar M ls F d (F 88) → (sd_sp M19 ls F d ∧ sd_ar M19 ls F d (F 88)) ∧ (v1 = (sd_cC F : Int) ∧ pz_zs v6 (sd_bn F) ∧ 0 ≤ v30) ∧ sd_bcE ls F d i (-1) 0 0 v30 0 := fun c9 ls F d s w a => by
      obtain ⟨p1, p2, p3⟩ := G19 c9 ls F d s w a
      have q := q27
      rw [p2] at q
      have e := sd_bcE_0 (ls := ls) (d := d) (h := i) q e30
      exact ⟨p1, ⟨p2, p3, e.2⟩, e.1⟩
    exact L33 _ _ _ _ _ _ _ _ _ _ (Nat.lt_succ_self _) hS (by first | omega | assumption) (by first | omega | assumption)
theorem v4_X4_cheapestBridges {fr lo i : Nat} {own : String} (h1 : 3 + 1 ≤ fr) (h2 : 8 + (11 + 11) + 70 ≤ lo) (h3 : .methodLink own i yX4_cheapestBridges ∈ lw_tbl) : pz_cV fr lo own i k4_X4_cheapestBridges :=
  pz_cVk (maxL := 11) (fr' := 3) (lo' := 70) 2 4 h4_X4_cheapestBridges rfl ⟨(pz_nhc_RX4 yX4_cheapestBridges rfl).1, (pz_nhc_RX4 yX4_cheapestBridges rfl).2, pz_ds33⟩ ⟨pz_wq939, pz_wq937, pz_wq938, pz_wq11⟩ (Or.inl ⟨TX4, 5, rfl⟩) (fun a M _ h => by
    have h : (match (generalizing := false) a with | [.inr (.inr (4, k)), .inr (.inr (0, c)), .inl i] => pz_ic M | _ => False) := h
    split at h
    · exact ⟨_, _, rfl⟩
    · exact h.elim) h1 h2 h3
noncomputable def k4_X11_bridges : pz_C := (4, 1, fun a M => (match a with | [.inr (.inr (11, th)), .inl d, .inl h, .inl w] => pz_ic M | _ => False), fun a M r M' => (match a, r with | [.inr (.inr (11, th)), .inl d, .inl h, .inl w], some (.inl v) => (sd_wc M v (fun ls F => sd_brv ls F d h w)) ∧ pq_pr pq_Pk M M' | _, _ => False))
noncomputable abbrev ct4_X11_bridges : List (Bool × Nat × pz_C) := [(false, 137, k_X11_within), (true, 255, k4_X4_reckon), (true, 276, k4_X4_cheapestBridges), (true, 280, k3_X4_costOf)]
set_option maxRecDepth 100000 in
set_option maxHeartbeats 4000000 in
theorem h4_X11_bridges : pz_H yX11_bridges cX11_bridges 5 (some .int) k4_X11_bridges 5 120 := by
  refine pz_mk (own := RX11) (tb := t_X11_bridges) (fl := pz_flf fl_RX11) (ci := pz_cif ci_RX11) (ct := pz_ctf ct4_X11_bridges) (rz := false) (pz_pfc_RX11 yX11_bridges rfl) rfl t_X11_bridges_ok (pz_flk fl_RX11_ok) (pz_cik ci_RX11_ok) ?_ ?_ (Or.inl ⟨rfl, rfl⟩) ?_ ?_
  · exact fun i k' h => pz_ctk (l := ct4_X11_bridges) (P := fun b i k => b = true → pz_cV 5 120 RX11 i k) (List.forall_mem_cons.mpr ⟨((fun z => by cases z)), List.forall_mem_cons.mpr ⟨(fun _ => v4_X4_reckon (by decide) (by decide) pz_wq884), List.forall_mem_cons.mpr ⟨(fun _ => v4_X4_cheapestBridges (by decide) (by decide) pz_wq936), List.forall_mem_cons.mpr ⟨(fun _ => v3_X4_costOf (by decide) (by decide) pz_wq960), fun _ h => absurd h List.not_mem_nil⟩⟩⟩⟩) true i k' h rfl
  · exact fun i k' h => pz_ctk (l := ct4_X11_bridges) (P := fun b i k => b = false → (pz_cS 5 120 RX11 i k ∨ (k = pz_kac ∧ 1 ≤ 5 ∧ 60 ≤ 120 ∧ Cond.methodLink RX11 i arraycopyName ∈ pz_tbl))) (List.forall_mem_cons.mpr ⟨(fun _ => Or.inl (s_X11_within (by decide) (by decide) (Or.inl pz_wq425))), List.forall_mem_cons.mpr ⟨((fun z => by cases z)), List.forall_mem_cons.mpr ⟨((fun z => by cases z)), List.forall_mem_cons.mpr ⟨((fun z => by cases z)), fun _ h => absurd h List.not_mem_nil⟩⟩⟩⟩) false i k' h rfl
  · intro a M hlen hpre
    obtain ⟨th, d, h, w, rfl, hpre⟩ : ∃ th d h w, a = [.inr (.inr (11, th)), .inl d, .inl h, .inl w] ∧ (pz_ic M) := by
      have hpre : (match (generalizing := false) a with | [.inr (.inr (11, th)), .inl d, .inl h, .inl w] => pz_ic M | _ => False) := hpre
      split at hpre
      · exact ⟨_, _, _, _, rfl, hpre⟩
      · exact hpre.elim
    exact Nat.le_of_ble_eq_true rfl
  · intro a M hlen hcan hM hpre Ok hgo
    obtain ⟨th, d, h, w, rfl, hpre⟩ : ∃ th d h w, a = [.inr (.inr (11, th)), .inl d, .inl h, .inl w] ∧ (pz_ic M) := by
      have hpre : (match (generalizing := false) a with | [.inr (.inr (11, th)), .inl d, .inl h, .inl w] => pz_ic M | _ => False) := hpre
      split at hpre
      · exact ⟨_, _, _, _, rfl, hpre⟩
      · exact hpre.elim
    obtain ⟨k_th, hc_th⟩ := pz_tlm hcan
    have k_th : pz_kd th = 11 ∧ th < 231 := k_th
    have R_th := pz_kd11 k_th.1
    subst R_th
    obtain ⟨k_d, hc_d⟩ := pz_tlm hc_th
    have l_d : -2147483648 ≤ d := k_d.1
    have u_d : d ≤ 2147483647 := k_d.2
    obtain ⟨k_h, hc_h⟩ := pz_tlm hc_d
    have l_h : -2147483648 ≤ h := k_h.1
    have u_h : h ≤ 2147483647 := k_h.2
    obtain ⟨k_w, hc_w⟩ := pz_tlm hc_h
    have l_w : -2147483648 ≤ w := k_w.1
    have u_w : w ≤ 2147483647 := k_w.2
    have hI : pz_ic M := hpre
    have hI0 := hI
    have hS : pq_pr pq_Pk M M := pq_pr.rf
    refine hgo (fun _ => false) 49 0 _ [] M ?_
    refine And.intro (True.intro) ?_
    intro v4 M4 a4 b4 q4
    obtain ⟨q4, z4⟩ := q4
    subst z4
    refine And.intro (fun h7 => ?_) (fun h7 => ?_)
    · skip
      refine And.intro rfl ?_
      refine ⟨fun ls l1 F hT hF hW => ?_, hS⟩
      show _ = sd_brv ls F d h w
      unfold sd_brv
      rw [if_neg (fun z => by
        first
          | (split at q4 <;> omega)
          | (split at q4 <;> split at q15 <;> omega)
          | (split at q4 <;> split at q15 <;> split at q24 <;> omega)
          | omega)]
    · skip
      refine And.intro (True.intro) ?_
      intro v15 M15 a15 b15 q15
      obtain ⟨q15, z15⟩ := q15
      subst z15
      refine And.intro (fun h18 => ?_) (fun h18 => ?_)
      · skip
        refine And.intro rfl ?_
        refine ⟨fun ls l1 F hT hF hW => ?_, hS⟩
        show _ = sd_brv ls F d h w
        unfold sd_brv
        rw [if_neg (fun z => by
          first
            | (split at q4 <;> omega)
            | (split at q4 <;> split at q15 <;> omega)
            | (split at q4 <;> split at q15 <;> split at q24 <;> omega)
            | omega)]
      · skip
        refine And.intro (True.intro) ?_
        intro v24 M24 a24 b24 q24
        obtain ⟨q24, z24⟩ := q24
        subst z24
        refine And.intro (fun h27 => ?_) (fun h27 => ?_)
        · skip
          have GP : (1 ≤ d ∧ d ≤ 60) ∧ (0 ≤ h ∧ h ≤ 1000000) ∧ 0 ≤ w ∧ w ≤ 1 := by
            split at q4 <;> split at q15 <;> split at q24 <;> omega
          refine pz_nrc (c := 6) rfl ?_
          refine pz_nrc (c := 71) rfl ?_
          refine And.intro (hI) ?_
          intro M41 q41
          obtain ⟨q41, z41⟩ := q41
          have hS : pq_pr pq_Pk M M41 := hS.tr z41
          have hI : pz_ic M41 := hS.1 hI0
          have hS41 := hS
          refine pz_nrc (c := 6) rfl ?_
          refine pz_nrc (c := 71) rfl ?_
          refine And.intro (hI) ?_
          intro v53 M53 a53 b53 q53
          obtain ⟨q53, z53⟩ := q53
          have hS : pq_pr pq_Pk M M53 := hS.tr z53
          have hI : pz_ic M53 := hS.1 hI0
          refine And.intro (fun h61 => ?_) (fun h61 => ?_)
          · skip
            refine And.intro rfl ?_
            refine ⟨fun ls l1 F hT hF hW => ?_, hS⟩
            have a := q41 rfl (by first | decide | omega) ls l1 F hT hF hW
            have b := q53 rfl ls F d.toNat (sd_se_k hF hW hS41) hW a
            have l := sd_bf_b (ls := ls) (F := F) (d := d.toNat) (h := h) (C := sd_cC F) (2 ^ sd_pc 12 (sd_cC F))
            have l2 := sd_cC_l (F := F)
            have b1 : v53 = sd_bbe ls F d.toNat h := b.1
            have l3 : -1 ≤ sd_bbe ls F d.toNat h ∧ sd_bbe ls F d.toNat h ≤ (sd_cC F : Int) := l
            show _ = sd_brv ls F d h w
            unfold sd_brv
            rw [if_pos (by first | decide | omega), ← b1]
            first
              | (rw [if_pos (by first | decide | omega)]; done)
              | (have k := q85 rfl ls F d.toNat v53.toNat (sd_se_k hF hW hS) hW b.2 (by first | decide | omega) (by first | decide | omega)
                 rw [if_neg (by first | decide | omega), e88, k])
          · skip
            refine And.intro (fun h66 => ?_) (fun h66 => ?_)
            · skip
              refine pz_nrc (c := 6) rfl ?_
              refine pz_nrc (c := 71) rfl ?_
              refine And.intro (hI) ?_
              intro v85 M85 a85 b85 q85
              obtain ⟨q85, z85⟩ := q85
              subst z85
              intro v88 e88 a88 b88
              refine And.intro rfl ?_
              refine ⟨fun ls l1 F hT hF hW => ?_, hS⟩
              have a := q41 rfl (by first | decide | omega) ls l1 F hT hF hW
              have b := q53 rfl ls F d.toNat (sd_se_k hF hW hS41) hW a
              have l := sd_bf_b (ls := ls) (F := F) (d := d.toNat) (h := h) (C := sd_cC F) (2 ^ sd_pc 12 (sd_cC F))
              have l2 := sd_cC_l (F := F)
              have b1 : v53 = sd_bbe ls F d.toNat h := b.1
              have l3 : -1 ≤ sd_bbe ls F d.toNat h ∧ sd_bbe ls F d.toNat h ≤ (sd_cC F : Int) := l
              show _ = sd_brv ls F d h w
              unfold sd_brv
              rw [if_pos (by first | decide | omega), ← b1]
              first
                | (rw [if_pos (by first | decide | omega)]; done)
                | (have k := q85 rfl ls F d.toNat v53.toNat (sd_se_k hF hW hS) hW b.2 (by first | decide | omega) (by first | decide | omega)
                   rw [if_neg (by first | decide | omega), e88, k])
            · skip
              refine And.intro rfl ?_
              refine ⟨fun ls l1 F hT hF hW => ?_, hS⟩
              have a := q41 rfl (by first | decide | omega) ls l1 F hT hF hW
              have b := q53 rfl ls F d.toNat (sd_se_k hF hW hS41) hW a
              have l := sd_bf_b (ls := ls) (F := F) (d := d.toNat) (h := h) (C := sd_cC F) (2 ^ sd_pc 12 (sd_cC F))
              have l2 := sd_cC_l (F := F)
              have b1 : v53 = sd_bbe ls F d.toNat h := b.1
              have l3 : -1 ≤ sd_bbe ls F d.toNat h ∧ sd_bbe ls F d.toNat h ≤ (sd_cC F : Int) := l
              show _ = sd_brv ls F d h w
              unfold sd_brv
              rw [if_pos (by first | decide | omega), ← b1]
              first
                | (rw [if_pos (by first | decide | omega)]; done)
                | (have k := q85 rfl ls F d.toNat v53.toNat (sd_se_k hF hW hS) hW b.2 (by first | decide | omega) (by first | decide | omega)
                   rw [if_neg (by first | decide | omega), e88, k])
        · skip
          skip
          refine And.intro rfl ?_
          refine ⟨fun ls l1 F hT hF hW => ?_, hS⟩
          show _ = sd_brv ls F d h w
          unfold sd_brv
          rw [if_neg (fun z => by
            first
              | (split at q4 <;> omega)
              | (split at q4 <;> split at q15 <;> omega)
              | (split at q4 <;> split at q15 <;> split at q24 <;> omega)
              | omega)]
theorem v4_X11_bridges {fr lo i : Nat} {own : String} (h1 : 5 + 1 ≤ fr) (h2 : 8 + (5 + 11) + 120 ≤ lo) (h3 : .methodLink own i yX11_bridges ∈ lw_tbl) : pz_cV fr lo own i k4_X11_bridges :=
  pz_cVk (maxL := 5) (fr' := 5) (lo' := 120) 3 11 h4_X11_bridges rfl ⟨(pz_nhc_RX11 yX11_bridges rfl).1, (pz_nhc_RX11 yX11_bridges rfl).2, pz_ds14⟩ ⟨pz_wq935, pz_wq933, pz_wq934, pz_wq1⟩ (Or.inl ⟨TX11, 14, rfl⟩) (fun a M _ h => by
    have h : (match (generalizing := false) a with | [.inr (.inr (11, th)), .inl d, .inl h, .inl w] => pz_ic M | _ => False) := h
    split at h
    · exact ⟨_, _, rfl⟩
    · exact h.elim) h1 h2 h3
end
section
noncomputable def k3_X12_bridgeable : pz_C := (1, 1, fun a M => (match a with | [.inr (.inr (12, th))] => pz_im M | _ => False), fun a M r M' => (match a, r with | [.inr (.inr (12, th))], some (.inl v) => ((0 ≤ v ∧ v ≤ 4095) ∧ pz_zs v (fun k => decide (sd_cb (M 60) k))) ∧ M = M' | _, _ => False))
noncomputable abbrev ct3_X12_bridgeable : List (Bool × Nat × pz_C) := [(true, 336, k3_X12_canBridge)]
set_option maxRecDepth 100000 in
set_option maxHeartbeats 4000000 in
theorem h3_X12_bridgeable : pz_H yX12_bridgeable cX12_bridgeable 3 (some .int) k3_X12_bridgeable 4 85 := by
  refine pz_mk (own := RX12) (tb := t_X12_bridgeable) (fl := pz_flf fl_RX12) (ci := pz_cif ci_RX12) (ct := pz_ctf ct3_X12_bridgeable) (rz := false) (pz_pfc_RX12 yX12_bridgeable rfl) rfl t_X12_bridgeable_ok (pz_flk fl_RX12_ok) (pz_cik ci_RX12_ok) ?_ ?_ (Or.inl ⟨rfl, rfl⟩) ?_ ?_
  · exact fun i k' h => pz_ctk (l := ct3_X12_bridgeable) (P := fun b i k => b = true → pz_cV 4 85 RX12 i k) (List.forall_mem_cons.mpr ⟨(fun _ => v3_X12_canBridge (by decide) (by decide) pz_wq1491), fun _ h => absurd h List.not_mem_nil⟩) true i k' h rfl
  · exact fun i k' h => pz_ctk (l := ct3_X12_bridgeable) (P := fun b i k => b = false → (pz_cS 4 85 RX12 i k ∨ (k = pz_kac ∧ 1 ≤ 4 ∧ 60 ≤ 85 ∧ Cond.methodLink RX12 i arraycopyName ∈ pz_tbl))) (List.forall_mem_cons.mpr ⟨((fun z => by cases z)), fun _ h => absurd h List.not_mem_nil⟩) false i k' h rfl
  · intro a M hlen hpre
    obtain ⟨th, rfl, hpre⟩ : ∃ th, a = [.inr (.inr (12, th))] ∧ (pz_im M) := by
      have hpre : (match (generalizing := false) a with | [.inr (.inr (12, th))] => pz_im M | _ => False) := hpre
      split at hpre
      · exact ⟨_, rfl, hpre⟩
      · exact hpre.elim
    exact Nat.le_of_ble_eq_true rfl
  · intro a M hlen hcan hM hpre Ok hgo
    obtain ⟨th, rfl, hpre⟩ : ∃ th, a = [.inr (.inr (12, th))] ∧ (pz_im M) := by
      have hpre : (match (generalizing := false) a with | [.inr (.inr (12, th))] => pz_im M | _ => False) := hpre
      split at hpre
      · exact ⟨_, rfl, hpre⟩
      · exact hpre.elim
    obtain ⟨k_th, hc_th⟩ := pz_tlm hcan
    have k_th : pz_kd th = 12 ∧ th < 231 := k_th
    have R_th := pz_kd12 k_th.1
    subst R_th
    clear k_th
    have hI : pz_im M := hpre
    have I88 := hI.1.1
    have L4 : ∀ (fu : Nat) (x1 : Int) (x2 : Int), (12 - x2).toNat < fu → (0 ≤ x2) → (0 ≤ x1) → (x1 ≤ 4095) → (x2 ≤ M 60 88) → (pz_bt x2 (fun k => decide (sd_cb (M 60) k)) x1) → Ok 4 [some (.inr (.inr (12, 1))), some (.inl x1), some (.inl x2)] [] M := by
      intro fu
      induction fu with
      | zero => exact fun _ _ hn => absurd hn (Nat.not_lt_zero _)
      | succ fu ih4 =>
        intro x1 x2 hn4 g4_0 g4_1 g4_2 g4_3 g4_4
        have L31 : ∀ (x1 : Int) (x2 : Int) (s0 : Int) (s1 : Int), (0 ≤ x2) → (x2 < 12) → (0 ≤ s0) → (s0 ≤ 4095) → (0 ≤ s1) → (s1 ≤ 4095) → ((12 - x2).toNat < fu + 1) → (x2 < M 60 88) → (pz_bt x2 (fun k => decide (sd_cb (M 60) k)) s0) → (pz_bO x2 (fun k => decide (sd_cb (M 60) k)) s1) → Ok 31 [some (.inr (.inr (12, 1))), some (.inl x1), some (.inl x2)] [.inl s1, .inl s0] M := by
          intro x1 x2 s0 s1 g31_0 g31_1 g31_2 g31_3 g31_4 g31_5 g31_6 g31_7 g31_8 g31_9
          refine hgo (fun p => Nat.beq p 4 || Nat.beq p 31) 28 31 _ _ _ ?_
          intro v31 e31 a31 b31
          have e31k := e31
          have X31 := pz_or12 (x := s0) (y := s1) (by first | decide | omega) (by first | decide | omega) (by first | decide | omega) (by first | decide | omega)
          rw [← e31] at X31
          intro v33 e33 a33 b33
          rw [pz_wi (by first | decide | omega) (by first | decide | omega)] at e33
          have G4 : pz_bt v33 (fun k => decide (sd_cb (M 60) k)) v31 := pz_bt_s ⟨by omega, by omega⟩ e33 (by assumption : pz_bt x2 (fun k => decide (sd_cb (M 60) k)) s0) (by assumption : pz_bO x2 (fun k => decide (sd_cb (M 60) k)) s1) e31k
          exact ih4 _ _ (by first | decide | omega) (by first | omega | assumption | exact pz_bt_0) (by first | omega | assumption | exact pz_bt_0) (by first | omega | assumption | exact pz_bt_0) (by first | omega | assumption | exact pz_bt_0) (by first | omega | assumption | exact pz_bt_0)
        refine hgo (fun p => Nat.beq p 4 || Nat.beq p 31) 28 4 _ _ _ ?_
        refine pz_nrc (c := 60) rfl ?_
        refine And.intro (by first | decide | omega) (And.intro (show _ < (1725 : Int) from by omega) ?_)
        intro v11 e11 a11 b11
        replace e11 : v11 = M 60 88 := e11
        have I11 : 0 ≤ v11 ∧ v11 ≤ 12 := by
          rw [e11]
          exact hI.1.1
        clear a11 b11
        refine And.intro (fun h12 => ?_) (fun h12 => ?_)
        · skip
          refine And.intro rfl ?_
          exact ⟨⟨by omega, pz_bt_e (by assumption : pz_bt x2 (fun k => decide (sd_cb (M 60) k)) x1) (sd_cbn_e (by first | decide | omega) (by first | decide | omega))⟩, rfl⟩
        · skip
          refine And.intro (hI) ?_
          intro v18 M18 a18 b18 q18
          obtain ⟨q18, z18⟩ := q18
          subst z18
          clear a18 b18
          refine And.intro (fun h21 => ?_) (fun h21 => ?_)
          · skip
            have G31 : pz_bO x2 (fun k => decide (sd_cb (M 60) k)) 0 := pz_bO_n (decide_eq_false (fun z => by
              rw [show (52 + x2).toNat = 52 + x2.toNat by omega, show (76 + x2).toNat = 76 + x2.toNat by omega, show (64 + x2).toNat = 64 + x2.toNat by omega] at q18
              unfold sd_cb sd_in at z
              omega))
            replace q18 := q18.resolve_left (fun z => absurd (z.1.symm.trans h21) (by decide))
            exact L31 _ _ _ _ (by first | omega | assumption) (by first | omega | assumption) (by first | omega | assumption) (by first | omega | assumption) (by first | omega | assumption) (by first | omega | assumption) (by first | omega | assumption) (by first | omega | assumption) (by first | omega | assumption) (by first | omega | assumption)
          · skip
            skip
            replace q18 := q18.resolve_right (fun z => h21 z.1)
            intro v26 e26 a26 b26
            have e26k := e26
            have G31 : pz_bO x2 (fun k => decide (sd_cb (M 60) k)) v26 := pz_bO_y ⟨by omega, by omega⟩ (decide_eq_true (by
              rw [show (52 + x2).toNat = 52 + x2.toNat by omega, show (76 + x2).toNat = 76 + x2.toNat by omega, show (64 + x2).toNat = 64 + x2.toNat by omega] at q18
              unfold sd_cb sd_in
              omega)) e26k
            have S26 := pz_shl1 (c := x2) (by first | decide | omega) (by first | decide | omega)
            rw [← e26] at S26
            exact L31 _ _ _ _ (by first | omega | assumption) (by first | omega | assumption) (by first | omega | assumption) (by first | omega | assumption) (by first | omega | assumption) (by first | omega | assumption) (by first | omega | assumption) (by first | omega | assumption) (by first | omega | assumption) (by first | omega | assumption)
    refine hgo (fun p => Nat.beq p 4 || Nat.beq p 31) 28 0 _ [] M ?_
    exact L4 _ _ _ (Nat.lt_succ_self _) (by first | omega | assumption | exact pz_bt_0) (by first | omega | assumption | exact pz_bt_0) (by first | omega | assumption | exact pz_bt_0) (by first | omega | assumption | exact pz_bt_0) (by first | omega | assumption | exact pz_bt_0)
theorem v3_X12_bridgeable {fr lo i : Nat} {own : String} (h1 : 4 + 1 ≤ fr) (h2 : 8 + (3 + 11) + 85 ≤ lo) (h3 : .methodLink own i yX12_bridgeable ∈ lw_tbl) : pz_cV fr lo own i k3_X12_bridgeable :=
  pz_cVk (maxL := 3) (fr' := 4) (lo' := 85) 0 12 h3_X12_bridgeable rfl ⟨(pz_nhc_RX12 yX12_bridgeable rfl).1, (pz_nhc_RX12 yX12_bridgeable rfl).2, pz_ds1⟩ ⟨pz_wq1668, pz_wq1667, pz_ws78, pz_wq13⟩ (Or.inl ⟨TX12, 28, rfl⟩) (fun a M _ h => by
    have h : (match (generalizing := false) a with | [.inr (.inr (12, th))] => pz_im M | _ => False) := h
    split at h
    · exact ⟨_, _, rfl⟩
    · exact h.elim) h1 h2 h3
noncomputable def k4_X12_costsOf : pz_C := (2, 1, fun a M => (match a with | [.inr (.inr (12, th)), .inl x] => pz_im M | _ => False), fun a M r M' => (match a, r with | [.inr (.inr (12, th)), .inl x], some (.inl v) => (∀ ls : List pz_lne, pq_wlw ls (M 60) → (∀ q ∈ ls, pv_ln q) → sd_wf (M 60) → ∀ u : Nat, x = (u : Int) → u < 4096 → v = sd_cst ls (M 60) u) ∧ pz_rl pz_QV M M' | _, _ => False))
noncomputable abbrev ct4_X12_costsOf : List (Bool × Nat × pz_C) := [(true, 385, k3_X12_costOf)]
set_option maxRecDepth 100000 in
set_option maxHeartbeats 4000000 in
theorem h4_X12_costsOf : pz_H yX12_costsOf cX12_costsOf 4 (some .int) k4_X12_costsOf 5 116 := by
  refine pz_mk (own := RX12) (tb := t_X12_costsOf) (fl := pz_flf fl_RX12) (ci := pz_cif ci_RX12) (ct := pz_ctf ct4_X12_costsOf) (rz := false) (pz_pfc_RX12 yX12_costsOf rfl) rfl t_X12_costsOf_ok (pz_flk fl_RX12_ok) (pz_cik ci_RX12_ok) ?_ ?_ (Or.inl ⟨rfl, rfl⟩) ?_ ?_
  · exact fun i k' h => pz_ctk (l := ct4_X12_costsOf) (P := fun b i k => b = true → pz_cV 5 116 RX12 i k) (List.forall_mem_cons.mpr ⟨(fun _ => v3_X12_costOf (by decide) (by decide) pz_wq1577), fun _ h => absurd h List.not_mem_nil⟩) true i k' h rfl
  · exact fun i k' h => pz_ctk (l := ct4_X12_costsOf) (P := fun b i k => b = false → (pz_cS 5 116 RX12 i k ∨ (k = pz_kac ∧ 1 ≤ 5 ∧ 60 ≤ 116 ∧ Cond.methodLink RX12 i arraycopyName ∈ pz_tbl))) (List.forall_mem_cons.mpr ⟨((fun z => by cases z)), fun _ h => absurd h List.not_mem_nil⟩) false i k' h rfl
  · intro a M hlen hpre
    obtain ⟨th, x, rfl, hpre⟩ : ∃ th x, a = [.inr (.inr (12, th)), .inl x] ∧ (pz_im M) := by
      have hpre : (match (generalizing := false) a with | [.inr (.inr (12, th)), .inl x] => pz_im M | _ => False) := hpre
      split at hpre
      · exact ⟨_, _, rfl, hpre⟩
      · exact hpre.elim
    exact Nat.le_of_ble_eq_true rfl
  · intro a M hlen hcan hM hpre Ok hgo
    obtain ⟨th, x, rfl, hpre⟩ : ∃ th x, a = [.inr (.inr (12, th)), .inl x] ∧ (pz_im M) := by
      have hpre : (match (generalizing := false) a with | [.inr (.inr (12, th)), .inl x] => pz_im M | _ => False) := hpre
      split at hpre
      · exact ⟨_, _, rfl, hpre⟩
      · exact hpre.elim
    obtain ⟨k_th, hc_th⟩ := pz_tlm hcan
    have k_th : pz_kd th = 12 ∧ th < 231 := k_th
    have R_th := pz_kd12 k_th.1
    subst R_th
    clear k_th
    obtain ⟨k_x, hc_x⟩ := pz_tlm hc_th
    have l_x : -2147483648 ≤ x := k_x.1
    have u_x : x ≤ 2147483647 := k_x.2
    have hI : pz_im M := hpre
    have hI0 := hI
    have hS : pz_rl pz_QV M M := pz_rl.rf
    have I88 := hI.1.1
    have L4 : ∀ (fu : Nat) (x2 : Int) (x3 : Int) (N4 : pz_M), (12 - x3).toNat < fu → (pz_rl pz_QV M N4) → (0 ≤ x3) → (x3 ≤ M 60 88) → (∀ ls : List pz_lne, pq_wlw ls (M 60) → (∀ q ∈ ls, pv_ln q) → sd_wf (M 60) → ∀ u : Nat, x = (u : Int) → u < 4096 → x2 = sd_cs ls (M 60) u x3.toNat) → Ok 4 [some (.inr (.inr (12, 1))), some (.inl x), some (.inl x2), some (.inl x3)] [] N4 := by
      intro fu
      induction fu with
      | zero => exact fun _ _ _ hn => absurd hn (Nat.not_lt_zero _)
      | succ fu ih4 =>
        intro x2 x3 N4 hn4 hS g4_1 g4_2 g4_3
        have hI : pz_im N4 := hS.1 hI0
        have W4 : N4 60 = M 60 := funext fun j => hS.2 60 j (by unfold pz_QV; first | decide | omega)
        have L34 : ∀ (x2 : Int) (x3 : Int) (s0 : Int) (s1 : Int) (N34 : pz_M), (pz_rl pz_QV M N34) → (0 ≤ x3) → (x3 < 12) → ((12 - x3).toNat < fu + 1) → (x3 < M 60 88) → (∀ ls : List pz_lne, pq_wlw ls (M 60) → (∀ q ∈ ls, pv_ln q) → sd_wf (M 60) → ∀ u : Nat, x = (u : Int) → u < 4096 → s0 = sd_cs ls (M 60) u x3.toNat ∧ s1 = if u.testBit x3.toNat = true then sd_co ls (M 60) x3.toNat else 0) → Ok 34 [some (.inr (.inr (12, 1))), some (.inl x), some (.inl x2), some (.inl x3)] [.inl s1, .inl s0] N34 := by
          intro x2 x3 s0 s1 N34 hS g34_1 g34_2 g34_3 g34_4 g34_5
          have hI : pz_im N34 := hS.1 hI0
          refine hgo (fun p => Nat.beq p 4 || Nat.beq p 34) 31 34 _ _ _ ?_
          intro v34 e34 a34 b34
          have e34k := e34
          intro v36 e36 a36 b36
          rw [pz_wi (by first | decide | omega) (by first | decide | omega)] at e36
          have G4 : ∀ ls : List pz_lne, pq_wlw ls (M 60) → (∀ q ∈ ls, pv_ln q) → sd_wf (M 60) → ∀ u : Nat, x = (u : Int) → u < 4096 → v34 = sd_cs ls (M 60) u v36.toNat := fun ls hl hq hW u hu hl2 => by
            obtain ⟨a, b⟩ := (by assumption : ∀ ls : List pz_lne, pq_wlw ls (M 60) → (∀ q ∈ ls, pv_ln q) → sd_wf (M 60) → ∀ u : Nat, x = (u : Int) → u < 4096 → s0 = sd_cs ls (M 60) u x3.toNat ∧ s1 = if u.testBit x3.toNat = true then sd_co ls (M 60) x3.toNat else 0) ls hl hq hW u hu hl2
            have bb := sd_cs_b (ls := ls) (F := M 60) (u := u) x3.toNat
            have cb := sd_co_b (ls := ls) (F := M 60) (i := x3.toNat)
            have s1b : 0 ≤ s1 ∧ s1 ≤ 99 := by
              rw [b]
              split <;> omega
            rw [show v36.toNat = x3.toNat + 1 by omega]
            show v34 = sd_cs ls (M 60) u x3.toNat + (if u.testBit x3.toNat = true then sd_co ls (M 60) x3.toNat else 0)
            rw [← b, ← a, e34k, pz_wi (by first | decide | omega) (by first | decide | omega)]
          exact ih4 _ _ _ (by first | decide | omega) hS (by first | omega | assumption | exact fun ls hl hq hW u hu hl2 => rfl) (by first | omega | assumption | exact fun ls hl hq hW u hu hl2 => rfl) (by first | omega | assumption | exact fun ls hl hq hW u hu hl2 => rfl)
        refine hgo (fun p => Nat.beq p 4 || Nat.beq p 34) 31 4 _ _ _ ?_
        refine pz_nrc (c := 60) rfl ?_
        refine And.intro (by first | decide | omega) (And.intro (show _ < (1725 : Int) from by omega) ?_)
        intro v11 e11 a11 b11
        replace e11 : v11 = N4 60 88 := e11
        have I11 : 0 ≤ v11 ∧ v11 ≤ 12 := by
          rw [e11]
          exact hI.1.1
        clear a11 b11
        rw [W4] at e11
        refine And.intro (fun h12 => ?_) (fun h12 => ?_)
        · skip
          refine And.intro rfl ?_
          refine ⟨fun ls hl hq hW u hu hl2 => ?_, hS⟩
          have g := (by assumption : ∀ ls : List pz_lne, pq_wlw ls (M 60) → (∀ q ∈ ls, pv_ln q) → sd_wf (M 60) → ∀ u : Nat, x = (u : Int) → u < 4096 → x2 = sd_cs ls (M 60) u x3.toNat) ls hl hq hW u hu hl2
          rw [show x3.toNat = sd_n (M 60) by unfold sd_n; omega] at g
          exact g
        · skip
          intro v18 e18 a18 b18
          intro v20 e20 a20 b20
          have X20 := pz_a1 e20
          refine And.intro (fun h22 => ?_) (fun h22 => ?_)
          · skip
            have G34 : ∀ ls : List pz_lne, pq_wlw ls (M 60) → (∀ q ∈ ls, pv_ln q) → sd_wf (M 60) → ∀ u : Nat, x = (u : Int) → u < 4096 → x2 = sd_cs ls (M 60) u x3.toNat ∧ 0 = if u.testBit x3.toNat = true then sd_co ls (M 60) x3.toNat else 0 := fun ls hl hq hW u hu hl2 => by
              have B := pz_sb_at (f := u.testBit) ⟨u, hu, hl2, fun _ => rfl⟩ (by first | decide | omega) (by first | decide | omega) e18 e20
              refine ⟨(by assumption : ∀ ls : List pz_lne, pq_wlw ls (M 60) → (∀ q ∈ ls, pv_ln q) → sd_wf (M 60) → ∀ u : Nat, x = (u : Int) → u < 4096 → x2 = sd_cs ls (M 60) u x3.toNat) ls hl hq hW u hu hl2, ?_⟩
              by_cases y : u.testBit x3.toNat = true
              · rw [if_pos y] at B
                exfalso
                omega
              · rw [if_neg y]
            replace h22 : v20 ≤ 0 := by omega
            exact L34 _ _ _ _ _ hS (by first | omega | assumption) (by first | omega | assumption) (by first | omega | assumption) (by first | omega | assumption) (by first | omega | assumption)
          · skip
            skip
            refine And.intro (And.intro hI (And.intro (by first | decide | omega) (by first | decide | omega))) ?_
            intro v27 M27 a27 b27 q27
            obtain ⟨q27, z27⟩ := q27
            have hS : pz_rl pz_QV M M27 := hS.tr (pz_rl.wk pz_wk_QS_QV z27)
            have hI : pz_im M27 := hS.1 hI0
            clear a27 b27
            rw [W4] at q27
            have G34 : ∀ ls : List pz_lne, pq_wlw ls (M 60) → (∀ q ∈ ls, pv_ln q) → sd_wf (M 60) → ∀ u : Nat, x = (u : Int) → u < 4096 → x2 = sd_cs ls (M 60) u x3.toNat ∧ v27 = if u.testBit x3.toNat = true then sd_co ls (M 60) x3.toNat else 0 := fun ls hl hq hW u hu hl2 => by
              have B := pz_sb_at (f := u.testBit) ⟨u, hu, hl2, fun _ => rfl⟩ (by first | decide | omega) (by first | decide | omega) e18 e20
              refine ⟨(by assumption : ∀ ls : List pz_lne, pq_wlw ls (M 60) → (∀ q ∈ ls, pv_ln q) → sd_wf (M 60) → ∀ u : Nat, x = (u : Int) → u < 4096 → x2 = sd_cs ls (M 60) u x3.toNat) ls hl hq hW u hu hl2, ?_⟩
              by_cases y : u.testBit x3.toNat = true
              · rw [if_pos y]
                exact q27.1 (by first | decide | omega) ls hl hq
              · rw [if_neg y] at B
                exfalso
                omega
            exact L34 _ _ _ _ _ hS (by first | omega | assumption) (by first | omega | assumption) (by first | omega | assumption) (by first | omega | assumption) (by first | omega | assumption)
    refine hgo (fun p => Nat.beq p 4 || Nat.beq p 34) 31 0 _ [] M ?_
    exact L4 _ _ _ _ (Nat.lt_succ_self _) hS (by first | omega | assumption | exact fun ls hl hq hW u hu hl2 => rfl) (by first | omega | assumption | exact fun ls hl hq hW u hu hl2 => rfl) (by first | omega | assumption | exact fun ls hl hq hW u hu hl2 => rfl)
theorem v4_X12_costsOf {fr lo i : Nat} {own : String} (h1 : 5 + 1 ≤ fr) (h2 : 8 + (4 + 11) + 116 ≤ lo) (h3 : .methodLink own i yX12_costsOf ∈ lw_tbl) : pz_cV fr lo own i k4_X12_costsOf :=
  pz_cVk (maxL := 4) (fr' := 5) (lo' := 116) 1 12 h4_X12_costsOf rfl ⟨(pz_nhc_RX12 yX12_costsOf rfl).1, (pz_nhc_RX12 yX12_costsOf rfl).2, pz_ds5⟩ ⟨pz_wq1672, pz_wq1671, pz_ws79, pz_wq13⟩ (Or.inl ⟨TX12, 28, rfl⟩) (fun a M _ h => by
    have h : (match (generalizing := false) a with | [.inr (.inr (12, th)), .inl x] => pz_im M | _ => False) := h
    split at h
    · exact ⟨_, _, rfl⟩
    · exact h.elim) h1 h2 h3
noncomputable def k4_X12_bridges : pz_C := (4, 1, fun a M => (match a with | [.inr (.inr (12, th)), .inl n, .inl h, .inl w] => pz_im M | _ => False), fun a M r M' => (match a, r with | [.inr (.inr (12, th)), .inl n, .inl h, .inl w], some (.inl v) => (sd_wm M v (fun ls F => sd_brv ls F n h w)) ∧ pz_rl pz_QV M M' | _, _ => False))
noncomputable abbrev ct4_X12_bridges : List (Bool × Nat × pz_C) := [(false, 54, k_X12_isIn), (true, 430, k3_X12_bridgeable), (true, 433, k4_X12_costsOf), (false, 398, k3_X12_count), (true, 291, k3_X12_bridgedOnes), (true, 427, k4_X12_leastBy)]
set_option maxRecDepth 100000 in
set_option maxHeartbeats 4000000 in
theorem h4_X12_bridges : pz_H yX12_bridges cX12_bridges 8 (some .int) k4_X12_bridges 8 192 := by
  refine pz_mk (own := RX12) (tb := t_X12_bridges) (fl := pz_flf fl_RX12) (ci := pz_cif ci_RX12) (ct := pz_ctf ct4_X12_bridges) (rz := false) (pz_pfc_RX12 yX12_bridges rfl) rfl t_X12_bridges_ok (pz_flk fl_RX12_ok) (pz_cik ci_RX12_ok) ?_ ?_ (Or.inl ⟨rfl, rfl⟩) ?_ ?_
  · exact fun i k' h => pz_ctk (l := ct4_X12_bridges) (P := fun b i k => b = true → pz_cV 8 192 RX12 i k) (List.forall_mem_cons.mpr ⟨((fun z => by cases z)), List.forall_mem_cons.mpr ⟨(fun _ => v3_X12_bridgeable (by decide) (by decide) pz_wq1665), List.forall_mem_cons.mpr ⟨(fun _ => v4_X12_costsOf (by decide) (by decide) pz_wq1669), List.forall_mem_cons.mpr ⟨((fun z => by cases z)), List.forall_mem_cons.mpr ⟨(fun _ => v3_X12_bridgedOnes (by decide) (by decide) pz_wq1454), List.forall_mem_cons.mpr ⟨(fun _ => v4_X12_leastBy (by decide) (by decide) pz_wq1657), fun _ h => absurd h List.not_mem_nil⟩⟩⟩⟩⟩⟩) true i k' h rfl
  · exact fun i k' h => pz_ctk (l := ct4_X12_bridges) (P := fun b i k => b = false → (pz_cS 8 192 RX12 i k ∨ (k = pz_kac ∧ 1 ≤ 8 ∧ 60 ≤ 192 ∧ Cond.methodLink RX12 i arraycopyName ∈ pz_tbl))) (List.forall_mem_cons.mpr ⟨(fun _ => Or.inl (s_X12_isIn (by decide) (by decide) (Or.inl pz_wq1217))), List.forall_mem_cons.mpr ⟨((fun z => by cases z)), List.forall_mem_cons.mpr ⟨((fun z => by cases z)), List.forall_mem_cons.mpr ⟨(fun _ => Or.inl (s3_X12_count (by decide) (by decide) (Or.inl pz_wq1606))), List.forall_mem_cons.mpr ⟨((fun z => by cases z)), List.forall_mem_cons.mpr ⟨((fun z => by cases z)), fun _ h => absurd h List.not_mem_nil⟩⟩⟩⟩⟩⟩) false i k' h rfl
  · intro a M hlen hpre
    obtain ⟨th, n, h, w, rfl, hpre⟩ : ∃ th n h w, a = [.inr (.inr (12, th)), .inl n, .inl h, .inl w] ∧ (pz_im M) := by
      have hpre : (match (generalizing := false) a with | [.inr (.inr (12, th)), .inl n, .inl h, .inl w] => pz_im M | _ => False) := hpre
      split at hpre
      · exact ⟨_, _, _, _, rfl, hpre⟩
      · exact hpre.elim
    exact Nat.le_of_ble_eq_true rfl
  · intro a M hlen hcan hM hpre Ok hgo
    obtain ⟨th, n, h, w, rfl, hpre⟩ : ∃ th n h w, a = [.inr (.inr (12, th)), .inl n, .inl h, .inl w] ∧ (pz_im M) := by
      have hpre : (match (generalizing := false) a with | [.inr (.inr (12, th)), .inl n, .inl h, .inl w] => pz_im M | _ => False) := hpre
      split at hpre
      · exact ⟨_, _, _, _, rfl, hpre⟩
      · exact hpre.elim
    obtain ⟨k_th, hc_th⟩ := pz_tlm hcan
    have k_th : pz_kd th = 12 ∧ th < 231 := k_th
    have R_th := pz_kd12 k_th.1
    subst R_th
    clear k_th
    obtain ⟨k_n, hc_n⟩ := pz_tlm hc_th
    have l_n : -2147483648 ≤ n := k_n.1
    have u_n : n ≤ 2147483647 := k_n.2
    obtain ⟨k_h, hc_h⟩ := pz_tlm hc_n
    have l_h : -2147483648 ≤ h := k_h.1
    have u_h : h ≤ 2147483647 := k_h.2
    obtain ⟨k_w, hc_w⟩ := pz_tlm hc_h
    have l_w : -2147483648 ≤ w := k_w.1
    have u_w : w ≤ 2147483647 := k_w.2
    have hI : pz_im M := hpre
    have hI0 := hI
    have hS : pz_rl pz_QV M M := pz_rl.rf
    have I88 := hI.1.1
    have L44 : ∀ (fu : Nat) (x4 : Int) (x5 : Int) (x6 : Int) (d7 : Option pz_V) (N44 : pz_M), (4096 - x6).toNat < fu → (pz_rl pz_QV M N44) → (0 ≤ x6) → (x4 ≤ 4095) → ((1 ≤ n ∧ n ≤ 60) ∧ (0 ≤ h ∧ h ≤ 1000000) ∧ 0 ≤ w ∧ w ≤ 1) → (0 ≤ x4) → (-1 ≤ x5) → (x5 < 4096) → (sd_wf (M 60) → x4 = (sd_cC (M 60) : Int)) → (∀ ls : List pz_lne, pq_wlw ls (M 60) → (∀ q ∈ ls, pv_ln q) → sd_wf (M 60) → x4 = (sd_cC (M 60) : Int) ∧ sd_bmE ls (M 60) n.toNat h x5 x6) → Ok 44 [some (.inr (.inr (12, 1))), some (.inl n), some (.inl h), some (.inl w), some (.inl x4), some (.inl x5), some (.inl x6), d7] [] N44 := by
      intro fu
      induction fu with
      | zero => exact fun _ _ _ _ _ hn => absurd hn (Nat.not_lt_zero _)
      | succ fu ih44 =>
        intro x4 x5 x6 d7 N44 hn44 hS g44_1 g44_2 g44_3 g44_4 g44_5 g44_6 g44_7 g44_8
        have hI : pz_im N44 := hS.1 hI0
        have W44 : N44 60 = M 60 := funext fun j => hS.2 60 j (by unfold pz_QV; first | decide | omega)
        have L137 : ∀ (x4 : Int) (x5 : Int) (x6 : Int) (d7 : Option pz_V) (N137 : pz_M), (pz_rl pz_QV M N137) → (0 ≤ x6) → (x6 ≤ 4095) → (x4 ≤ 4095) → ((4096 - x6).toNat < fu + 1) → ((1 ≤ n ∧ n ≤ 60) ∧ (0 ≤ h ∧ h ≤ 1000000) ∧ 0 ≤ w ∧ w ≤ 1) → (0 ≤ x4) → (-1 ≤ x5) → (x5 < 4096) → (sd_wf (M 60) → x4 = (sd_cC (M 60) : Int)) → (∀ ls : List pz_lne, pq_wlw ls (M 60) → (∀ q ∈ ls, pv_ln q) → sd_wf (M 60) → x4 = (sd_cC (M 60) : Int) ∧ sd_bmE ls (M 60) n.toNat h x5 (x6 + 1)) → Ok 137 [some (.inr (.inr (12, 1))), some (.inl n), some (.inl h), some (.inl w), some (.inl x4), some (.inl x5), some (.inl x6), d7] [] N137 := by
          intro x4 x5 x6 d7 N137 hS g137_1 g137_2 g137_3 g137_4 g137_5 g137_6 g137_7 g137_8 g137_9 g137_10
          have hI : pz_im N137 := hS.1 hI0
          refine hgo (fun p => Nat.beq p 44 || Nat.beq p 87 || Nat.beq p 112 || Nat.beq p 137) 88 137 _ _ _ ?_
          intro v137 e137 a137 b137
          rw [pz_wi (by first | decide | omega) (by first | decide | omega)] at e137
          have G44 : ∀ ls : List pz_lne, pq_wlw ls (M 60) → (∀ q ∈ ls, pv_ln q) → sd_wf (M 60) → x4 = (sd_cC (M 60) : Int) ∧ sd_bmE ls (M 60) n.toNat h x5 v137 := by
            rw [e137]
            assumption
          exact ih44 _ _ _ _ _ (by first | decide | omega) hS (by first | omega | assumption) (by first | omega | assumption) (by first | omega | assumption) (by first | omega | assumption) (by first | omega | assumption) (by first | omega | assumption) (by first | omega | assumption) (by first | omega | assumption)
        have L112 : ∀ (x4 : Int) (x5 : Int) (x6 : Int) (x7 : Int) (N112 : pz_M), (pz_rl pz_QV M N112) → (0 ≤ x6) → (x6 ≤ 4095) → (x4 ≤ 4095) → ((4096 - x6).toNat < fu + 1) → ((1 ≤ n ∧ n ≤ 60) ∧ (0 ≤ h ∧ h ≤ 1000000) ∧ 0 ≤ w ∧ w ≤ 1) → (0 ≤ x4) → (-1 ≤ x5) → (x5 < 4096) → (sd_wf (M 60) → x4 = (sd_cC (M 60) : Int)) → (∀ ls : List pz_lne, pq_wlw ls (M 60) → (∀ q ∈ ls, pv_ln q) → sd_wf (M 60) → x4 = (sd_cC (M 60) : Int) ∧ sd_bmE ls (M 60) n.toNat h x5 x6 ∧ (∀ j, x6.toNat.testBit j = true → (sd_cC (M 60)).testBit j = true) ∧ sd_btr ls (M 60) x6.toNat x5) → Ok 112 [some (.inr (.inr (12, 1))), some (.inl n), some (.inl h), some (.inl w), some (.inl x4), some (.inl x5), some (.inl x6), some (.inl x7)] [] N112 := by
          intro x4 x5 x6 x7 N112 hS g112_1 g112_2 g112_3 g112_4 g112_5 g112_6 g112_7 g112_8 g112_9 g112_10
          have hI : pz_im N112 := hS.1 hI0
          have W112 : N112 60 = M 60 := funext fun j => hS.2 60 j (by unfold pz_QV; first | decide | omega)
          refine hgo (fun p => Nat.beq p 44 || Nat.beq p 87 || Nat.beq p 112 || Nat.beq p 137) 88 112 _ _ _ ?_
          refine And.intro (hI) ?_
          intro v114 M114 a114 b114 q114
          obtain ⟨q114, z114⟩ := q114
          subst z114
          rw [W112] at q114
          intro v119 e119 a119 b119
          refine And.intro (hI) ?_
          intro v121 M121 a121 b121 q121
          obtain ⟨q121, z121⟩ := q121
          have hS : pz_rl pz_QV M M121 := hS.tr z121
          have hI : pz_im M121 := hS.1 hI0
          rw [W112] at q121
          have G121 : ∀ ls : List pz_lne, pq_wlw ls (M 60) → (∀ q ∈ ls, pv_ln q) → sd_wf (M 60) → (∀ j, x6.toNat.testBit j = true → (sd_cC (M 60)).testBit j = true) → v121 = sd_lsv ls (M 60) n.toNat (sd_bu (M 60) x6.toNat) := fun ls hl hq hW g3 => by
            exact q121 ls hl hq hW (by first | decide | omega) (sd_bu (M 60) x6.toNat) (sd_bu_z (u := x6.toNat) q114 (by first | decide | omega) (by rw [show ((x6.toNat : Nat) : Int) = x6 by omega]; exact e119)) (sd_bu_0 hW g3)
          refine And.intro (fun h126 => ?_) ?_
          · skip
            refine And.intro (fun h127 => ?_) (fun h127 => ?_)
            · skip
              exact absurd h127 (by decide)
            · skip
              have G137 : ∀ ls : List pz_lne, pq_wlw ls (M 60) → (∀ q ∈ ls, pv_ln q) → sd_wf (M 60) → x4 = (sd_cC (M 60) : Int) ∧ sd_bmE ls (M 60) n.toNat h x5 (x6 + 1) := fun ls hl hq hW => by
                obtain ⟨g1, g2, g3, g4⟩ := (by assumption : ∀ ls : List pz_lne, pq_wlw ls (M 60) → (∀ q ∈ ls, pv_ln q) → sd_wf (M 60) → x4 = (sd_cC (M 60) : Int) ∧ sd_bmE ls (M 60) n.toNat h x5 x6 ∧ (∀ j, x6.toNat.testBit j = true → (sd_cC (M 60)).testBit j = true) ∧ sd_btr ls (M 60) x6.toNat x5) ls hl hq hW
                have o := G121 ls hl hq hW g3
                refine ⟨g1, sd_bmE_y g2 rfl g3 (if_neg (fun z => ?_)).symm⟩
                have z1 := z.1
                omega
              exact L137 _ _ _ _ _ hS (by first | omega | assumption) (by first | omega | assumption) (by first | omega | assumption) (by first | omega | assumption) (by first | omega | assumption) (by first | omega | assumption) (by first | omega | assumption) (by first | omega | assumption) (by first | omega | assumption) (by first | omega | assumption)
          refine And.intro (fun h126 => ?_) ?_
          · skip
            refine And.intro (fun h127 => ?_) (fun h127 => ?_)
            · skip
              have G137 : ∀ ls : List pz_lne, pq_wlw ls (M 60) → (∀ q ∈ ls, pv_ln q) → sd_wf (M 60) → x4 = (sd_cC (M 60) : Int) ∧ sd_bmE ls (M 60) n.toNat h x6 (x6 + 1) := fun ls hl hq hW => by
                obtain ⟨g1, g2, g3, g4⟩ := (by assumption : ∀ ls : List pz_lne, pq_wlw ls (M 60) → (∀ q ∈ ls, pv_ln q) → sd_wf (M 60) → x4 = (sd_cC (M 60) : Int) ∧ sd_bmE ls (M 60) n.toNat h x5 x6 ∧ (∀ j, x6.toNat.testBit j = true → (sd_cC (M 60)).testBit j = true) ∧ sd_btr ls (M 60) x6.toNat x5) ls hl hq hW
                have o := G121 ls hl hq hW g3
                refine ⟨g1, sd_bmE_y g2 rfl g3 ?_⟩
                refine Eq.trans ?_ (if_pos ⟨by omega, g4⟩).symm
                omega
              exact L137 _ _ _ _ _ hS (by first | omega | assumption) (by first | omega | assumption) (by first | omega | assumption) (by first | omega | assumption) (by first | omega | assumption) (by first | omega | assumption) (by first | omega | assumption) (by first | omega | assumption) (by first | omega | assumption) (by first | omega | assumption)
            · skip
              exact absurd h127 (by decide)
          intro h126
          refine And.intro (fun h127 => ?_) (fun h127 => ?_)
          · skip
            have G137 : ∀ ls : List pz_lne, pq_wlw ls (M 60) → (∀ q ∈ ls, pv_ln q) → sd_wf (M 60) → x4 = (sd_cC (M 60) : Int) ∧ sd_bmE ls (M 60) n.toNat h x6 (x6 + 1) := fun ls hl hq hW => by
              obtain ⟨g1, g2, g3, g4⟩ := (by assumption : ∀ ls : List pz_lne, pq_wlw ls (M 60) → (∀ q ∈ ls, pv_ln q) → sd_wf (M 60) → x4 = (sd_cC (M 60) : Int) ∧ sd_bmE ls (M 60) n.toNat h x5 x6 ∧ (∀ j, x6.toNat.testBit j = true → (sd_cC (M 60)).testBit j = true) ∧ sd_btr ls (M 60) x6.toNat x5) ls hl hq hW
              have o := G121 ls hl hq hW g3
              refine ⟨g1, sd_bmE_y g2 rfl g3 ?_⟩
              refine Eq.trans ?_ (if_pos ⟨by omega, g4⟩).symm
              omega
            exact L137 _ _ _ _ _ hS (by first | omega | assumption) (by first | omega | assumption) (by first | omega | assumption) (by first | omega | assumption) (by first | omega | assumption) (by first | omega | assumption) (by first | omega | assumption) (by first | omega | assumption) (by first | omega | assumption) (by first | omega | assumption)
          · skip
            exact absurd h127 (by decide)
        have L87 : ∀ (x4 : Int) (x5 : Int) (x6 : Int) (d7 : Option pz_V) (s0 : Int) (N87 : pz_M), (pz_rl pz_QV M N87) → (0 ≤ x6) → (x6 ≤ 4095) → (x4 ≤ 4095) → ((4096 - x6).toNat < fu + 1) → ((1 ≤ n ∧ n ≤ 60) ∧ (0 ≤ h ∧ h ≤ 1000000) ∧ 0 ≤ w ∧ w ≤ 1) → (0 ≤ x4) → (-1 ≤ x5) → (x5 < 4096) → (sd_wf (M 60) → x4 = (sd_cC (M 60) : Int)) → (∀ ls : List pz_lne, pq_wlw ls (M 60) → (∀ q ∈ ls, pv_ln q) → sd_wf (M 60) → x4 = (sd_cC (M 60) : Int) ∧ sd_bmE ls (M 60) n.toNat h x5 x6 ∧ (∀ j, x6.toNat.testBit j = true → (sd_cC (M 60)).testBit j = true) ∧ ((x5 = -1 ∧ s0 = -1) ∨ (x5 ≠ -1 ∧ s0 = sd_cst ls (M 60) x6.toNat - sd_cst ls (M 60) x5.toNat))) → Ok 87 [some (.inr (.inr (12, 1))), some (.inl n), some (.inl h), some (.inl w), some (.inl x4), some (.inl x5), some (.inl x6), d7] [.inl s0] N87 := by
          intro x4 x5 x6 d7 s0 N87 hS g87_1 g87_2 g87_3 g87_4 g87_5 g87_6 g87_7 g87_8 g87_9 g87_10
          have hI : pz_im N87 := hS.1 hI0
          have W87 : N87 60 = M 60 := funext fun j => hS.2 60 j (by unfold pz_QV; first | decide | omega)
          refine hgo (fun p => Nat.beq p 44 || Nat.beq p 87 || Nat.beq p 112 || Nat.beq p 137) 88 87 _ _ _ ?_
          refine And.intro (fun h91 => ?_) (fun h91 => ?_)
          · skip
            have G137 : ∀ ls : List pz_lne, pq_wlw ls (M 60) → (∀ q ∈ ls, pv_ln q) → sd_wf (M 60) → x4 = (sd_cC (M 60) : Int) ∧ sd_bmE ls (M 60) n.toNat h x5 (x6 + 1) := fun ls hl hq hW => by
              obtain ⟨g1, g2, g3, g4⟩ := (by assumption : ∀ ls : List pz_lne, pq_wlw ls (M 60) → (∀ q ∈ ls, pv_ln q) → sd_wf (M 60) → x4 = (sd_cC (M 60) : Int) ∧ sd_bmE ls (M 60) n.toNat h x5 x6 ∧ (∀ j, x6.toNat.testBit j = true → (sd_cC (M 60)).testBit j = true) ∧ ((x5 = -1 ∧ s0 = -1) ∨ (x5 ≠ -1 ∧ s0 = sd_cst ls (M 60) x6.toNat - sd_cst ls (M 60) x5.toNat))) ls hl hq hW
              refine ⟨g1, sd_bmE_y g2 rfl g3 (if_neg (fun z => ?_)).symm⟩
              have z2 := z.2
              unfold sd_btr at z2
              omega
            exact L137 _ _ _ _ _ hS (by first | omega | assumption) (by first | omega | assumption) (by first | omega | assumption) (by first | omega | assumption) (by first | omega | assumption) (by first | omega | assumption) (by first | omega | assumption) (by first | omega | assumption) (by first | omega | assumption) (by first | omega | assumption)
          · skip
            skip
            refine And.intro (fun h96 => ?_) (fun h96 => ?_)
            · skip
              have G112 : ∀ ls : List pz_lne, pq_wlw ls (M 60) → (∀ q ∈ ls, pv_ln q) → sd_wf (M 60) → x4 = (sd_cC (M 60) : Int) ∧ sd_bmE ls (M 60) n.toNat h x5 x6 ∧ (∀ j, x6.toNat.testBit j = true → (sd_cC (M 60)).testBit j = true) ∧ sd_btr ls (M 60) x6.toNat x5 := fun ls hl hq hW => by
                obtain ⟨g1, g2, g3, g4⟩ := (by assumption : ∀ ls : List pz_lne, pq_wlw ls (M 60) → (∀ q ∈ ls, pv_ln q) → sd_wf (M 60) → x4 = (sd_cC (M 60) : Int) ∧ sd_bmE ls (M 60) n.toNat h x5 x6 ∧ (∀ j, x6.toNat.testBit j = true → (sd_cC (M 60)).testBit j = true) ∧ ((x5 = -1 ∧ s0 = -1) ∨ (x5 ≠ -1 ∧ s0 = sd_cst ls (M 60) x6.toNat - sd_cst ls (M 60) x5.toNat))) ls hl hq hW
                refine ⟨g1, g2, g3, ?_⟩
                unfold sd_btr
                omega
              replace h96 : s0 ≤ -1 := by omega
              exact L112 _ _ _ _ _ hS (by first | omega | assumption) (by first | omega | assumption) (by first | omega | assumption) (by first | omega | assumption) (by first | omega | assumption) (by first | omega | assumption) (by first | omega | assumption) (by first | omega | assumption) (by first | omega | assumption) (by first | omega | assumption)
            · skip
              skip
              refine And.intro (True.intro) ?_
              intro v101 M101 a101 b101 q101
              obtain ⟨q101, z101⟩ := q101
              subst z101
              refine And.intro (True.intro) ?_
              intro v106 M106 a106 b106 q106
              obtain ⟨q106, z106⟩ := q106
              subst z106
              refine And.intro (fun h109 => ?_) (fun h109 => ?_)
              · skip
                have G137 : ∀ ls : List pz_lne, pq_wlw ls (M 60) → (∀ q ∈ ls, pv_ln q) → sd_wf (M 60) → x4 = (sd_cC (M 60) : Int) ∧ sd_bmE ls (M 60) n.toNat h x5 (x6 + 1) := fun ls hl hq hW => by
                  obtain ⟨g1, g2, g3, g4⟩ := (by assumption : ∀ ls : List pz_lne, pq_wlw ls (M 60) → (∀ q ∈ ls, pv_ln q) → sd_wf (M 60) → x4 = (sd_cC (M 60) : Int) ∧ sd_bmE ls (M 60) n.toNat h x5 x6 ∧ (∀ j, x6.toNat.testBit j = true → (sd_cC (M 60)).testBit j = true) ∧ ((x5 = -1 ∧ s0 = -1) ∨ (x5 ≠ -1 ∧ s0 = sd_cst ls (M 60) x6.toNat - sd_cst ls (M 60) x5.toNat))) ls hl hq hW
                  refine ⟨g1, sd_bmE_y g2 rfl g3 (if_neg (fun z => ?_)).symm⟩
                  have z2 := z.2
                  unfold sd_btr at z2
                  have c1 := q101 _ (sd_zsn (v := x6) (by first | decide | omega) (by first | decide | omega))
                  have c2 := q106 _ (sd_zsn (v := x5) (by first | decide | omega) (by first | decide | omega))
                  omega
                exact L137 _ _ _ _ _ hS (by first | omega | assumption) (by first | omega | assumption) (by first | omega | assumption) (by first | omega | assumption) (by first | omega | assumption) (by first | omega | assumption) (by first | omega | assumption) (by first | omega | assumption) (by first | omega | assumption) (by first | omega | assumption)
              · skip
                have G112 : ∀ ls : List pz_lne, pq_wlw ls (M 60) → (∀ q ∈ ls, pv_ln q) → sd_wf (M 60) → x4 = (sd_cC (M 60) : Int) ∧ sd_bmE ls (M 60) n.toNat h x5 x6 ∧ (∀ j, x6.toNat.testBit j = true → (sd_cC (M 60)).testBit j = true) ∧ sd_btr ls (M 60) x6.toNat x5 := fun ls hl hq hW => by
                  obtain ⟨g1, g2, g3, g4⟩ := (by assumption : ∀ ls : List pz_lne, pq_wlw ls (M 60) → (∀ q ∈ ls, pv_ln q) → sd_wf (M 60) → x4 = (sd_cC (M 60) : Int) ∧ sd_bmE ls (M 60) n.toNat h x5 x6 ∧ (∀ j, x6.toNat.testBit j = true → (sd_cC (M 60)).testBit j = true) ∧ ((x5 = -1 ∧ s0 = -1) ∨ (x5 ≠ -1 ∧ s0 = sd_cst ls (M 60) x6.toNat - sd_cst ls (M 60) x5.toNat))) ls hl hq hW
                  refine ⟨g1, g2, g3, ?_⟩
                  by_cases y : x5 = -1
                  · exact Or.inl y
                  · have c1 := q101 _ (sd_zsn (v := x6) (by first | decide | omega) (by first | decide | omega))
                    have c2 := q106 _ (sd_zsn (v := x5) (by first | decide | omega) (by first | decide | omega))
                    exact Or.inr (Or.inr ⟨by omega, by omega⟩)
                exact L112 _ _ _ _ _ hS (by first | omega | assumption) (by first | omega | assumption) (by first | omega | assumption) (by first | omega | assumption) (by first | omega | assumption) (by first | omega | assumption) (by first | omega | assumption) (by first | omega | assumption) (by first | omega | assumption) (by first | omega | assumption)
        refine hgo (fun p => Nat.beq p 44 || Nat.beq p 87 || Nat.beq p 112 || Nat.beq p 137) 88 44 _ _ _ ?_
        refine And.intro (fun h48 => ?_) (fun h48 => ?_)
        · skip
          refine And.intro (fun h146 => ?_) (fun h146 => ?_)
          · skip
            refine And.intro rfl ?_
            refine ⟨fun ls hl hq hW => ?_, hS⟩
            have hm := hW.1
            show _ = sd_brv ls (M 60) n h w
            obtain ⟨g1, g2⟩ := (by assumption : ∀ ls : List pz_lne, pq_wlw ls (M 60) → (∀ q ∈ ls, pv_ln q) → sd_wf (M 60) → x4 = (sd_cC (M 60) : Int) ∧ sd_bmE ls (M 60) n.toNat h x5 x6) ls hl hq hW
            have z := sd_bmE_z g2 (by first | decide | omega)
            unfold sd_brv
            rw [if_pos (by first | decide | omega), ← z]
            first
              | (rw [if_pos (by first | decide | omega)]; done)
              | (have k := q163 ls hl hq hW x5.toNat (by first | decide | omega) (by first | decide | omega)
                 rw [if_neg (by first | decide | omega), e166, k])
          · skip
            replace h146 : 0 ≤ x5 := by omega
            refine And.intro (fun h151 => ?_) (fun h151 => ?_)
            · skip
              replace h151 : w ≤ 0 := by omega
              refine And.intro (hI) ?_
              intro v163 M163 a163 b163 q163
              obtain ⟨q163, z163⟩ := q163
              have hS : pz_rl pz_QV M M163 := hS.tr z163
              have hI : pz_im M163 := hS.1 hI0
              rw [W44] at q163
              intro v166 e166 a166 b166
              refine And.intro rfl ?_
              refine ⟨fun ls hl hq hW => ?_, hS⟩
              have hm := hW.1
              show _ = sd_brv ls (M 60) n h w
              obtain ⟨g1, g2⟩ := (by assumption : ∀ ls : List pz_lne, pq_wlw ls (M 60) → (∀ q ∈ ls, pv_ln q) → sd_wf (M 60) → x4 = (sd_cC (M 60) : Int) ∧ sd_bmE ls (M 60) n.toNat h x5 x6) ls hl hq hW
              have z := sd_bmE_z g2 (by first | decide | omega)
              unfold sd_brv
              rw [if_pos (by first | decide | omega), ← z]
              first
                | (rw [if_pos (by first | decide | omega)]; done)
                | (have k := q163 ls hl hq hW x5.toNat (by first | decide | omega) (by first | decide | omega)
                   rw [if_neg (by first | decide | omega), e166, k])
            · skip
              refine And.intro rfl ?_
              refine ⟨fun ls hl hq hW => ?_, hS⟩
              have hm := hW.1
              show _ = sd_brv ls (M 60) n h w
              obtain ⟨g1, g2⟩ := (by assumption : ∀ ls : List pz_lne, pq_wlw ls (M 60) → (∀ q ∈ ls, pv_ln q) → sd_wf (M 60) → x4 = (sd_cC (M 60) : Int) ∧ sd_bmE ls (M 60) n.toNat h x5 x6) ls hl hq hW
              have z := sd_bmE_z g2 (by first | decide | omega)
              unfold sd_brv
              rw [if_pos (by first | decide | omega), ← z]
              first
                | (rw [if_pos (by first | decide | omega)]; done)
                | (have k := q163 ls hl hq hW x5.toNat (by first | decide | omega) (by first | decide | omega)
                   rw [if_neg (by first | decide | omega), e166, k])
        · skip
          intro v56 e56 a56 b56
          intro v57 e57 a57 b57
          have G56 : sd_wf (M 60) → x4 = (sd_cC (M 60) : Int) := by assumption
          have sb : sd_wf (M 60) → (v57 = 0 ↔ (∀ j, x6.toNat.testBit j = true → (sd_cC (M 60)).testBit j = true)) := fun hW => by
            have xz := sd_zsn (v := x6) (by first | decide | omega) (by first | decide | omega)
            have zz := pz_sb_an xz (show pz_zs x4 (sd_cC (M 60)).testBit from ⟨sd_cC (M 60), (G56 hW), sd_cC_l, fun _ => rfl⟩) e56 e57
            exact sd_sub0 zz
          refine And.intro (fun h58 => ?_) (fun h58 => ?_)
          · skip
            skip
            refine And.intro (fun h67 => ?_) (fun h67 => ?_)
            · skip
              skip
              replace h67 : 0 ≤ x5 := by omega
              refine And.intro (hI) ?_
              intro v77 M77 a77 b77 q77
              obtain ⟨q77, z77⟩ := q77
              have hS : pz_rl pz_QV M M77 := hS.tr z77
              have hI : pz_im M77 := hS.1 hI0
              rw [W44] at q77
              have W77 : M77 60 = M 60 := (funext fun j => z77.2 60 j (by unfold pz_QV; first | decide | omega)).trans W44
              refine And.intro (hI) ?_
              intro v83 M83 a83 b83 q83
              obtain ⟨q83, z83⟩ := q83
              have hS : pz_rl pz_QV M M83 := hS.tr z83
              have hI : pz_im M83 := hS.1 hI0
              rw [W77] at q83
              intro v86 e86 a86 b86
              have e86k := e86
              have G87 : ∀ ls : List pz_lne, pq_wlw ls (M 60) → (∀ q ∈ ls, pv_ln q) → sd_wf (M 60) → x4 = (sd_cC (M 60) : Int) ∧ sd_bmE ls (M 60) n.toNat h x5 x6 ∧ (∀ j, x6.toNat.testBit j = true → (sd_cC (M 60)).testBit j = true) ∧ ((x5 = -1 ∧ v86 = -1) ∨ (x5 ≠ -1 ∧ v86 = sd_cst ls (M 60) x6.toNat - sd_cst ls (M 60) x5.toNat)) := fun ls hl hq hW => by
                obtain ⟨g1, g2⟩ := (by assumption : ∀ ls : List pz_lne, pq_wlw ls (M 60) → (∀ q ∈ ls, pv_ln q) → sd_wf (M 60) → x4 = (sd_cC (M 60) : Int) ∧ sd_bmE ls (M 60) n.toNat h x5 x6) ls hl hq hW
                have k1 := q77 ls hl hq hW x6.toNat (by first | decide | omega) (by first | decide | omega)
                have k2 := q83 ls hl hq hW x5.toNat (by first | decide | omega) (by first | decide | omega)
                have b1 := sd_cst_b (ls := ls) (u := x6.toNat) hW
                have b2 := sd_cst_b (ls := ls) (u := x5.toNat) hW
                rw [pz_wi (by first | decide | omega) (by first | decide | omega)] at e86k
                exact ⟨g1, g2, (sb hW).mp (by first | decide | omega), Or.inr ⟨by omega, by omega⟩⟩
              exact L87 _ _ _ _ _ _ hS (by first | omega | assumption) (by first | omega | assumption) (by first | omega | assumption) (by first | omega | assumption) (by first | omega | assumption) (by first | omega | assumption) (by first | omega | assumption) (by first | omega | assumption) (by first | omega | assumption) (by first | omega | assumption)
            · skip
              have G87 : ∀ ls : List pz_lne, pq_wlw ls (M 60) → (∀ q ∈ ls, pv_ln q) → sd_wf (M 60) → x4 = (sd_cC (M 60) : Int) ∧ sd_bmE ls (M 60) n.toNat h x5 x6 ∧ (∀ j, x6.toNat.testBit j = true → (sd_cC (M 60)).testBit j = true) ∧ ((x5 = -1 ∧ (-1 : Int) = -1) ∨ (x5 ≠ -1 ∧ (-1 : Int) = sd_cst ls (M 60) x6.toNat - sd_cst ls (M 60) x5.toNat)) := fun ls hl hq hW => by
                obtain ⟨g1, g2⟩ := (by assumption : ∀ ls : List pz_lne, pq_wlw ls (M 60) → (∀ q ∈ ls, pv_ln q) → sd_wf (M 60) → x4 = (sd_cC (M 60) : Int) ∧ sd_bmE ls (M 60) n.toNat h x5 x6) ls hl hq hW
                exact ⟨g1, g2, (sb hW).mp (by first | decide | omega), Or.inl ⟨by omega, rfl⟩⟩
              exact L87 _ _ _ _ _ _ hS (by first | omega | assumption) (by first | omega | assumption) (by first | omega | assumption) (by first | omega | assumption) (by first | omega | assumption) (by first | omega | assumption) (by first | omega | assumption) (by first | omega | assumption) (by first | omega | assumption) (by first | omega | assumption)
          · skip
            have G137 : ∀ ls : List pz_lne, pq_wlw ls (M 60) → (∀ q ∈ ls, pv_ln q) → sd_wf (M 60) → x4 = (sd_cC (M 60) : Int) ∧ sd_bmE ls (M 60) n.toNat h x5 (x6 + 1) := fun ls hl hq hW => by
              obtain ⟨g1, g2⟩ := (by assumption : ∀ ls : List pz_lne, pq_wlw ls (M 60) → (∀ q ∈ ls, pv_ln q) → sd_wf (M 60) → x4 = (sd_cC (M 60) : Int) ∧ sd_bmE ls (M 60) n.toNat h x5 x6) ls hl hq hW
              exact ⟨g1, sd_bmE_n g2 rfl (fun z => absurd ((sb hW).mpr z) (by first | decide | omega))⟩
            exact L137 _ _ _ _ _ hS (by first | omega | assumption) (by first | omega | assumption) (by first | omega | assumption) (by first | omega | assumption) (by first | omega | assumption) (by first | omega | assumption) (by first | omega | assumption) (by first | omega | assumption) (by first | omega | assumption) (by first | omega | assumption)
    refine hgo (fun p => Nat.beq p 44 || Nat.beq p 87 || Nat.beq p 112 || Nat.beq p 137) 88 0 _ [] M ?_
    refine And.intro (True.intro) ?_
    intro v4 M4 a4 b4 q4
    obtain ⟨q4, z4⟩ := q4
    subst z4
    clear a4 b4
    refine And.intro (fun h7 => ?_) (fun h7 => ?_)
    · skip
      replace q4 := q4.resolve_left (fun z => absurd (z.1.symm.trans h7) (by decide))
      clear h7
      refine And.intro rfl ?_
      refine ⟨fun ls hl hq hW => ?_, hS⟩
      have hm := hW.1
      show _ = sd_brv ls (M 60) n h w
      unfold sd_brv
      rw [if_neg (by first | decide | omega)]
    · skip
      replace q4 := q4.resolve_right (fun z => h7 z.1)
      clear h7
      refine And.intro (True.intro) ?_
      intro v15 M15 a15 b15 q15
      obtain ⟨q15, z15⟩ := q15
      subst z15
      clear a15 b15
      refine And.intro (fun h18 => ?_) (fun h18 => ?_)
      · skip
        replace q15 := q15.resolve_left (fun z => absurd (z.1.symm.trans h18) (by decide))
        clear h18
        refine And.intro rfl ?_
        refine ⟨fun ls hl hq hW => ?_, hS⟩
        have hm := hW.1
        show _ = sd_brv ls (M 60) n h w
        unfold sd_brv
        rw [if_neg (by first | decide | omega)]
      · skip
        replace q15 := q15.resolve_right (fun z => h18 z.1)
        clear h18
        refine And.intro (True.intro) ?_
        intro v24 M24 a24 b24 q24
        obtain ⟨q24, z24⟩ := q24
        subst z24
        clear a24 b24
        refine And.intro (fun h27 => ?_) (fun h27 => ?_)
        · skip
          have GP : (1 ≤ n ∧ n ≤ 60) ∧ (0 ≤ h ∧ h ≤ 1000000) ∧ 0 ≤ w ∧ w ≤ 1 := by omega
          replace q24 := q24.resolve_right (fun z => h27 z.1)
          clear h27
          refine And.intro (hI) ?_
          intro v33 M33 a33 b33 q33
          obtain ⟨q33, z33⟩ := q33
          subst z33
          have G33 : sd_wf (M 60) → v33 = (sd_cC (M 60) : Int) := fun hW => sd_cC_z hW q33.2
          have G44 : ∀ ls : List pz_lne, pq_wlw ls (M 60) → (∀ q ∈ ls, pv_ln q) → sd_wf (M 60) → v33 = (sd_cC (M 60) : Int) ∧ sd_bmE ls (M 60) n.toNat h (-1) 0 := fun ls hl hq hW => ⟨G33 hW, sd_bmE_0⟩
          exact L44 _ _ _ _ _ _ (Nat.lt_succ_self _) hS (by first | omega | assumption) (by first | omega | assumption) (by first | omega | assumption) (by first | omega | assumption) (by first | omega | assumption) (by first | omega | assumption) (by first | omega | assumption) (by first | omega | assumption)
        · skip
          skip
          replace q24 := q24.resolve_left (fun z => absurd (z.1.symm.trans h27) (by decide))
          clear h27
          refine And.intro rfl ?_
          refine ⟨fun ls hl hq hW => ?_, hS⟩
          have hm := hW.1
          show _ = sd_brv ls (M 60) n h w
          unfold sd_brv
          rw [if_neg (by first | decide | omega)]
theorem v4_X12_bridges {fr lo i : Nat} {own : String} (h1 : 8 + 1 ≤ fr) (h2 : 8 + (8 + 11) + 192 ≤ lo) (h3 : .methodLink own i yX12_bridges ∈ lw_tbl) : pz_cV fr lo own i k4_X12_bridges :=
  pz_cVk (maxL := 8) (fr' := 8) (lo' := 192) 3 12 h4_X12_bridges rfl ⟨(pz_nhc_RX12 yX12_bridges rfl).1, (pz_nhc_RX12 yX12_bridges rfl).2, pz_ds14⟩ ⟨pz_wq1664, pz_wq1662, pz_wq1663, pz_wq13⟩ (Or.inl ⟨TX12, 28, rfl⟩) (fun a M _ h => by
    have h : (match (generalizing := false) a with | [.inr (.inr (12, th)), .inl n, .inl h, .inl w] => pz_im M | _ => False) := h
    split at h
    · exact ⟨_, _, rfl⟩
    · exact h.elim) h1 h2 h3
end
