def k3_X11_heap : pz_C := (2, 1, fun a M => (match a with | [.inr (.inr (11, th)), .inl i] => pz_ic M | _ => False), fun a M r M' => (match a, r with | [.inr (.inr (11, th)), .inl i], some (.inl v) => (sd_q M 71 (fun F => 0 ≤ i → i < F 88 → v = sd_hep F i.toNat)) ∧ M = M' | _, _ => False))
abbrev ct3_X11_heap : List (Bool × Nat × pz_C) := [(true, 107, k_X0_at)]
set_option maxRecDepth 100000 in
set_option maxHeartbeats 4000000 in
theorem h3_X11_heap : pz_H yX11_heap cX11_heap 3 (some .int) k3_X11_heap 1 21 := by
  refine pz_mk (own := RX11) (tb := t_X11_heap) (fl := pz_flf fl_RX11) (ci := pz_cif ci_RX11) (ct := pz_ctf ct3_X11_heap) (rz := false) (by decide +kernel) rfl t_X11_heap_ok (pz_flk fl_RX11_ok) (pz_cik ci_RX11_ok) ?_ ?_ (Or.inl ⟨rfl, rfl⟩) ?_ ?_
  · exact fun i k' h => pz_ctk (l := ct3_X11_heap) (P := fun b i k => b = true → pz_cV 1 21 RX11 i k) (List.forall_mem_cons.mpr ⟨(fun _ => v_X0_at (by decide) (by decide) (pz_mt 428 (by decide +kernel))), fun _ h => absurd h List.not_mem_nil⟩) true i k' h rfl
  · exact fun i k' h => pz_ctk (l := ct3_X11_heap) (P := fun b i k => b = false → (pz_cS 1 21 RX11 i k ∨ (k = pz_kac ∧ 1 ≤ 1 ∧ 60 ≤ 21 ∧ Cond.methodLink RX11 i arraycopyName ∈ pz_tbl))) (List.forall_mem_cons.mpr ⟨((fun z => by cases z)), fun _ h => absurd h List.not_mem_nil⟩) false i k' h rfl
  · intro a M hlen hpre
    obtain ⟨th, i, rfl, hpre⟩ : ∃ th i, a = [.inr (.inr (11, th)), .inl i] ∧ (pz_ic M) := by
      have hpre : (match (generalizing := false) a with | [.inr (.inr (11, th)), .inl i] => pz_ic M | _ => False) := hpre
      split at hpre
      · exact ⟨_, _, rfl, hpre⟩
      · exact hpre.elim
    exact Nat.le_of_ble_eq_true rfl
  · intro a M hlen hcan hM hpre Ok hgo
    obtain ⟨th, i, rfl, hpre⟩ : ∃ th i, a = [.inr (.inr (11, th)), .inl i] ∧ (pz_ic M) := by
      have hpre : (match (generalizing := false) a with | [.inr (.inr (11, th)), .inl i] => pz_ic M | _ => False) := hpre
      split at hpre
      · exact ⟨_, _, rfl, hpre⟩
      · exact hpre.elim
    obtain ⟨k_th, hc_th⟩ := pz_tlm hcan
    have k_th : pz_kd th = 11 ∧ th < 231 := k_th
    have R_th := pz_kd11 k_th.1
    subst R_th
    obtain ⟨k_i, hc_i⟩ := pz_tlm hc_th
    have l_i : -2147483648 ≤ i := k_i.1
    have u_i : i ≤ 2147483647 := k_i.2
    have hI : pz_ic M := hpre
    refine hgo (fun _ => false) 16 0 _ [] M ?_
    refine pz_nrc (c := 71) rfl ?_
    refine And.intro (True.intro) ?_
    intro r5 M5 k5 q5
    have R5 := pz_kd5 k5
    obtain ⟨q5, z5⟩ := q5
    subst z5
    have A5 := pz_at_lk (c := 71) (⟨by decide, by decide⟩ : 71 ≤ 71 ∧ 71 < 80) q5
    intro v10 e10 a10 b10
    refine And.intro (fun h14 => ?_) (fun h14 => ?_)
    · skip
      refine And.intro rfl ?_
      refine ⟨fun F hF hW h0 h1 => ?_, rfl⟩
      have b := sd_at (⟨by decide, by decide⟩ : 71 ≤ 71 ∧ 71 < 80) hF hW h0 h1 A5
      have b3 := b.2.2.2.1
      have b7 := b.2.2.2.2.2.2.2
      have hm := hW.1
      unfold sd_hep
      first
        | (rw [if_pos (by omega)]
           omega)
        | (rw [if_neg (by omega)]; done)
    · skip
      intro v18 e18 a18 b18
      refine And.intro rfl ?_
      refine ⟨fun F hF hW h0 h1 => ?_, rfl⟩
      have b := sd_at (⟨by decide, by decide⟩ : 71 ≤ 71 ∧ 71 < 80) hF hW h0 h1 A5
      have b3 := b.2.2.2.1
      have b7 := b.2.2.2.2.2.2.2
      have hm := hW.1
      unfold sd_hep
      first
        | (rw [if_pos (by omega)]
           omega)
        | (rw [if_neg (by omega)]; done)
theorem v3_X11_heap {fr lo i : Nat} {own : String} (h1 : 1 + 1 ≤ fr) (h2 : 8 + (3 + 11) + 21 ≤ lo) (h3 : .methodLink own i yX11_heap ∈ lw_tbl) : pz_cV fr lo own i k3_X11_heap :=
  pz_cVk (maxL := 3) (fr' := 1) (lo' := 21) 1 11 h3_X11_heap rfl ⟨by decide +kernel, by decide +kernel, by decide +kernel⟩ ⟨(pz_mt 1056 (by decide +kernel)), (pz_mt 1055 (by decide +kernel)), (pz_ms 3 (by decide +kernel)), (pz_mt 1 (by decide +kernel))⟩ (Or.inl ⟨TX11, 14, rfl⟩) (fun a M _ h => by
    have h : (match (generalizing := false) a with | [.inr (.inr (11, th)), .inl i] => pz_ic M | _ => False) := h
    split at h
    · exact ⟨_, _, rfl⟩
    · exact h.elim) h1 h2 h3
def k3_X11_game : pz_C := (2, 1, fun a M => (match a with | [.inr (.inr (11, th)), .inl w] => pz_ic M | _ => False), fun a M r M' => (match a, r with | [.inr (.inr (11, th)), .inl w], some (.inl v) => (sd_wc M v (fun _ F => sd_gmv F w)) ∧ M = M' | _, _ => False))
abbrev ct3_X11_game : List (Bool × Nat × pz_C) := [(false, 137, k_X11_within), (true, 328, k3_X11_heap), (false, 292, k_J9_min_7cf53)]
set_option maxRecDepth 100000 in
set_option maxHeartbeats 4000000 in
theorem h3_X11_game : pz_H yX11_game cX11_game 5 (some .int) k3_X11_game 2 43 := by
  refine pz_mk (own := RX11) (tb := t_X11_game) (fl := pz_flf fl_RX11) (ci := pz_cif ci_RX11) (ct := pz_ctf ct3_X11_game) (rz := false) (by decide +kernel) rfl t_X11_game_ok (pz_flk fl_RX11_ok) (pz_cik ci_RX11_ok) ?_ ?_ (Or.inl ⟨rfl, rfl⟩) ?_ ?_
  · exact fun i k' h => pz_ctk (l := ct3_X11_game) (P := fun b i k => b = true → pz_cV 2 43 RX11 i k) (List.forall_mem_cons.mpr ⟨((fun z => by cases z)), List.forall_mem_cons.mpr ⟨(fun _ => v3_X11_heap (by decide) (by decide) (pz_mt 1053 (by decide +kernel))), List.forall_mem_cons.mpr ⟨((fun z => by cases z)), fun _ h => absurd h List.not_mem_nil⟩⟩⟩) true i k' h rfl
  · exact fun i k' h => pz_ctk (l := ct3_X11_game) (P := fun b i k => b = false → (pz_cS 2 43 RX11 i k ∨ (k = pz_kac ∧ 1 ≤ 2 ∧ 60 ≤ 43 ∧ Cond.methodLink RX11 i arraycopyName ∈ pz_tbl))) (List.forall_mem_cons.mpr ⟨(fun _ => Or.inl (s_X11_within (by decide) (by decide) (Or.inl (pz_mt 425 (by decide +kernel))))), List.forall_mem_cons.mpr ⟨((fun z => by cases z)), List.forall_mem_cons.mpr ⟨(fun _ => Or.inl (s_J9_min_7cf53 (by decide) (by decide) (Or.inl (pz_mt 979 (by decide +kernel))))), fun _ h => absurd h List.not_mem_nil⟩⟩⟩) false i k' h rfl
  · intro a M hlen hpre
    obtain ⟨th, w, rfl, hpre⟩ : ∃ th w, a = [.inr (.inr (11, th)), .inl w] ∧ (pz_ic M) := by
      have hpre : (match (generalizing := false) a with | [.inr (.inr (11, th)), .inl w] => pz_ic M | _ => False) := hpre
      split at hpre
      · exact ⟨_, _, rfl, hpre⟩
      · exact hpre.elim
    exact Nat.le_of_ble_eq_true rfl
  · intro a M hlen hcan hM hpre Ok hgo
    obtain ⟨th, w, rfl, hpre⟩ : ∃ th w, a = [.inr (.inr (11, th)), .inl w] ∧ (pz_ic M) := by
      have hpre : (match (generalizing := false) a with | [.inr (.inr (11, th)), .inl w] => pz_ic M | _ => False) := hpre
      split at hpre
      · exact ⟨_, _, rfl, hpre⟩
      · exact hpre.elim
    obtain ⟨k_th, hc_th⟩ := pz_tlm hcan
    have k_th : pz_kd th = 11 ∧ th < 231 := k_th
    have R_th := pz_kd11 k_th.1
    subst R_th
    obtain ⟨k_w, hc_w⟩ := pz_tlm hc_th
    have l_w : -2147483648 ≤ w := k_w.1
    have u_w : w ≤ 2147483647 := k_w.2
    have hI : pz_ic M := hpre
    have L44 : ∀ (fo : Nat) (x2 : Int) (x3 : Int) (d4 : Option pz_V), (12 - x3).toNat < fo → (0 ≤ x3) → (0 ≤ w ∧ w ≤ 1) → (sd_q M 71 (fun F => sd_gmS F x2 x3 1)) → Ok 44 [some (.inr (.inr (11, 0))), some (.inl w), some (.inl x2), some (.inl x3), d4] [] M := by
      intro fo
      induction fo with
      | zero => exact fun _ _ _ hn => absurd hn (Nat.not_lt_zero _)
      | succ fo ih44 =>
        intro x2 x3 d4 hn44 g44_0 g44_1 g44_2
        have L58 : ∀ (fu : Nat) (x2 : Int) (x3 : Int) (x4 : Int), (4 - x4).toNat < fu → (0 ≤ x4) → (0 ≤ x3) → (x3 < 12) → ((12 - x3).toNat < fo + 1) → (0 ≤ w ∧ w ≤ 1) → (x3 < M 71 3) → (1 ≤ x4 ∧ x4 ≤ 4) → (sd_q M 71 (fun F => sd_gmS F x2 x3 x4)) → Ok 58 [some (.inr (.inr (11, 0))), some (.inl w), some (.inl x2), some (.inl x3), some (.inl x4)] [] M := by
          intro fu
          induction fu with
          | zero => exact fun _ _ _ hn => absurd hn (Nat.not_lt_zero _)
          | succ fu ih58 =>
            intro x2 x3 x4 hn58 g58_0 g58_1 g58_2 g58_3 g58_4 g58_5 g58_6 g58_7
            refine hgo (fun p => Nat.beq p 15 || Nat.beq p 44 || Nat.beq p 58) 72 58 _ _ _ ?_
            refine And.intro (hI) ?_
            intro v63 M63 a63 b63 q63
            obtain ⟨q63, z63⟩ := q63
            subst z63
            refine And.intro (True.intro) ?_
            intro v66 M66 a66 b66 q66
            obtain ⟨q66, z66⟩ := q66
            subst z66
            refine And.intro (fun h69 => ?_) (fun h69 => ?_)
            · skip
              intro v112 e112 a112 b112
              rw [pz_wi (by omega) (by omega)] at e112
              have G44 : sd_q M 71 (fun F => sd_gmS F x2 v112 1) := fun F hF hW => by
                have hn := hF.1
                have b6 := q63 F hF hW (by omega) (by omega)
                exact sd_gmS_i ((by assumption : sd_q M 71 (fun F => sd_gmS F x2 x3 x4)) F hF hW) hW (by omega) (by omega) (by omega) e112
              exact ih44 _ _ _ (by omega) (by first | omega | assumption) (by first | omega | assumption) (by first | omega | assumption)
            · skip
              refine And.intro (hI) ?_
              intro v75 M75 a75 b75 q75
              obtain ⟨q75, z75⟩ := q75
              subst z75
              intro v79 e79 a79 b79
              intro v80 e80 a80 b80
              refine And.intro (hI) ?_
              intro v83 M83 a83 b83 q83
              obtain ⟨q83, z83⟩ := q83
              subst z83
              intro v88 e88 a88 b88
              intro v90 e90 a90 b90
              intro v91 e91 a91 b91
              refine And.intro (fun h92 => ?_) (fun h92 => ?_)
              · skip
                have G92 : sd_q M 71 (fun F => sd_gmS F x2 x3 (x4 + 1)) := fun F hF hW => by
                  have hn := hF.1
                  have hb := sd_hp_b (i := x3.toNat) hW (by omega)
                  have b1 := q75 F hF hW (by omega) (by omega)
                  have b2 := q83 F hF hW (by omega) (by omega)
                  have b6 := q63 F hF hW (by omega) (by omega)
                  have g := (by assumption : sd_q M 71 (fun F => sd_gmS F x2 x3 x4)) F hF hW
                  have g0 := g.1
                  have x4b := g.2.1
                  have z80 : v80 = sd_x x2 ((sd_hep F x3.toNat).tmod 4) := by
                    rw [e80, e79, b1, sd_a3 hb.1 hb.2]
                    rfl
                  have z88 : v88 = sd_hep F x3.toNat - x4 := by
                    rw [e88, b2, pz_wi (by omega) (by omega)]
                  have z90 : v90 = (sd_hep F x3.toNat - x4).tmod 4 := by
                    rw [e90, z88, sd_a3 (by omega) (by omega)]
                  have m1 := sd_m4 hb.1
                  have m2 := sd_m4 (h := sd_hep F x3.toNat - x4) (by omega)
                  have y := sd_x4 g0.2 m1
                  have z91 : v91 = sd_x v80 v90 := e91
                  have w := sd_x0 y m2
                  rw [← z80, ← z90, ← z91] at w
                  rw [g0.1] at z80
                  exact sd_gmS_k g (fun z => by
                    have z3 := z.2.2
                    omega) (by omega) rfl
                intro v106 e106 a106 b106
                rw [pz_wi (by omega) (by omega)] at e106
                have G58 : sd_q M 71 (fun F => sd_gmS F x2 x3 v106) := by
                  rw [e106]
                  assumption
                exact ih58 _ _ _ (by omega) (by first | omega | assumption) (by first | omega | assumption) (by first | omega | assumption) (by first | omega | assumption) (by first | omega | assumption) (by first | omega | assumption) (by first | omega | assumption) (by first | omega | assumption)
              · skip
                have G92 : sd_q M 71 (fun F => sd_gms F (sd_gmW F) (sd_n F) 0 = (x3, x4)) := fun F hF hW => by
                  have hn := hF.1
                  have hb := sd_hp_b (i := x3.toNat) hW (by omega)
                  have b1 := q75 F hF hW (by omega) (by omega)
                  have b2 := q83 F hF hW (by omega) (by omega)
                  have b6 := q63 F hF hW (by omega) (by omega)
                  have g := (by assumption : sd_q M 71 (fun F => sd_gmS F x2 x3 x4)) F hF hW
                  have g0 := g.1
                  have x4b := g.2.1
                  have z80 : v80 = sd_x x2 ((sd_hep F x3.toNat).tmod 4) := by
                    rw [e80, e79, b1, sd_a3 hb.1 hb.2]
                    rfl
                  have z88 : v88 = sd_hep F x3.toNat - x4 := by
                    rw [e88, b2, pz_wi (by omega) (by omega)]
                  have z90 : v90 = (sd_hep F x3.toNat - x4).tmod 4 := by
                    rw [e90, z88, sd_a3 (by omega) (by omega)]
                  have m1 := sd_m4 hb.1
                  have m2 := sd_m4 (h := sd_hep F x3.toNat - x4) (by omega)
                  have y := sd_x4 g0.2 m1
                  have z91 : v91 = sd_x v80 v90 := e91
                  have w := sd_x0 y m2
                  rw [← z80, ← z90, ← z91] at w
                  rw [g0.1] at z80
                  exact sd_gmS_y g hW ⟨by omega, by omega, by omega⟩ (by omega) (by omega)
                refine And.intro (fun h96 => ?_) (fun h96 => ?_)
                · skip
                  refine And.intro rfl ?_
                  refine ⟨fun ls l1 F hT hF hW => ?_, rfl⟩
                  have hn := hF.1
                  have hm := hW.1
                  show _ = sd_gmv F w
                  have z := (by assumption : sd_q M 71 (fun F => sd_gms F (sd_gmW F) (sd_n F) 0 = (x3, x4))) F hF hW
                  unfold sd_gmv
                  rw [if_pos (by omega), z]
                  first
                    | (rw [if_pos (by omega)]; done)
                    | (rw [if_neg (by omega)]; done)
                · skip
                  refine And.intro rfl ?_
                  refine ⟨fun ls l1 F hT hF hW => ?_, rfl⟩
                  have hn := hF.1
                  have hm := hW.1
                  show _ = sd_gmv F w
                  have z := (by assumption : sd_q M 71 (fun F => sd_gms F (sd_gmW F) (sd_n F) 0 = (x3, x4))) F hF hW
                  unfold sd_gmv
                  rw [if_pos (by omega), z]
                  first
                    | (rw [if_pos (by omega)]; done)
                    | (rw [if_neg (by omega)]; done)
        refine hgo (fun p => Nat.beq p 15 || Nat.beq p 44 || Nat.beq p 58) 72 44 _ _ _ ?_
        refine pz_nrc (c := 71) rfl ?_
        intro v49 e49 a49 b49
        have I49 := hI.1 71 (by omega) (by omega)
        refine And.intro (fun h52 => ?_) (fun h52 => ?_)
        · skip
          refine And.intro rfl ?_
          refine ⟨fun ls l1 F hT hF hW => ?_, rfl⟩
          have hn := hF.1
          have hm := hW.1
          show _ = sd_gmv F w
          unfold sd_gmv
          rw [if_pos (by omega), sd_gmS_z ((by assumption : sd_q M 71 (fun F => sd_gmS F x2 x3 1)) F hF hW) hW (by omega)]
          split <;> rfl
        · skip
          exact L58 _ _ _ _ (Nat.lt_succ_self _) (by first | omega | assumption) (by first | omega | assumption) (by first | omega | assumption) (by first | omega | assumption) (by first | omega | assumption) (by first | omega | assumption) (by first | omega | assumption) (by first | omega | assumption)
    have L15 : ∀ (fu : Nat) (x2 : Int) (x3 : Int) (d4 : Option pz_V), (12 - x3).toNat < fu → (0 ≤ x3) → (0 ≤ w ∧ w ≤ 1) → (sd_q M 71 (fun F => sd_gmE F x2 x3)) → Ok 15 [some (.inr (.inr (11, 0))), some (.inl w), some (.inl x2), some (.inl x3), d4] [] M := by
      intro fu
      induction fu with
      | zero => exact fun _ _ _ hn => absurd hn (Nat.not_lt_zero _)
      | succ fu ih15 =>
        intro x2 x3 d4 hn15 g15_0 g15_1 g15_2
        refine hgo (fun p => Nat.beq p 15 || Nat.beq p 44 || Nat.beq p 58) 72 15 _ _ _ ?_
        refine pz_nrc (c := 71) rfl ?_
        intro v20 e20 a20 b20
        have I20 := hI.1 71 (by omega) (by omega)
        refine And.intro (fun h23 => ?_) (fun h23 => ?_)
        · skip
          have G44 : sd_q M 71 (fun F => sd_gmS F x2 0 1) := fun F hF hW => by
            have hn := hF.1
            exact sd_gmS_0 hW (sd_gmE_z ((by assumption : sd_q M 71 (fun F => sd_gmE F x2 x3)) F hF hW) hW (by omega))
          exact L44 _ _ _ _ (Nat.lt_succ_self _) (by first | omega | assumption) (by first | omega | assumption) (by first | omega | assumption)
        · skip
          skip
          refine And.intro (hI) ?_
          intro v29 M29 a29 b29 q29
          obtain ⟨q29, z29⟩ := q29
          subst z29
          intro v33 e33 a33 b33
          intro v34 e34 a34 b34
          intro v36 e36 a36 b36
          rw [pz_wi (by omega) (by omega)] at e36
          have G15 : sd_q M 71 (fun F => sd_gmE F v34 v36) := fun F hF hW => by
            have hn := hF.1
            have hb := sd_hp_b (i := x3.toNat) hW (by omega)
            exact sd_gmE_s ((by assumption : sd_q M 71 (fun F => sd_gmE F x2 x3)) F hF hW) hW (by omega) (by omega) e36 (by
              rw [e34, e33, q29 F hF hW (by omega) (by omega), sd_a3 hb.1 hb.2]
              rfl)
          exact ih15 _ _ _ (by omega) (by first | omega | assumption | exact fun F hF hW => sd_gmE_0 hW) (by first | omega | assumption | exact fun F hF hW => sd_gmE_0 hW) (by first | omega | assumption | exact fun F hF hW => sd_gmE_0 hW)
    refine hgo (fun p => Nat.beq p 15 || Nat.beq p 44 || Nat.beq p 58) 72 0 _ [] M ?_
    refine And.intro (True.intro) ?_
    intro v3 M3 a3 b3 q3
    obtain ⟨q3, z3⟩ := q3
    subst z3
    refine And.intro (fun h6 => ?_) (fun h6 => ?_)
    · skip
      have GP : 0 ≤ w ∧ w ≤ 1 := by
        split at q3 <;> omega
      exact L15 _ _ _ _ (Nat.lt_succ_self _) (by first | omega | assumption | exact fun F hF hW => sd_gmE_0 hW) (by first | omega | assumption | exact fun F hF hW => sd_gmE_0 hW) (by first | omega | assumption | exact fun F hF hW => sd_gmE_0 hW)
    · skip
      skip
      refine And.intro rfl ?_
      refine ⟨fun ls l1 F hT hF hW => ?_, rfl⟩
      have hn := hF.1
      have hm := hW.1
      show _ = sd_gmv F w
      unfold sd_gmv
      rw [if_neg (fun z => by split at q3 <;> omega)]
theorem v3_X11_game {fr lo i : Nat} {own : String} (h1 : 2 + 1 ≤ fr) (h2 : 8 + (5 + 11) + 43 ≤ lo) (h3 : .methodLink own i yX11_game ∈ lw_tbl) : pz_cV fr lo own i k3_X11_game :=
  pz_cVk (maxL := 5) (fr' := 2) (lo' := 43) 1 11 h3_X11_game rfl ⟨by decide +kernel, by decide +kernel, by decide +kernel⟩ ⟨(pz_mt 1052 (by decide +kernel)), (pz_mt 1050 (by decide +kernel)), (pz_mt 1051 (by decide +kernel)), (pz_mt 1 (by decide +kernel))⟩ (Or.inl ⟨TX11, 14, rfl⟩) (fun a M _ h => by
    have h : (match (generalizing := false) a with | [.inr (.inr (11, th)), .inl w] => pz_ic M | _ => False) := h
    split at h
    · exact ⟨_, _, rfl⟩
    · exact h.elim) h1 h2 h3
def k3_X12_heapOf : pz_C := (2, 1, fun a M => (match a with | [.inr (.inr (12, th)), .inl i] => pz_im M ∧ 0 ≤ i ∧ i < 12 | _ => False), fun a M r M' => (match a, r with | [.inr (.inr (12, th)), .inl i], some (.inl v) => (v = sd_hep (M 60) i.toNat) ∧ M = M' | _, _ => False))
abbrev ct3_X12_heapOf : List (Bool × Nat × pz_C) := [(true, 65, k3_X12_hasMoved)]
set_option maxRecDepth 100000 in
set_option maxHeartbeats 4000000 in
theorem h3_X12_heapOf : pz_H yX12_heapOf cX12_heapOf 2 (some .int) k3_X12_heapOf 1 21 := by
  refine pz_mk (own := RX12) (tb := t_X12_heapOf) (fl := pz_flf fl_RX12) (ci := pz_cif ci_RX12) (ct := pz_ctf ct3_X12_heapOf) (rz := false) (by decide +kernel) rfl t_X12_heapOf_ok (pz_flk fl_RX12_ok) (pz_cik ci_RX12_ok) ?_ ?_ (Or.inl ⟨rfl, rfl⟩) ?_ ?_
  · exact fun i k' h => pz_ctk (l := ct3_X12_heapOf) (P := fun b i k => b = true → pz_cV 1 21 RX12 i k) (List.forall_mem_cons.mpr ⟨(fun _ => v3_X12_hasMoved (by decide) (by decide) (pz_mt 1423 (by decide +kernel))), fun _ h => absurd h List.not_mem_nil⟩) true i k' h rfl
  · exact fun i k' h => pz_ctk (l := ct3_X12_heapOf) (P := fun b i k => b = false → (pz_cS 1 21 RX12 i k ∨ (k = pz_kac ∧ 1 ≤ 1 ∧ 60 ≤ 21 ∧ Cond.methodLink RX12 i arraycopyName ∈ pz_tbl))) (List.forall_mem_cons.mpr ⟨((fun z => by cases z)), fun _ h => absurd h List.not_mem_nil⟩) false i k' h rfl
  · intro a M hlen hpre
    obtain ⟨th, i, rfl, hpre⟩ : ∃ th i, a = [.inr (.inr (12, th)), .inl i] ∧ (pz_im M ∧ 0 ≤ i ∧ i < 12) := by
      have hpre : (match (generalizing := false) a with | [.inr (.inr (12, th)), .inl i] => pz_im M ∧ 0 ≤ i ∧ i < 12 | _ => False) := hpre
      split at hpre
      · exact ⟨_, _, rfl, hpre⟩
      · exact hpre.elim
    exact Nat.le_of_ble_eq_true rfl
  · intro a M hlen hcan hM hpre Ok hgo
    obtain ⟨th, i, rfl, hpre⟩ : ∃ th i, a = [.inr (.inr (12, th)), .inl i] ∧ (pz_im M ∧ 0 ≤ i ∧ i < 12) := by
      have hpre : (match (generalizing := false) a with | [.inr (.inr (12, th)), .inl i] => pz_im M ∧ 0 ≤ i ∧ i < 12 | _ => False) := hpre
      split at hpre
      · exact ⟨_, _, rfl, hpre⟩
      · exact hpre.elim
    obtain ⟨k_th, hc_th⟩ := pz_tlm hcan
    have k_th : pz_kd th = 12 ∧ th < 231 := k_th
    have R_th := pz_kd12 k_th.1
    subst R_th
    clear k_th
    obtain ⟨k_i, hc_i⟩ := pz_tlm hc_th
    have l_i : -2147483648 ≤ i := k_i.1
    have u_i : i ≤ 2147483647 := k_i.2
    have hI : pz_im M := hpre.1
    refine hgo (fun _ => false) 15 0 _ [] M ?_
    refine And.intro (And.intro hI (And.intro (by omega) (by omega))) ?_
    intro v2 M2 a2 b2 q2
    obtain ⟨q2, z2⟩ := q2
    subst z2
    clear a2 b2
    refine And.intro (fun h5 => ?_) (fun h5 => ?_)
    · skip
      replace q2 := q2.resolve_left (fun z => absurd (z.1.symm.trans h5) (by decide))
      refine pz_nrc (c := 60) rfl ?_
      intro v19 e19 a19 b19
      rw [pz_wi (by omega) (by omega)] at e19
      clear a19 b19
      refine And.intro (by omega) (And.intro (show _ < (1725 : Int) from by omega) ?_)
      intro v20 e20 a20 b20
      rw [show v19.toNat = 93 + i.toNat by omega] at e20
      refine And.intro rfl ?_
      refine ⟨?_, rfl⟩
      rw [show (76 + i).toNat = 76 + i.toNat by omega] at q2
      unfold sd_hep
      first
        | (rw [if_pos (by omega)]
           exact e20)
        | (rw [if_neg (by omega)]; done)
    · skip
      replace q2 := q2.resolve_right (fun z => h5 z.1)
      refine And.intro rfl ?_
      refine ⟨?_, rfl⟩
      rw [show (76 + i).toNat = 76 + i.toNat by omega] at q2
      unfold sd_hep
      first
        | (rw [if_pos (by omega)]
           exact e20)
        | (rw [if_neg (by omega)]; done)
theorem v3_X12_heapOf {fr lo i : Nat} {own : String} (h1 : 1 + 1 ≤ fr) (h2 : 8 + (2 + 11) + 21 ≤ lo) (h3 : .methodLink own i yX12_heapOf ∈ lw_tbl) : pz_cV fr lo own i k3_X12_heapOf :=
  pz_cVk (maxL := 2) (fr' := 1) (lo' := 21) 1 12 h3_X12_heapOf rfl ⟨by decide +kernel, by decide +kernel, by decide +kernel⟩ ⟨(pz_mt 1756 (by decide +kernel)), (pz_mt 1755 (by decide +kernel)), (pz_ms 87 (by decide +kernel)), (pz_mt 13 (by decide +kernel))⟩ (Or.inl ⟨TX12, 28, rfl⟩) (fun a M _ h => by
    have h : (match (generalizing := false) a with | [.inr (.inr (12, th)), .inl i] => pz_im M ∧ 0 ≤ i ∧ i < 12 | _ => False) := h
    split at h
    · exact ⟨_, _, rfl⟩
    · exact h.elim) h1 h2 h3
def k3_X12_game : pz_C := (2, 1, fun a M => (match a with | [.inr (.inr (12, th)), .inl w] => pz_im M | _ => False), fun a M r M' => (match a, r with | [.inr (.inr (12, th)), .inl w], some (.inl v) => (sd_wm M v (fun _ F => sd_gmv F w)) ∧ M = M' | _, _ => False))
abbrev ct3_X12_game : List (Bool × Nat × pz_C) := [(false, 54, k_X12_isIn), (true, 461, k3_X12_heapOf), (false, 47, k_X12_lesser)]
set_option maxRecDepth 100000 in
set_option maxHeartbeats 4000000 in
theorem h3_X12_game : pz_H yX12_game cX12_game 5 (some .int) k3_X12_game 2 42 := by
  refine pz_mk (own := RX12) (tb := t_X12_game) (fl := pz_flf fl_RX12) (ci := pz_cif ci_RX12) (ct := pz_ctf ct3_X12_game) (rz := false) (by decide +kernel) rfl t_X12_game_ok (pz_flk fl_RX12_ok) (pz_cik ci_RX12_ok) ?_ ?_ (Or.inl ⟨rfl, rfl⟩) ?_ ?_
  · exact fun i k' h => pz_ctk (l := ct3_X12_game) (P := fun b i k => b = true → pz_cV 2 42 RX12 i k) (List.forall_mem_cons.mpr ⟨((fun z => by cases z)), List.forall_mem_cons.mpr ⟨(fun _ => v3_X12_heapOf (by decide) (by decide) (pz_mt 1753 (by decide +kernel))), List.forall_mem_cons.mpr ⟨((fun z => by cases z)), fun _ h => absurd h List.not_mem_nil⟩⟩⟩) true i k' h rfl
  · exact fun i k' h => pz_ctk (l := ct3_X12_game) (P := fun b i k => b = false → (pz_cS 2 42 RX12 i k ∨ (k = pz_kac ∧ 1 ≤ 2 ∧ 60 ≤ 42 ∧ Cond.methodLink RX12 i arraycopyName ∈ pz_tbl))) (List.forall_mem_cons.mpr ⟨(fun _ => Or.inl (s_X12_isIn (by decide) (by decide) (Or.inl (pz_mt 1217 (by decide +kernel))))), List.forall_mem_cons.mpr ⟨((fun z => by cases z)), List.forall_mem_cons.mpr ⟨(fun _ => Or.inl (s_X12_lesser (by decide) (by decide) (Or.inl (pz_mt 1462 (by decide +kernel))))), fun _ h => absurd h List.not_mem_nil⟩⟩⟩) false i k' h rfl
  · intro a M hlen hpre
    obtain ⟨th, w, rfl, hpre⟩ : ∃ th w, a = [.inr (.inr (12, th)), .inl w] ∧ (pz_im M) := by
      have hpre : (match (generalizing := false) a with | [.inr (.inr (12, th)), .inl w] => pz_im M | _ => False) := hpre
      split at hpre
      · exact ⟨_, _, rfl, hpre⟩
      · exact hpre.elim
    exact Nat.le_of_ble_eq_true rfl
  · intro a M hlen hcan hM hpre Ok hgo
    obtain ⟨th, w, rfl, hpre⟩ : ∃ th w, a = [.inr (.inr (12, th)), .inl w] ∧ (pz_im M) := by
      have hpre : (match (generalizing := false) a with | [.inr (.inr (12, th)), .inl w] => pz_im M | _ => False) := hpre
      split at hpre
      · exact ⟨_, _, rfl, hpre⟩
      · exact hpre.elim
    obtain ⟨k_th, hc_th⟩ := pz_tlm hcan
    have k_th : pz_kd th = 12 ∧ th < 231 := k_th
    have R_th := pz_kd12 k_th.1
    subst R_th
    clear k_th
    obtain ⟨k_w, hc_w⟩ := pz_tlm hc_th
    have l_w : -2147483648 ≤ w := k_w.1
    have u_w : w ≤ 2147483647 := k_w.2
    have hI : pz_im M := hpre
    have I88 := hI.1.1
    have L44 : ∀ (fo : Nat) (x2 : Int) (x3 : Int) (d4 : Option pz_V), (12 - x3).toNat < fo → (0 ≤ x3) → (0 ≤ w ∧ w ≤ 1) → (sd_wf (M 60) → sd_gmS (M 60) x2 x3 1) → Ok 44 [some (.inr (.inr (12, 1))), some (.inl w), some (.inl x2), some (.inl x3), d4] [] M := by
      intro fo
      induction fo with
      | zero => exact fun _ _ _ hn => absurd hn (Nat.not_lt_zero _)
      | succ fo ih44 =>
        intro x2 x3 d4 hn44 g44_0 g44_1 g44_2
        have L58 : ∀ (fu : Nat) (x2 : Int) (x3 : Int) (x4 : Int), (4 - x4).toNat < fu → (0 ≤ x4) → (0 ≤ x3) → (x3 < 12) → ((12 - x3).toNat < fo + 1) → (0 ≤ w ∧ w ≤ 1) → (x3 < M 60 88) → (1 ≤ x4 ∧ x4 ≤ 4) → (sd_wf (M 60) → sd_gmS (M 60) x2 x3 x4) → Ok 58 [some (.inr (.inr (12, 1))), some (.inl w), some (.inl x2), some (.inl x3), some (.inl x4)] [] M := by
          intro fu
          induction fu with
          | zero => exact fun _ _ _ hn => absurd hn (Nat.not_lt_zero _)
          | succ fu ih58 =>
            intro x2 x3 x4 hn58 g58_0 g58_1 g58_2 g58_3 g58_4 g58_5 g58_6 g58_7
            refine hgo (fun p => Nat.beq p 15 || Nat.beq p 44 || Nat.beq p 58) 73 58 _ _ _ ?_
            refine And.intro (And.intro hI (And.intro (by omega) (by omega))) ?_
            intro v63 M63 a63 b63 q63
            obtain ⟨q63, z63⟩ := q63
            subst z63
            refine And.intro (True.intro) ?_
            intro v66 M66 a66 b66 q66
            obtain ⟨q66, z66⟩ := q66
            subst z66
            refine And.intro (fun h69 => ?_) (fun h69 => ?_)
            · skip
              intro v111 e111 a111 b111
              rw [pz_wi (by omega) (by omega)] at e111
              have G44 : sd_wf (M 60) → sd_gmS (M 60) x2 v111 1 := fun hW => sd_gmS_i ((by assumption : sd_wf (M 60) → sd_gmS (M 60) x2 x3 x4) hW) hW (by omega) (by omega) (by omega) e111
              exact ih44 _ _ _ (by omega) (by first | omega | assumption) (by first | omega | assumption) (by first | omega | assumption)
            · skip
              refine And.intro (And.intro hI (And.intro (by omega) (by omega))) ?_
              intro v75 M75 a75 b75 q75
              obtain ⟨q75, z75⟩ := q75
              subst z75
              refine And.intro (by omega) ?_
              intro v79 e79 a79 b79
              intro v80 e80 a80 b80
              refine And.intro (And.intro hI (And.intro (by omega) (by omega))) ?_
              intro v83 M83 a83 b83 q83
              obtain ⟨q83, z83⟩ := q83
              subst z83
              intro v88 e88 a88 b88
              refine And.intro (by omega) ?_
              intro v90 e90 a90 b90
              refine And.intro (fun h91 => ?_) (fun h91 => ?_)
              · skip
                have G91 : sd_wf (M 60) → sd_gmS (M 60) x2 x3 (x4 + 1) := fun hW => by
                  have hb := sd_hp_b (i := x3.toNat) hW (by omega)
                  have g := (by assumption : sd_wf (M 60) → sd_gmS (M 60) x2 x3 x4) hW
                  have g0 := g.1
                  have x4b := g.2.1
                  have m1 := sd_m4 hb.1
                  have z80 : v80 = sd_x x2 ((sd_hep (M 60) x3.toNat).tmod 4) := by
                    rw [e80, e79, q75, pz_wi (by omega) (by omega)]
                    rfl
                  have z88 : v88 = sd_hep (M 60) x3.toNat - x4 := by
                    rw [e88, q83, pz_wi (by omega) (by omega)]
                  have m2 := sd_m4 (h := sd_hep (M 60) x3.toNat - x4) (by omega)
                  have z90 : v90 = (sd_hep (M 60) x3.toNat - x4).tmod 4 := by
                    rw [e90, z88, pz_wi (by omega) (by omega)]
                  rw [g0.1] at z80
                  exact sd_gmS_k g (fun z => by
                    have z3 := z.2.2
                    omega) (by omega) rfl
                intro v105 e105 a105 b105
                rw [pz_wi (by omega) (by omega)] at e105
                have G58 : sd_wf (M 60) → sd_gmS (M 60) x2 x3 v105 := by
                  rw [e105]
                  assumption
                exact ih58 _ _ _ (by omega) (by first | omega | assumption) (by first | omega | assumption) (by first | omega | assumption) (by first | omega | assumption) (by first | omega | assumption) (by first | omega | assumption) (by first | omega | assumption) (by first | omega | assumption)
              · skip
                have G91 : sd_wf (M 60) → sd_gms (M 60) (sd_gmW (M 60)) (sd_n (M 60)) 0 = (x3, x4) := fun hW => by
                  have hb := sd_hp_b (i := x3.toNat) hW (by omega)
                  have g := (by assumption : sd_wf (M 60) → sd_gmS (M 60) x2 x3 x4) hW
                  have g0 := g.1
                  have x4b := g.2.1
                  have m1 := sd_m4 hb.1
                  have z80 : v80 = sd_x x2 ((sd_hep (M 60) x3.toNat).tmod 4) := by
                    rw [e80, e79, q75, pz_wi (by omega) (by omega)]
                    rfl
                  have z88 : v88 = sd_hep (M 60) x3.toNat - x4 := by
                    rw [e88, q83, pz_wi (by omega) (by omega)]
                  have m2 := sd_m4 (h := sd_hep (M 60) x3.toNat - x4) (by omega)
                  have z90 : v90 = (sd_hep (M 60) x3.toNat - x4).tmod 4 := by
                    rw [e90, z88, pz_wi (by omega) (by omega)]
                  rw [g0.1] at z80
                  exact sd_gmS_y g hW ⟨by omega, by omega, by omega⟩ (by omega) (by omega)
                refine And.intro (fun h95 => ?_) (fun h95 => ?_)
                · skip
                  replace h95 : 1 ≤ w := by omega
                  refine And.intro rfl ?_
                  refine ⟨fun ls hl hq hW => ?_, rfl⟩
                  have hm := hW.1
                  show _ = sd_gmv (M 60) w
                  have z := (by assumption : sd_wf (M 60) → sd_gms (M 60) (sd_gmW (M 60)) (sd_n (M 60)) 0 = (x3, x4)) hW
                  unfold sd_gmv
                  rw [if_pos (by omega), z]
                  first
                    | (rw [if_pos (by omega)]; done)
                    | (rw [if_neg (by omega)]; done)
                · skip
                  refine And.intro rfl ?_
                  refine ⟨fun ls hl hq hW => ?_, rfl⟩
                  have hm := hW.1
                  show _ = sd_gmv (M 60) w
                  have z := (by assumption : sd_wf (M 60) → sd_gms (M 60) (sd_gmW (M 60)) (sd_n (M 60)) 0 = (x3, x4)) hW
                  unfold sd_gmv
                  rw [if_pos (by omega), z]
                  first
                    | (rw [if_pos (by omega)]; done)
                    | (rw [if_neg (by omega)]; done)
        refine hgo (fun p => Nat.beq p 15 || Nat.beq p 44 || Nat.beq p 58) 73 44 _ _ _ ?_
        refine pz_nrc (c := 60) rfl ?_
        refine And.intro (by omega) (And.intro (show _ < (1725 : Int) from by omega) ?_)
        intro v51 e51 a51 b51
        replace e51 : v51 = M 60 88 := e51
        have I51 : 0 ≤ v51 ∧ v51 ≤ 12 := by
          rw [e51]
          exact hI.1.1
        clear a51 b51
        refine And.intro (fun h52 => ?_) (fun h52 => ?_)
        · skip
          refine And.intro rfl ?_
          refine ⟨fun ls hl hq hW => ?_, rfl⟩
          have hm := hW.1
          show _ = sd_gmv (M 60) w
          unfold sd_gmv
          rw [if_pos (by omega), sd_gmS_z ((by assumption : sd_wf (M 60) → sd_gmS (M 60) x2 x3 1) hW) hW (by omega)]
          split <;> rfl
        · skip
          exact L58 _ _ _ _ (Nat.lt_succ_self _) (by first | omega | assumption) (by first | omega | assumption) (by first | omega | assumption) (by first | omega | assumption) (by first | omega | assumption) (by first | omega | assumption) (by first | omega | assumption) (by first | omega | assumption)
    have L15 : ∀ (fu : Nat) (x2 : Int) (x3 : Int) (d4 : Option pz_V), (12 - x3).toNat < fu → (0 ≤ x3) → (0 ≤ w ∧ w ≤ 1) → (sd_wf (M 60) → sd_gmE (M 60) x2 x3) → Ok 15 [some (.inr (.inr (12, 1))), some (.inl w), some (.inl x2), some (.inl x3), d4] [] M := by
      intro fu
      induction fu with
      | zero => exact fun _ _ _ hn => absurd hn (Nat.not_lt_zero _)
      | succ fu ih15 =>
        intro x2 x3 d4 hn15 g15_0 g15_1 g15_2
        refine hgo (fun p => Nat.beq p 15 || Nat.beq p 44 || Nat.beq p 58) 73 15 _ _ _ ?_
        refine pz_nrc (c := 60) rfl ?_
        refine And.intro (by omega) (And.intro (show _ < (1725 : Int) from by omega) ?_)
        intro v22 e22 a22 b22
        replace e22 : v22 = M 60 88 := e22
        have I22 : 0 ≤ v22 ∧ v22 ≤ 12 := by
          rw [e22]
          exact hI.1.1
        clear a22 b22
        refine And.intro (fun h23 => ?_) (fun h23 => ?_)
        · skip
          have G44 : sd_wf (M 60) → sd_gmS (M 60) x2 0 1 := fun hW => sd_gmS_0 hW (sd_gmE_z ((by assumption : sd_wf (M 60) → sd_gmE (M 60) x2 x3) hW) hW (by omega))
          exact L44 _ _ _ _ (Nat.lt_succ_self _) (by first | omega | assumption) (by first | omega | assumption) (by first | omega | assumption)
        · skip
          skip
          refine And.intro (And.intro hI (And.intro (by omega) (by omega))) ?_
          intro v29 M29 a29 b29 q29
          obtain ⟨q29, z29⟩ := q29
          subst z29
          refine And.intro (by omega) ?_
          intro v33 e33 a33 b33
          intro v34 e34 a34 b34
          intro v36 e36 a36 b36
          rw [pz_wi (by omega) (by omega)] at e36
          have G15 : sd_wf (M 60) → sd_gmE (M 60) v34 v36 := fun hW => by
            have hb := sd_hp_b (i := x3.toNat) hW (by omega)
            have m1 := sd_m4 hb.1
            exact sd_gmE_s ((by assumption : sd_wf (M 60) → sd_gmE (M 60) x2 x3) hW) hW (by omega) (by omega) e36 (by
              rw [e34, e33, q29, pz_wi (by omega) (by omega)]
              rfl)
          exact ih15 _ _ _ (by omega) (by first | omega | assumption | exact fun hW => sd_gmE_0 hW) (by first | omega | assumption | exact fun hW => sd_gmE_0 hW) (by first | omega | assumption | exact fun hW => sd_gmE_0 hW)
    refine hgo (fun p => Nat.beq p 15 || Nat.beq p 44 || Nat.beq p 58) 73 0 _ [] M ?_
    refine And.intro (True.intro) ?_
    intro v3 M3 a3 b3 q3
    obtain ⟨q3, z3⟩ := q3
    subst z3
    clear a3 b3
    refine And.intro (fun h6 => ?_) (fun h6 => ?_)
    · skip
      have GP : 0 ≤ w ∧ w ≤ 1 := by omega
      replace q3 := q3.resolve_right (fun z => h6 z.1)
      clear h6
      exact L15 _ _ _ _ (Nat.lt_succ_self _) (by first | omega | assumption | exact fun hW => sd_gmE_0 hW) (by first | omega | assumption | exact fun hW => sd_gmE_0 hW) (by first | omega | assumption | exact fun hW => sd_gmE_0 hW)
    · skip
      skip
      replace q3 := q3.resolve_left (fun z => absurd (z.1.symm.trans h6) (by decide))
      clear h6
      refine And.intro rfl ?_
      refine ⟨fun ls hl hq hW => ?_, rfl⟩
      have hm := hW.1
      show _ = sd_gmv (M 60) w
      unfold sd_gmv
      rw [if_neg (by omega)]
theorem v3_X12_game {fr lo i : Nat} {own : String} (h1 : 2 + 1 ≤ fr) (h2 : 8 + (5 + 11) + 42 ≤ lo) (h3 : .methodLink own i yX12_game ∈ lw_tbl) : pz_cV fr lo own i k3_X12_game :=
  pz_cVk (maxL := 5) (fr' := 2) (lo' := 42) 1 12 h3_X12_game rfl ⟨by decide +kernel, by decide +kernel, by decide +kernel⟩ ⟨(pz_mt 1752 (by decide +kernel)), (pz_mt 1750 (by decide +kernel)), (pz_mt 1751 (by decide +kernel)), (pz_mt 13 (by decide +kernel))⟩ (Or.inl ⟨TX12, 28, rfl⟩) (fun a M _ h => by
    have h : (match (generalizing := false) a with | [.inr (.inr (12, th)), .inl w] => pz_im M | _ => False) := h
    split at h
    · exact ⟨_, _, rfl⟩
    · exact h.elim) h1 h2 h3
