noncomputable def k3_X12_signsNext : pz_C := (4, 1, fun a M => (match a with | [.inr (.inr (12, th)), .inl x, .inl y, .inl z] => pz_im M | _ => False), fun a M r M' => (match a, r with | [.inr (.inr (12, th)), .inl x, .inl y, .inl z], some (.inl v) => (-1 ≤ v ∧ v < 12 ∧ (∀ (f g : Nat → Int) (h : Nat → Bool), sg_fg f g (M 60 88) → sg_pm (M 60) f g (M 60 88) → pz_zs y h → 0 ≤ x ∧ x ≤ 240 → (∀ k, h k = true → k < (M 60 88).toNat) → 0 ≤ z ∧ z ≤ 240 → (∀ B, sg_fe f g B x (sg_sn (M 60 88).toNat h) → z ≤ B) → (v = -1 ∧ ∀ j : Nat, (j : Int) < M 60 88 → ¬ sg_nq f g z x (sg_sn (M 60 88).toNat h) j) ∨ (0 ≤ v ∧ sg_nx f g z x (sg_sn (M 60 88).toNat h) v.toNat))) ∧ pz_rl pz_QV M M' | _, _ => False))
noncomputable abbrev ct3_X12_signsNext : List (Bool × Nat × pz_C) := [(false, 51, k_X12_greater), (true, 449, k3_X12_laysSigns)]
set_option maxRecDepth 100000 in
set_option maxHeartbeats 4000000 in
theorem h3_X12_signsNext : pz_H yX12_signsNext cX12_signsNext 7 (some .int) k3_X12_signsNext 2 47 := by
  refine pz_mk (own := RX12) (tb := t_X12_signsNext) (fl := pz_flf fl_RX12) (ci := pz_cif ci_RX12) (ct := pz_ctf ct3_X12_signsNext) (rz := false) (by decide +kernel) rfl t_X12_signsNext_ok (pz_flk fl_RX12_ok) (pz_cik ci_RX12_ok) ?_ ?_ (Or.inl ⟨rfl, rfl⟩) ?_ ?_
  · exact fun i k' h => pz_ctk (l := ct3_X12_signsNext) (P := fun b i k => b = true → pz_cV 2 47 RX12 i k) (List.forall_mem_cons.mpr ⟨((fun z => by cases z)), List.forall_mem_cons.mpr ⟨(fun _ => v3_X12_laysSigns (by decide) (by decide) (pz_mt 1716 (by decide +kernel))), fun _ h => absurd h List.not_mem_nil⟩⟩) true i k' h rfl
  · exact fun i k' h => pz_ctk (l := ct3_X12_signsNext) (P := fun b i k => b = false → (pz_cS 2 47 RX12 i k ∨ (k = pz_kac ∧ 1 ≤ 2 ∧ 60 ≤ 47 ∧ Cond.methodLink RX12 i arraycopyName ∈ pz_tbl))) (List.forall_mem_cons.mpr ⟨(fun _ => Or.inl (s_X12_greater (by decide) (by decide) (Or.inl (pz_mt 1447 (by decide +kernel))))), List.forall_mem_cons.mpr ⟨((fun z => by cases z)), fun _ h => absurd h List.not_mem_nil⟩⟩) false i k' h rfl
  · intro a M hlen hpre
    obtain ⟨th, x, y, z, rfl, hpre⟩ : ∃ th x y z, a = [.inr (.inr (12, th)), .inl x, .inl y, .inl z] ∧ (pz_im M) := by
      have hpre : (match (generalizing := false) a with | [.inr (.inr (12, th)), .inl x, .inl y, .inl z] => pz_im M | _ => False) := hpre
      split at hpre
      · exact ⟨_, _, _, _, rfl, hpre⟩
      · exact hpre.elim
    exact Nat.le_of_ble_eq_true rfl
  · intro a M hlen hcan hM hpre Ok hgo
    obtain ⟨th, x, y, z, rfl, hpre⟩ : ∃ th x y z, a = [.inr (.inr (12, th)), .inl x, .inl y, .inl z] ∧ (pz_im M) := by
      have hpre : (match (generalizing := false) a with | [.inr (.inr (12, th)), .inl x, .inl y, .inl z] => pz_im M | _ => False) := hpre
      split at hpre
      · exact ⟨_, _, _, _, rfl, hpre⟩
      · exact hpre.elim
    obtain ⟨k_th, hc_th⟩ := pz_tlm hcan
    have k_th : pz_kd th = 12 ∧ th < 231 := k_th
    have R_th := pz_kd12 k_th.1
    subst R_th
    clear k_th
    obtain ⟨k_x, hc_x⟩ := pz_tlm hc_th
    have l_x : -2147483648 ≤ x := k_x.1
    have u_x : x ≤ 2147483647 := k_x.2
    obtain ⟨k_y, hc_y⟩ := pz_tlm hc_x
    have l_y : -2147483648 ≤ y := k_y.1
    have u_y : y ≤ 2147483647 := k_y.2
    obtain ⟨k_z, hc_z⟩ := pz_tlm hc_y
    have l_z : -2147483648 ≤ z := k_z.1
    have u_z : z ≤ 2147483647 := k_z.2
    have hI : pz_im M := hpre
    have hI0 := hI
    have hS : pz_rl pz_QV M M := pz_rl.rf
    have I88 := hI.1.1
    have B2 := sg_2_b I88.2
    have L16 : ∀ (fu : Nat) (x4 : Int) (x5 : Int) (d6 : Option pz_V) (N16 : pz_M), (12 - x5).toNat < fu → (pz_rl pz_QV M N16) → (0 ≤ x5) → (0 ≤ x4) → (x4 ≤ 4095) → (x4 = sg_2 (M 60 88) - 1) → (∀ (f g : Nat → Int) (h : Nat → Bool), sg_fg f g (M 60 88) → sg_pm (M 60) f g (M 60 88) → pz_zs y h → 0 ≤ x ∧ x ≤ 240 → (∀ k, h k = true → k < (M 60 88).toNat) → 0 ≤ z ∧ z ≤ 240 → (∀ B, sg_fe f g B x (sg_sn (M 60 88).toNat h) → z ≤ B) → ∀ j : Nat, (j : Int) < x5 → ¬ sg_nq f g z x (sg_sn (M 60 88).toNat h) j) → Ok 16 [some (.inr (.inr (12, 1))), some (.inl x), some (.inl y), some (.inl z), some (.inl x4), some (.inl x5), d6] [] N16 := by
      intro fu
      induction fu with
      | zero => exact fun _ _ _ _ hn => absurd hn (Nat.not_lt_zero _)
      | succ fu ih16 =>
        intro x4 x5 d6 N16 hn16 hS g16_1 g16_2 g16_3 g16_4 g16_5
        have hI : pz_im N16 := hS.1 hI0
        have W16 : N16 60 = M 60 := funext fun j => hS.2 60 j (by unfold pz_QV; omega)
        have L107 : ∀ (x4 : Int) (x5 : Int) (x6 : Int) (N107 : pz_M), (pz_rl pz_QV M N107) → (0 ≤ x5) → (x5 < 12) → ((12 - x5).toNat < fu + 1) → (0 ≤ x4) → (x4 ≤ 4095) → (x4 = sg_2 (M 60 88) - 1) → (∀ (f g : Nat → Int) (h : Nat → Bool), sg_fg f g (M 60 88) → sg_pm (M 60) f g (M 60 88) → pz_zs y h → 0 ≤ x ∧ x ≤ 240 → (∀ k, h k = true → k < (M 60 88).toNat) → 0 ≤ z ∧ z ≤ 240 → (∀ B, sg_fe f g B x (sg_sn (M 60 88).toNat h) → z ≤ B) → ∀ j : Nat, (j : Int) < x5 + 1 → ¬ sg_nq f g z x (sg_sn (M 60 88).toNat h) j) → Ok 107 [some (.inr (.inr (12, 1))), some (.inl x), some (.inl y), some (.inl z), some (.inl x4), some (.inl x5), some (.inl x6)] [] N107 := by
          intro x4 x5 x6 N107 hS g107_1 g107_2 g107_3 g107_4 g107_5 g107_6 g107_7
          have hI : pz_im N107 := hS.1 hI0
          refine hgo (fun p => Nat.beq p 16 || Nat.beq p 107) 72 107 _ _ _ ?_
          intro v107 e107 a107 b107
          rw [pz_wi (by omega) (by omega)] at e107
          have G16 : ∀ (f g : Nat → Int) (h : Nat → Bool), sg_fg f g (M 60 88) → sg_pm (M 60) f g (M 60 88) → pz_zs y h → 0 ≤ x ∧ x ≤ 240 → (∀ k, h k = true → k < (M 60 88).toNat) → 0 ≤ z ∧ z ≤ 240 → (∀ B, sg_fe f g B x (sg_sn (M 60 88).toNat h) → z ≤ B) → ∀ j : Nat, (j : Int) < v107 → ¬ sg_nq f g z x (sg_sn (M 60 88).toNat h) j := by
            rw [e107]
            assumption
          exact ih16 _ _ _ _ (by omega) hS (by first | omega | assumption) (by first | omega | assumption) (by first | omega | assumption) (by first | omega | assumption) (by first | omega | assumption)
        refine hgo (fun p => Nat.beq p 16 || Nat.beq p 107) 72 16 _ _ _ ?_
        refine pz_nrc (c := 60) rfl ?_
        refine And.intro (by omega) (And.intro (show _ < (1725 : Int) from by omega) ?_)
        intro v24 e24 a24 b24
        replace e24 : v24 = N16 60 88 := e24
        have I24 : 0 ≤ v24 ∧ v24 ≤ 12 := by
          rw [e24]
          exact hI.1.1
        clear a24 b24
        have C24 : v24 = M 60 88 := by
          rw [e24, W16]
        refine And.intro (fun h25 => ?_) (fun h25 => ?_)
        · skip
          refine And.intro rfl ?_
          refine ⟨⟨by omega, by omega, fun f g h hf hp hz hx hh hE hb => Or.inl ⟨rfl, fun j hj => ?_⟩⟩, hS⟩
          exact (by assumption : ∀ (f g : Nat → Int) (h : Nat → Bool), sg_fg f g (M 60 88) → sg_pm (M 60) f g (M 60 88) → pz_zs y h → 0 ≤ x ∧ x ≤ 240 → (∀ k, h k = true → k < (M 60 88).toNat) → 0 ≤ z ∧ z ≤ 240 → (∀ B, sg_fe f g B x (sg_sn (M 60 88).toNat h) → z ≤ B) → ∀ j : Nat, (j : Int) < x5 → ¬ sg_nq f g z x (sg_sn (M 60 88).toNat h) j) f g h hf hp hz hx hh hE hb j (by omega)
        · skip
          refine pz_nrc (c := 60) rfl ?_
          intro v38 e38 a38 b38
          rw [pz_wi (by omega) (by omega)] at e38
          clear a38 b38
          intro v39 e39 a39 b39
          rw [pz_wi (by omega) (by omega)] at e39
          clear a39 b39
          refine And.intro (by omega) (And.intro (show _ < (1725 : Int) from by omega) ?_)
          intro v40 e40 a40 b40
          have C40 : v40 = M 60 (105 + 2 * x5.toNat) := by
            rw [e40, W16, show v39.toNat = 105 + 2 * x5.toNat by omega]
          refine And.intro (True.intro) ?_
          intro v41 M41 a41 b41 q41
          obtain ⟨q41, z41⟩ := q41
          subst z41
          intro v46 e46 a46 b46
          intro v52 e52 a52 b52
          intro v54 e54 a54 b54
          refine And.intro (fun h56 => ?_) (fun h56 => ?_)
          · skip
            have G107 : ∀ (f g : Nat → Int) (h : Nat → Bool), sg_fg f g (M 60 88) → sg_pm (M 60) f g (M 60 88) → pz_zs y h → 0 ≤ x ∧ x ≤ 240 → (∀ k, h k = true → k < (M 60 88).toNat) → 0 ≤ z ∧ z ≤ 240 → (∀ B, sg_fe f g B x (sg_sn (M 60 88).toNat h) → z ≤ B) → ∀ j : Nat, (j : Int) < x5 + 1 → ¬ sg_nq f g z x (sg_sn (M 60 88).toNat h) j := fun f g h hf hp hz hx hh hE hb => by
              have gN := (by assumption : ∀ (f g : Nat → Int) (h : Nat → Bool), sg_fg f g (M 60 88) → sg_pm (M 60) f g (M 60 88) → pz_zs y h → 0 ≤ x ∧ x ≤ 240 → (∀ k, h k = true → k < (M 60 88).toNat) → 0 ≤ z ∧ z ≤ 240 → (∀ B, sg_fe f g B x (sg_sn (M 60 88).toNat h) → z ≤ B) → ∀ j : Nat, (j : Int) < x5 → ¬ sg_nq f g z x (sg_sn (M 60 88).toNat h) j) f g h hf hp hz hx hh hE hb
              refine sg_W_n gN (by omega) (fun q => ?_)
              have d1 := (sg_sn_t.mp q.1).2
              have b := pz_sb_at hz (show 0 ≤ x5 by omega) (by omega) e52 e54
              rw [d1, if_neg (by decide)] at b
              omega
            exact L107 _ _ _ _ hS (by first | omega | assumption) (by first | omega | assumption) (by first | omega | assumption) (by first | omega | assumption) (by first | omega | assumption) (by first | omega | assumption) (by first | omega | assumption)
          · skip
            skip
            refine pz_nrc (c := 60) rfl ?_
            intro v70 e70 a70 b70
            rw [pz_wi (by omega) (by omega)] at e70
            clear a70 b70
            intro v71 e71 a71 b71
            rw [pz_wi (by omega) (by omega)] at e71
            clear a71 b71
            intro v73 e73 a73 b73
            rw [pz_wi (by omega) (by omega)] at e73
            clear a73 b73
            refine And.intro (by omega) (And.intro (show _ < (1725 : Int) from by omega) ?_)
            intro v74 e74 a74 b74
            have C74 : v74 = M 60 (106 + 2 * x5.toNat) := by
              rw [e74, W16, show v73.toNat = 106 + 2 * x5.toNat by omega]
            refine And.intro (fun h75 => ?_) (fun h75 => ?_)
            · skip
              skip
              intro v88 e88 a88 b88
              intro v89 e89 a89 b89
              refine And.intro (hI) ?_
              intro M90 q90
              obtain ⟨q90, z90⟩ := q90
              have hS : pz_rl pz_QV M M90 := hS.tr z90
              have hI : pz_im M90 := hS.1 hI0
              rw [W16] at q90
              refine pz_nrc (c := 70) rfl ?_
              refine And.intro (by omega) (And.intro (show _ < (4096 : Int) from by omega) ?_)
              intro v99 e99 a99 b99
              refine And.intro (fun h101 => ?_) (fun h101 => ?_)
              · skip
                have G107 : ∀ (f g : Nat → Int) (h : Nat → Bool), sg_fg f g (M 60 88) → sg_pm (M 60) f g (M 60 88) → pz_zs y h → 0 ≤ x ∧ x ≤ 240 → (∀ k, h k = true → k < (M 60 88).toNat) → 0 ≤ z ∧ z ≤ 240 → (∀ B, sg_fe f g B x (sg_sn (M 60 88).toNat h) → z ≤ B) → ∀ j : Nat, (j : Int) < x5 + 1 → ¬ sg_nq f g z x (sg_sn (M 60 88).toNat h) j := fun f g h hf hp hz hx hh hE hb => by
                  have gN := (by assumption : ∀ (f g : Nat → Int) (h : Nat → Bool), sg_fg f g (M 60 88) → sg_pm (M 60) f g (M 60 88) → pz_zs y h → 0 ≤ x ∧ x ≤ 240 → (∀ k, h k = true → k < (M 60 88).toNat) → 0 ≤ z ∧ z ≤ 240 → (∀ B, sg_fe f g B x (sg_sn (M 60 88).toNat h) → z ≤ B) → ∀ j : Nat, (j : Int) < x5 → ¬ sg_nq f g z x (sg_sn (M 60 88).toNat h) j) f g h hf hp hz hx hh hE hb
                  have pf := hf x5.toNat (by omega)
                  have pp := hp x5.toNat (by omega)
                  have p2 := pp.2
                  have dd : v46 = sg_d f x x5.toNat := sg_dn (show v41 = max x v40 by omega) (C40.trans pp.1) pf.1 ⟨by omega, by omega⟩ e46
                  have sb := sg_d_b (f := f) (t := x) (i := x5.toNat)
                  have hi : sg_sn (M 60 88).toNat h x5.toNat = true := sg_sn_t.mpr ⟨by omega, by
                    cases q : h x5.toNat with
                    | false => rfl
                    | true =>
                      have b := pz_sb_at hz (show 0 ≤ x5 by omega) (by omega) e52 e54
                      rw [q, if_pos rfl] at b
                      omega⟩
                  have o := pz_sb_or hz (pz_sb_1 (i := x5) (by omega) (by omega))
                  rw [← e88, ← e89] at o
                  have em := q90 f g _ hf hp o ⟨by omega, by omega⟩ x4.toNat (by omega) (sg_su_a (by omega) hh (by omega))
                  rw [← e99] at em
                  have nq := sg_nq_m hb hE (show x4 = sg_2 (M 60 88) - 1 by omega) hi dd (by omega) em
                  exact sg_W_n gN (by omega) (fun q => absurd (nq.mpr q) (by omega))
                exact L107 _ _ _ _ hS (by first | omega | assumption) (by first | omega | assumption) (by first | omega | assumption) (by first | omega | assumption) (by first | omega | assumption) (by first | omega | assumption) (by first | omega | assumption)
              · skip
                have R101 : ∀ (f g : Nat → Int) (h : Nat → Bool), sg_fg f g (M 60 88) → sg_pm (M 60) f g (M 60 88) → pz_zs y h → 0 ≤ x ∧ x ≤ 240 → (∀ k, h k = true → k < (M 60 88).toNat) → 0 ≤ z ∧ z ≤ 240 → (∀ B, sg_fe f g B x (sg_sn (M 60 88).toNat h) → z ≤ B) → (0 ≤ x5 ∧ sg_nx f g z x (sg_sn (M 60 88).toNat h) x5.toNat) := fun f g h hf hp hz hx hh hE hb => by
                  have gN := (by assumption : ∀ (f g : Nat → Int) (h : Nat → Bool), sg_fg f g (M 60 88) → sg_pm (M 60) f g (M 60 88) → pz_zs y h → 0 ≤ x ∧ x ≤ 240 → (∀ k, h k = true → k < (M 60 88).toNat) → 0 ≤ z ∧ z ≤ 240 → (∀ B, sg_fe f g B x (sg_sn (M 60 88).toNat h) → z ≤ B) → ∀ j : Nat, (j : Int) < x5 → ¬ sg_nq f g z x (sg_sn (M 60 88).toNat h) j) f g h hf hp hz hx hh hE hb
                  have pf := hf x5.toNat (by omega)
                  have pp := hp x5.toNat (by omega)
                  have p2 := pp.2
                  have dd : v46 = sg_d f x x5.toNat := sg_dn (show v41 = max x v40 by omega) (C40.trans pp.1) pf.1 ⟨by omega, by omega⟩ e46
                  have sb := sg_d_b (f := f) (t := x) (i := x5.toNat)
                  have hi : sg_sn (M 60 88).toNat h x5.toNat = true := sg_sn_t.mpr ⟨by omega, by
                    cases q : h x5.toNat with
                    | false => rfl
                    | true =>
                      have b := pz_sb_at hz (show 0 ≤ x5 by omega) (by omega) e52 e54
                      rw [q, if_pos rfl] at b
                      omega⟩
                  have o := pz_sb_or hz (pz_sb_1 (i := x5) (by omega) (by omega))
                  rw [← e88, ← e89] at o
                  have em := q90 f g _ hf hp o ⟨by omega, by omega⟩ x4.toNat (by omega) (sg_su_a (by omega) hh (by omega))
                  rw [← e99] at em
                  have nq := sg_nq_m hb hE (show x4 = sg_2 (M 60 88) - 1 by omega) hi dd (by omega) em
                  exact ⟨by omega, nq.mp (by omega), fun j hj => gN j (by omega)⟩
                refine And.intro rfl ?_
                exact ⟨⟨by omega, by omega, fun f g h hf hp hz hx hh hE hb => Or.inr (R101 f g h hf hp hz hx hh hE hb)⟩, hS⟩
            · skip
              have G107 : ∀ (f g : Nat → Int) (h : Nat → Bool), sg_fg f g (M 60 88) → sg_pm (M 60) f g (M 60 88) → pz_zs y h → 0 ≤ x ∧ x ≤ 240 → (∀ k, h k = true → k < (M 60 88).toNat) → 0 ≤ z ∧ z ≤ 240 → (∀ B, sg_fe f g B x (sg_sn (M 60 88).toNat h) → z ≤ B) → ∀ j : Nat, (j : Int) < x5 + 1 → ¬ sg_nq f g z x (sg_sn (M 60 88).toNat h) j := fun f g h hf hp hz hx hh hE hb => by
                have gN := (by assumption : ∀ (f g : Nat → Int) (h : Nat → Bool), sg_fg f g (M 60 88) → sg_pm (M 60) f g (M 60 88) → pz_zs y h → 0 ≤ x ∧ x ≤ 240 → (∀ k, h k = true → k < (M 60 88).toNat) → 0 ≤ z ∧ z ≤ 240 → (∀ B, sg_fe f g B x (sg_sn (M 60 88).toNat h) → z ≤ B) → ∀ j : Nat, (j : Int) < x5 → ¬ sg_nq f g z x (sg_sn (M 60 88).toNat h) j) f g h hf hp hz hx hh hE hb
                have pf := hf x5.toNat (by omega)
                have pp := hp x5.toNat (by omega)
                have p2 := pp.2
                have dd : v46 = sg_d f x x5.toNat := sg_dn (show v41 = max x v40 by omega) (C40.trans pp.1) pf.1 ⟨by omega, by omega⟩ e46
                have sb := sg_d_b (f := f) (t := x) (i := x5.toNat)
                refine sg_W_n gN (by omega) (fun q => ?_)
                have d2 := q.2.1
                omega
              exact L107 _ _ _ _ hS (by first | omega | assumption) (by first | omega | assumption) (by first | omega | assumption) (by first | omega | assumption) (by first | omega | assumption) (by first | omega | assumption) (by first | omega | assumption)
    refine hgo (fun p => Nat.beq p 16 || Nat.beq p 107) 72 0 _ [] M ?_
    refine pz_nrc (c := 60) rfl ?_
    refine And.intro (by omega) (And.intro (show _ < (1725 : Int) from by omega) ?_)
    intro v7 e7 a7 b7
    replace e7 : v7 = M 60 88 := e7
    have I7 : 0 ≤ v7 ∧ v7 ≤ 12 := by
      rw [e7]
      exact hI.1.1
    clear a7 b7
    intro v8 e8 a8 b8
    have S8 := pz_shl1 (c := v7) (by omega) (by omega)
    rw [← e8] at S8
    have P8 : v8 = sg_2 (M 60 88) := by
      rw [e8, e7]
      exact sg_2_v (by omega) (by omega)
    intro v10 e10 a10 b10
    rw [pz_wi (by omega) (by omega)] at e10
    have G16 : ∀ (f g : Nat → Int) (h : Nat → Bool), sg_fg f g (M 60 88) → sg_pm (M 60) f g (M 60 88) → pz_zs y h → 0 ≤ x ∧ x ≤ 240 → (∀ k, h k = true → k < (M 60 88).toNat) → 0 ≤ z ∧ z ≤ 240 → (∀ B, sg_fe f g B x (sg_sn (M 60 88).toNat h) → z ≤ B) → ∀ j : Nat, (j : Int) < 0 → ¬ sg_nq f g z x (sg_sn (M 60 88).toNat h) j := fun f g h _ _ _ _ _ _ _ => fun j hj => absurd hj (by omega)
    exact L16 _ _ _ _ _ (Nat.lt_succ_self _) hS (by first | omega | assumption) (by first | omega | assumption) (by first | omega | assumption) (by first | omega | assumption) (by first | omega | assumption)
theorem v3_X12_signsNext {fr lo i : Nat} {own : String} (h1 : 2 + 1 ≤ fr) (h2 : 8 + (7 + 11) + 47 ≤ lo) (h3 : .methodLink own i yX12_signsNext ∈ lw_tbl) : pz_cV fr lo own i k3_X12_signsNext :=
  pz_cVk (maxL := 7) (fr' := 2) (lo' := 47) 3 12 h3_X12_signsNext rfl ⟨by decide +kernel, by decide +kernel, by decide +kernel⟩ ⟨(pz_mt 1728 (by decide +kernel)), (pz_mt 1727 (by decide +kernel)), (pz_ms 85 (by decide +kernel)), (pz_mt 13 (by decide +kernel))⟩ (Or.inl ⟨TX12, 28, rfl⟩) (fun a M _ h => by
    have h : (match (generalizing := false) a with | [.inr (.inr (12, th)), .inl x, .inl y, .inl z] => pz_im M | _ => False) := h
    split at h
    · exact ⟨_, _, rfl⟩
    · exact h.elim) h1 h2 h3
noncomputable def k3_X12_signs : pz_C := (2, 1, fun a M => (match a with | [.inr (.inr (12, th)), .inl w] => pz_im M | _ => False), fun a M r M' => (match a, r with | [.inr (.inr (12, th)), .inl w], some (.inl v) => (∀ f g : Nat → Int, sg_fg f g (M 60 88) → sg_pm (M 60) f g (M 60 88) → sg_mv f g (M 60 88) w v) ∧ pz_rl pz_QV M M' | _, _ => False))
noncomputable abbrev ct3_X12_signs : List (Bool × Nat × pz_C) := [(true, 449, k3_X12_laysSigns), (true, 452, k3_X12_mostSigned), (false, 54, k_X12_isIn), (true, 455, k3_X12_signsNext), (false, 51, k_X12_greater)]
set_option maxRecDepth 100000 in
set_option maxHeartbeats 4000000 in
theorem h3_X12_signs : pz_H yX12_signs cX12_signs 8 (some .int) k3_X12_signs 3 73 := by
  refine pz_mk (own := RX12) (tb := t_X12_signs) (fl := pz_flf fl_RX12) (ci := pz_cif ci_RX12) (ct := pz_ctf ct3_X12_signs) (rz := false) (by decide +kernel) rfl t_X12_signs_ok (pz_flk fl_RX12_ok) (pz_cik ci_RX12_ok) ?_ ?_ (Or.inl ⟨rfl, rfl⟩) ?_ ?_
  · exact fun i k' h => pz_ctk (l := ct3_X12_signs) (P := fun b i k => b = true → pz_cV 3 73 RX12 i k) (List.forall_mem_cons.mpr ⟨(fun _ => v3_X12_laysSigns (by decide) (by decide) (pz_mt 1716 (by decide +kernel))), List.forall_mem_cons.mpr ⟨(fun _ => v3_X12_mostSigned (by decide) (by decide) (pz_mt 1721 (by decide +kernel))), List.forall_mem_cons.mpr ⟨((fun z => by cases z)), List.forall_mem_cons.mpr ⟨(fun _ => v3_X12_signsNext (by decide) (by decide) (pz_mt 1725 (by decide +kernel))), List.forall_mem_cons.mpr ⟨((fun z => by cases z)), fun _ h => absurd h List.not_mem_nil⟩⟩⟩⟩⟩) true i k' h rfl
  · exact fun i k' h => pz_ctk (l := ct3_X12_signs) (P := fun b i k => b = false → (pz_cS 3 73 RX12 i k ∨ (k = pz_kac ∧ 1 ≤ 3 ∧ 60 ≤ 73 ∧ Cond.methodLink RX12 i arraycopyName ∈ pz_tbl))) (List.forall_mem_cons.mpr ⟨((fun z => by cases z)), List.forall_mem_cons.mpr ⟨((fun z => by cases z)), List.forall_mem_cons.mpr ⟨(fun _ => Or.inl (s_X12_isIn (by decide) (by decide) (Or.inl (pz_mt 1217 (by decide +kernel))))), List.forall_mem_cons.mpr ⟨((fun z => by cases z)), List.forall_mem_cons.mpr ⟨(fun _ => Or.inl (s_X12_greater (by decide) (by decide) (Or.inl (pz_mt 1447 (by decide +kernel))))), fun _ h => absurd h List.not_mem_nil⟩⟩⟩⟩⟩) false i k' h rfl
  · intro a M hlen hpre
    obtain ⟨th, w, rfl, hpre⟩ : ∃ th w, a = [.inr (.inr (12, th)), .inl w] ∧ (pz_im M) := by
      have hpre : (match (generalizing := false) a with | [.inr (.inr (12, th)), .inl w] => pz_im M | _ => False) := hpre
      split at hpre
      · exact ⟨_, _, rfl, hpre⟩
      · exact hpre.elim
    exact Nat.le_of_ble_eq_true rfl
  · intro a M hlen hcan hM hpre Ok hgo
    obtain ⟨th, w, rfl, hpre⟩ : ∃ th w, a = [.inr (.inr (12, th)), .inl w] ∧ (pz_im M) := by
      have hpre : (match (generalizing := false) a with | [.inr (.inr (12, th)), .inl w] => pz_im M | _ => False) := hpre
      split at hpre
      · exact ⟨_, _, rfl, hpre⟩
      · exact hpre.elim
    obtain ⟨k_th, hc_th⟩ := pz_tlm hcan
    have k_th : pz_kd th = 12 ∧ th < 231 := k_th
    have R_th := pz_kd12 k_th.1
    subst R_th
    clear k_th
    obtain ⟨k_w, hc_w⟩ := pz_tlm hc_th
    have l_w : -2147483648 ≤ w := k_w.1
    have u_w : w ≤ 2147483647 := k_w.2
    have hI : pz_im M := hpre
    have hI0 := hI
    have hS : pz_rl pz_QV M M := pz_rl.rf
    have I88 := hI.1.1
    have B2 := sg_2_b I88.2
    have L80 : ∀ (fu : Nat) (x2 : Int) (x3 : Int) (x4 : Int) (x5 : Int) (x6 : Int) (x7 : Int) (N80 : pz_M), (101 - x7).toNat < fu → (pz_rl pz_QV M N80) → (0 ≤ x7) → (-1 ≤ x6 ∨ x7 = 10) → (w ≤ 100) → (10 ≤ x7) → (w = 0 ∨ (10 ≤ w ∧ w < 10 + M 60 88)) → (x7 ≤ w + 1 ∨ x7 = 10) → ((x7 = 10 ∧ x6 = x3) ∨ 11 ≤ x7) → (∀ f g : Nat → Int, sg_fg f g (M 60 88) → sg_pm (M 60) f g (M 60 88) → (sg_ea f g 0 (sg_S (M 60 88).toNat) x3 ∧ 0 ≤ x3 ∧ x3 ≤ 240) ∧ ∃ h : Nat → Bool, pz_zs x5 h ∧ sg_wm f g (M 60 88) x3 (x7 - 10) x4 h x6) → Ok 80 [some (.inr (.inr (12, 1))), some (.inl w), some (.inl x2), some (.inl x3), some (.inl x4), some (.inl x5), some (.inl x6), some (.inl x7)] [] N80 := by
      intro fu
      induction fu with
      | zero => exact fun _ _ _ _ _ _ _ hn => absurd hn (Nat.not_lt_zero _)
      | succ fu ih80 =>
        intro x2 x3 x4 x5 x6 x7 N80 hn80 hS g80_1 g80_2 g80_3 g80_4 g80_5 g80_6 g80_7 g80_8
        have hI : pz_im N80 := hS.1 hI0
        have W80 : N80 60 = M 60 := funext fun j => hS.2 60 j (by unfold pz_QV; omega)
        refine hgo (fun p => Nat.beq p 80) 83 80 _ _ _ ?_
        refine And.intro (fun h83 => ?_) (fun h83 => ?_)
        · skip
          refine And.intro rfl ?_
          refine ⟨fun f g hf hp => ?_, hS⟩
          obtain ⟨⟨ea, e0⟩, h, hz, wm⟩ := (by assumption : ∀ f g : Nat → Int, sg_fg f g (M 60 88) → sg_pm (M 60) f g (M 60 88) → (sg_ea f g 0 (sg_S (M 60 88).toNat) x3 ∧ 0 ≤ x3 ∧ x3 ≤ 240) ∧ ∃ h : Nat → Bool, pz_zs x5 h ∧ sg_wm f g (M 60 88) x3 (x7 - 10) x4 h x6) f g hf hp
          by_cases w0 : w = 0
          · rw [show x6 = x3 by omega]
            exact sg_mv_0 w0 ea
          · exact sg_wm_v wm ea (by omega) (by omega) (by omega)
        · skip
          refine And.intro (hI) ?_
          intro v92 M92 a92 b92 q92
          obtain ⟨q92, z92⟩ := q92
          have hS : pz_rl pz_QV M M92 := hS.tr z92
          have hI : pz_im M92 := hS.1 hI0
          clear a92 b92
          rw [W80] at q92
          refine pz_nrc (c := 60) rfl ?_
          intro v108 e108 a108 b108
          rw [pz_wi (by omega) (by omega)] at e108
          clear a108 b108
          intro v109 e109 a109 b109
          rw [pz_wi (by omega) (by omega)] at e109
          clear a109 b109
          refine And.intro (by omega) (And.intro (show _ < (1725 : Int) from by omega) ?_)
          intro v110 e110 a110 b110
          refine And.intro (True.intro) ?_
          intro v111 M111 a111 b111 q111
          obtain ⟨q111, z111⟩ := q111
          subst z111
          intro v116 e116 a116 b116
          intro v124 e124 a124 b124
          intro v125 e125 a125 b125
          intro v128 e128 a128 b128
          rw [pz_wi (by omega) (by omega)] at e128
          have G80 : ∀ f g : Nat → Int, sg_fg f g (M 60 88) → sg_pm (M 60) f g (M 60 88) → (sg_ea f g 0 (sg_S (M 60 88).toNat) x3 ∧ 0 ≤ x3 ∧ x3 ≤ 240) ∧ ∃ h : Nat → Bool, pz_zs v125 h ∧ sg_wm f g (M 60 88) x3 (v128 - 10) v116 h v92 := fun f g hf hp => by
            obtain ⟨⟨ea, e0⟩, h, hz, wm⟩ := (by assumption : ∀ f g : Nat → Int, sg_fg f g (M 60 88) → sg_pm (M 60) f g (M 60 88) → (sg_ea f g 0 (sg_S (M 60 88).toNat) x3 ∧ 0 ≤ x3 ∧ x3 ≤ 240) ∧ ∃ h : Nat → Bool, pz_zs x5 h ∧ sg_wm f g (M 60 88) x3 (x7 - 10) x4 h x6) f g hf hp
            obtain ⟨o, -, -, ⟨-, t0, t1⟩, -, -, -, lo, -, hh⟩ := id wm
            rcases q92.2.2 f g h hf hp hz ⟨t0, t1⟩ hh e0 lo with ⟨n1, n2⟩ | ⟨n1, n2⟩
            · obtain ⟨i, i1, i2⟩ := sg_wm_ne wm (by omega)
              exact absurd i2 (n2 i i1)
            · have il := (sg_sn_t.mp n2.1.1).1
              have pf := hf v92.toNat (by omega)
              have pp := hp v92.toNat (by omega)
              have c : v110 = M 60 (105 + 2 * v92.toNat) := by
                rw [e110, hS.2 60 _ (by unfold pz_QV; omega), show v109.toNat = 105 + 2 * v92.toNat by omega]
              have dd : v116 = sg_d f x4 v92.toNat := sg_dn (show v111 = max x4 v110 by omega) (c.trans pp.1) pf.1 ⟨by omega, t1⟩ e116
              have oo := pz_sb_or hz (pz_sb_1 (i := v92) (by omega) (by omega))
              rw [← e124, ← e125] at oo
              exact ⟨⟨ea, e0⟩, _, oo, sg_wm_s wm I88.2 (by omega) n1 n2 dd pf.2.2 (fun _ => rfl) (by omega)⟩
          exact ih80 _ _ _ _ _ _ _ (by omega) hS (by first | omega | assumption) (by first | omega | assumption) (by first | omega | assumption) (by first | omega | assumption) (by first | omega | assumption) (by first | omega | assumption) (by first | omega | assumption) (by first | omega | assumption)
    refine hgo (fun p => Nat.beq p 80) 83 0 _ [] M ?_
    refine pz_nrc (c := 60) rfl ?_
    refine And.intro (by omega) (And.intro (show _ < (1725 : Int) from by omega) ?_)
    intro v7 e7 a7 b7
    replace e7 : v7 = M 60 88 := e7
    have I7 : 0 ≤ v7 ∧ v7 ≤ 12 := by
      rw [e7]
      exact hI.1.1
    clear a7 b7
    intro v8 e8 a8 b8
    have S8 := pz_shl1 (c := v7) (by omega) (by omega)
    rw [← e8] at S8
    have P8 : v8 = sg_2 (M 60 88) := by
      rw [e8, e7]
      exact sg_2_v (by omega) (by omega)
    intro v10 e10 a10 b10
    rw [pz_wi (by omega) (by omega)] at e10
    refine And.intro (hI) ?_
    intro M15 q15
    obtain ⟨q15, z15⟩ := q15
    have hS : pz_rl pz_QV M M15 := hS.tr z15
    have hI : pz_im M15 := hS.1 hI0
    have W15 : M15 60 = M 60 := funext fun j => hS.2 60 j (by unfold pz_QV; omega)
    have T15 : ∀ f g : Nat → Int, sg_fg f g (M 60 88) → sg_pm (M 60) f g (M 60 88) → sg_TM f g (fun _ => false) 0 M15 (sg_2 (M 60 88)) := fun f g hf hp => q15 f g _ hf hp pz_sb_0 ⟨by omega, by omega⟩
    refine And.intro (fun h20 => ?_) (fun h20 => ?_)
    · skip
      refine pz_nrc (c := 70) rfl ?_
      refine And.intro (by omega) (And.intro (show _ < (4096 : Int) from by omega) ?_)
      intro v33 e33 a33 b33
      have E33 : ∀ f g : Nat → Int, sg_fg f g (M 60 88) → sg_pm (M 60) f g (M 60 88) → sg_em f g 0 (sg_S (M 60 88).toNat) v33 := fun f g hf hp => by
        rw [e33]
        exact sg_TM_a (T15 f g hf hp) (by omega) (by omega)
      refine And.intro (fun h39 => ?_) (fun h39 => ?_)
      · skip
        have E39 : ∀ f g : Nat → Int, sg_fg f g (M 60 88) → sg_pm (M 60) f g (M 60 88) → sg_ea f g 0 (sg_S (M 60 88).toNat) (-1) := fun f g hf hp => by
          have e := (E33 f g hf hp).2
          rw [h39, sg_cv_f] at e
          exact e
        refine And.intro rfl ?_
        first
          | exact ⟨fun f g hf hp => sg_mv_f (E39 f g hf hp) (by omega), hS⟩
          | exact ⟨fun f g hf hp => sg_mv_o (by omega), hS⟩
      · skip
        have G80 : ∀ f g : Nat → Int, sg_fg f g (M 60 88) → sg_pm (M 60) f g (M 60 88) → (sg_ea f g 0 (sg_S (M 60 88).toNat) v33 ∧ 0 ≤ v33 ∧ v33 ≤ 240) ∧ ∃ h : Nat → Bool, pz_zs 0 h ∧ sg_wm f g (M 60 88) v33 (10 - 10) 0 h v33 := fun f g hf hp => by
          obtain ⟨c, e⟩ := E33 f g hf hp
          have c := c.resolve_left h39
          rw [sg_cv_n c] at e
          exact ⟨⟨e, c⟩, fun _ => false, pz_sb_0, by
            rw [show (10 : Int) - 10 = 0 by decide]
            exact sg_wm_0 ⟨by omega, by omega⟩ e (by omega)⟩
        refine And.intro (fun h43 => ?_) (fun h43 => ?_)
        · skip
          exact L80 _ _ _ _ _ _ _ _ (Nat.lt_succ_self _) hS (by first | omega | assumption) (by first | omega | assumption) (by first | omega | assumption) (by first | omega | assumption) (by first | omega | assumption) (by first | omega | assumption) (by first | omega | assumption) (by first | omega | assumption)
        · skip
          refine pz_nrc (c := 60) rfl ?_
          refine And.intro (by omega) (And.intro (show _ < (1725 : Int) from by omega) ?_)
          intro v57 e57 a57 b57
          replace e57 : v57 = M15 60 88 := e57
          have I57 : 0 ≤ v57 ∧ v57 ≤ 12 := by
            rw [e57]
            exact hI.1.1
          clear a57 b57
          have C57 : v57 = M 60 88 := by
            rw [e57, W15]
          intro v58 e58 a58 b58
          rw [pz_wi (by omega) (by omega)] at e58
          clear a58 b58
          refine And.intro (True.intro) ?_
          intro v59 M59 a59 b59 q59
          obtain ⟨q59, z59⟩ := q59
          subst z59
          clear a59 b59
          refine And.intro (fun h62 => ?_) (fun h62 => ?_)
          · skip
            replace q59 := q59.resolve_right (fun z => h62 z.1)
            clear h62
            exact L80 _ _ _ _ _ _ _ _ (Nat.lt_succ_self _) hS (by first | omega | assumption) (by first | omega | assumption) (by first | omega | assumption) (by first | omega | assumption) (by first | omega | assumption) (by first | omega | assumption) (by first | omega | assumption) (by first | omega | assumption)
          · skip
            replace q59 := q59.resolve_left (fun z => absurd (z.1.symm.trans h62) (by decide))
            clear h62
            refine And.intro rfl ?_
            first
              | exact ⟨fun f g hf hp => sg_mv_f (E39 f g hf hp) (by omega), hS⟩
              | exact ⟨fun f g hf hp => sg_mv_o (by omega), hS⟩
    · skip
      refine And.intro (hI) ?_
      intro v24 M24 a24 b24 q24
      obtain ⟨q24, z24⟩ := q24
      subst z24
      rw [W15] at q24
      refine And.intro rfl ?_
      exact ⟨fun f g hf hp => sg_mv_1 (by omega) (q24 f g (T15 f g hf hp)), hS⟩
theorem v3_X12_signs {fr lo i : Nat} {own : String} (h1 : 3 + 1 ≤ fr) (h2 : 8 + (8 + 11) + 73 ≤ lo) (h3 : .methodLink own i yX12_signs ∈ lw_tbl) : pz_cV fr lo own i k3_X12_signs :=
  pz_cVk (maxL := 8) (fr' := 3) (lo' := 73) 1 12 h3_X12_signs rfl ⟨by decide +kernel, by decide +kernel, by decide +kernel⟩ ⟨(pz_mt 1715 (by decide +kernel)), (pz_mt 1713 (by decide +kernel)), (pz_mt 1714 (by decide +kernel)), (pz_mt 13 (by decide +kernel))⟩ (Or.inl ⟨TX12, 28, rfl⟩) (fun a M _ h => by
    have h : (match (generalizing := false) a with | [.inr (.inr (12, th)), .inl w] => pz_im M | _ => False) := h
    split at h
    · exact ⟨_, _, rfl⟩
    · exact h.elim) h1 h2 h3
