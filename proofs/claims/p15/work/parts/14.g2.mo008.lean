section
theorem pz_pc_s {M N N' : pz_M} {j x y v : Int} {p : Nat} (hj : 0 ≤ j) (hx : 0 ≤ x) (hp : (p : Int) = j + x) (e : N' = pz_u N 60 p v) (ev : v = M 66 x.toNat) (hy : y = x + 1) (h : ∀ n : Nat, (n : Int) < x → N 60 (j.toNat + n) = M 66 n) : ∀ n : Nat, (n : Int) < y → N' 60 (j.toNat + n) = M 66 n := by
  intro n hn
  by_cases c : (n : Int) = x
  · rw [e, pz_ue (by first | decide | omega), ev, show x.toNat = n by omega]
  · rw [e, pz_une (by first | decide | omega)]
    exact h n (by first | decide | omega)
theorem pz_ph_s {M N N1 N2 : pz_M} {x y l v1 v2 : Int} {p1 p2 : Nat} (hx : 0 ≤ x) (hy : y = x + 1) (hl : l = M 66 (3 * x).toNat) (h0 : 0 ≤ l) (e1 : N1 = pz_u N 60 p1 v1) (hp1 : (p1 : Int) = 105 + 2 * l) (hv1 : v1 = M 66 (3 * x.toNat + 1)) (e2 : N2 = pz_u N1 60 p2 v2) (hp2 : (p2 : Int) = 106 + 2 * l) (hv2 : v2 = M 66 (3 * x.toNat + 2)) (h : ∀ i : Nat, i < 12 → N 60 (105 + 2 * i) = pz_ph (pz_mph M) i 0 1 x.toNat ∧ N 60 (106 + 2 * i) = pz_ph (pz_mph M) i 240 2 x.toNat) : ∀ i : Nat, i < 12 → N2 60 (105 + 2 * i) = pz_ph (pz_mph M) i 0 1 y.toNat ∧ N2 60 (106 + 2 * i) = pz_ph (pz_mph M) i 240 2 y.toNat := by
  intro i hi
  obtain ⟨a, b⟩ := h i hi
  have ey : y.toNat = x.toNat + 1 := by omega
  have g0 : pz_mph M x.toNat 0 = l := by
    show M 66 (3 * x.toNat + 0) = l
    rw [hl, show 3 * x.toNat + 0 = (3 * x).toNat by omega]
  rw [ey]
  show N2 60 (105 + 2 * i) = (if pz_mph M x.toNat 0 = (i : Int) then pz_mph M x.toNat 1 else pz_ph (pz_mph M) i 0 1 x.toNat) ∧ N2 60 (106 + 2 * i) = (if pz_mph M x.toNat 0 = (i : Int) then pz_mph M x.toNat 2 else pz_ph (pz_mph M) i 240 2 x.toNat)
  rw [g0]
  by_cases c : l = (i : Int)
  · rw [if_pos c, if_pos c]
    refine ⟨?_, ?_⟩
    · rw [e2, pz_une (by first | decide | omega), e1, pz_ue (by first | decide | omega), hv1]
      rfl
    · rw [e2, pz_ue (by first | decide | omega), hv2]
      rfl
  · rw [if_neg c, if_neg c]
    refine ⟨?_, ?_⟩
    · rw [e2, pz_une (by first | decide | omega), e1, pz_une (by first | decide | omega)]
      exact a
    · rw [e2, pz_une (by first | decide | omega), e1, pz_une (by first | decide | omega)]
      exact b
theorem pz_ph_z {N N1 N2 : pz_M} {x y v1 v2 : Int} {p1 p2 : Nat} (hx : 0 ≤ x) (hy : y = x + 1) (e1 : N1 = pz_u N 60 p1 v1) (hp1 : (p1 : Int) = 105 + 2 * x) (hv1 : v1 = 0) (e2 : N2 = pz_u N1 60 p2 v2) (hp2 : (p2 : Int) = 106 + 2 * x) (hv2 : v2 = 240) (h : ∀ i : Nat, (i : Int) < x → N 60 (105 + 2 * i) = 0 ∧ N 60 (106 + 2 * i) = 240) : ∀ i : Nat, (i : Int) < y → N2 60 (105 + 2 * i) = 0 ∧ N2 60 (106 + 2 * i) = 240 := by
  intro i hi
  by_cases c : x = (i : Int)
  · refine ⟨?_, ?_⟩
    · rw [e2, pz_une (by first | decide | omega), e1, pz_ue (by first | decide | omega), hv1]
    · rw [e2, pz_ue (by first | decide | omega), hv2]
  · obtain ⟨a, b⟩ := h i (by first | decide | omega)
    refine ⟨?_, ?_⟩
    · rw [e2, pz_une (by first | decide | omega), e1, pz_une (by first | decide | omega)]
      exact a
    · rw [e2, pz_une (by first | decide | omega), e1, pz_une (by first | decide | omega)]
      exact b
noncomputable def k_X12_putsLaw : pz_C := (1, 1, fun a M => (match a with | [.inr (.inr (12, th))] => pz_im M ∧ pz_wfl M | _ => False), fun a M r M' => (match a, r with | [.inr (.inr (12, th))], some (.inl v) => (v = M 1 13 ∧ pz_lwc M M') ∧ pz_rl pz_QL M M' | _, _ => False))
noncomputable abbrev ct_X12_putsLaw : List (Bool × Nat × pz_C) := []
set_option maxRecDepth 100000 in
set_option maxHeartbeats 4000000 in
theorem h_X12_putsLaw : pz_H yX12_putsLaw cX12_putsLaw 2 (some .int) k_X12_putsLaw 0 0 := by
  refine pz_mk (own := RX12) (tb := t_X12_putsLaw) (fl := pz_flf fl_RX12) (ci := pz_cif ci_RX12) (ct := pz_ctf ct_X12_putsLaw) (rz := false) (pz_pfc_RX12 yX12_putsLaw rfl) rfl t_X12_putsLaw_ok (pz_flk fl_RX12_ok) (pz_cik ci_RX12_ok) ?_ ?_ (Or.inl ⟨rfl, rfl⟩) ?_ ?_
  · exact fun i k' h => pz_ctk (l := ct_X12_putsLaw) (P := fun b i k => b = true → pz_cV 0 0 RX12 i k) (fun _ h => absurd h List.not_mem_nil) true i k' h rfl
  · exact fun i k' h => pz_ctk (l := ct_X12_putsLaw) (P := fun b i k => b = false → (pz_cS 0 0 RX12 i k ∨ (k = pz_kac ∧ 1 ≤ 0 ∧ 60 ≤ 0 ∧ Cond.methodLink RX12 i arraycopyName ∈ pz_tbl))) (fun _ h => absurd h List.not_mem_nil) false i k' h rfl
  · intro a M hlen hpre
    obtain ⟨th, rfl, hpre⟩ : ∃ th, a = [.inr (.inr (12, th))] ∧ (pz_im M ∧ pz_wfl M) := by
      have hpre : (match (generalizing := false) a with | [.inr (.inr (12, th))] => pz_im M ∧ pz_wfl M | _ => False) := hpre
      split at hpre
      · exact ⟨_, rfl, hpre⟩
      · exact hpre.elim
    exact Nat.le_of_ble_eq_true rfl
  · intro a M hlen hcan hM hpre Ok hgo
    obtain ⟨th, rfl, hpre⟩ : ∃ th, a = [.inr (.inr (12, th))] ∧ (pz_im M ∧ pz_wfl M) := by
      have hpre : (match (generalizing := false) a with | [.inr (.inr (12, th))] => pz_im M ∧ pz_wfl M | _ => False) := hpre
      split at hpre
      · exact ⟨_, rfl, hpre⟩
      · exact hpre.elim
    obtain ⟨k_th, hc_th⟩ := pz_tlm hcan
    have k_th : pz_kd th = 12 ∧ th < 231 := k_th
    have R_th := pz_kd12 k_th.1
    subst R_th
    clear k_th
    have hI : pz_im M := hpre.1
    have hI0 := hI
    have hS : pz_r0 pz_W1 M M := pz_r0.rf
    have I13 := hI.2.1.2.2.2.2.2.1
    have I14 := hI.2.1.2.2.2.2.2.2.1
    obtain ⟨-, hwl⟩ := hpre
    have L107 : ∀ (fu : Nat) (x1 : Int) (N107 : pz_M), (820 - x1).toNat < fu → (pz_r0 pz_W1 M N107) → (0 ≤ x1) → (x1 ≤ 820) → (N107 60 89 = M 1 13) → (∀ k : Nat, (k : Int) < M 1 13 → N107 60 (841 + k) = M 64 (4 * k) ∧ N107 60 (857 + k) = M 64 (4 * k + 1) ∧ N107 60 (873 + k) = M 64 (4 * k + 2) ∧ N107 60 (889 + k) = M 64 (4 * k + 3)) → (∀ k : Nat, (k : Int) < x1 → N107 60 (905 + k) = M 65 k) → Ok 107 [some (.inr (.inr (12, 1))), some (.inl x1)] [] N107 := by
      intro fu
      induction fu with
      | zero => exact fun _ _ hn => absurd hn (Nat.not_lt_zero _)
      | succ fu ih107 =>
        intro x1 N107 hn107 hS g107_1 g107_2 g107_3 g107_4 g107_5
        have F14 := hS 1 14 (by unfold pz_W1; first | decide | omega)
        refine hgo (fun p => Nat.beq p 13 || Nat.beq p 107) 93 107 _ _ _ ?_
        intro v110 e110 a110 b110
        have I110 := hI.2.1.2.2.2.2.2.2.1
        intro v113 e113 a113 b113
        rw [pz_wi (by first | decide | omega) (by first | decide | omega)] at e113
        clear a113 b113
        refine And.intro (fun h114 => ?_) (fun h114 => ?_)
        · skip
          intro v140 e140 a140 b140
          have I140 := hI.2.1.2.2.2.2.2.1
          refine And.intro rfl ?_
          have H13 := hS 1 13 (by unfold pz_W1; first | decide | omega)
          have H14 := hS 1 14 (by unfold pz_W1; first | decide | omega)
          refine ⟨⟨by omega, g107_3, g107_4, fun k hk => g107_5 k (by first | decide | omega)⟩, ⟨fun _ => ?_, fun b j hb => hS b j (by unfold pz_QL at hb; unfold pz_W1; omega)⟩⟩
          have h61 : ∀ j, N107 61 j = M 61 j := fun j => hS 61 j (by unfold pz_W1; first | decide | omega)
          refine ⟨?_, pz_ix_of hI.2.1 (fun j _ => hS 1 j (by unfold pz_W1; first | decide | omega)) (by rw [hS 1 4 (by unfold pz_W1; first | decide | omega)]; exact hI.2.1.1) (fun j => hS 62 j (by unfold pz_W1; first | decide | omega)) (hS 63 3 (by unfold pz_W1; first | decide | omega)), ?_, pz_iw_of hI.2.2.2.1 (fun j _ => h61 j), pz_lw_cg hI.2.2.2.2 (fun j _ => h61 j)⟩
          · unfold pz_iw
            rw [hS 60 88 (by unfold pz_W1; first | decide | omega), hS 60 90 (by unfold pz_W1; first | decide | omega), hS 60 92 (by unfold pz_W1; first | decide | omega), hS 60 3 (by unfold pz_W1; first | decide | omega), g107_3]
            exact ⟨hI.1.1, I13, hI.1.2.2.1, hI.1.2.2.2.1, hI.1.2.2.2.2⟩
          · intro i i0 i1
            rw [g107_3] at i1
            obtain ⟨w1, w2, w3, w4⟩ := hwl i i0 i1
            obtain ⟨m1, m2, m3, -⟩ := g107_4 i.toNat (by first | decide | omega)
            rw [show 841 + i.toNat = (841 + i).toNat by omega, show 4 * i.toNat = (4 * i).toNat by omega] at m1
            rw [show 857 + i.toNat = (857 + i).toNat by omega, show 4 * i.toNat + 1 = (4 * i + 1).toNat by omega] at m2
            rw [show 873 + i.toNat = (873 + i).toNat by omega, show 4 * i.toNat + 2 = (4 * i + 2).toNat by omega] at m3
            rw [m1, m2, m3]
            have l3 := w3.1
            have l4 : M 64 (4 * i + 1).toNat ≤ M 64 (4 * i + 2).toNat := by
              rcases w4 with w4 | w4
              · omega
              · have := w4.1
                omega
            refine ⟨w1, by omega, pz_sg_cg w3 w1 (fun j _ q => g107_5 j (by first | decide | omega)), ?_⟩
            rcases w4 with w4 | w4
            · exact Or.inl w4
            · exact Or.inr (pz_sg_cg w4 (by first | decide | omega) (fun j _ q => g107_5 j (by first | decide | omega)))
        · skip
          refine pz_nrc (c := 60) rfl ?_
          intro v125 e125 a125 b125
          rw [pz_wi (by first | decide | omega) (by first | decide | omega)] at e125
          clear a125 b125
          refine pz_nrc (c := 65) rfl ?_
          have lo131 : (0 : Int) ≤ x1 := by omega
          have tn131 : (((x1).toNat : Nat) : Int) = x1 := Int.toNat_of_nonneg lo131
          refine And.intro (lo131) (And.intro (show _ < (820 : Int) from by omega) ?_)
          intro v131 e131 a131 b131
          rw [hS 65 _ (by unfold pz_W1; first | decide | omega)] at e131
          have lo132 : (0 : Int) ≤ v125 := by omega
          have tn132 : (((v125).toNat : Nat) : Int) = v125 := Int.toNat_of_nonneg lo132
          refine And.intro (lo132) (And.intro (show _ < (1725 : Int) from by omega) ?_)
          intro M132 e132
          have hS : pz_r0 pz_W1 M M132 := by
            rw [e132]
            exact pz_r0_u hS (by unfold pz_W1; first | decide | omega)
          have T132_0 : M132 60 89 = N107 60 89 := by
            rw [e132]
            exact (pz_une (by first | decide | omega))
          intro v133 e133 a133 b133
          rw [pz_wi (by first | decide | omega) (by first | decide | omega)] at e133
          obtain ⟨G133a, G133b⟩ := pz_law2 (g := M 64) (h := M 65) (i1 := v125.toNat) (n := M 1 13) g107_1 (by first | decide | omega) (by first | decide | omega) (pz_u64 e132) e131 g107_4 g107_5
          rw [← e133] at G133b
          exact ih107 _ _ (by first | decide | omega) hS (by first | omega | assumption) (by first | omega | assumption) (by first | omega | assumption) (by first | omega | assumption) (by first | omega | assumption)
    have L13 : ∀ (fu : Nat) (x1 : Int) (N13 : pz_M), (16 - x1).toNat < fu → (pz_r0 pz_W1 M N13) → (0 ≤ x1) → (x1 ≤ 16) → (x1 ≤ M 1 13) → (N13 60 89 = M 1 13) → (∀ k : Nat, (k : Int) < x1 → N13 60 (841 + k) = M 64 (4 * k) ∧ N13 60 (857 + k) = M 64 (4 * k + 1) ∧ N13 60 (873 + k) = M 64 (4 * k + 2) ∧ N13 60 (889 + k) = M 64 (4 * k + 3)) → Ok 13 [some (.inr (.inr (12, 1))), some (.inl x1)] [] N13 := by
      intro fu
      induction fu with
      | zero => exact fun _ _ hn => absurd hn (Nat.not_lt_zero _)
      | succ fu ih13 =>
        intro x1 N13 hn13 hS g13_1 g13_2 g13_3 g13_4 g13_5
        have F13 := hS 1 13 (by unfold pz_W1; first | decide | omega)
        refine hgo (fun p => Nat.beq p 13 || Nat.beq p 107) 93 13 _ _ _ ?_
        intro v15 e15 a15 b15
        have I15 := hI.2.1.2.2.2.2.2.1
        refine And.intro (fun h18 => ?_) (fun h18 => ?_)
        · skip
          have G18 : ∀ k : Nat, (k : Int) < M 1 13 → N13 60 (841 + k) = M 64 (4 * k) ∧ N13 60 (857 + k) = M 64 (4 * k + 1) ∧ N13 60 (873 + k) = M 64 (4 * k + 2) ∧ N13 60 (889 + k) = M 64 (4 * k + 3) := fun k hk => g13_5 k (by first | decide | omega)
          have G105 : ∀ k : Nat, (k : Int) < (0 : Int) → N13 60 (905 + k) = M 65 k := fun k hk => absurd hk (by first | decide | omega)
          exact L107 _ _ _ (Nat.lt_succ_self _) hS (by first | omega | assumption) (by first | omega | assumption) (by first | omega | assumption) (by first | omega | assumption) (by first | omega | assumption)
        · skip
          skip
          refine pz_nrc (c := 60) rfl ?_
          intro v29 e29 a29 b29
          rw [pz_wi (by first | decide | omega) (by first | decide | omega)] at e29
          clear a29 b29
          refine pz_nrc (c := 64) rfl ?_
          intro v36 e36 a36 b36
          rw [pz_wi (by first | decide | omega) (by first | decide | omega)] at e36
          clear a36 b36
          have lo37 : (0 : Int) ≤ v36 := by omega
          have tn37 : (((v36).toNat : Nat) : Int) = v36 := Int.toNat_of_nonneg lo37
          refine And.intro (lo37) (And.intro (show _ < (64 : Int) from by omega) ?_)
          intro v37 e37 a37 b37
          rw [hS 64 _ (by unfold pz_W1; first | decide | omega)] at e37
          have lo38 : (0 : Int) ≤ v29 := by omega
          have tn38 : (((v29).toNat : Nat) : Int) = v29 := Int.toNat_of_nonneg lo38
          refine And.intro (lo38) (And.intro (show _ < (1725 : Int) from by omega) ?_)
          intro M38 e38
          have hS : pz_r0 pz_W1 M M38 := by
            rw [e38]
            exact pz_r0_u hS (by unfold pz_W1; first | decide | omega)
          have T38_0 : M38 60 89 = N13 60 89 := by
            rw [e38]
            exact (pz_une (by first | decide | omega))
          refine pz_nrc (c := 60) rfl ?_
          intro v47 e47 a47 b47
          rw [pz_wi (by first | decide | omega) (by first | decide | omega)] at e47
          clear a47 b47
          refine pz_nrc (c := 64) rfl ?_
          intro v54 e54 a54 b54
          rw [pz_wi (by first | decide | omega) (by first | decide | omega)] at e54
          clear a54 b54
          intro v56 e56 a56 b56
          rw [pz_wi (by first | decide | omega) (by first | decide | omega)] at e56
          clear a56 b56
          have lo57 : (0 : Int) ≤ v56 := by omega
          have tn57 : (((v56).toNat : Nat) : Int) = v56 := Int.toNat_of_nonneg lo57
          refine And.intro (lo57) (And.intro (show _ < (64 : Int) from by omega) ?_)
          intro v57 e57 a57 b57
          rw [hS 64 _ (by unfold pz_W1; first | decide | omega)] at e57
          have lo58 : (0 : Int) ≤ v47 := by omega
          have tn58 : (((v47).toNat : Nat) : Int) = v47 := Int.toNat_of_nonneg lo58
          refine And.intro (lo58) (And.intro (show _ < (1725 : Int) from by omega) ?_)
          intro M58 e58
          have hS : pz_r0 pz_W1 M M58 := by
            rw [e58]
            exact pz_r0_u hS (by unfold pz_W1; first | decide | omega)
          have T58_0 : M58 60 89 = N13 60 89 := by
            rw [e58]
            exact (pz_une (by first | decide | omega)).trans T38_0
          clear T38_0
          refine pz_nrc (c := 60) rfl ?_
          intro v67 e67 a67 b67
          rw [pz_wi (by first | decide | omega) (by first | decide | omega)] at e67
          clear a67 b67
          refine pz_nrc (c := 64) rfl ?_
          intro v74 e74 a74 b74
          rw [pz_wi (by first | decide | omega) (by first | decide | omega)] at e74
          clear a74 b74
          intro v76 e76 a76 b76
          rw [pz_wi (by first | decide | omega) (by first | decide | omega)] at e76
          clear a76 b76
          have lo77 : (0 : Int) ≤ v76 := by omega
          have tn77 : (((v76).toNat : Nat) : Int) = v76 := Int.toNat_of_nonneg lo77
          refine And.intro (lo77) (And.intro (show _ < (64 : Int) from by omega) ?_)
          intro v77 e77 a77 b77
          rw [hS 64 _ (by unfold pz_W1; first | decide | omega)] at e77
          have lo78 : (0 : Int) ≤ v67 := by omega
          have tn78 : (((v67).toNat : Nat) : Int) = v67 := Int.toNat_of_nonneg lo78
          refine And.intro (lo78) (And.intro (show _ < (1725 : Int) from by omega) ?_)
          intro M78 e78
          have hS : pz_r0 pz_W1 M M78 := by
            rw [e78]
            exact pz_r0_u hS (by unfold pz_W1; first | decide | omega)
          have T78_0 : M78 60 89 = N13 60 89 := by
            rw [e78]
            exact (pz_une (by first | decide | omega)).trans T58_0
          clear T58_0
          refine pz_nrc (c := 60) rfl ?_
          intro v87 e87 a87 b87
          rw [pz_wi (by first | decide | omega) (by first | decide | omega)] at e87
          clear a87 b87
          refine pz_nrc (c := 64) rfl ?_
          intro v94 e94 a94 b94
          rw [pz_wi (by first | decide | omega) (by first | decide | omega)] at e94
          clear a94 b94
          intro v96 e96 a96 b96
          rw [pz_wi (by first | decide | omega) (by first | decide | omega)] at e96
          clear a96 b96
          have lo97 : (0 : Int) ≤ v96 := by omega
          have tn97 : (((v96).toNat : Nat) : Int) = v96 := Int.toNat_of_nonneg lo97
          refine And.intro (lo97) (And.intro (show _ < (64 : Int) from by omega) ?_)
          intro v97 e97 a97 b97
          rw [hS 64 _ (by unfold pz_W1; first | decide | omega)] at e97
          have lo98 : (0 : Int) ≤ v87 := by omega
          have tn98 : (((v87).toNat : Nat) : Int) = v87 := Int.toNat_of_nonneg lo98
          refine And.intro (lo98) (And.intro (show _ < (1725 : Int) from by omega) ?_)
          intro M98 e98
          have hS : pz_r0 pz_W1 M M98 := by
            rw [e98]
            exact pz_r0_u hS (by unfold pz_W1; first | decide | omega)
          have T98_0 : M98 60 89 = N13 60 89 := by
            rw [e98]
            exact (pz_une (by first | decide | omega)).trans T78_0
          clear T78_0
          intro v99 e99 a99 b99
          rw [pz_wi (by first | decide | omega) (by first | decide | omega)] at e99
          have G99 : ∀ k : Nat, (k : Int) < v99 → M98 60 (841 + k) = M 64 (4 * k) ∧ M98 60 (857 + k) = M 64 (4 * k + 1) ∧ M98 60 (873 + k) = M 64 (4 * k + 2) ∧ M98 60 (889 + k) = M 64 (4 * k + 3) := by
            rw [e99]
            exact pz_law1 (g := M 64) (i1 := v29.toNat) (i2 := v47.toNat) (i3 := v67.toNat) (i4 := v87.toNat) g13_1 (by first | decide | omega) (by first | decide | omega) (by first | decide | omega) (by first | decide | omega) (by first | decide | omega) (fun j => by rw [pz_u64 e98 j, pz_u64 e78 j, pz_u64 e58 j, pz_u64 e38 j]) (by rw [e37, show v36.toNat = (4 * x1).toNat by omega]) (by rw [e57, show v56.toNat = (4 * x1 + 1).toNat by omega]) (by rw [e77, show v76.toNat = (4 * x1 + 2).toNat by omega]) (by rw [e97, show v96.toNat = (4 * x1 + 3).toNat by omega]) g13_5
          exact ih13 _ _ (by first | decide | omega) hS (by first | omega | assumption) (by first | omega | assumption) (by first | omega | assumption) (by first | omega | assumption) (by first | omega | assumption)
    refine hgo (fun p => Nat.beq p 13 || Nat.beq p 107) 93 0 _ [] M ?_
    refine pz_nrc (c := 60) rfl ?_
    intro v7 e7 a7 b7
    have I7 : 0 ≤ v7 ∧ v7 ≤ 16 := by
      rw [e7]
      exact hI.2.1.2.2.2.2.2.1
    clear a7 b7
    have N7 := hI.2.1.2.2.2.2.2.1
    refine And.intro (by first | decide | omega) (And.intro (show _ < (1725 : Int) from by omega) ?_)
    intro M10 e10
    have hS : pz_r0 pz_W1 M M10 := by
      rw [e10]
      exact pz_r0_u hS (by unfold pz_W1; first | decide | omega)
    have T10_0 : M10 60 89 = v7 := by rw [e10]; exact pz_uu
    have G10 : ∀ k : Nat, (k : Int) < (0 : Int) → M10 60 (841 + k) = M 64 (4 * k) ∧ M10 60 (857 + k) = M 64 (4 * k + 1) ∧ M10 60 (873 + k) = M 64 (4 * k + 2) ∧ M10 60 (889 + k) = M 64 (4 * k + 3) := fun k hk => absurd hk (by first | decide | omega)
    exact L13 _ _ _ (Nat.lt_succ_self _) hS (by first | omega | assumption) (by first | omega | assumption) (by first | omega | assumption) (by first | omega | assumption) (by first | omega | assumption)
end
