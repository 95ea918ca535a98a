section
noncomputable def k_X12_putsPhones : pz_C := (1, 1, fun a M => (match a with | [.inr (.inr (12, th))] => pz_im M ∧ (∀ r : Int, 0 ≤ r → r < M 1 15 → 0 ≤ M 66 (3 * r).toNat ∧ M 66 (3 * r).toNat ≤ 11) | _ => False), fun a M r M' => (match a, r with | [.inr (.inr (12, th))], some (.inl v) => (v = M 1 15 ∧ pz_phc M M') ∧ pz_rl pz_Q7 M M' | _, _ => False))
noncomputable abbrev ct_X12_putsPhones : List (Bool × Nat × pz_C) := []
set_option maxRecDepth 100000 in
set_option maxHeartbeats 4000000 in
theorem h_X12_putsPhones : pz_H yX12_putsPhones cX12_putsPhones 2 (some .int) k_X12_putsPhones 0 0 := by
  refine pz_mk (own := RX12) (tb := t_X12_putsPhones) (fl := pz_flf fl_RX12) (ci := pz_cif ci_RX12) (ct := pz_ctf ct_X12_putsPhones) (rz := false) (pz_pfc_RX12 yX12_putsPhones rfl) rfl t_X12_putsPhones_ok (pz_flk fl_RX12_ok) (pz_cik ci_RX12_ok) ?_ ?_ (Or.inl ⟨rfl, rfl⟩) ?_ ?_
  · exact fun i k' h => pz_ctk (l := ct_X12_putsPhones) (P := fun b i k => b = true → pz_cV 0 0 RX12 i k) (fun _ h => absurd h List.not_mem_nil) true i k' h rfl
  · exact fun i k' h => pz_ctk (l := ct_X12_putsPhones) (P := fun b i k => b = false → (pz_cS 0 0 RX12 i k ∨ (k = pz_kac ∧ 1 ≤ 0 ∧ 60 ≤ 0 ∧ Cond.methodLink RX12 i arraycopyName ∈ pz_tbl))) (fun _ h => absurd h List.not_mem_nil) false i k' h rfl
  · intro a M hlen hpre
    obtain ⟨th, rfl, hpre⟩ : ∃ th, a = [.inr (.inr (12, th))] ∧ (pz_im M ∧ (∀ r : Int, 0 ≤ r → r < M 1 15 → 0 ≤ M 66 (3 * r).toNat ∧ M 66 (3 * r).toNat ≤ 11)) := by
      have hpre : (match (generalizing := false) a with | [.inr (.inr (12, th))] => pz_im M ∧ (∀ r : Int, 0 ≤ r → r < M 1 15 → 0 ≤ M 66 (3 * r).toNat ∧ M 66 (3 * r).toNat ≤ 11) | _ => False) := hpre
      split at hpre
      · exact ⟨_, rfl, hpre⟩
      · exact hpre.elim
    exact Nat.le_of_ble_eq_true rfl
  · intro a M hlen hcan hM hpre Ok hgo
    obtain ⟨th, rfl, hpre⟩ : ∃ th, a = [.inr (.inr (12, th))] ∧ (pz_im M ∧ (∀ r : Int, 0 ≤ r → r < M 1 15 → 0 ≤ M 66 (3 * r).toNat ∧ M 66 (3 * r).toNat ≤ 11)) := by
      have hpre : (match (generalizing := false) a with | [.inr (.inr (12, th))] => pz_im M ∧ (∀ r : Int, 0 ≤ r → r < M 1 15 → 0 ≤ M 66 (3 * r).toNat ∧ M 66 (3 * r).toNat ≤ 11) | _ => False) := hpre
      split at hpre
      · exact ⟨_, rfl, hpre⟩
      · exact hpre.elim
    obtain ⟨k_th, hc_th⟩ := pz_tlm hcan
    have k_th : pz_kd th = 12 ∧ th < 231 := k_th
    have R_th := pz_kd12 k_th.1
    subst R_th
    clear k_th
    have hI : pz_im M := hpre.1
    have hI0 := hI
    have hS : pz_rl pz_Q7 M M := pz_rl.rf
    have I15 := hI.2.1.2.2.2.2.2.2.2.1
    obtain ⟨-, hp9⟩ := hpre
    have L55 : ∀ (fu : Nat) (x1 : Int) (N55 : pz_M), (16 - x1).toNat < fu → (pz_rl pz_Q7 M N55) → (0 ≤ x1) → (x1 ≤ 16) → (x1 ≤ M 1 15) → (∀ i : Nat, i < 12 → N55 60 (105 + 2 * i) = pz_ph (pz_mph M) i 0 1 x1.toNat ∧ N55 60 (106 + 2 * i) = pz_ph (pz_mph M) i 240 2 x1.toNat) → (N55 60 91 = M 1 15) → Ok 55 [some (.inr (.inr (12, 1))), some (.inl x1)] [] N55 := by
      intro fu
      induction fu with
      | zero => exact fun _ _ hn => absurd hn (Nat.not_lt_zero _)
      | succ fu ih55 =>
        intro x1 N55 hn55 hS g55_1 g55_2 g55_3 g55_4 g55_5
        have hI : pz_im N55 := hS.1 hI0
        have F15 := hS.2 1 15 (by unfold pz_Q7; omega)
        have Ux := Int.toNat_of_nonneg g55_1
        have U3 : (((3 * x1).toNat : Nat) : Int) = 3 * x1 := Int.toNat_of_nonneg (by omega)
        have U15 : (((M 1 15).toNat : Nat) : Int) = M 1 15 := Int.toNat_of_nonneg (by omega)
        refine hgo (fun p => Nat.beq p 13 || Nat.beq p 55) 90 55 _ _ _ ?_
        intro v57 e57 a57 b57
        have I57 : 0 ≤ v57 ∧ v57 ≤ 16 := by
          rw [e57]
          exact hI.2.1.2.2.2.2.2.2.2.1
        clear a57 b57
        have N57 := hI.2.1.2.2.2.2.2.2.2.1
        refine And.intro (fun h60 => ?_) (fun h60 => ?_)
        · skip
          intro v128 e128 a128 b128
          have I128 : 0 ≤ v128 ∧ v128 ≤ 16 := by
            rw [e128]
            exact hI.2.1.2.2.2.2.2.2.2.1
          clear a128 b128
          have N128 := hI.2.1.2.2.2.2.2.2.2.1
          refine And.intro rfl ?_
          have H15 := hS.2 1 15 (by unfold pz_Q7; omega)
          exact ⟨⟨by omega, g55_5, fun i hi => by rw [show (M 1 15).toNat = x1.toNat by omega]; exact g55_4 i hi⟩, hS⟩
        · skip
          refine pz_nrc (c := 60) rfl ?_
          refine pz_nrc (c := 66) rfl ?_
          intro v76 e76 a76 b76
          rw [pz_wi (by omega) (by omega)] at e76
          clear a76 b76
          have lo77 : (0 : Int) ≤ v76 := by omega
          have tn77 : (((v76).toNat : Nat) : Int) = v76 := Int.toNat_of_nonneg lo77
          refine And.intro (lo77) (And.intro (show _ < (80 : Int) from by omega) ?_)
          intro v77 e77 a77 b77
          have H77 := hp9 x1 (by omega) (by omega)
          rw [hS.2 66 _ (by unfold pz_Q7; omega), show v76.toNat = (3 * x1).toNat by omega] at e77
          intro v78 e78 a78 b78
          rw [pz_wi (by omega) (by omega)] at e78
          clear a78 b78
          intro v79 e79 a79 b79
          rw [pz_wi (by omega) (by omega)] at e79
          clear a79 b79
          refine pz_nrc (c := 66) rfl ?_
          intro v86 e86 a86 b86
          rw [pz_wi (by omega) (by omega)] at e86
          clear a86 b86
          intro v88 e88 a88 b88
          rw [pz_wi (by omega) (by omega)] at e88
          clear a88 b88
          have lo89 : (0 : Int) ≤ v88 := by omega
          have tn89 : (((v88).toNat : Nat) : Int) = v88 := Int.toNat_of_nonneg lo89
          refine And.intro (lo89) (And.intro (show _ < (80 : Int) from by omega) ?_)
          intro v89 e89 a89 b89
          rw [hS.2 66 _ (by unfold pz_Q7; omega), show v88.toNat = 3 * x1.toNat + 1 by omega] at e89
          have lo90 : (0 : Int) ≤ v79 := by omega
          have tn90 : (((v79).toNat : Nat) : Int) = v79 := Int.toNat_of_nonneg lo90
          refine And.intro (lo90) (And.intro (show _ < (1725 : Int) from by omega) ?_)
          intro M90 e90
          have hS : pz_rl pz_Q7 M M90 := by
            rw [e90]
            exact pz_rl_u hS (by unfold pz_Q7; omega) (by first | exact pz_iom_w (by omega) (by omega) (by omega) (by omega) (by omega) (by omega) | (unfold pz_iom; omega))
          have hI : pz_im M90 := hS.1 hI0
          have K90 := e90
          refine pz_nrc (c := 60) rfl ?_
          refine pz_nrc (c := 66) rfl ?_
          intro v104 e104 a104 b104
          rw [pz_wi (by omega) (by omega)] at e104
          clear a104 b104
          have lo105 : (0 : Int) ≤ v104 := by omega
          have tn105 : (((v104).toNat : Nat) : Int) = v104 := Int.toNat_of_nonneg lo105
          refine And.intro (lo105) (And.intro (show _ < (80 : Int) from by omega) ?_)
          intro v105 e105 a105 b105
          have H105 := hp9 x1 (by omega) (by omega)
          rw [hS.2 66 _ (by unfold pz_Q7; omega), show v104.toNat = (3 * x1).toNat by omega] at e105
          intro v106 e106 a106 b106
          rw [pz_wi (by omega) (by omega)] at e106
          clear a106 b106
          intro v107 e107 a107 b107
          rw [pz_wi (by omega) (by omega)] at e107
          clear a107 b107
          intro v109 e109 a109 b109
          rw [pz_wi (by omega) (by omega)] at e109
          clear a109 b109
          refine pz_nrc (c := 66) rfl ?_
          intro v116 e116 a116 b116
          rw [pz_wi (by omega) (by omega)] at e116
          clear a116 b116
          intro v118 e118 a118 b118
          rw [pz_wi (by omega) (by omega)] at e118
          clear a118 b118
          have lo119 : (0 : Int) ≤ v118 := by omega
          have tn119 : (((v118).toNat : Nat) : Int) = v118 := Int.toNat_of_nonneg lo119
          refine And.intro (lo119) (And.intro (show _ < (80 : Int) from by omega) ?_)
          intro v119 e119 a119 b119
          rw [hS.2 66 _ (by unfold pz_Q7; omega), show v118.toNat = 3 * x1.toNat + 2 by omega] at e119
          have lo120 : (0 : Int) ≤ v109 := by omega
          have tn120 : (((v109).toNat : Nat) : Int) = v109 := Int.toNat_of_nonneg lo120
          refine And.intro (lo120) (And.intro (show _ < (1725 : Int) from by omega) ?_)
          intro M120 e120
          have hS : pz_rl pz_Q7 M M120 := by
            rw [e120]
            exact pz_rl_u hS (by unfold pz_Q7; omega) (by first | exact pz_iom_w (by omega) (by omega) (by omega) (by omega) (by omega) (by omega) | (unfold pz_iom; omega))
          have hI : pz_im M120 := hS.1 hI0
          have K120 := e120
          intro v121 e121 a121 b121
          rw [pz_wi (by omega) (by omega)] at e121
          have H121 : M120 60 91 = M 1 15 := by rw [e120, pz_une (by omega), e90, pz_une (by omega)]; exact g55_5
          have G121 : ∀ i : Nat, i < 12 → M120 60 (105 + 2 * i) = pz_ph (pz_mph M) i 0 1 v121.toNat ∧ M120 60 (106 + 2 * i) = pz_ph (pz_mph M) i 240 2 v121.toNat := pz_ph_s (l := v77) (p1 := v79.toNat) (p2 := v109.toNat) g55_1 (by omega) e77 (by omega) K90 (by omega) e89 K120 (by omega) e119 g55_4
          exact ih55 _ _ (by omega) hS (by first | omega | assumption) (by first | omega | assumption) (by first | omega | assumption) (by first | omega | assumption) (by first | omega | assumption)
    have L13 : ∀ (fu : Nat) (x1 : Int) (N13 : pz_M), (12 - x1).toNat < fu → (pz_rl pz_Q7 M N13) → (0 ≤ x1) → (x1 ≤ 12) → (∀ i : Nat, (i : Int) < x1 → N13 60 (105 + 2 * i) = 0 ∧ N13 60 (106 + 2 * i) = 240) → (N13 60 91 = M 1 15) → Ok 13 [some (.inr (.inr (12, 1))), some (.inl x1)] [] N13 := by
      intro fu
      induction fu with
      | zero => exact fun _ _ hn => absurd hn (Nat.not_lt_zero _)
      | succ fu ih13 =>
        intro x1 N13 hn13 hS g13_1 g13_2 g13_3 g13_4
        have hI : pz_im N13 := hS.1 hI0
        refine hgo (fun p => Nat.beq p 13 || Nat.beq p 55) 90 13 _ _ _ ?_
        refine And.intro (fun h16 => ?_) (fun h16 => ?_)
        · skip
          have G16 : ∀ i : Nat, i < 12 → N13 60 (105 + 2 * i) = pz_ph (pz_mph M) i 0 1 (0 : Int).toNat ∧ N13 60 (106 + 2 * i) = pz_ph (pz_mph M) i 240 2 (0 : Int).toNat := fun i hi => g13_3 i (by omega)
          exact L55 _ _ _ (Nat.lt_succ_self _) hS (by first | omega | assumption) (by first | omega | assumption) (by first | omega | assumption) (by first | omega | assumption) (by first | omega | assumption)
        · skip
          skip
          refine pz_nrc (c := 60) rfl ?_
          intro v27 e27 a27 b27
          rw [pz_wi (by omega) (by omega)] at e27
          clear a27 b27
          intro v28 e28 a28 b28
          rw [pz_wi (by omega) (by omega)] at e28
          clear a28 b28
          have lo30 : (0 : Int) ≤ v28 := by omega
          have tn30 : (((v28).toNat : Nat) : Int) = v28 := Int.toNat_of_nonneg lo30
          refine And.intro (lo30) (And.intro (show _ < (1725 : Int) from by omega) ?_)
          intro M30 e30
          have hS : pz_rl pz_Q7 M M30 := by
            rw [e30]
            exact pz_rl_u hS (by unfold pz_Q7; omega) (pz_iom_w2 (by omega) (by omega))
          have hI : pz_im M30 := hS.1 hI0
          have K30 := e30
          refine pz_nrc (c := 60) rfl ?_
          intro v39 e39 a39 b39
          rw [pz_wi (by omega) (by omega)] at e39
          clear a39 b39
          intro v40 e40 a40 b40
          rw [pz_wi (by omega) (by omega)] at e40
          clear a40 b40
          intro v42 e42 a42 b42
          rw [pz_wi (by omega) (by omega)] at e42
          clear a42 b42
          have lo46 : (0 : Int) ≤ v42 := by omega
          have tn46 : (((v42).toNat : Nat) : Int) = v42 := Int.toNat_of_nonneg lo46
          refine And.intro (lo46) (And.intro (show _ < (1725 : Int) from by omega) ?_)
          intro M46 e46
          have hS : pz_rl pz_Q7 M M46 := by
            rw [e46]
            exact pz_rl_u hS (by unfold pz_Q7; omega) (pz_iom_w2 (by omega) (by omega))
          have hI : pz_im M46 := hS.1 hI0
          have K46 := e46
          intro v47 e47 a47 b47
          rw [pz_wi (by omega) (by omega)] at e47
          have H47 : M46 60 91 = M 1 15 := by rw [e46, pz_une (by omega), e30, pz_une (by omega)]; exact g13_4
          have G47 : ∀ i : Nat, (i : Int) < v47 → M46 60 (105 + 2 * i) = 0 ∧ M46 60 (106 + 2 * i) = 240 := pz_ph_z (p1 := v28.toNat) (p2 := v42.toNat) g13_1 (by omega) K30 (by omega) rfl K46 (by omega) rfl g13_3
          exact ih13 _ _ (by omega) hS (by first | omega | assumption) (by first | omega | assumption) (by first | omega | assumption) (by first | omega | assumption)
    refine hgo (fun p => Nat.beq p 13 || Nat.beq p 55) 90 0 _ [] M ?_
    refine pz_nrc (c := 60) rfl ?_
    intro v7 e7 a7 b7
    have I7 : 0 ≤ v7 ∧ v7 ≤ 16 := by
      rw [e7]
      exact hI.2.1.2.2.2.2.2.2.2.1
    clear a7 b7
    have N7 := hI.2.1.2.2.2.2.2.2.2.1
    refine And.intro (by omega) (And.intro (show _ < (1725 : Int) from by omega) ?_)
    intro M10 e10
    have hS : pz_rl pz_Q7 M M10 := by
      rw [e10]
      exact pz_rl_u hS (by unfold pz_Q7; omega) (by first | exact pz_iom_w (by omega) (by omega) (by omega) (by omega) (by omega) (by omega) | (unfold pz_iom; omega))
    have hI : pz_im M10 := hS.1 hI0
    have G10 : ∀ i : Nat, (i : Int) < (0 : Int) → M10 60 (105 + 2 * i) = 0 ∧ M10 60 (106 + 2 * i) = 240 := fun i hi => absurd hi (by omega)
    have H10 : M10 60 91 = M 1 15 := by rw [e10]; exact (pz_ue ⟨rfl, rfl⟩).trans e7
    exact L13 _ _ _ (Nat.lt_succ_self _) hS (by first | omega | assumption) (by first | omega | assumption) (by first | omega | assumption) (by first | omega | assumption)
theorem v_X12_putsPhones {fr lo i : Nat} {own : String} (h1 : 0 + 1 ≤ fr) (h2 : 8 + (2 + 11) + 0 ≤ lo) (h3 : .methodLink own i yX12_putsPhones ∈ lw_tbl) : pz_cV fr lo own i k_X12_putsPhones :=
  pz_cVk (maxL := 2) (fr' := 0) (lo' := 0) 0 12 h_X12_putsPhones rfl ⟨(pz_nhc_RX12 yX12_putsPhones rfl).1, (pz_nhc_RX12 yX12_putsPhones rfl).2, pz_ds1⟩ ⟨pz_wq1398, pz_wq1397, pz_ws36, pz_wq13⟩ (Or.inl ⟨TX12, 28, rfl⟩) (fun a M _ h => by
    have h : (match (generalizing := false) a with | [.inr (.inr (12, th))] => pz_im M ∧ (∀ r : Int, 0 ≤ r → r < M 1 15 → 0 ≤ M 66 (3 * r).toNat ∧ M 66 (3 * r).toNat ≤ 11) | _ => False) := h
    split at h
    · exact ⟨_, _, rfl⟩
    · exact h.elim) h1 h2 h3
end
section
/-! what the rows of a TEXT are -/
def pq_rok (k n a b c d e : Int) : Prop := (k = 1 → (0 ≤ a ∧ a ≤ 999) ∧ (18 ≤ b ∧ b ≤ 21) ∧ (0 ≤ c ∧ c < n) ∧ (0 ≤ d ∧ d < n) ∧ (0 ≤ e ∧ e ≤ 99) ∧ (b = 18 ∨ b = 20 → 1 ≤ e)) ∧ (k = 2 → (0 ≤ a ∧ a < n) ∧ (0 ≤ b ∧ b < c ∧ c ≤ 240)) ∧ (k = 3 → (0 ≤ a ∧ a ≤ 999) ∧ (0 ≤ b ∧ b < n))
def pq_rol (k n : Int) (l : List Int) : Prop := pq_rok k n (l.getD 0 0) (l.getD 1 0) (l.getD 2 0) (l.getD 3 0) (l.getD 4 0)
def pq_ok (n k : Int) (ls : List (List Int)) : Prop := ls.length ≤ 16 ∧ ∀ r, r < ls.length → pq_rol k n (ls.getD r [])
theorem pz_nu_i {T X : Nat → Int} {lo hi : Int} {i : Nat} {f : Int → pz_rw} {r : Nat × List Int} (h : pz_nu T X lo hi i f = .inl r) : T i = 100 ∧ lo ≤ X i ∧ X i ≤ hi ∧ f (X i) = .inl r := by
  unfold pz_nu at h
  by_cases a : T i = 100
  · rw [if_pos a] at h
    by_cases b : lo ≤ X i ∧ X i ≤ hi
    · rw [if_pos b] at h
      exact ⟨a, b.1, b.2, h⟩
    · rw [if_neg b] at h
      cases h
  · rw [if_neg a] at h
    cases h
theorem pz_nd_i {T : Nat → Int} {t : Int} {i : Nat} {f : pz_rw} {r : Nat × List Int} (h : pz_nd T t i f = .inl r) : T i = t ∧ f = .inl r := by
  unfold pz_nd at h
  by_cases a : T i = t
  · rw [if_pos a] at h
    exact ⟨a, h⟩
  · rw [if_neg a] at h
    cases h
theorem pz_rq_ok {T X : Nat → Int} {i j : Nat} {n d w l m : Int} {r : List Int} (hd : 0 ≤ d ∧ d ≤ 999) (hw : 18 ≤ w ∧ w ≤ 21) (hl : 0 ≤ l ∧ l < n) (hm : 0 ≤ m ∧ m < n) (h : pz_rq T X i d w l m = .inl (j, r)) : pq_rol 1 n r := by
  unfold pz_rq at h
  by_cases c : w = 18 ∨ w = 20
  · rw [if_pos c] at h
    obtain ⟨-, h1, h2, h3⟩ := pz_nu_i h
    have e := (Prod.mk.inj (Sum.inl.inj h3)).2
    subst e
    exact ⟨fun _ => ⟨hd, hw, hl, hm, ⟨by show (0 : Int) ≤ X i; omega, by show X i ≤ 99; omega⟩, fun _ => h1⟩, fun y => absurd y (by decide), fun y => absurd y (by decide)⟩
  · rw [if_neg c] at h
    have e := (Prod.mk.inj (Sum.inl.inj h)).2
    subst e
    exact ⟨fun _ => ⟨hd, hw, hl, hm, ⟨by show (0 : Int) ≤ 0; omega, by show (0 : Int) ≤ 99; omega⟩, fun y => absurd y c⟩, fun y => absurd y (by decide), fun y => absurd y (by decide)⟩
theorem pz_row_ok {k n : Int} {T X : Nat → Int} {i j : Nat} {r : List Int} (hk : k = 1 ∨ k = 2 ∨ k = 3) (h : pz_row k n T X i = .inl (j, r)) : pq_rol k n r := by
  unfold pz_row at h
  rcases hk with rfl | rfl | rfl
  · rw [if_pos rfl] at h
    unfold pz_rp at h
    obtain ⟨-, a1, a2, h⟩ := pz_nu_i h
    by_cases c : 18 ≤ T (i + 1) ∧ T (i + 1) ≤ 21
    · have h := (if_pos c).symm.trans h
      obtain ⟨-, b1, b2, h⟩ := pz_nu_i h
      by_cases e : T (i + 1) = 20
      · have h := (if_pos e).symm.trans h
        by_cases g : T (i + 3) = 100 ∧ X (i + 3) = X (i + 2)
        · have h := (if_pos g).symm.trans h
          cases h
        · have h := (if_neg g).symm.trans h
          obtain ⟨-, d1, d2, h⟩ := pz_nu_i h
          exact pz_rq_ok ⟨a1, a2⟩ c ⟨b1, by omega⟩ ⟨d1, by omega⟩ h
      · have h := (if_neg e).symm.trans h
        exact pz_rq_ok ⟨a1, a2⟩ c ⟨b1, by omega⟩ ⟨by omega, by omega⟩ h
    · have h := (if_neg c).symm.trans h
      cases h
  · rw [if_neg (by decide), if_pos rfl] at h
    unfold pz_rh at h
    obtain ⟨-, a1, a2, h⟩ := pz_nu_i h
    obtain ⟨-, h⟩ := pz_nd_i h
    obtain ⟨-, b1, b2, h⟩ := pz_nu_i h
    obtain ⟨-, h⟩ := pz_nd_i h
    obtain ⟨-, c1, c2, h⟩ := pz_nu_i h
    have e := (Prod.mk.inj (Sum.inl.inj h)).2
    subst e
    exact ⟨fun y => absurd y (by decide), fun _ => ⟨⟨a1, by show X (i + 0) < n; omega⟩, b1, by show X (i + 2) < X (i + 4); omega, c2⟩, fun y => absurd y (by decide)⟩
  · rw [if_neg (by decide), if_neg (by decide)] at h
    unfold pz_rd at h
    obtain ⟨-, a1, a2, h⟩ := pz_nu_i h
    obtain ⟨-, h⟩ := pz_nd_i h
    obtain ⟨-, b1, b2, h⟩ := pz_nu_i h
    have e := (Prod.mk.inj (Sum.inl.inj h)).2
    subst e
    exact ⟨fun y => absurd y (by decide), fun y => absurd y (by decide), fun _ => ⟨⟨a1, a2⟩, b1, by show X (i + 2) < n; omega⟩⟩
theorem pz_gw_ok {k n : Int} {T X : Nat → Int} (hk : k = 1 ∨ k = 2 ∨ k = 3) : ∀ (f i : Nat) (ls : List (List Int)), pz_gw (pz_fw k) (pz_row k n T X) T f i = .inl ls → ls.length ≤ f ∧ ∀ l ∈ ls, pq_rol k n l := by
  intro f
  induction f with
  | zero =>
    intro i ls h
    have h : (if T i = 101 then (Sum.inl [] : pz_rws) else if T i = pz_fw k then .inr (3, i) else .inr (1, i)) = .inl ls := h
    by_cases a : T i = 101
    · rw [if_pos a] at h
      have e := Sum.inl.inj h
      subst e
      exact ⟨Nat.le_refl _, fun l hl => absurd hl List.not_mem_nil⟩
    · rw [if_neg a] at h
      split at h <;> cases h
  | succ f ih =>
    intro i ls h
    have h : (if T i = 101 then (Sum.inl [] : pz_rws) else if T i = pz_fw k then pz_gs T (pz_row k n T X (i + 1)) (pz_gw (pz_fw k) (pz_row k n T X) T f) else .inr (1, i)) = .inl ls := h
    by_cases a : T i = 101
    · rw [if_pos a] at h
      have e := Sum.inl.inj h
      subst e
      exact ⟨Nat.zero_le _, fun l hl => absurd hl List.not_mem_nil⟩
    · rw [if_neg a] at h
      by_cases b : T i = pz_fw k
      · rw [if_pos b] at h
        generalize er : pz_row k n T X (i + 1) = r at h
        rcases r with ⟨j, l⟩ | q
        · have h : (if T j = 59 then pz_pres [l] (pz_gw (pz_fw k) (pz_row k n T X) T f (j + 1)) else .inr (1, j)) = .inl ls := h
          by_cases c : T j = 59
          · rw [if_pos c] at h
            generalize eg : pz_gw (pz_fw k) (pz_row k n T X) T f (j + 1) = g at h
            rcases g with g | g
            · have e : [l] ++ g = ls := Sum.inl.inj h
              subst e
              obtain ⟨i1, i2⟩ := ih _ _ eg
              refine ⟨?_, fun x hx => ?_⟩
              · show g.length + 1 ≤ f + 1
                omega
              · rcases List.mem_cons.mp hx with hx | hx
                · rw [hx]
                  exact pz_row_ok hk er
                · exact i2 x hx
            · cases h
          · rw [if_neg c] at h
            cases h
        · cases h
      · rw [if_neg b] at h
        cases h
theorem pz_gdE {α : Type} {l : List α} {d : α} {k : Nat} (h : k < l.length) : l.getD k d = l[k] := by
  rw [List.getD_eq_getElem?_getD, List.getElem?_eq_getElem h]
  rfl
theorem pq_ok_of {k n : Int} {T X : Nat → Int} {ls : List (List Int)} (hk : 1 ≤ k ∧ k ≤ 3) (h : pz_gw (pz_fw k) (pz_row k n T X) T 16 0 = .inl ls) : pq_ok n k ls := by
  obtain ⟨a, b⟩ := pz_gw_ok (by omega) 16 0 ls h
  refine ⟨a, fun r hr => b _ ?_⟩
  rw [pz_gdE hr]
  exact List.getElem_mem hr
theorem pq_ok_le {k n n' : Int} {ls : List (List Int)} (h : pq_ok n k ls) (hn : n ≤ n') : pq_ok n' k ls := ⟨h.1, fun r hr => by
  have := h.2 r hr
  unfold pq_rol pq_rok at this ⊢
  omega⟩
theorem pz_fl_le {o : List (Int × Int)} : o.length ≤ (pz_fl o).length := by
  induction o with
  | nil => exact Nat.le_refl _
  | cons q o ih =>
    show o.length + 1 ≤ (pz_fl1 q ++ pz_fl o).length
    rw [List.length_append]
    have : 1 ≤ (pz_fl1 q).length := by
      unfold pz_fl1
      repeat' split
      all_goals exact Nat.le_of_ble_eq_true rfl
    omega
end
section
/-! the law's relation: the shape, the TAPE, what was wrong -/
theorem pz_QI_sq {M M' : pz_M} (h : pz_rl pz_QI M M') : pz_sq M M' := ⟨h.1, fun b j q => h.2 b j (by unfold pz_QI; unfold pz_mid at q; omega), h.2 1 16 (by unfold pz_QI; omega)⟩
def pz_tpc (b j : Nat) : Prop := (b = 4 ∧ j = 1) ∨ b = 48 ∨ (b = 5 ∧ (j = 3 ∨ j = 4)) ∨ (b = 1 ∧ (j = 16 ∨ j = 23 ∨ j = 25)) ∨ b = 67
def pz_TP (M : pz_M) : Prop := M 4 1 = M 1 16 ∧ ∀ k : Nat, (k : Int) < M 4 1 → (-128 ≤ M 48 k ∧ M 48 k ≤ 127) ∧ M 67 k = M 48 k % 256
def pz_FT (M : pz_M) : Prop := M 5 3 = M 1 23 ∧ M 5 4 = M 1 25
def pz_RV (M : pz_M) : Prop := pz_RS M ∧ pz_TP M ∧ pz_FT M
theorem pz_RT_of {M M2 : pz_M} (r : pz_RS M2) (h : pz_RV M) (e : ∀ b j, pz_tpc b j → M2 b j = M b j) : pz_RV M2 := by
  obtain ⟨-, ⟨t1, t2⟩, f1, f2⟩ := h
  refine ⟨r, ⟨?_, fun k hk => ?_⟩, ?_, ?_⟩
  · rw [e 4 1 (by unfold pz_tpc; omega), e 1 16 (by unfold pz_tpc; omega)]
    exact t1
  · rw [e 4 1 (by unfold pz_tpc; omega)] at hk
    rw [e 48 k (by unfold pz_tpc; omega), e 67 k (by unfold pz_tpc; omega)]
    exact t2 k hk
  · rw [e 5 3 (by unfold pz_tpc; omega), e 1 23 (by unfold pz_tpc; omega)]
    exact f1
  · rw [e 5 4 (by unfold pz_tpc; omega), e 1 25 (by unfold pz_tpc; omega)]
    exact f2
theorem pz_RT_sW {M M' : pz_M} (hI : pz_ic M) (h : pz_RV M) (hs : pz_sW M M') : pz_RV M' :=
  pz_RT_of (pz_RS_sx hI h.1 hs.1) h (fun b j q => by
    by_cases q4 : b = 4
    · have j1 : j = 1 := by unfold pz_tpc at q; omega
      rw [q4, j1]
      exact hs.2
    · exact hs.1.2.1 b j (by unfold pz_tpc at q; unfold pz_fy pz_mid; omega))
theorem pz_RT_sk {M M' : pz_M} (h : pz_RV M) (hs : pz_sk M M') : pz_RV M' :=
  pz_RT_of (pz_RS_sn h.1 hs.1) h (fun b j q => by
    by_cases q4 : b = 1 ∧ j = 16
    · rw [q4.1, q4.2]
      exact hs.2
    · exact hs.1.2 b j (by unfold pz_tpc at q; unfold pz_mn pz_mid; omega))
theorem pz_RT_link {M M1 M2 : pz_M} {p q w s v v' : Int} {C : Prop} (hI : pz_ic M) (hR : pz_RV M) (h : ((M 71 3 < 12 ∧ C) ∧ v = M 71 3 ∧ M1 = pz_lkf p q w s M) ∨ (¬ (M 71 3 < 12 ∧ C) ∧ v = -1 ∧ M1 = M)) (h' : ((M1 60 88 < 12 ∧ C) ∧ v' = M1 60 88 ∧ M2 = pz_lkm p q w s M1) ∨ (¬ (M1 60 88 < 12 ∧ C) ∧ v' = -1 ∧ M2 = M1)) : v = v' ∧ pz_RV M2 := by
  obtain ⟨e, r⟩ := pz_RS_link hI hR.1 h h'
  refine ⟨e, pz_RT_of r hR (fun b j y => ?_)⟩
  unfold pz_tpc at y
  have e1 : M1 b j = M b j := by
    rcases h with ⟨-, -, h⟩ | ⟨-, -, h⟩
    · rw [h]
      exact pz_lkf_o (by omega)
    · rw [h]
  rcases h' with ⟨-, -, h'⟩ | ⟨-, -, h'⟩
  · rw [h', pz_lkm_o (by omega) (by omega)]
    exact e1
  · rw [h']
    exact e1
theorem pz_RT_set {M M1 M2 : pz_M} {w i n v v' : Int} {C : Prop} (hC : C → 0 ≤ w ∧ w ≤ 4) (hI : pz_ic M) (hR : pz_RV M) (h : (((0 ≤ i ∧ i < M 71 3) ∧ C) ∧ v = 1 ∧ M1 = pz_u (pz_u M (89 + i.toNat) w.toNat n) 3 2 0) ∨ (¬ ((0 ≤ i ∧ i < M 71 3) ∧ C) ∧ v = 0 ∧ M1 = M)) (h' : (((0 ≤ i ∧ i < M1 60 88) ∧ C) ∧ v' = 1 ∧ M2 = pz_u (pz_u M1 60 (pz_bs w + i).toNat n) 1 4 0) ∨ (¬ ((0 ≤ i ∧ i < M1 60 88) ∧ C) ∧ v' = 0 ∧ M2 = M1)) : v = v' ∧ pz_RV M2 := by
  obtain ⟨e, r⟩ := pz_RS_set hC hI hR.1 h h'
  refine ⟨e, pz_RT_of r hR (fun b j y => ?_)⟩
  unfold pz_tpc at y
  have e1 : M1 b j = M b j := by
    rcases h with ⟨-, -, h⟩ | ⟨-, -, h⟩
    · rw [h, pz_una (by omega), pz_una (by omega)]
    · rw [h]
  rcases h' with ⟨-, -, h'⟩ | ⟨-, -, h'⟩
  · rw [h', pz_une (by omega), pz_una (by omega)]
    exact e1
  · rw [h']
    exact e1
theorem pz_xi_tp {c o : Nat} {M M1 : pz_M} {b j : Nat} (hc : c = 71 ∨ c = 73) (h : pz_xi c o M M1) (q : pz_tpc b j) : M1 b j = M b j := by
  by_cases q4 : b = 4
  · have j1 : j = 1 := by unfold pz_tpc at q; omega
    rw [q4, j1]
    exact h.2.2.1
  · unfold pz_tpc at q
    rw [h.2.1 b j (by unfold pz_mq0 pz_ko pz_mid; omega) (by omega) (by omega)]
    exact pz_tf_o (by omega) (by unfold pz_lb; omega)
theorem pz_RT_image {M M1 M2 : pz_M} {t v v' : Int} (hR : pz_RV M) (h : (t = 0 ∧ M 0 13 = 0 ∧ v = 0 ∧ M1 = M) ∨ (t ≠ 0 ∧ v = 1 ∧ M1 0 13 = 1 ∧ pz_xi 73 71 M M1) ∨ (t = 0 ∧ M 0 13 ≠ 0 ∧ v = 1 ∧ M1 0 13 = M 0 13 ∧ M1 3 2 = 0 ∧ pz_xi 71 73 M M1))
    (h' : (t = 0 ∧ M1 1 5 = 0 ∧ v' = 0 ∧ M2 = M1) ∨ ((t ≠ 0 ∨ M1 1 5 ≠ 0) ∧ v' = 1 ∧ M2 1 5 = 1 ∧ ((t = 0 → ∀ k : Nat, (k : Int) < 1725 → M2 60 k = M1 61 k) ∧ (t = 0 → ∀ k, M2 61 k = M1 61 k) ∧ (t ≠ 0 → ∀ k : Nat, (k : Int) < 1725 → M2 61 k = M1 60 k) ∧ (t ≠ 0 → ∀ k, M2 60 k = M1 60 k)))) (hq : pz_rl pz_QI M1 M2) : v = v' ∧ pz_RV M2 := by
  obtain ⟨e, r⟩ := pz_RS_image hR.1 h h' (pz_QI_sq hq)
  refine ⟨e, pz_RT_of r hR (fun b j y => ?_)⟩
  rw [hq.2 b j (by unfold pz_tpc at y; unfold pz_QI; omega)]
  rcases h with ⟨-, -, -, h⟩ | ⟨-, -, -, h⟩ | ⟨-, -, -, -, -, h⟩
  · rw [h]
  · exact pz_xi_tp (Or.inr rfl) h y
  · exact pz_xi_tp (Or.inl rfl) h y
theorem pz_RT_end {M M1 M2 : pz_M} {n v v' : Int} (hI : pz_ic M) (hR : pz_RV M) (h : if 0 ≤ n ∧ n ≤ M 4 1 then v = 1 ∧ M1 4 1 = n else v = 0 ∧ M1 4 1 = M 4 1) (z : pz_sy M M1) (h' : if 0 ≤ n ∧ n ≤ M1 1 16 then v' = 1 ∧ M2 1 16 = n else v' = 0 ∧ M2 1 16 = M1 1 16) (z' : pz_sn M1 M2) : v = v' ∧ pz_RV M2 := by
  obtain ⟨r, ⟨t1, t2⟩, f1, f2⟩ := hR
  have e : ∀ b j, pz_tpc b j → ¬ (b = 4 ∧ j = 1) → ¬ (b = 1 ∧ j = 16) → M2 b j = M b j := fun b j q q1 q2 => (z'.2 b j (by unfold pz_tpc at q; unfold pz_mn pz_mid; omega)).trans (z.2 b j (by unfold pz_tpc at q; unfold pz_md pz_kx pz_mid; omega))
  have r2 : pz_RS M2 := pz_RS_sn (pz_RS_sx hI r z.sx) z'
  have a : M2 4 1 = M1 4 1 := z'.2 4 1 (by unfold pz_mn pz_mid; omega)
  have a2 : M1 1 16 = M 1 16 := z.2 1 16 (by unfold pz_md pz_kx pz_mid; omega)
  have len : M2 4 1 = M2 1 16 ∧ M2 4 1 ≤ M 4 1 ∧ v = v' := by
    clear e r r2 t2 z z' f1 f2 hI
    (split at h <;> split at h') <;> omega
  refine ⟨len.2.2, r2, ⟨len.1, fun k hk => ?_⟩, ?_, ?_⟩
  · rw [e 48 k (by unfold pz_tpc; omega) (by omega) (by omega), e 67 k (by unfold pz_tpc; omega) (by omega) (by omega)]
    exact t2 k (by omega)
  · rw [e 5 3 (by unfold pz_tpc; omega) (by omega) (by omega), e 1 23 (by unfold pz_tpc; omega) (by omega) (by omega)]
    exact f1
  · rw [e 5 4 (by unfold pz_tpc; omega) (by omega) (by omega), e 1 25 (by unfold pz_tpc; omega) (by omega) (by omega)]
    exact f2
def pz_rsc (b j : Nat) : Prop := (j = 3 ∧ (b = 71 ∨ (73 ≤ b ∧ b < 80) ∨ (89 ≤ b ∧ b < 101) ∨ (115 ≤ b ∧ b < 127) ∨ (128 ≤ b ∧ b < 206))) ∨ ((b = 60 ∨ b = 61) ∧ (j = 88 ∨ (93 ≤ j ∧ j < 105))) ∨ (b = 0 ∧ j = 13) ∨ (b = 1 ∧ j = 5) ∨ b = 3
theorem pz_RS_cg {M M' : pz_M} (h : pz_RS M) (e : ∀ b j, pz_rsc b j → ¬ (b = 3 ∧ j = 2) → M' b j = M b j) (e2 : M' 3 2 = M 3 2 ∨ M' 3 2 = 0) : pz_RS M' := by
  obtain ⟨h1, h2, h3, h4, h5, h6⟩ := h
  refine ⟨?_, fun i hi => ?_, ?_, fun i hi => ?_, ?_, ?_⟩
  · rw [e 71 3 (by unfold pz_rsc; omega) (by omega), e 60 88 (by unfold pz_rsc; omega) (by omega)]; exact h1
  · rw [e (89 + i) 3 (by unfold pz_rsc; omega) (by omega), e 60 (93 + i) (by unfold pz_rsc; omega) (by omega)]; exact h2 i hi
  · rw [e 73 3 (by unfold pz_rsc; omega) (by omega), e 61 88 (by unfold pz_rsc; omega) (by omega)]; exact h3
  · rw [e (115 + i) 3 (by unfold pz_rsc; omega) (by omega), e 61 (93 + i) (by unfold pz_rsc; omega) (by omega)]; exact h4 i hi
  · rw [e 0 13 (by unfold pz_rsc; omega) (by omega), e 1 5 (by unfold pz_rsc; omega) (by omega)]; exact h5
  · rcases e2 with e2 | e2
    · refine pz_kep_cg (fun b j q => ?_) h6
      by_cases y : b = 3 ∧ j = 2
      · rw [y.1, y.2]
        exact e2
      · exact e b j (by unfold pz_rsc; omega) y
    · exact ⟨by omega, fun t ht => absurd ht (by omega)⟩
theorem pz_RT_feed {M M1 M2 : pz_M} {p q w s u v v' : Int} (hI : pz_ic M) (hR : pz_RV M) (h : (M 4 1 + 20 ≤ 400 ∧ v = M 4 1 + 20 ∧ M1 4 1 = M 4 1 + 20 ∧ pz_fb M M1 p q w s u) ∨ (¬ M 4 1 + 20 ≤ 400 ∧ v = -1 ∧ M1 = M)) (z : pq_pr pq_Pf M M1)
    (h' : (M1 1 16 + 20 ≤ 400 ∧ v' = M1 1 16 + 20 ∧ M2 1 16 = M1 1 16 + 20 ∧ pz_fm M1 M2 20 p q w s u) ∨ (¬ M1 1 16 + 20 ≤ 400 ∧ v' = -1 ∧ M2 = M1)) (z' : pz_rl pz_QF M1 M2) : v = v' ∧ pz_RV M2 := by
  have i4 := hI.2.2.2.2.1
  have a1 : M1 1 16 = M 1 16 := z.2 1 16 (by unfold pq_Pf; omega)
  have a4 : M2 4 1 = M1 4 1 := z'.2 4 1 (by unfold pz_QF; omega)
  have e : ∀ b j, ¬ pq_Pf b j → ¬ pz_QF b j → M2 b j = M b j := fun b j y y2 => (z'.2 b j y2).trans (z.2 b j y)
  have r2 : pz_RS M2 := pz_RS_cg hR.1 (fun b j y _ => e b j (by unfold pz_rsc at y; unfold pq_Pf; omega) (by unfold pz_rsc at y; unfold pz_QF; omega)) (Or.inl (e 3 2 (by unfold pq_Pf; omega) (by unfold pz_QF; omega)))
  obtain ⟨-, ⟨t1, t2⟩, f1, f2⟩ := id hR
  rcases h with ⟨b1, b2, b3, b4, b5⟩ | ⟨b1, b2, b3⟩
  · rcases h' with ⟨c1, c2, c3, c4, c5⟩ | ⟨c1, c2, c3⟩
    · refine ⟨by omega, r2, ⟨by omega, fun k hk => ?_⟩, ?_, ?_⟩
      · rw [z'.2 48 k (by unfold pz_QF; omega)]
        rcases Int.lt_or_le (k : Int) (M 4 1) with y | y
        · rw [b4 k y, c4 k (by omega), z.2 67 k (by unfold pq_Pf; omega)]
          exact t2 k y
        · have w1 := b5 (k - (M 4 1).toNat) (by omega)
          have w2 := c5 (k - (M 4 1).toNat) (by omega)
          rw [show (M 4 1).toNat + (k - (M 4 1).toNat) = k by omega] at w1
          rw [show (M1 1 16).toNat + (k - (M 4 1).toNat) = k by omega] at w2
          have w3 := pz_by8 (pz_sr (pz_sel (k - (M 4 1).toNat) p q w s u) (24 - 8 * (((k - (M 4 1).toNat) % 4 : Nat) : Int)))
          rw [w1, w2]
          exact ⟨⟨w3.1, w3.2.1⟩, w3.2.2⟩
      · rw [e 5 3 (by unfold pq_Pf; omega) (by unfold pz_QF; omega), e 1 23 (by unfold pq_Pf; omega) (by unfold pz_QF; omega)]
        exact f1
      · rw [e 5 4 (by unfold pq_Pf; omega) (by unfold pz_QF; omega), e 1 25 (by unfold pq_Pf; omega) (by unfold pz_QF; omega)]
        exact f2
    · omega
  · rcases h' with ⟨c1, c2, c3, c4, c5⟩ | ⟨c1, c2, c3⟩
    · omega
    · rw [c3, b3]
      exact ⟨by omega, hR⟩
theorem pz_agr_c {c : Nat} {T X T1 X1 T2 X2 : Nat → Int} (h : pz_agr c T X T1 X1) (h' : pz_agr c T X T2 X2) : pz_agr c T1 X1 T2 X2 :=
  ⟨((h.2 c (Nat.le_refl _)).1).trans h.1, fun k hk => ⟨((h'.2 k hk).1).trans ((h.2 k hk).1).symm, fun t => by
    have t1 : T k = 100 := ((h.2 k hk).1).symm.trans t
    rw [(h'.2 k hk).2 t1, (h.2 k hk).2 t1]⟩⟩
theorem pz_TP_byt {M : pz_M} (hI : pz_ic M) (h : pz_TP M) : pz_byt (M 48) (M 67) (M 4 1).toNat := by
  have i4 := hI.2.2.2.2.1
  exact fun k hk => ⟨(h.2 k (by omega)).1.1, (h.2 k (by omega)).1.2, (h.2 k (by omega)).2⟩
/-- what both have told -/
def pz_cmr (k : Int) (M M1 M2 : pz_M) : Prop := (∃ ls : List pz_lne, k = 0 ∧ (∃ T X : Nat → Int, pz_gl T X 0 0 (.ok ls)) ∧ pq_lt ls M1 ∧ (∀ b j : Nat, (13 ≤ b ∧ b ≤ 15) ∨ (20 ≤ b ∧ b ≤ 22) → M1 b j = M b j) ∧ pq_wlw ls (M2 60) ∧ ∀ j : Nat, ¬ pq_wf 0 j → M2 60 j = M1 60 j) ∨
  (∃ ls : List (List Int), (1 ≤ k ∧ k ≤ 3) ∧ pq_ok (M 71 3) k ls ∧ pq_rt k.toNat ls M1 ∧ (∀ b j : Nat, pq_xc b → b ≠ 12 + k.toNat → b ≠ 19 + k.toNat → M1 b j = M b j) ∧ pq_w3 k ls (M2 60) ∧ ∀ j : Nat, ¬ pq_wf k j → M2 60 j = M1 60 j) ∨ ((∀ b j : Nat, pq_xc b → M1 b j = M b j) ∧ ∀ j : Nat, M2 60 j = M1 60 j)
theorem pz_RT_cmp {M M1 M2 : pz_M} {k v v' : Int} (hI : pz_ic M) (hR : pz_RV M) (h : pq_te k (M 71 3) M M1 v) (z : pq_pr pq_Pt M M1) (h' : pq_tx k M1 M2 v') : v = v' ∧ M1 5 3 = M2 1 23 ∧ M1 5 4 = M2 1 25 ∧ pz_cmr k M M1 M2 := by
  have i4 := hI.2.2.2.2.1
  have by9 := pz_TP_byt hI hR.2.1
  have e67 : M1 67 = M 67 := funext fun j => z.2 67 j (by unfold pq_Pt; omega)
  have e16 : M1 1 16 = M 4 1 := (z.2 1 16 (by unfold pq_Pt; omega)).trans hR.2.1.1.symm
  have e88 : M1 60 88 = M 71 3 := (z.2 60 88 (by unfold pq_Pt; omega)).trans hR.1.1.symm
  have tT : pq_TM M1 = pz_T (M 67) (M 4 1).toNat := by
    unfold pq_TM
    rw [e67, e16]
  have tX : pq_XM M1 = pz_XV (M 67) (M 4 1).toNat := by
    unfold pq_XM
    rw [e67, e16]
  have tP : ∀ j, pq_PM M1 j = (pz_tp (M 48) (M 4 1).toNat j : Int) := fun j => by
    unfold pq_PM
    rw [e67, e16, pz_tp_cg by9 j]
  have tb : pz_tb M1 := fun i hi => by
    rw [e67, (hR.2.1.2 i (by rw [← e16]; exact hi)).2]
    exact Int.emod_nonneg _ (by decide)
  have ag : ∀ c, pz_T (M 48) (M 4 1).toNat c = 101 → pz_agr c (pz_T (M 48) (M 4 1).toNat) (pz_XV (M 48) (M 4 1).toNat) (pq_TM M1) (pq_XM M1) := fun c hc => ⟨hc, fun i _ => by
    rw [tT, tX]
    exact ⟨(pz_T_cg by9 i).symm, fun y => (pz_X_cg by9 y).symm⟩⟩
  obtain ⟨x1, x2, x3⟩ := h' tb
  obtain ⟨h1, h2, h3⟩ := h
  by_cases k0 : k = 0
  · obtain ⟨c, T, X, a, b⟩ := h1 k0
    have A := pz_agr_c a (ag c a.1)
    rcases b with ⟨ls, b1, b2, b3, b4, b5, b6⟩ | ⟨f, j, b1, b2, b3, b4, b5⟩
    · have D := pz_gl_det A b1 (Nat.zero_le _)
      rcases x1 k0 with ⟨ls', y1, y2, y3, y4, y5, y6⟩ | ⟨f', j', y1, y2, y3, y4, -⟩
      · have d := Sum.inl.inj (D _ y1)
        subst d
        subst k0
        exact ⟨by omega, by omega, by omega, Or.inl ⟨_, rfl, ⟨_, _, b1⟩, b5, b6, y5, y6⟩⟩
      · have d := D _ y1
        cases d
    · have D := pz_gl_det A b1 (Nat.zero_le _)
      rcases x1 k0 with ⟨ls', y1, y2, y3, y4, -⟩ | ⟨f', j', y1, y2, y3, y4, y5⟩
      · have d := D _ y1
        cases d
      · obtain ⟨d, d2⟩ := Prod.mk.inj (Sum.inr.inj (D _ y1))
        subst d
        subst d2
        rw [tP] at y4
        exact ⟨by omega, by omega, by omega, Or.inr (Or.inr ⟨b5, y5⟩)⟩
  · by_cases k3 : 1 ≤ k ∧ k ≤ 3
    · obtain ⟨c, T, X, a, b⟩ := h2 k3
      have A := pz_agr_c a (ag c a.1)
      have D := pz_gw_det (k := k) (n := M 71 3) A 16 0 (Nat.zero_le _)
      rw [← e88] at D
      rcases b with ⟨ls, b1, b2, b0, b3, b4, b5, b6⟩ | ⟨f, j, b1, b2, b3, b4, b5⟩
      · have ok := pq_ok_of k3 b1
        rw [← e88] at b1
        rw [b1] at D
        rcases x2 k3 with ⟨ls', y1, y2, y3, y4, y5, y6⟩ | ⟨f', j', y1, y2, y3, y4, -⟩
        · rw [y1] at D
          have d := Sum.inl.inj D
          subst d
          exact ⟨by omega, by omega, by omega, Or.inr (Or.inl ⟨_, k3, ok, b5, b6, y5, y6⟩)⟩
        · rw [y1] at D
          cases D
      · rw [← e88] at b1
        rw [b1] at D
        rcases x2 k3 with ⟨ls', y1, y2, y3, y4, -⟩ | ⟨f', j', y1, y2, y3, y4, y5⟩
        · rw [y1] at D
          cases D
        · rw [y1] at D
          obtain ⟨d, d2⟩ := Prod.mk.inj (Sum.inr.inj D)
          subst d
          subst d2
          rw [tP] at y4
          exact ⟨by omega, by omega, by omega, Or.inr (Or.inr ⟨b5, y5⟩)⟩
    · have b := h3 (by omega)
      have y := x3 (by omega)
      exact ⟨b.1.trans y.1.symm, b.2.1.trans y.2.1.symm, b.2.2.1.trans y.2.2.1.symm, Or.inr (Or.inr ⟨b.2.2.2, y.2.2.2⟩)⟩
theorem pz_RT_text {M M1 M2 : pz_M} {k v v' : Int} (hI : pz_ic M) (hR : pz_RV M) (h : pq_te k (M 71 3) M M1 v ∧ M1 4 1 = 0 ∧ (∀ j : Nat, j ≠ 2 → M1 3 j = M 3 j) ∧ (M1 3 2 = M 3 2 ∨ M1 3 2 = 0)) (z : pq_pr pq_Pt M M1) (h' : pq_tx k M1 M2 v' ∧ M2 1 16 = 0) (z' : pz_rl pz_QT M1 M2) : v = v' ∧ pz_RV M2 := by
  obtain ⟨a1, a2, a3, -⟩ := pz_RT_cmp hI hR h.1 z h'.1
  have k2 : M2 3 2 = M1 3 2 := z'.2 3 2 (by unfold pz_QT; omega)
  have r2 : pz_RS M2 := pz_RS_cg hR.1 (fun b j y y2 => (z'.2 b j (by unfold pz_rsc at y; unfold pz_QT; omega)).trans (z.2 b j (by unfold pz_rsc at y; unfold pq_Pt; omega))) (by rw [k2]; exact h.2.2.2)
  have f4 : M2 4 1 = M1 4 1 := z'.2 4 1 (by unfold pz_QT; omega)
  have f53 : M2 5 3 = M1 5 3 := z'.2 5 3 (by unfold pz_QT; omega)
  have f54 : M2 5 4 = M1 5 4 := z'.2 5 4 (by unfold pz_QT; omega)
  have h41 := h.2.1
  have h16 := h'.2
  exact ⟨a1, r2, ⟨by omega, fun i hi => absurd hi (by omega)⟩, by omega, by omega⟩
theorem pz_RT_fault {M : pz_M} {i v v' : Int} (hR : pz_RV M) (h : (i = 0 → v = M 5 3) ∧ (i = 1 → v = M 5 4) ∧ (¬ (i = 0 ∨ i = 1) → v = -1)) (h' : (i = 0 → v' = M 1 23) ∧ (i = 1 → v' = M 1 25) ∧ (¬ (i = 0 ∨ i = 1) → v' = -1)) : v = v' := by
  obtain ⟨f1, f2⟩ := hR.2.2
  omega
end
