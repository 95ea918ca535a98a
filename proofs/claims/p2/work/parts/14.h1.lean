theorem pz_law1 {f g w : Nat → Int} {x : Int} {i1 i2 i3 i4 : Nat} {v1 v2 v3 v4 : Int} (hx : 0 ≤ x) (hx2 : x < 16) (h1 : (i1 : Int) = 841 + x) (h2 : (i2 : Int) = 857 + x) (h3 : (i3 : Int) = 873 + x) (h4 : (i4 : Int) = 889 + x)
    (U1 : ∀ j, w j = if j = i4 then v4 else if j = i3 then v3 else if j = i2 then v2 else if j = i1 then v1 else f j) (e1 : v1 = g (4 * x).toNat) (e2 : v2 = g (4 * x + 1).toNat) (e3 : v3 = g (4 * x + 2).toNat) (e4 : v4 = g (4 * x + 3).toNat)
    (IH : ∀ k : Nat, (k : Int) < x → f (841 + k) = g (4 * k) ∧ f (857 + k) = g (4 * k + 1) ∧ f (873 + k) = g (4 * k + 2) ∧ f (889 + k) = g (4 * k + 3)) :
    ∀ k : Nat, (k : Int) < x + 1 → w (841 + k) = g (4 * k) ∧ w (857 + k) = g (4 * k + 1) ∧ w (873 + k) = g (4 * k + 2) ∧ w (889 + k) = g (4 * k + 3) := by
  intro k hk
  rcases Int.lt_or_le (k : Int) x with h9 | h9
  · obtain ⟨a, b, c, d⟩ := IH k h9
    refine ⟨?_, ?_, ?_, ?_⟩
    · rw [U1, if_neg (by omega), if_neg (by omega), if_neg (by omega), if_neg (by omega)]; exact a
    · rw [U1, if_neg (by omega), if_neg (by omega), if_neg (by omega), if_neg (by omega)]; exact b
    · rw [U1, if_neg (by omega), if_neg (by omega), if_neg (by omega), if_neg (by omega)]; exact c
    · rw [U1, if_neg (by omega), if_neg (by omega), if_neg (by omega), if_neg (by omega)]; exact d
  · have hk9 : (k : Int) = x := by omega
    refine ⟨?_, ?_, ?_, ?_⟩
    · rw [U1, if_neg (by omega), if_neg (by omega), if_neg (by omega), if_pos (by omega), e1, show (4 * x).toNat = 4 * k by omega]
    · rw [U1, if_neg (by omega), if_neg (by omega), if_pos (by omega), e2, show (4 * x + 1).toNat = 4 * k + 1 by omega]
    · rw [U1, if_neg (by omega), if_pos (by omega), e3, show (4 * x + 2).toNat = 4 * k + 2 by omega]
    · rw [U1, if_pos (by omega), e4, show (4 * x + 3).toNat = 4 * k + 3 by omega]
theorem pz_law2 {f g h w : Nat → Int} {x n : Int} {i1 : Nat} {v1 : Int} (hx : 0 ≤ x) (h1 : (i1 : Int) = 905 + x) (hn : n ≤ 16) (U1 : ∀ j, w j = if j = i1 then v1 else f j) (e1 : v1 = h x.toNat)
    (IH : ∀ k : Nat, (k : Int) < n → f (841 + k) = g (4 * k) ∧ f (857 + k) = g (4 * k + 1) ∧ f (873 + k) = g (4 * k + 2) ∧ f (889 + k) = g (4 * k + 3)) (IH2 : ∀ k : Nat, (k : Int) < x → f (905 + k) = h k) :
    (∀ k : Nat, (k : Int) < n → w (841 + k) = g (4 * k) ∧ w (857 + k) = g (4 * k + 1) ∧ w (873 + k) = g (4 * k + 2) ∧ w (889 + k) = g (4 * k + 3)) ∧ (∀ k : Nat, (k : Int) < x + 1 → w (905 + k) = h k) := by
  refine ⟨fun k hk => ?_, fun k hk => ?_⟩
  · obtain ⟨a, b, c, d⟩ := IH k hk
    refine ⟨?_, ?_, ?_, ?_⟩
    · rw [U1, if_neg (by omega)]; exact a
    · rw [U1, if_neg (by omega)]; exact b
    · rw [U1, if_neg (by omega)]; exact c
    · rw [U1, if_neg (by omega)]; exact d
  · rcases Int.lt_or_le (k : Int) x with h9 | h9
    · rw [U1, if_neg (by omega)]
      exact IH2 k h9
    · rw [U1, if_pos (by omega), e1, show x.toNat = k by omega]
def pz_r0 (P : Nat → Nat → Prop) (M M' : pz_M) : Prop := ∀ b j : Nat, ¬ P b j → M' b j = M b j
theorem pz_r0.rf {P : Nat → Nat → Prop} {M : pz_M} : pz_r0 P M M := fun _ _ _ => rfl
theorem pz_r0_u {P : Nat → Nat → Prop} {M M' : pz_M} {a k : Nat} {v : Int} (hs : pz_r0 P M M') (hp : P a k) : pz_r0 P M (pz_u M' a k v) := by
  intro b j hb
  have q1 := pz_uv M' a k v b j
  rcases q1 with ⟨rfl, rfl, -⟩ | ⟨-, q1⟩
  · exact absurd hp hb
  · rw [q1]
    exact hs b j hb
def pz_W1 (b j : Nat) : Prop := b = 60 ∧ (j = 89 ∨ 841 ≤ j)
def pz_W2 (b j : Nat) : Prop := b = 60 ∨ b = 61
theorem pz_lw_of {M M' : pz_M} {a b : Nat} (h : pz_lw M b) (hw : M b 89 ≤ 16) (he : ∀ j, j < 1725 → M' a j = M b j) : pz_lw M' a := by
  intro i q1 q2
  rw [he 89 (by omega)] at q2
  obtain ⟨h1, h2, h3, h4⟩ := h i q1 q2
  have l3 := h3.1
  rw [he (841 + i).toNat (by omega), he (857 + i).toNat (by omega), he (873 + i).toNat (by omega)]
  have l4 : M b (857 + i).toNat ≤ M b (873 + i).toNat := by
    rcases h4 with h4 | h4
    · omega
    · have := h4.1
      omega
  refine ⟨h1, h2, pz_sg_cg h3 h1 (fun j _ q => he _ (by omega)), ?_⟩
  rcases h4 with h4 | h4
  · exact Or.inl h4
  · exact Or.inr (pz_sg_cg h4 (by omega) (fun j _ q => he _ (by omega)))
theorem pz_iw_of {M M' : pz_M} {a b : Nat} (h : pz_iw M b) (he : ∀ j, j < 1725 → M' a j = M b j) : pz_iw M' a := by
  unfold pz_iw
  rw [he 88 (by omega), he 89 (by omega), he 90 (by omega), he 92 (by omega), he 3 (by omega)]
  exact h
theorem pz_ix_of {M M' : pz_M} (h : pz_ix M) (h1 : ∀ j, j ≠ 4 → M' 1 j = M 1 j) (h4 : 0 ≤ M' 1 4 ∧ M' 1 4 ≤ 6) (h62 : ∀ j, M' 62 j = M 62 j) (h63 : M' 63 3 = M 63 3) : pz_ix M' := by
  obtain ⟨i1, i2, i3, i4, i5, i6, i7, i8, i9⟩ := h
  refine ⟨h4, ?_, ?_, ?_, ?_, ?_, ?_, ?_, fun j hj => ?_⟩
  · rw [h1 16 (by omega)]; exact i2
  · rw [h63]; exact i3
  · rw [h1 17 (by omega)]; exact i4
  · rw [h1 19 (by omega)]; exact i5
  · rw [h1 13 (by omega)]; exact i6
  · rw [h1 14 (by omega)]; exact i7
  · rw [h1 15 (by omega)]; exact i8
  · rw [h62]; exact i9 j hj
theorem pz_img {M N : pz_M} {x : Int} (hI : pz_im M) (hS : pz_r0 pz_W2 M N) (h4 : N 1 4 = M 1 4) (hg : (x = 0 → ∀ k : Nat, (k : Int) < (1725 : Int) → N 60 k = M 61 k) ∧ (x = 0 → ∀ k, N 61 k = M 61 k) ∧ (x ≠ 0 → ∀ k : Nat, (k : Int) < (1725 : Int) → N 61 k = M 60 k) ∧ (x ≠ 0 → ∀ k, N 60 k = M 60 k)) : pz_im N := by
  obtain ⟨i1, i2, i3, i4, i5⟩ := hI
  obtain ⟨g1, g2, g3, g4⟩ := hg
  have hx : pz_ix N := pz_ix_of i2 (fun j hj => hS 1 j (by unfold pz_W2; omega)) (by rw [h4]; exact i2.1) (fun j => hS 62 j (by unfold pz_W2; omega)) (hS 63 3 (by unfold pz_W2; omega))
  by_cases hx0 : x = 0
  · have e60 : ∀ j, j < 1725 → N 60 j = M 61 j := fun j hj => g1 hx0 j (by omega)
    have e61 : ∀ j, j < 1725 → N 61 j = M 61 j := fun j _ => g2 hx0 j
    exact ⟨pz_iw_of i4 e60, hx, pz_lw_of i5 i4.2.1.2 e60, pz_iw_of i4 e61, pz_lw_of i5 i4.2.1.2 e61⟩
  · have e60 : ∀ j, j < 1725 → N 60 j = M 60 j := fun j _ => g4 hx0 j
    have e61 : ∀ j, j < 1725 → N 61 j = M 60 j := fun j hj => g3 hx0 j (by omega)
    exact ⟨pz_iw_of i1 e60, hx, pz_lw_of i3 i1.2.1.2 e60, pz_iw_of i1 e61, pz_lw_of i3 i1.2.1.2 e61⟩
theorem pz_img1 {M N N' : pz_M} {x y v : Int} {k : Nat} (hk : (k : Int) = y) (hx : x ≠ 0) (e : N' = pz_u N 61 k v) (ev : v = N 60 k) (o : (x = 0 → ∀ k : Nat, (k : Int) < y → N 60 k = M 61 k) ∧ (x = 0 → ∀ k, N 61 k = M 61 k) ∧ (x ≠ 0 → ∀ k : Nat, (k : Int) < y → N 61 k = M 60 k) ∧ (x ≠ 0 → ∀ k, N 60 k = M 60 k)) : (x = 0 → ∀ k : Nat, (k : Int) < y + 1 → N' 60 k = M 61 k) ∧ (x = 0 → ∀ k, N' 61 k = M 61 k) ∧ (x ≠ 0 → ∀ k : Nat, (k : Int) < y + 1 → N' 61 k = M 60 k) ∧ (x ≠ 0 → ∀ k, N' 60 k = M 60 k) := by
  obtain ⟨o1, o2, o3, o4⟩ := o
  refine ⟨fun q => absurd q hx, fun q => absurd q hx, fun q j hj => ?_, fun q j => ?_⟩
  · rw [pz_u64 e j]
    by_cases h : j = k
    · rw [if_pos h, ev, h]
      exact o4 q k
    · rw [if_neg h]
      exact o3 q j (by omega)
  · rw [e, pz_una (by decide)]
    exact o4 q j
theorem pz_img2 {M N N' : pz_M} {x y v : Int} {k : Nat} (hk : (k : Int) = y) (hx : x = 0) (e : N' = pz_u N 60 k v) (ev : v = N 61 k) (o : (x = 0 → ∀ k : Nat, (k : Int) < y → N 60 k = M 61 k) ∧ (x = 0 → ∀ k, N 61 k = M 61 k) ∧ (x ≠ 0 → ∀ k : Nat, (k : Int) < y → N 61 k = M 60 k) ∧ (x ≠ 0 → ∀ k, N 60 k = M 60 k)) : (x = 0 → ∀ k : Nat, (k : Int) < y + 1 → N' 60 k = M 61 k) ∧ (x = 0 → ∀ k, N' 61 k = M 61 k) ∧ (x ≠ 0 → ∀ k : Nat, (k : Int) < y + 1 → N' 61 k = M 60 k) ∧ (x ≠ 0 → ∀ k, N' 60 k = M 60 k) := by
  obtain ⟨o1, o2, o3, o4⟩ := o
  refine ⟨fun q j hj => ?_, fun q j => ?_, fun q => absurd hx q, fun q => absurd hx q⟩
  · rw [pz_u64 e j]
    by_cases h : j = k
    · rw [if_pos h, ev, h]
      exact o2 q k
    · rw [if_neg h]
      exact o1 q j (by omega)
  · rw [e, pz_una (by decide)]
    exact o2 q j

def k_X12_image : pz_C := (2, 1, fun a M => (match a with | [.inr (.inr (12, th)), .inl x] => pz_im M | _ => False), fun a M r M' => (match a, r with | [.inr (.inr (12, th)), .inl x], some (.inl v) => ((x = 0 ∧ M 1 5 = 0 ∧ v = 0 ∧ M' = M) ∨ ((x ≠ 0 ∨ M 1 5 ≠ 0) ∧ v = 1 ∧ M' 1 5 = 1 ∧ ((x = 0 → ∀ k : Nat, (k : Int) < (1725 : Int) → M' 60 k = M 61 k) ∧ (x = 0 → ∀ k, M' 61 k = M 61 k) ∧ (x ≠ 0 → ∀ k : Nat, (k : Int) < (1725 : Int) → M' 61 k = M 60 k) ∧ (x ≠ 0 → ∀ k, M' 60 k = M 60 k)))) ∧ pz_rl pz_QI M M' | _, _ => False))
abbrev ct_X12_image : List (Bool × Nat × pz_C) := [(true, 71, k_X12_forgets)]
set_option maxRecDepth 100000 in
set_option maxHeartbeats 4000000 in
theorem h_X12_image : pz_H yX12_image cX12_image 3 (some .boolean) k_X12_image 1 20 := by
  refine pz_mk (own := RX12) (tb := t_X12_image) (fl := pz_flf fl_RX12) (ci := pz_cif ci_RX12) (ct := pz_ctf ct_X12_image) (rz := true) (by decide +kernel) rfl t_X12_image_ok (pz_flk fl_RX12_ok) (pz_cik ci_RX12_ok) ?_ ?_ (Or.inr ⟨rfl, rfl⟩) ?_ ?_
  · exact fun i k' h => pz_ctk (l := ct_X12_image) (P := fun b i k => b = true → pz_cV 1 20 RX12 i k) (List.forall_mem_cons.mpr ⟨(fun _ => v_X12_forgets (by decide) (by decide) (pz_mt 1209 (by decide +kernel))), fun _ h => absurd h List.not_mem_nil⟩) true i k' h rfl
  · exact fun i k' h => pz_ctk (l := ct_X12_image) (P := fun b i k => b = false → (pz_cS 1 20 RX12 i k ∨ (k = pz_kac ∧ 1 ≤ 1 ∧ 60 ≤ 20 ∧ Cond.methodLink RX12 i arraycopyName ∈ pz_tbl))) (List.forall_mem_cons.mpr ⟨((fun z => by cases z)), fun _ h => absurd h List.not_mem_nil⟩) false i k' h rfl
  · intro a M hlen hpre
    obtain ⟨th, x, rfl, hpre⟩ : ∃ th x, a = [.inr (.inr (12, th)), .inl x] ∧ (pz_im M) := by
      have hpre : (match (generalizing := false) a with | [.inr (.inr (12, th)), .inl x] => pz_im M | _ => False) := hpre
      split at hpre
      · exact ⟨_, _, rfl, hpre⟩
      · exact hpre.elim
    exact Nat.le_of_ble_eq_true rfl
  · intro a M hlen hcan hM hpre Ok hgo
    obtain ⟨th, x, rfl, hpre⟩ : ∃ th x, a = [.inr (.inr (12, th)), .inl x] ∧ (pz_im M) := by
      have hpre : (match (generalizing := false) a with | [.inr (.inr (12, th)), .inl x] => pz_im M | _ => False) := hpre
      split at hpre
      · exact ⟨_, _, rfl, hpre⟩
      · exact hpre.elim
    obtain ⟨k_th, hc_th⟩ := pz_tlm hcan
    have k_th : pz_kd th = 12 ∧ th < 231 := k_th
    have R_th := pz_kd12 k_th.1
    subst R_th
    clear k_th
    obtain ⟨k_x, hc_x⟩ := pz_tlm hc_th
    have l_x : -2147483648 ≤ x := k_x.1
    have u_x : x ≤ 2147483647 := k_x.2
    have hI : pz_im M := hpre
    have hI0 := hI
    have hS : pz_r0 pz_W2 M M := pz_r0.rf
    have G0 : (x = 0 → ∀ k : Nat, (k : Int) < (0 : Int) → M 60 k = M 61 k) ∧ (x = 0 → ∀ k, M 61 k = M 61 k) ∧ (x ≠ 0 → ∀ k : Nat, (k : Int) < (0 : Int) → M 61 k = M 60 k) ∧ (x ≠ 0 → ∀ k, M 60 k = M 60 k) := ⟨fun _ k hk => absurd hk (by omega), fun _ _ => rfl, fun _ k hk => absurd hk (by omega), fun _ _ => rfl⟩
    have L15 : ∀ (fu : Nat) (x2 : Int) (N15 : pz_M), (1725 - x2).toNat < fu → (pz_r0 pz_W2 M N15) → (0 ≤ x2) → (x2 ≤ 1725) → ((x = 0 → ∀ k : Nat, (k : Int) < x2 → N15 60 k = M 61 k) ∧ (x = 0 → ∀ k, N15 61 k = M 61 k) ∧ (x ≠ 0 → ∀ k : Nat, (k : Int) < x2 → N15 61 k = M 60 k) ∧ (x ≠ 0 → ∀ k, N15 60 k = M 60 k)) → (N15 1 4 = M 1 4) → (x ≠ 0 ∨ M 1 5 ≠ 0) → Ok 15 [some (.inr (.inr (12, 1))), some (.inl x), some (.inl x2)] [] N15 := by
      intro fu
      induction fu with
      | zero => exact fun _ _ hn => absurd hn (Nat.not_lt_zero _)
      | succ fu ih15 =>
        intro x2 N15 hn15 hS g15_1 g15_2 g15_3 g15_4 g15_5
        have L53 : ∀ (x2 : Int) (N53 : pz_M), (pz_r0 pz_W2 M N53) → (0 ≤ x2) → (x2 < 1725) → ((1725 - x2).toNat < fu + 1) → ((x = 0 → ∀ k : Nat, (k : Int) < x2 + 1 → N53 60 k = M 61 k) ∧ (x = 0 → ∀ k, N53 61 k = M 61 k) ∧ (x ≠ 0 → ∀ k : Nat, (k : Int) < x2 + 1 → N53 61 k = M 60 k) ∧ (x ≠ 0 → ∀ k, N53 60 k = M 60 k)) → (N53 1 4 = M 1 4) → (x ≠ 0 ∨ M 1 5 ≠ 0) → Ok 53 [some (.inr (.inr (12, 1))), some (.inl x), some (.inl x2)] [] N53 := by
          intro x2 N53 hS g53_1 g53_2 g53_3 g53_4 g53_5 g53_6
          refine hgo (fun p => Nat.beq p 15 || Nat.beq p 53) 44 53 _ _ _ ?_
          intro v53 e53 a53 b53
          try rw [pz_wi (by omega) (by omega)] at e53
          have G53 : (x = 0 → ∀ k : Nat, (k : Int) < v53 → N53 60 k = M 61 k) ∧ (x = 0 → ∀ k, N53 61 k = M 61 k) ∧ (x ≠ 0 → ∀ k : Nat, (k : Int) < v53 → N53 61 k = M 60 k) ∧ (x ≠ 0 → ∀ k, N53 60 k = M 60 k) := by rw [e53]; exact g53_4
          exact ih15 _ _ (by omega) hS (by first | omega | assumption) (by first | omega | assumption) (by first | omega | assumption) (by first | omega | assumption) (by first | omega | assumption)
        refine hgo (fun p => Nat.beq p 15 || Nat.beq p 53) 44 15 _ _ _ ?_
        refine And.intro (fun h19 => ?_) (fun h19 => ?_)
        · skip
          refine And.intro (fun h60 => ?_) (fun h60 => ?_)
          · skip
            have X60 : (x = 0 → ∀ k : Nat, (k : Int) < (1725 : Int) → N15 60 k = M 61 k) ∧ (x = 0 → ∀ k, N15 61 k = M 61 k) ∧ (x ≠ 0 → ∀ k : Nat, (k : Int) < (1725 : Int) → N15 61 k = M 60 k) ∧ (x ≠ 0 → ∀ k, N15 60 k = M 60 k) := ⟨fun q k hk => g15_3.1 q k (by omega), g15_3.2.1, fun q k hk => g15_3.2.2.1 q k (by omega), g15_3.2.2.2⟩
            have hI : pz_im N15 := pz_img hI0 hS g15_4 X60
            have hS : pz_rl pz_QI M N15 := ⟨fun _ => hI, fun b j hb => hS b j (by unfold pz_QI at hb; unfold pz_W2; omega)⟩
            refine And.intro (by omega) ?_
            intro M69 e69
            have hS : pz_rl pz_QI M M69 := by
              rw [e69]
              exact pz_rl_u hS (by unfold pz_QI; omega) (pz_iom_f (by decide))
            have hI : pz_im M69 := hS.1 hI0
            have T69_0 : M69 1 4 = N15 1 4 := by
              rw [e69]
              exact (pz_une (by decide))
            have T69_1 : M69 1 5 = (1) := by rw [e69]; exact pz_uu
            refine And.intro (by omega) ?_
            refine And.intro rfl ?_
            have Z61 : ∀ k, M69 60 k = N15 60 k := fun k => by
              first
                | (rw [e69]; exact pz_una (by decide))
                | (rw [e69, pz_una (by decide), q64]; exact pz_una (by decide))
            have Z62 : ∀ k, M69 61 k = N15 61 k := fun k => by
              first
                | (rw [e69]; exact pz_una (by decide))
                | (rw [e69, pz_una (by decide), q64]; exact pz_una (by decide))
            exact ⟨Or.inr ⟨by omega, rfl, by rw [e69]; exact pz_uu, fun q k hk => (Z61 k).trans (X60.1 q k hk), fun q k => (Z62 k).trans (X60.2.1 q k), fun q k hk => (Z62 k).trans (X60.2.2.1 q k hk), fun q k => (Z61 k).trans (X60.2.2.2 q k)⟩, hS⟩
          · skip
            have X60 : (x = 0 → ∀ k : Nat, (k : Int) < (1725 : Int) → N15 60 k = M 61 k) ∧ (x = 0 → ∀ k, N15 61 k = M 61 k) ∧ (x ≠ 0 → ∀ k : Nat, (k : Int) < (1725 : Int) → N15 61 k = M 60 k) ∧ (x ≠ 0 → ∀ k, N15 60 k = M 60 k) := ⟨fun q k hk => g15_3.1 q k (by omega), g15_3.2.1, fun q k hk => g15_3.2.2.1 q k (by omega), g15_3.2.2.2⟩
            have hI : pz_im N15 := pz_img hI0 hS g15_4 X60
            have hS : pz_rl pz_QI M N15 := ⟨fun _ => hI, fun b j hb => hS b j (by unfold pz_QI at hb; unfold pz_W2; omega)⟩
            refine And.intro (hI) ?_
            intro M64 q64
            obtain ⟨q64, z64⟩ := q64
            have hS : pz_rl pz_QI M M64 := hS.tr (pz_rl_fg (by unfold pz_QI; omega) q64 z64)
            have T64a := z64.2
            have T64b := z64.1.2
            have hI : pz_im M64 := hS.1 hI0
            refine And.intro (by omega) ?_
            intro M69 e69
            have hS : pz_rl pz_QI M M69 := by
              rw [e69]
              exact pz_rl_u hS (by unfold pz_QI; omega) (pz_iom_f (by decide))
            have hI : pz_im M69 := hS.1 hI0
            have T69_0 : M69 1 4 = M64 1 4 := by
              rw [e69]
              exact (pz_une (by decide))
            have T69_1 : M69 1 5 = (1) := by rw [e69]; exact pz_uu
            refine And.intro (by omega) ?_
            refine And.intro rfl ?_
            have Z61 : ∀ k, M69 60 k = N15 60 k := fun k => by
              first
                | (rw [e69]; exact pz_una (by decide))
                | (rw [e69, pz_una (by decide), q64]; exact pz_una (by decide))
            have Z62 : ∀ k, M69 61 k = N15 61 k := fun k => by
              first
                | (rw [e69]; exact pz_una (by decide))
                | (rw [e69, pz_una (by decide), q64]; exact pz_una (by decide))
            exact ⟨Or.inr ⟨by omega, rfl, by rw [e69]; exact pz_uu, fun q k hk => (Z61 k).trans (X60.1 q k hk), fun q k => (Z62 k).trans (X60.2.1 q k), fun q k hk => (Z62 k).trans (X60.2.2.1 q k hk), fun q k => (Z61 k).trans (X60.2.2.2 q k)⟩, hS⟩
        · skip
          refine And.intro (fun h23 => ?_) (fun h23 => ?_)
          · skip
            refine pz_nrc (c := 60) rfl ?_
            refine pz_nrc (c := 61) rfl ?_
            refine And.intro (by omega) (And.intro (show _ < (1725 : Int) from by omega) ?_)
            intro v51 e51 a51 b51
            refine And.intro (by omega) (And.intro (show _ < (1725 : Int) from by omega) ?_)
            intro M52 e52
            have hS : pz_r0 pz_W2 M M52 := by
              rw [e52]
              exact pz_r0_u hS (by unfold pz_W2; omega)
            have T52_0 : M52 1 4 = N15 1 4 := by
              rw [e52]
              exact (pz_une (fun h => absurd h.1 (by decide)))
            have T52_1 : M52 1 5 = N15 1 5 := by
              rw [e52]
              exact (pz_une (fun h => absurd h.1 (by decide)))
            have K52 := e52
            have G52 : (x = 0 → ∀ k : Nat, (k : Int) < x2 + 1 → M52 60 k = M 61 k) ∧ (x = 0 → ∀ k, M52 61 k = M 61 k) ∧ (x ≠ 0 → ∀ k : Nat, (k : Int) < x2 + 1 → M52 61 k = M 60 k) ∧ (x ≠ 0 → ∀ k, M52 60 k = M 60 k) := pz_img2 (k := x2.toNat) (by omega) (by omega) e52 e51 g15_3
            exact L53 _ _ hS (by first | omega | assumption) (by first | omega | assumption) (by first | omega | assumption) (by first | omega | assumption) (by first | omega | assumption) (by first | omega | assumption)
          · skip
            refine pz_nrc (c := 61) rfl ?_
            refine pz_nrc (c := 60) rfl ?_
            refine And.intro (by omega) (And.intro (show _ < (1725 : Int) from by omega) ?_)
            intro v36 e36 a36 b36
            refine And.intro (by omega) (And.intro (show _ < (1725 : Int) from by omega) ?_)
            intro M37 e37
            have hS : pz_r0 pz_W2 M M37 := by
              rw [e37]
              exact pz_r0_u hS (by unfold pz_W2; omega)
            have T37_0 : M37 1 4 = N15 1 4 := by
              rw [e37]
              exact (pz_une (fun h => absurd h.1 (by decide)))
            have T37_1 : M37 1 5 = N15 1 5 := by
              rw [e37]
              exact (pz_une (fun h => absurd h.1 (by decide)))
            have K37 := e37
            have G37 : (x = 0 → ∀ k : Nat, (k : Int) < x2 + 1 → M37 60 k = M 61 k) ∧ (x = 0 → ∀ k, M37 61 k = M 61 k) ∧ (x ≠ 0 → ∀ k : Nat, (k : Int) < x2 + 1 → M37 61 k = M 60 k) ∧ (x ≠ 0 → ∀ k, M37 60 k = M 60 k) := pz_img1 (k := x2.toNat) (by omega) (by omega) e37 e36 g15_3
            exact L53 _ _ hS (by first | omega | assumption) (by first | omega | assumption) (by first | omega | assumption) (by first | omega | assumption) (by first | omega | assumption) (by first | omega | assumption)
    refine hgo (fun p => Nat.beq p 15 || Nat.beq p 53) 44 0 _ [] M ?_
    refine And.intro (fun h1 => ?_) (fun h1 => ?_)
    · skip
      exact L15 _ _ _ (Nat.lt_succ_self _) hS (by first | omega | assumption) (by first | omega | assumption) (by first | omega | assumption) (by first | omega | assumption) (by first | omega | assumption)
    · skip
      intro v5 e5 a5 b5
      refine And.intro (fun h8 => ?_) (fun h8 => ?_)
      · skip
        exact L15 _ _ _ (Nat.lt_succ_self _) hS (by first | omega | assumption) (by first | omega | assumption) (by first | omega | assumption) (by first | omega | assumption) (by first | omega | assumption)
      · skip
        refine And.intro (by omega) ?_
        refine And.intro rfl ?_
        exact ⟨Or.inl ⟨by omega, by omega, rfl, rfl⟩, pz_rl.rf⟩
theorem v_X12_image {fr lo i : Nat} {own : String} (h1 : 1 + 1 ≤ fr) (h2 : 8 + (3 + 11) + 20 ≤ lo) (h3 : .methodLink own i yX12_image ∈ lw_tbl) : pz_cV fr lo own i k_X12_image :=
  pz_cVk (maxL := 3) (fr' := 1) (lo' := 20) 1 12 h_X12_image rfl ⟨by decide +kernel, by decide +kernel, by decide +kernel⟩ ⟨(pz_mt 1760 (by decide +kernel)), (pz_mt 1758 (by decide +kernel)), (pz_mt 1759 (by decide +kernel)), (pz_mt 13 (by decide +kernel))⟩ (Or.inl ⟨TX12, 28, rfl⟩) (fun a M _ h => by
    have h : (match (generalizing := false) a with | [.inr (.inr (12, th)), .inl x] => pz_im M | _ => False) := h
    split at h
    · exact ⟨_, _, rfl⟩
    · exact h.elim) h1 h2 h3
