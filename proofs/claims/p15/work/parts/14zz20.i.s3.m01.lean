section
/-! what looking changes, what a deed changes -/
def pq_Pk (b j : Nat) : Prop := pq_Pw b j ∨ (b = 72 ∧ j ≠ 0) ∨ (102 ≤ b ∧ b ≤ 114) ∨ (52 ≤ b ∧ b ≤ 59) ∨ b = 7
def pq_Pg (b j : Nat) : Prop := pq_Pk b j ∨ b = 45
def pq_Ph (r b j : Nat) : Prop := pq_Pk b j ∨ (b = r ∧ j = 3)
def pq_Pz (b j : Nat) : Prop := pq_Pd 71 b j ∨ b = 3 ∨ (74 ≤ b ∧ b < 80 ∧ j ≠ 0) ∨ (128 ≤ b ∧ b < 206)
theorem pq_pr.mo {P P' : Nat → Nat → Prop} {M M' : pz_M} (hp : ∀ b j, P b j → P' b j) (h : pq_pr P M M') : pq_pr P' M M' := ⟨h.1, fun b j q => h.2 b j (fun z => q (hp b j z))⟩
theorem pq_pr.wpk {M M' : pz_M} (h : pq_pr pq_Pw M M') : pq_pr pq_Pk M M' := h.mo (fun _ _ z => Or.inl z)
theorem pq_pr.kpg {M M' : pz_M} (h : pq_pr pq_Pk M M') : pq_pr pq_Pg M M' := h.mo (fun _ _ z => Or.inl z)
theorem pq_pr.wph {r : Nat} {M M' : pz_M} (h : pq_pr pq_Pw M M') : pq_pr (pq_Ph r) M M' := h.mo (fun _ _ z => Or.inl (Or.inl z))
theorem pq_pr.kph {r : Nat} {M M' : pz_M} (h : pq_pr pq_Pk M M') : pq_pr (pq_Ph r) M M' := h.mo (fun _ _ z => Or.inl z)
theorem pq_pr.hpk {r : Nat} {M M' : pz_M} (h : pq_pr (pq_Ph r) M M') (e : M' r 3 = M r 3) : pq_pr pq_Pk M M' := ⟨h.1, fun b j q => by
  by_cases y : b = r ∧ j = 3
  · rw [y.1, y.2]
    exact e
  · exact h.2 b j (fun z => z.elim q y)⟩
theorem pq_pr.d72 {M M' : pz_M} (h : pq_pr (pq_Pd 72) M M') : pq_pr pq_Pg M M' := h.mo (fun b j z => by
  unfold pq_Pd pq_Pw pz_lb at z
  unfold pq_Pg pq_Pk pq_Pw
  omega)
theorem pq_pr.d71 {M M' : pz_M} (h : pq_pr (pq_Pd 71) M M') : pq_pr pq_Pz M M' := h.mo (fun _ _ z => Or.inl z)
theorem pz_tf_72 {M M' : pz_M} (e : M' = pz_tf 72 71 M) (h : pz_rt M M') : pq_pr pq_Pg M M' := ⟨h, fun b j q => by
  rw [e]
  unfold pz_tf pz_tn
  unfold pq_Pg pq_Pk pq_Pw at q
  rw [if_neg (by unfold pz_lb; first | decide | omega), if_neg (by first | decide | omega)]⟩
theorem pq_pr.dsW {M M' : pz_M} (h : pq_pr (pq_Pd 71) M M') : pz_sW M M' := by
  refine ⟨⟨h.1, fun b j q => h.2 b j (by unfold pz_fy pz_mid at q; unfold pq_Pd pq_Pw pz_lb; omega), fun hi hk => ⟨?_, fun b j q => h.2 b j (by unfold pz_fz at q; unfold pq_Pd pq_Pw pz_lb; omega)⟩⟩, h.2 4 1 (by unfold pq_Pd pq_Pw pz_lb; first | decide | omega)⟩
  exact pz_kep_cg (fun b j q => h.2 b j (by unfold pq_Pd pq_Pw pz_lb; first | decide | omega)) hk
theorem pq_pr.wsW {M M' : pz_M} (h : pq_pr pq_Pw M M') : pz_sW M M' := h.dw.dsW
/-! what is kept, in the class: the newest first -/
def sd_ck (M : pz_M) (L : List (Nat → Int)) : Prop := M 3 2 = (L.length : Int) ∧ L.length ≤ 6 ∧ ∀ t : Nat, t < L.length → sd_se M (74 + ((M 3 1 + 5 - (t : Int)) % 6).toNat) (L.getD t (fun _ => 0)) ∧ sd_wf (L.getD t (fun _ => 0))
theorem sd_kf_o {M : pz_M} {b j : Nat} (hi : pz_ic M) (h : ¬ (b = 3 ∨ (74 ≤ b ∧ b < 80 ∧ j ≠ 0) ∨ (128 ≤ b ∧ b < 206))) : pz_kf M b j = M b j := by
  have i3 := hi.2.1
  by_cases z : b = 74 + (M 3 1).toNat
  · have j0 : j = 0 := by omega
    rw [z, j0]
    unfold pz_kf
    rw [pz_una (by first | decide | omega), pz_una (by first | decide | omega)]
    unfold pz_tf pz_tn
    rw [if_neg (by unfold pz_lb; first | decide | omega), if_neg (by first | decide | omega)]
  · exact pz_kf_o hi (by first | decide | omega) z (by unfold pz_lb; first | decide | omega)
theorem sd_kf_pz {M : pz_M} (hi : pz_ic M) (h : pz_rt M (pz_kf M)) : pq_pr pq_Pz M (pz_kf M) := ⟨h, fun b j q => sd_kf_o hi (fun z => q (Or.inr z))⟩
theorem sd_kf_se {M : pz_M} {F : Nat → Int} (hi : pz_ic M) (h : sd_se M 71 F) (h12 : F 88 ≤ 12) : sd_se (pz_kf M) 71 F := sd_se_cg h (fun b j q => sd_kf_o hi (by unfold pz_lb at q; first | decide | omega)) h12
theorem sd_kf_pg {M : pz_M} {F : Nat → Int} (hi : pz_ic M) (h : sd_pg M F) : sd_pg (pz_kf M) F := fun k hk => by rw [sd_kf_o hi (by first | decide | omega)]; exact h k hk
theorem sd_kf_tx {M : pz_M} {ls : List pz_lne} {l1 : List (List Int)} (hi : pz_ic M) (h : sd_tx M ls l1) : sd_tx (pz_kf M) ls l1 := sd_tx_cg h (fun b j q => sd_kf_o hi (by first | decide | omega))
theorem sd_tk_l {F : Nat → Int} {L : List (Nat → Int)} : ((F :: L).take 6).length = min 6 (L.length + 1) := List.length_take
theorem sd_tk_0 {F : Nat → Int} {L : List (Nat → Int)} : ((F :: L).take 6).getD 0 (fun _ => 0) = F := rfl
theorem sd_tk_s {F : Nat → Int} {L : List (Nat → Int)} {t : Nat} (h : t < 5) : ((F :: L).take 6).getD (t + 1) (fun _ => 0) = L.getD t (fun _ => 0) := by
  show (F :: L.take 5).getD (t + 1) (fun _ => 0) = _
  rw [List.getD_eq_getElem?_getD, List.getD_eq_getElem?_getD, List.getElem?_cons_succ, List.getElem?_take_of_lt h]
theorem sd_ck_kf {M : pz_M} {F : Nat → Int} {L : List (Nat → Int)} (hi : pz_ic M) (h : sd_ck M L) (hF : sd_se M 71 F) (hW : sd_wf F) : sd_ck (pz_kf M) ((F :: L).take 6) := by
  obtain ⟨h1, h2, h3⟩ := h
  have i3 := hi.2.1
  have h12 := hW.1
  have n1 : pz_kf M 3 1 = (M 3 1 + 1) % 6 := by
    unfold pz_kf
    rw [pz_unk (by decide)]
    exact pz_uu
  have n2 : pz_kf M 3 2 = min ((L.length : Int) + 1) 6 := by
    unfold pz_kf
    rw [pz_uu, h1, pz_wi (by first | decide | omega) (by first | decide | omega)]
  refine ⟨by rw [n2, sd_tk_l]; omega, by rw [sd_tk_l]; omega, fun t ht => ?_⟩
  rw [sd_tk_l] at ht
  rw [n1]
  rcases t with _ | t
  · rw [sd_tk_0, show ((M 3 1 + 1) % 6 + 5 - ((0 : Nat) : Int)) % 6 = M 3 1 by omega]
    refine ⟨?_, hW⟩
    have c : ∀ j : Nat, 3 ≤ j → j < 8 → pz_kf M (74 + (M 3 1).toNat) j = M 71 j := fun j j1 j2 => by
      unfold pz_kf
      rw [pz_una (by first | decide | omega), pz_una (by first | decide | omega)]
      exact pz_tf_k (by first | decide | omega) ⟨j1, j2⟩
    obtain ⟨a1, a2, a3, a4, a5, a6⟩ := hF
    refine ⟨(c 3 (by first | decide | omega) (by first | decide | omega)).trans a1, (c 4 (by first | decide | omega) (by first | decide | omega)).trans a2, (c 5 (by first | decide | omega) (by first | decide | omega)).trans a3, (c 6 (by first | decide | omega) (by first | decide | omega)).trans a4, (c 7 (by first | decide | omega) (by first | decide | omega)).trans a5, fun i f hi2 hf => ?_⟩
    rw [← a6 i f hi2 hf]
    unfold pz_kf
    rw [pz_una (by unfold pz_lb; first | decide | omega), pz_una (by unfold pz_lb; first | decide | omega)]
    exact pz_tf_l (by first | decide | omega) hf
  · rw [sd_tk_s (by first | decide | omega)]
    obtain ⟨s1, s2⟩ := h3 t (by first | decide | omega)
    have e : ((M 3 1 + 1) % 6 + 5 - ((t + 1 : Nat) : Int)) % 6 = (M 3 1 + 5 - (t : Int)) % 6 := by omega
    rw [e]
    have ne : (M 3 1 + 5 - (t : Int)) % 6 ≠ M 3 1 := by omega
    have r : 0 ≤ (M 3 1 + 5 - (t : Int)) % 6 ∧ (M 3 1 + 5 - (t : Int)) % 6 ≤ 5 := by omega
    generalize (M 3 1 + 5 - (t : Int)) % 6 = x at s1 ne r
    have m := s2.1
    exact ⟨sd_se_cg s1 (fun b j q => pz_kf_o hi (by unfold pz_lb at q; first | decide | omega) (by unfold pz_lb at q; first | decide | omega) (by unfold pz_lb at q ⊢; omega)) (by first | decide | omega), s2⟩
theorem sd_ck_cg {M N : pz_M} {L : List (Nat → Int)} (h : sd_ck M L) (e : ∀ b j : Nat, b = 3 ∨ (74 ≤ b ∧ b < 80) ∨ (128 ≤ b ∧ b < 206) → N b j = M b j) : sd_ck N L := by
  obtain ⟨h1, h2, h3⟩ := h
  refine ⟨(e 3 2 (by first | decide | omega)).trans h1, h2, fun t ht => ?_⟩
  rw [e 3 1 (by first | decide | omega)]
  obtain ⟨s1, s2⟩ := h3 t ht
  have r : ((M 3 1 + 5 - (t : Int)) % 6).toNat ≤ 5 := by omega
  have m := s2.1
  exact ⟨sd_se_cg s1 (fun b j q => e b j (by unfold pz_lb at q; first | decide | omega)) (by first | decide | omega), s2⟩
theorem sd_ck_d {M N : pz_M} {L : List (Nat → Int)} (h : sd_ck M L) (hs : pq_pr (pq_Pd 71) M N) : sd_ck N L := sd_ck_cg h (fun b j q => hs.2 b j (by unfold pq_Pd pq_Pw pz_lb; first | decide | omega))
theorem sd_ck_0 {M : pz_M} (h : M 3 2 = 0) : sd_ck M [] := ⟨h, by decide, fun t ht => absurd ht (Nat.not_lt_zero _)⟩
/-- the latest one comes back -/
theorem sd_ck_bf {M : pz_M} {F : Nat → Int} {L : List (Nat → Int)} (hi : pz_ic M) (h : sd_ck M (F :: L)) : sd_ck (pz_bf M) L ∧ sd_se (pz_bf M) 71 F ∧ sd_wf F := by
  obtain ⟨h1, h2, h3⟩ := h
  have i3 := hi.2.1
  have hl : (F :: L).length = L.length + 1 := rfl
  rw [hl] at h1 h2 h3
  have b : 0 ≤ pz_bn M ∧ pz_bn M ≤ 5 ∧ pz_bn M = (M 3 1 + 5) % 6 := by
    unfold pz_bn
    omega
  have n1 : pz_bf M 3 1 = pz_bn M := by
    unfold pz_bf
    rw [pz_tf_o (by decide) (by unfold pz_lb; first | decide | omega)]
    exact pz_uu
  have n2 : pz_bf M 3 2 = (L.length : Int) := by
    unfold pz_bf
    rw [pz_tf_o (by decide) (by unfold pz_lb; first | decide | omega), pz_unk (by decide), pz_uu, h1, pz_wi (by first | decide | omega) (by first | decide | omega)]
    omega
  obtain ⟨s1, s2⟩ := h3 0 (by first | decide | omega)
  have g0 : (F :: L).getD 0 (fun _ => 0) = F := rfl
  rw [g0] at s1 s2
  have m := s2.1
  refine ⟨⟨n2, by omega, fun t ht => ?_⟩, ?_, s2⟩
  · rw [n1]
    obtain ⟨u1, u2⟩ := h3 (t + 1) (by first | decide | omega)
    have g : (F :: L).getD (t + 1) (fun _ => 0) = L.getD t (fun _ => 0) := rfl
    rw [g] at u1 u2
    have e : (pz_bn M + 5 - (t : Int)) % 6 = (M 3 1 + 5 - ((t + 1 : Nat) : Int)) % 6 := by omega
    rw [e]
    have r : ((M 3 1 + 5 - ((t + 1 : Nat) : Int)) % 6).toNat ≤ 5 := by omega
    have m2 := u2.1
    exact ⟨sd_se_cg u1 (fun b j q => pz_bf_o (by unfold pz_lb at q; first | decide | omega) (by unfold pz_lb at q; first | decide | omega) (by unfold pz_lb at q; first | decide | omega)) (by first | decide | omega), u2⟩
  · rw [show (M 3 1 + 5 - ((0 : Nat) : Int)) % 6 = pz_bn M by omega] at s1
    have c : ∀ j : Nat, 3 ≤ j → j < 8 → pz_bf M 71 j = M (74 + (pz_bn M).toNat) j := fun j j1 j2 => by
      unfold pz_bf
      rw [pz_tf_k (by first | decide | omega) ⟨j1, j2⟩, pz_una (by first | decide | omega), pz_una (by first | decide | omega)]
    obtain ⟨a1, a2, a3, a4, a5, a6⟩ := s1
    refine ⟨(c 3 (by first | decide | omega) (by first | decide | omega)).trans a1, (c 4 (by first | decide | omega) (by first | decide | omega)).trans a2, (c 5 (by first | decide | omega) (by first | decide | omega)).trans a3, (c 6 (by first | decide | omega) (by first | decide | omega)).trans a4, (c 7 (by first | decide | omega) (by first | decide | omega)).trans a5, fun i f hi2 hf => ?_⟩
    rw [← a6 i f hi2 hf]
    unfold pz_bf
    rw [pz_tf_l (by first | decide | omega) hf, pz_una (by unfold pz_lb; first | decide | omega), pz_una (by unfold pz_lb; first | decide | omega)]
/-! what is kept, in the model -/
def sd_mq (M : pz_M) (L : List (Nat → Int)) : Prop := M 1 4 = (L.length : Int) ∧ ∀ t : Nat, t < L.length → ∀ j : Nat, j ≤ 88 ∨ (93 ≤ j ∧ j ≤ 104) → L.getD t (fun _ => 0) j = if j < 88 then M 62 (88 * (L.length - 1 - t) + j) else M 60 j
theorem sd_mq_0 {M : pz_M} (h : M 1 4 = 0) : sd_mq M [] := ⟨h, fun t ht => absurd ht (Nat.not_lt_zero _)⟩
theorem sd_mq_cg {M N : pz_M} {L : List (Nat → Int)} (h : sd_mq M L) (e4 : N 1 4 = M 1 4) (e62 : ∀ j : Nat, N 62 j = M 62 j) (e60 : ∀ j : Nat, j = 88 ∨ (93 ≤ j ∧ j ≤ 104) → N 60 j = M 60 j) : sd_mq N L := by
  refine ⟨e4.trans h.1, fun t ht j hj => ?_⟩
  rw [h.2 t ht j hj]
  by_cases q : j < 88
  · rw [if_pos q, if_pos q, e62]
  · rw [if_neg q, if_neg q, e60 j (by first | decide | omega)]
theorem sd_mq_k {M N : pz_M} {L : List (Nat → Int)} (h : sd_mq M L) (hl : L.length ≤ 6) (k4 : N 1 4 = sd_kb M + 1) (kW : sd_kW M N 88) (e60 : ∀ j : Nat, j = 88 ∨ (93 ≤ j ∧ j ≤ 104) → N 60 j = M 60 j) : sd_mq N ((M 60 :: L).take 6) := by
  obtain ⟨h1, h2⟩ := h
  have kb : sd_kb M = if L.length = 6 then 5 else (L.length : Int) := by
    unfold sd_kb
    by_cases q : L.length = 6
    · rw [if_pos q, if_pos (by first | decide | omega)]
    · rw [if_neg q, if_neg (by first | decide | omega), h1]
  refine ⟨?_, fun t ht j hj => ?_⟩
  · rw [k4, kb, sd_tk_l]
    split <;> omega
  rw [sd_tk_l] at ht ⊢
  rcases t with _ | t
  · rw [sd_tk_0]
    by_cases q : j < 88
    · have e : ((88 * (min 6 (L.length + 1) - 1 - 0) + j : Nat) : Int) = 88 * sd_kb M + j := by
        rw [kb]
        split <;> omega
      rw [if_pos q, kW, if_pos (by first | decide | omega), e, show (88 * sd_kb M + (j : Int) - 88 * sd_kb M).toNat = j by omega]
    · rw [if_neg q, e60 j (by first | decide | omega)]
  · rw [sd_tk_s (by first | decide | omega), h2 t (by first | decide | omega) j hj]
    by_cases q : j < 88
    · rw [if_pos q, if_pos q, kW, if_neg (by
        rw [kb]
        split <;> omega)]
      unfold sd_kB
      by_cases y : L.length = 6
      · rw [if_pos ⟨by omega, by omega⟩]
        congr 1
        omega
      · rw [if_neg (fun z => y (by have := z.1; omega))]
        congr 1
        omega
    · rw [if_neg q, if_neg q, e60 j (by first | decide | omega)]
theorem sd_mq_u {M N : pz_M} {F : Nat → Int} {L : List (Nat → Int)} (h : sd_mq M (F :: L)) (k4 : N 1 4 = M 1 4 - 1) (e0 : N 60 = sd_kF M (M 1 4 - 1).toNat) (e62 : ∀ j : Nat, N 62 j = M 62 j) : sd_mq N L ∧ ∀ j : Nat, j ≤ 88 ∨ (93 ≤ j ∧ j ≤ 104) → N 60 j = F j := by
  obtain ⟨h1, h2⟩ := h
  have hl : (F :: L).length = L.length + 1 := rfl
  rw [hl] at h1 h2
  have n4 : (M 1 4 - 1).toNat = L.length := by omega
  rw [n4] at e0
  have e8 : ∀ j : Nat, 88 ≤ j → N 60 j = M 60 j := fun j hj => by
    rw [e0]
    exact if_neg (by first | decide | omega)
  refine ⟨⟨by omega, fun t ht j hj => ?_⟩, fun j hj => ?_⟩
  · have g := h2 (t + 1) (by first | decide | omega) j hj
    have g0 : (F :: L).getD (t + 1) (fun _ => 0) = L.getD t (fun _ => 0) := rfl
    rw [g0] at g
    rw [g]
    by_cases q : j < 88
    · rw [if_pos q, if_pos q, e62, show L.length + 1 - 1 - (t + 1) = L.length - 1 - t by omega]
    · rw [if_neg q, if_neg q, e8 j (by first | decide | omega)]
  · have g := h2 0 (by first | decide | omega) j hj
    have g0 : (F :: L).getD 0 (fun _ => 0) = F := rfl
    rw [g0] at g
    rw [g]
    by_cases q : j < 88
    · rw [if_pos q, e0]
      exact if_pos q
    · rw [if_neg q, e8 j (by first | decide | omega)]
end
