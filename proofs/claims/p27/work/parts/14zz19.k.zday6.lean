/-! what a deed may change in the class; the TEXTS stay -/
def pq_Pd (c : Nat) (b j : Nat) : Prop := pq_Pw b j ∨ b = 45 ∨ (b = c ∧ 4 ≤ j) ∨ (pz_lb c ≤ b ∧ b ≤ pz_lb c + 12 ∧ j ≠ 3)
theorem pq_pr.dw {c : Nat} {M M' : pz_M} (h : pq_pr pq_Pw M M') : pq_pr (pq_Pd c) M M' := ⟨h.1, fun b j q => h.2 b j (fun z => q (Or.inl z))⟩
theorem pq_pr.rfl' {P : Nat → Nat → Prop} {M : pz_M} : pq_pr P M M := ⟨id, fun _ _ _ => rfl⟩
def sd_tx (M : pz_M) (ls : List pz_lne) (l1 : List (List Int)) : Prop := pq_ltx 0 ls M ∧ (∀ q ∈ ls, pv_ln q) ∧ pq_rtx 0 1 l1 M ∧ ∃ n : Int, pq_ok n 1 l1
theorem pq_ltx_cg {ls : List pz_lne} {M N : pz_M} (h : pq_ltx 0 ls M) (e : ∀ b j : Nat, b = 10 ∨ (27 ≤ b ∧ b ≤ 31) → N b j = M b j) : pq_ltx 0 ls N := by
  obtain ⟨h1, h2, h3, h4⟩ := h
  refine ⟨by rw [e _ _ (by omega)]; exact h1, by rw [e _ _ (by omega)]; exact h2, fun k hk => by rw [e _ _ (by omega)]; exact h3 k hk, fun k hk => ?_⟩
  rw [e _ _ (by omega), e _ _ (by omega), e _ _ (by omega), e _ _ (by omega)]
  exact h4 k hk
theorem sd_tx_cg {ls : List pz_lne} {l1 : List (List Int)} {M N : pz_M} (h : sd_tx M ls l1) (e : ∀ b j : Nat, b = 10 ∨ b = 13 ∨ b = 20 ∨ (27 ≤ b ∧ b ≤ 31) → N b j = M b j) : sd_tx N ls l1 := by
  obtain ⟨h1, h2, h3, h4⟩ := h
  refine ⟨pq_ltx_cg h1 (fun b j q => e b j (by omega)), h2, ⟨by rw [e _ _ (by omega)]; exact h3.1, fun r c hr hc => by rw [e _ _ (by omega)]; exact h3.2 r c hr hc⟩, h4⟩
theorem sd_tx_d {ls : List pz_lne} {l1 : List (List Int)} {c : Nat} {M N : pz_M} (h : sd_tx M ls l1) (hc : 71 ≤ c) (hs : pq_pr (pq_Pd c) M N) : sd_tx N ls l1 := sd_tx_cg h (fun b j q => hs.2 b j (by unfold pq_Pd pq_Pw pz_lb; omega))
/-- a line of THE BOOK -/
theorem sd_note_y {M M' : pz_M} {c a : Nat} {F : Nat → Int} {w i n : Int} (hc : 71 ≤ c ∧ c < 80) (h : sd_se M c F) (hp : sd_pg M F) (hw : sd_wf F) (h3 : F 3 ≠ 150) (ha : a = (F 3).toNat) (e : M' = pz_u (pz_u (pz_u (pz_u (pz_u M 45 (4 * a) (F 0)) 45 (4 * a + 1) w) 45 (4 * a + 2) i) 45 (4 * a + 3) n) c 7 (F 3 + 1)) : sd_se M' c (sd_note true F w i n) ∧ sd_pg M' (sd_note true F w i n) := by
  have h12 := hw.1
  have hb := hw.2.1
  have en : sd_note true F w i n = sd_u (sd_u (sd_u (sd_u (sd_u F (241 + 4 * (F 3).toNat) (F 0)) (242 + 4 * (F 3).toNat) w) (243 + 4 * (F 3).toNat) i) (244 + 4 * (F 3).toNat) n) 3 (F 3 + 1) := if_pos ⟨rfl, h3⟩
  have s1 : sd_se (pz_u (pz_u (pz_u (pz_u M 45 (4 * a) (F 0)) 45 (4 * a + 1) w) 45 (4 * a + 2) i) 45 (4 * a + 3) n) c F := sd_se_cg h (fun b j q => by
    have q : b ≠ 45 := by
      unfold pz_lb at q
      omega
    rw [pz_una q, pz_una q, pz_una q, pz_una q]) (by omega)
  have s2 := sd_se_c (k := 3) (f := 7) (v := F 3 + 1) hc s1 (by omega) ⟨by decide, rfl⟩
  refine ⟨?_, fun k hk => ?_⟩
  · rw [e, en]
    refine sd_se_f s2 (fun k hk => ?_) (by rw [sd_un (by decide)]; omega)
    by_cases q : k = 3
    · rw [sd_ue q, sd_ue q]
    · rw [sd_un q, sd_un q, sd_un (by omega), sd_un (by omega), sd_un (by omega), sd_un (by omega)]
  · rw [e, en, pz_una (by omega), sd_un (by omega)]
    by_cases q3 : k = 4 * a + 3
    · rw [pz_ue ⟨rfl, q3⟩, sd_ue (by omega)]
    · rw [pz_unk q3, sd_un (by omega)]
      by_cases q2 : k = 4 * a + 2
      · rw [pz_ue ⟨rfl, q2⟩, sd_ue (by omega)]
      · rw [pz_unk q2, sd_un (by omega)]
        by_cases q1 : k = 4 * a + 1
        · rw [pz_ue ⟨rfl, q1⟩, sd_ue (by omega)]
        · rw [pz_unk q1, sd_un (by omega)]
          by_cases q0 : k = 4 * a
          · rw [pz_ue ⟨rfl, q0⟩, sd_ue (by omega)]
          · rw [pz_unk q0, sd_un (by omega)]
            exact hp k hk
theorem sd_note_n {F : Nat → Int} {tr : Bool} {w i n : Int} (h : tr = false ∨ F 3 = 150) : sd_note tr F w i n = F := if_neg (fun z => by
  rcases h with q | q
  · rw [q] at z
    exact absurd z.1 (by decide)
  · exact z.2 q)
/-- what write does -/
def sd_wr (M M' : pz_M) (c : Nat) (w i n : Int) : Prop := ∀ F : Nat → Int, sd_se M c F → sd_pg M F → sd_wf F → sd_se M' c (sd_note (decide (M c 0 = 0)) F w i n) ∧ sd_pg M' (sd_note (decide (M c 0 = 0)) F w i n)
/-- what a deed does: M is F, M' is what g makes of it -/
def sd_dd (M M' : pz_M) (c : Nat) (P : List (List Int) → (Nat → Int) → Prop) (g : Bool → List pz_lne → List (List Int) → (Nat → Int) → (Nat → Int)) : Prop := ∀ (ls : List pz_lne) (l1 : List (List Int)) (F : Nat → Int), sd_tx M ls l1 → sd_se M c F → sd_pg M F → sd_wf F → P l1 F → sd_se M' c (g (decide (M c 0 = 0)) ls l1 F) ∧ sd_pg M' (g (decide (M c 0 = 0)) ls l1 F) ∧ sd_wf (g (decide (M c 0 = 0)) ls l1 F)
theorem sd_pg_cg {M N : pz_M} {F G : Nat → Int} (h : sd_pg M F) (e : ∀ j, N 45 j = M 45 j) (e2 : ∀ k : Nat, 241 ≤ k → k < 841 → G k = F k) : sd_pg N G := fun k hk => by rw [e, e2 _ (by omega) (by omega)]; exact h k hk
/-- a draw -/
def sd_hp (M M' : pz_M) (c : Nat) (ch v : Int) : Prop := (v = 0 ∨ v = 1) ∧ (∀ j, M' 45 j = M 45 j) ∧ ∀ F : Nat → Int, sd_se M c F → sd_wf F → (v = 1 ↔ sd_fb (decide (M c 0 = 0)) F ch = true) ∧ sd_se M' c (sd_fF (decide (M c 0 = 0)) F)
theorem sd_okv_1 {F : Nat → Int} {i : Nat} {v : Int} (h : -9999 ≤ v ∧ v ≤ 9999) : sd_okv F 1 i v := ⟨fun q => absurd q (by decide), fun _ => h, fun q => absurd q (by decide), fun q => absurd q (by decide), fun q => absurd q (by decide), fun q => absurd q (by decide), fun q => absurd q (by decide)⟩
theorem sd_okv_4 {F : Nat → Int} {i : Nat} {v : Int} (h : v = 0 ∨ v = 1) : sd_okv F 4 i v := ⟨fun q => absurd q (by decide), fun q => absurd q (by decide), fun q => absurd q (by decide), fun q => absurd q (by decide), fun _ => h, fun q => absurd q (by decide), fun q => absurd q (by decide)⟩
theorem sd_okv_5 {F : Nat → Int} {i : Nat} {v : Int} (h : v = 0 ∨ v = 1) : sd_okv F 5 i v := ⟨fun q => absurd q (by decide), fun q => absurd q (by decide), fun q => absurd q (by decide), fun q => absurd q (by decide), fun q => absurd q (by decide), fun _ => h, fun q => absurd q (by decide)⟩
theorem sd_okv_6 {F : Nat → Int} {i : Nat} {v : Int} (h : v = 0 ∨ (v = 1 ∧ 1 ≤ i ∧ (i : Int) + 1 < F 88)) : sd_okv F 6 i v := ⟨fun q => absurd q (by decide), fun q => absurd q (by decide), fun q => absurd q (by decide), fun q => absurd q (by decide), fun q => absurd q (by decide), fun q => absurd q (by decide), fun _ => h⟩
/-- a LINK's field is written: the picture follows -/
theorem sd_put {M N : pz_M} {c r f : Nat} {F : Nat → Int} {i v : Int} (hc : 71 ≤ c ∧ c < 80) (hF : sd_se M c F) (hP : sd_pg M F) (hW : sd_wf F) (h0 : 0 ≤ i) (h1 : i < F 88) (hr : r = pz_lnk c i) (hf : f < 8) (e : N = pz_u M r f v) (hv : sd_okv F f i.toNat v) : sd_se N c (sd_u F (sd_fo f + i.toNat) v) ∧ sd_pg N (sd_u F (sd_fo f + i.toNat) v) ∧ sd_wf (sd_u F (sd_fo f + i.toNat) v) ∧ N c 0 = M c 0 := by
  have hm := hW.1
  have b := sd_fo_b hf (show i.toNat < 12 by omega)
  rw [pz_lk_i ⟨h0, by omega⟩] at hr
  subst hr
  subst e
  exact ⟨sd_se_w hc hF (by omega) (by omega) hf, sd_pg_cg hP (fun j => pz_una (by unfold pz_lb; omega)) (fun k a _ => sd_un (by omega)), sd_wf_1 hW hf (by omega) hv, pz_una (by unfold pz_lb; omega)⟩
