section
/-! what a deed may change in the class; the TEXTS stay -/
def pq_Pd (c : Nat) (b j : Nat) : Prop := pq_Pw b j ∨ b = 45 ∨ (b = c ∧ 4 ≤ j) ∨ (pz_lb c ≤ b ∧ b ≤ pz_lb c + 12 ∧ j ≠ 3)
theorem pq_pr.dw {c : Nat} {M M' : pz_M} (h : pq_pr pq_Pw M M') : pq_pr (pq_Pd c) M M' := ⟨h.1, fun b j q => h.2 b j (fun z => q (Or.inl z))⟩
theorem pq_pr.rfl' {P : Nat → Nat → Prop} {M : pz_M} : pq_pr P M M := ⟨id, fun _ _ _ => rfl⟩
def sd_tx (M : pz_M) (ls : List pz_lne) (l1 : List (List Int)) : Prop := pq_ltx 0 ls M ∧ (∀ q ∈ ls, pv_ln q) ∧ pq_rtx 0 1 l1 M ∧ ∃ n : Int, pq_ok n 1 l1
theorem pq_ltx_cg {ls : List pz_lne} {M N : pz_M} (h : pq_ltx 0 ls M) (e : ∀ b j : Nat, b = 10 ∨ (27 ≤ b ∧ b ≤ 31) → N b j = M b j) : pq_ltx 0 ls N := by
  obtain ⟨h1, h2, h3, h4⟩ := h
  refine ⟨by rw [e _ _ (by first | decide | omega)]; exact h1, by rw [e _ _ (by first | decide | omega)]; exact h2, fun k hk => by rw [e _ _ (by first | decide | omega)]; exact h3 k hk, fun k hk => ?_⟩
  rw [e _ _ (by first | decide | omega), e _ _ (by first | decide | omega), e _ _ (by first | decide | omega), e _ _ (by first | decide | omega)]
  exact h4 k hk
theorem sd_tx_cg {ls : List pz_lne} {l1 : List (List Int)} {M N : pz_M} (h : sd_tx M ls l1) (e : ∀ b j : Nat, b = 10 ∨ b = 13 ∨ b = 20 ∨ (27 ≤ b ∧ b ≤ 31) → N b j = M b j) : sd_tx N ls l1 := by
  obtain ⟨h1, h2, h3, h4⟩ := h
  refine ⟨pq_ltx_cg h1 (fun b j q => e b j (by first | decide | omega)), h2, ⟨by rw [e _ _ (by first | decide | omega)]; exact h3.1, fun r c hr hc => by rw [e _ _ (by first | decide | omega)]; exact h3.2 r c hr hc⟩, h4⟩
theorem sd_tx_d {ls : List pz_lne} {l1 : List (List Int)} {c : Nat} {M N : pz_M} (h : sd_tx M ls l1) (hc : 71 ≤ c) (hs : pq_pr (pq_Pd c) M N) : sd_tx N ls l1 := sd_tx_cg h (fun b j q => hs.2 b j (by unfold pq_Pd pq_Pw pz_lb; first | decide | omega))
/-- a line of THE BOOK -/
theorem sd_note_y {M M' : pz_M} {c a : Nat} {F : Nat → Int} {w i n : Int} (hc : 71 ≤ c ∧ c < 80) (h : sd_se M c F) (hp : sd_pg M F) (hw : sd_wf F) (h3 : F 3 ≠ 150) (ha : a = (F 3).toNat) (e : M' = pz_u (pz_u (pz_u (pz_u (pz_u M 45 (4 * a) (F 0)) 45 (4 * a + 1) w) 45 (4 * a + 2) i) 45 (4 * a + 3) n) c 7 (F 3 + 1)) : sd_se M' c (sd_note true F w i n) ∧ sd_pg M' (sd_note true F w i n) := by
  have h12 := hw.1
  have hb := hw.2.1
  have en : sd_note true F w i n = sd_u (sd_u (sd_u (sd_u (sd_u F (241 + 4 * (F 3).toNat) (F 0)) (242 + 4 * (F 3).toNat) w) (243 + 4 * (F 3).toNat) i) (244 + 4 * (F 3).toNat) n) 3 (F 3 + 1) := if_pos ⟨rfl, h3⟩
  have s1 : sd_se (pz_u (pz_u (pz_u (pz_u M 45 (4 * a) (F 0)) 45 (4 * a + 1) w) 45 (4 * a + 2) i) 45 (4 * a + 3) n) c F := sd_se_cg h (fun b j q => by
    have q : b ≠ 45 := by
      unfold pz_lb at q
      omega
    rw [pz_una q, pz_una q, pz_una q, pz_una q]) (by first | decide | omega)
  have s2 := sd_se_c (k := 3) (f := 7) (v := F 3 + 1) hc s1 (by first | decide | omega) ⟨by decide, rfl⟩
  refine ⟨?_, fun k hk => ?_⟩
  · rw [e, en]
    refine sd_se_f s2 (fun k hk => ?_) (by rw [sd_un (by decide)]; omega)
    by_cases q : k = 3
    · rw [sd_ue q, sd_ue q]
    · rw [sd_un q, sd_un q, sd_un (by first | decide | omega), sd_un (by first | decide | omega), sd_un (by first | decide | omega), sd_un (by first | decide | omega)]
  · rw [e, en, pz_una (by first | decide | omega), sd_un (by first | decide | omega)]
    by_cases q3 : k = 4 * a + 3
    · rw [pz_ue ⟨rfl, q3⟩, sd_ue (by first | decide | omega)]
    · rw [pz_unk q3, sd_un (by first | decide | omega)]
      by_cases q2 : k = 4 * a + 2
      · rw [pz_ue ⟨rfl, q2⟩, sd_ue (by first | decide | omega)]
      · rw [pz_unk q2, sd_un (by first | decide | omega)]
        by_cases q1 : k = 4 * a + 1
        · rw [pz_ue ⟨rfl, q1⟩, sd_ue (by first | decide | omega)]
        · rw [pz_unk q1, sd_un (by first | decide | omega)]
          by_cases q0 : k = 4 * a
          · rw [pz_ue ⟨rfl, q0⟩, sd_ue (by first | decide | omega)]
          · rw [pz_unk q0, sd_un (by first | decide | omega)]
            exact hp k hk
theorem sd_note_n {F : Nat → Int} {tr : Bool} {w i n : Int} (h : tr = false ∨ F 3 = 150) : sd_note tr F w i n = F := if_neg (fun z => by
  rcases h with q | q
  · rw [q] at z
    exact absurd z.1 (by decide)
  · exact z.2 q)
/-- what write does -/
def sd_wr (M M' : pz_M) (c : Nat) (w i n : Int) : Prop := ∀ F : Nat → Int, sd_se M c F → sd_pg M F → sd_wf F → sd_se M' c (sd_note (decide (M c 0 = 0)) F w i n) ∧ sd_pg M' (sd_note (decide (M c 0 = 0)) F w i n)
/-- what a deed does: M is F, M' is what g makes of it -/
def sd_dd (M M' : pz_M) (c : Nat) (P : List (List Int) → (Nat → Int) → Prop) (g : Bool → List pz_lne → List (List Int) → (Nat → Int) → (Nat → Int)) : Prop := ∀ (ls : List pz_lne) (l1 : List (List Int)) (F : Nat → Int), sd_tx M ls l1 → sd_se M c F → sd_pg M F → sd_wf F → P l1 F → sd_se M' c (g (decide (M c 0 = 0)) ls l1 F) ∧ sd_pg M' (g (decide (M c 0 = 0)) ls l1 F) ∧ sd_wf (g (decide (M c 0 = 0)) ls l1 F)
theorem sd_pg_cg {M N : pz_M} {F G : Nat → Int} (h : sd_pg M F) (e : ∀ j, N 45 j = M 45 j) (e2 : ∀ k : Nat, 241 ≤ k → k < 841 → G k = F k) : sd_pg N G := fun k hk => by rw [e, e2 _ (by first | decide | omega) (by first | decide | omega)]; exact h k hk
/-- a draw -/
def sd_hp (M M' : pz_M) (c : Nat) (ch v : Int) : Prop := (v = 0 ∨ v = 1) ∧ (∀ j, M' 45 j = M 45 j) ∧ ∀ F : Nat → Int, sd_se M c F → sd_wf F → (v = 1 ↔ sd_fb (decide (M c 0 = 0)) F ch = true) ∧ sd_se M' c (sd_fF (decide (M c 0 = 0)) F)
theorem sd_okv_1 {F : Nat → Int} {i : Nat} {v : Int} (h : -9999 ≤ v ∧ v ≤ 9999) : sd_okv F 1 i v := ⟨fun q => absurd q (by decide), fun _ => h, fun q => absurd q (by decide), fun q => absurd q (by decide), fun q => absurd q (by decide), fun q => absurd q (by decide), fun q => absurd q (by decide)⟩
theorem sd_okv_4 {F : Nat → Int} {i : Nat} {v : Int} (h : v = 0 ∨ v = 1) : sd_okv F 4 i v := ⟨fun q => absurd q (by decide), fun q => absurd q (by decide), fun q => absurd q (by decide), fun q => absurd q (by decide), fun _ => h, fun q => absurd q (by decide), fun q => absurd q (by decide)⟩
theorem sd_okv_5 {F : Nat → Int} {i : Nat} {v : Int} (h : v = 0 ∨ v = 1) : sd_okv F 5 i v := ⟨fun q => absurd q (by decide), fun q => absurd q (by decide), fun q => absurd q (by decide), fun q => absurd q (by decide), fun q => absurd q (by decide), fun _ => h, fun q => absurd q (by decide)⟩
theorem sd_okv_6 {F : Nat → Int} {i : Nat} {v : Int} (h : v = 0 ∨ (v = 1 ∧ 1 ≤ i ∧ (i : Int) + 1 < F 88)) : sd_okv F 6 i v := ⟨fun q => absurd q (by decide), fun q => absurd q (by decide), fun q => absurd q (by decide), fun q => absurd q (by decide), fun q => absurd q (by decide), fun q => absurd q (by decide), fun _ => h⟩
/-- a LINK's field is written: the picture follows -/
theorem sd_put {M N : pz_M} {c r f : Nat} {F : Nat → Int} {i v : Int} (hc : 71 ≤ c ∧ c < 80) (hF : sd_se M c F) (hP : sd_pg M F) (hW : sd_wf F) (h0 : 0 ≤ i) (h1 : i < F 88) (hr : r = pz_lnk c i) (hf : f < 8) (e : N = pz_u M r f v) (hv : sd_okv F f i.toNat v) : sd_se N c (sd_u F (sd_fo f + i.toNat) v) ∧ sd_pg N (sd_u F (sd_fo f + i.toNat) v) ∧ sd_wf (sd_u F (sd_fo f + i.toNat) v) ∧ N c 0 = M c 0 := by
  have hm := hW.1
  have b := sd_fo_b hf (show i.toNat < 12 by omega)
  rw [pz_lk_i ⟨h0, by omega⟩] at hr
  subst hr
  subst e
  exact ⟨sd_se_w hc hF (by first | decide | omega) (by first | decide | omega) hf, sd_pg_cg hP (fun j => pz_una (by unfold pz_lb; first | decide | omega)) (fun k a _ => sd_un (by first | decide | omega)), sd_wf_1 hW hf (by first | decide | omega) hv, pz_una (by unfold pz_lb; first | decide | omega)⟩
end
section
/-! what the class' LAW tells of a state -/
theorem pv_tell_d {F : Int → Int} {w x y m : Int} {ls : List pz_lne} (h : pv_hold m x = pv_hold m y) : pv_tell F w x m ls = pv_tell F w y m ls := by
  induction ls with
  | nil => exact h
  | cons q r ih =>
    show (if q.1 = w ∧ (q.2.2 = [] ∨ pv F q.2.2 = 1) then pv_hold m (pv F q.2.1) else pv_tell F w x m r) = (if q.1 = w ∧ (q.2.2 = [] ∨ pv F q.2.2 = 1) then pv_hold m (pv F q.2.1) else pv_tell F w y m r)
    rw [ih]
theorem sd_tel {M : pz_M} {c : Nat} {F : Nat → Int} {ls : List pz_lne} {l1 : List (List Int)} {w i v : Int} (hc : 71 ≤ c ∧ c < 80) (hT : sd_tx M ls l1) (hF : sd_se M c F) (hW : sd_wf F) (h0 : 0 ≤ i) (h1 : i < F 88) (q : pz_tel M 10 w c i v) : v = pv_tell (sd_fn F i.toNat) w (pz_utd w (F (93 + i.toNat)) (F (28 + i.toNat))) (pc_mo w) ls := by
  have e := q 0 ls (by decide) rfl hT.1 hT.2.1
  obtain ⟨-, -, a2, a3, -⟩ := sd_at hc hF hW h0 h1 (r := pz_lnk c i) rfl
  rw [e, a2, a3]
  exact pv_tell_cg (sd_fn_e hF hW h0 h1) hT.2.1
theorem sd_tel0 {M : pz_M} {c : Nat} {F : Nat → Int} {ls : List pz_lne} {l1 : List (List Int)} {i v : Int} (hc : 71 ≤ c ∧ c < 80) (hT : sd_tx M ls l1) (hF : sd_se M c F) (hW : sd_wf F) (h0 : 0 ≤ i) (h1 : i < F 88) (q : pz_tel M 10 0 c i v) : v = sd_rd ls F i.toNat := sd_tel hc hT hF hW h0 h1 q
theorem sd_tel1 {M : pz_M} {c : Nat} {F : Nat → Int} {ls : List pz_lne} {l1 : List (List Int)} {i v : Int} (hc : 71 ≤ c ∧ c < 80) (hT : sd_tx M ls l1) (hF : sd_se M c F) (hW : sd_wf F) (h0 : 0 ≤ i) (h1 : i < F 88) (q : pz_tel M 10 1 c i v) : v = sd_le ls F i.toNat := sd_tel hc hT hF hW h0 h1 q
theorem sd_tel2 {M : pz_M} {c : Nat} {F : Nat → Int} {ls : List pz_lne} {l1 : List (List Int)} {i v : Int} (hc : 71 ≤ c ∧ c < 80) (hT : sd_tx M ls l1) (hF : sd_se M c F) (hW : sd_wf F) (h0 : 0 ≤ i) (h1 : i < F 88) (q : pz_tel M 10 2 c i v) : v = sd_gv ls F i.toNat := by
  refine (sd_tel hc hT hF hW h0 h1 q).trans ?_
  unfold sd_gv
  refine pv_tell_d ?_
  show pv_hold 999 (F (28 + i.toNat) / 4) = _
  unfold pv_hold
  by_cases z : F (28 + i.toNat) < 0
  · rw [if_pos z]
    omega
  · rw [if_neg z]
    rfl
theorem sd_tel3 {M : pz_M} {c : Nat} {F : Nat → Int} {ls : List pz_lne} {l1 : List (List Int)} {i v : Int} (hc : 71 ≤ c ∧ c < 80) (hT : sd_tx M ls l1) (hF : sd_se M c F) (hW : sd_wf F) (h0 : 0 ≤ i) (h1 : i < F 88) (q : pz_tel M 10 3 c i v) : v = sd_co ls F i.toNat := sd_tel hc hT hF hW h0 h1 q
theorem sd_hold_b {m x : Int} (h : 0 ≤ m) : 0 ≤ pv_hold m x ∧ pv_hold m x ≤ m := pv_hold_b h
theorem sd_gv_b {ls : List pz_lne} {F : Nat → Int} {i : Nat} : 0 ≤ sd_gv ls F i ∧ sd_gv ls F i ≤ 999 := pv_tell_b (by decide)
theorem sd_co_b {ls : List pz_lne} {F : Nat → Int} {i : Nat} : 0 ≤ sd_co ls F i ∧ sd_co ls F i ≤ 99 := pv_tell_b (by decide)
theorem sd_le_b {ls : List pz_lne} {F : Nat → Int} {i : Nat} : 0 ≤ sd_le ls F i ∧ sd_le ls F i ≤ 1000 := pv_tell_b (by decide)
theorem sd_rd_b {ls : List pz_lne} {F : Nat → Int} {i : Nat} : 0 ≤ sd_rd ls F i ∧ sd_rd ls F i ≤ 1000 := pv_tell_b (by decide)
theorem sd_se_d {M N : pz_M} {c : Nat} {F : Nat → Int} (hc : 71 ≤ c ∧ c < 80) (h : sd_se M c F) (hW : sd_wf F) (hs : pq_pr pq_Pw M N) : sd_se N c F := sd_se_cg h (fun b j q => hs.2 b j (by unfold pq_Pw; unfold pz_lb at q; omega)) (by have := hW.1; omega)
theorem sd_pg_d {M N : pz_M} {F : Nat → Int} (h : sd_pg M F) (hs : pq_pr pq_Pw M N) : sd_pg N F := fun k hk => by rw [hs.2 45 k (by unfold pq_Pw; first | decide | omega)]; exact h k hk
theorem sd_tx_w {ls : List pz_lne} {l1 : List (List Int)} {M N : pz_M} (h : sd_tx M ls l1) (hs : pq_pr pq_Pw M N) : sd_tx N ls l1 := sd_tx_cg h (fun b j q => hs.2 b j (by unfold pq_Pw; first | decide | omega))
/-- what a LINK is asked for -/
def sd_av (M M' : pz_M) (c : Nat) (i n v : Int) : Prop := ∀ (ls : List pz_lne) (l1 : List (List Int)) (F : Nat → Int), sd_tx M ls l1 → sd_se M c F → sd_pg M F → sd_wf F → (0 ≤ i ∧ (1 ≤ n ∧ n ≤ 99) ∧ sd_ca F i.toNat) → v = sd_gi ls F (i.toNat + 1) n ∧ sd_se M' c (sd_ask (decide (M c 0 = 0)) ls F i.toNat n) ∧ sd_pg M' (sd_ask (decide (M c 0 = 0)) ls F i.toNat n) ∧ sd_wf (sd_ask (decide (M c 0 = 0)) ls F i.toNat n)
theorem sd_okv_0 {F : Nat → Int} {i : Nat} {v : Int} (h : 1 ≤ v ∧ v ≤ 999) : sd_okv F 0 i v := ⟨fun _ => h, fun q => absurd q (by decide), fun q => absurd q (by decide), fun q => absurd q (by decide), fun q => absurd q (by decide), fun q => absurd q (by decide), fun q => absurd q (by decide)⟩
theorem sd_okv_2 {F : Nat → Int} {i : Nat} {v : Int} (h : -999 ≤ v ∧ v ≤ 999) : sd_okv F 2 i v := ⟨fun q => absurd q (by decide), fun q => absurd q (by decide), fun _ => h, fun q => absurd q (by decide), fun q => absurd q (by decide), fun q => absurd q (by decide), fun q => absurd q (by decide)⟩
theorem sd_pys_c {F : Nat → Int} {a b : Nat} {n : Int} (hW : sd_wf F) (h : sd_c0 F a b n) (hn : 1 ≤ n ∧ n ≤ 99) : (-9999 ≤ F (16 + a) - n ∧ F (16 + a) - n ≤ 9999) ∧ (-9999 ≤ F (16 + b) + n ∧ F (16 + b) + n ≤ 9999) := by
  obtain ⟨h1, h2, -, h3, h4⟩ := h
  obtain ⟨-, p1, -⟩ := hW.2.2 a h1
  obtain ⟨-, p2, -⟩ := hW.2.2 b h2
  rw [pz_wi (by first | decide | omega) (by first | decide | omega)] at h3
  rw [pz_wi (by first | decide | omega) (by first | decide | omega)] at h4
  omega
/-! PLAN's rows -/
theorem sd_cel {M : pz_M} {ls : List pz_lne} {l1 : List (List Int)} {i j v : Int} (hT : sd_tx M ls l1) (hi : 0 ≤ i ∧ i < (l1.length : Int)) (hj : 0 ≤ j ∧ j < 5) (q : pz_cel M 13 i j v) : v = (l1.getD i.toNat []).getD j.toNat 0 := by
  obtain ⟨-, -, h3, -⟩ := hT
  have n : M 13 0 = (l1.length : Int) := h3.1
  rw [q.1 ⟨hi.1, by omega, hj.1, hj.2⟩]
  exact h3.2 i.toNat j.toNat (by first | decide | omega) (by first | decide | omega)
theorem sd_row {M : pz_M} {ls : List pz_lne} {l1 : List (List Int)} {r : Nat} (hT : sd_tx M ls l1) (hr : r < l1.length) : ((0 ≤ (l1.getD r []).getD 0 0 ∧ (l1.getD r []).getD 0 0 ≤ 999) ∧ (18 ≤ (l1.getD r []).getD 1 0 ∧ (l1.getD r []).getD 1 0 ≤ 21) ∧ 0 ≤ (l1.getD r []).getD 2 0 ∧ 0 ≤ (l1.getD r []).getD 3 0 ∧ (0 ≤ (l1.getD r []).getD 4 0 ∧ (l1.getD r []).getD 4 0 ≤ 99) ∧ ((l1.getD r []).getD 1 0 = 18 ∨ (l1.getD r []).getD 1 0 = 20 → 1 ≤ (l1.getD r []).getD 4 0)) := by
  obtain ⟨-, -, -, n, h4⟩ := hT
  obtain ⟨a, b, c, d, e, f⟩ := (h4.2 r hr).1 rfl
  exact ⟨a, b, c.1, d.1, e, f⟩
theorem sd_l1_16 {M : pz_M} {ls : List pz_lne} {l1 : List (List Int)} (hT : sd_tx M ls l1) : l1.length ≤ 16 ∧ M 13 0 = (l1.length : Int) := by
  obtain ⟨-, -, h3, n, h4⟩ := hT
  exact ⟨h4.1, h3.1⟩
/-! the loops of a DAY in the class -/
theorem sd_p1_s {tr : Bool} {ls : List pz_lne} {l : List (List Int)} {k : Nat} {F : Nat → Int} (hk : k < l.length) : sd_p1 tr ls (l.drop k) F = sd_p1 tr ls (l.drop (k + 1)) (if (l.getD k []).getD 0 0 = F 0 then sd_doe tr ls F (l.getD k []) else F) := by
  rw [List.drop_eq_getElem_cons hk, pz_gdE hk]
  rfl
theorem sd_doe_0 {tr : Bool} {ls : List pz_lne} {F : Nat → Int} {r : List Int} {k : Nat} (hk : k = 0 ∨ k = 1 ∨ k = 2 ∨ k = 88) (h2 : k ≠ 3) : k = 0 → sd_doe tr ls F r 0 = F 0 := fun _ => by
  unfold sd_doe
  split
  · split
    · unfold sd_ask
      rw [sd_note_o (by decide) (by decide), sd_un (by first | decide | omega), sd_un (by first | decide | omega)]
    · rfl
  · split
    · split
      · unfold sd_bri
        rw [sd_note_o (by decide) (by decide), sd_un (by first | decide | omega)]
      · rfl
    · split
      · split
        · unfold sd_pys
          rw [sd_note_o (by decide) (by decide), sd_un (by first | decide | omega), sd_un (by first | decide | omega)]
        · rfl
      · split
        · unfold sd_get
          rw [sd_note_o (by decide) (by decide), sd_un (by first | decide | omega)]
        · rfl
theorem sd_doe_88 {tr : Bool} {ls : List pz_lne} {F : Nat → Int} {r : List Int} (hn : F 88 ≤ 12) : sd_doe tr ls F r 88 = F 88 := by
  unfold sd_doe
  split
  · split
    · rename_i q
      have := q.1
      unfold sd_ask
      rw [sd_note_o (by decide) (by decide), sd_un (by first | decide | omega), sd_un (by first | decide | omega)]
    · rfl
  · split
    · split
      · rename_i q
        have := q.1
        unfold sd_bri
        rw [sd_note_o (by decide) (by decide), sd_un (by first | decide | omega)]
      · rfl
    · split
      · split
        · rename_i q
          have := q.1
          have := q.2.1
          unfold sd_pys
          rw [sd_note_o (by decide) (by decide), sd_un (by first | decide | omega), sd_un (by first | decide | omega)]
        · rfl
      · split
        · rename_i q
          have := q.1
          unfold sd_get
          rw [sd_note_o (by decide) (by decide), sd_un (by first | decide | omega)]
        · rfl
/-! the loops of a DAY -/
def sd_lp (M N : pz_M) (c : Nat) (R : List pz_lne → List (List Int) → (Nat → Int) → (Nat → Int) → Prop) : Prop := ∀ (ls : List pz_lne) (l1 : List (List Int)) (F : Nat → Int), sd_tx M ls l1 → sd_se M c F → sd_pg M F → sd_wf F → ∃ G : Nat → Int, sd_se N c G ∧ sd_pg N G ∧ sd_wf G ∧ sd_tx N ls l1 ∧ R ls l1 F G
def sd_m3 (tr : Bool) (ls : List pz_lne) (i : Nat) (F : Nat → Int) : Nat → Int := if 0 < sd_le ls F i then (if sd_fb tr F (sd_le ls F i) = true then sd_lev tr (sd_fF tr F) i else sd_fF tr F) else F
theorem sd_s3_in {tr : Bool} {ls : List pz_lne} {i : Nat} {F : Nat → Int} (h : sd_in F i) : sd_s3 tr ls i F = sd_m3 tr ls i F := by
  unfold sd_s3 sd_m3
  by_cases q : 0 < sd_le ls F i
  · rw [if_pos ⟨h, q⟩, if_pos q]
  · rw [if_neg (fun z => q z.2), if_neg q]
theorem sd_s3_no {tr : Bool} {ls : List pz_lne} {i : Nat} {F : Nat → Int} (h : ¬ sd_in F i) : sd_s3 tr ls i F = F := if_neg (fun z => h z.1)
def sd_mvp (M M' : pz_M) (c : Nat) (v : Int) : Prop := ∀ (ls : List pz_lne) (l1 : List (List Int)) (F : Nat → Int), sd_tx M ls l1 → sd_se M c F → sd_pg M F → sd_wf F → v = (sd_mv (decide (M c 0 = 0)) (sd_bb F) (sd_n F) 12 0 F 0).2 ∧ sd_se M' c (sd_mv (decide (M c 0 = 0)) (sd_bb F) (sd_n F) 12 0 F 0).1 ∧ sd_pg M' (sd_mv (decide (M c 0 = 0)) (sd_bb F) (sd_n F) 12 0 F 0).1 ∧ sd_wf (sd_mv (decide (M c 0 = 0)) (sd_bb F) (sd_n F) 12 0 F 0).1 ∧ (sd_mv (decide (M c 0 = 0)) (sd_bb F) (sd_n F) 12 0 F 0).1 88 = F 88
def sd_od (M M' : pz_M) (c : Nat) (v : Int) : Prop := ∀ (ls : List pz_lne) (l1 : List (List Int)) (F : Nat → Int), sd_tx M ls l1 → sd_se M c F → sd_pg M F → sd_wf F → v = (sd_d4 (decide (M c 0 = 0)) ls l1 F).2 ∧ sd_se M' c (sd_day (decide (M c 0 = 0)) ls l1 F) ∧ sd_pg M' (sd_day (decide (M c 0 = 0)) ls l1 F) ∧ sd_wf (sd_day (decide (M c 0 = 0)) ls l1 F)
theorem sd_s5_88 {ls : List pz_lne} {i : Nat} {F : Nat → Int} (hi : i < 12) : sd_s5 ls i F 88 = F 88 := by
  unfold sd_s5
  split
  · exact sd_un (by first | decide | omega)
  · rfl
theorem sd_lv1_88 {F : Nat → Int} {i : Nat} (hi : i < 12) : sd_lv1 F i 88 = F 88 := by
  unfold sd_lv1
  rw [sd_un (by first | decide | omega), sd_un (by first | decide | omega), sd_un (by first | decide | omega)]
theorem sd_unr_88 {F : Nat → Int} {i : Nat} (hi : i < 13) : sd_unr F i 88 = F 88 := by
  unfold sd_unr
  split
  · exact sd_un (by first | decide | omega)
  · rfl
theorem sd_lev_88 {tr : Bool} {F : Nat → Int} {i : Nat} (hi : i < 12) : sd_lev tr F i 88 = F 88 := by
  unfold sd_lev
  rw [sd_note_o (by decide) (by decide), sd_unr_88 (by first | decide | omega)]
  split
  · exact sd_lv1_88 hi
  · rw [sd_unr_88 (by first | decide | omega), sd_lv1_88 hi]
theorem sd_m3_88 {tr : Bool} {ls : List pz_lne} {i : Nat} {F : Nat → Int} (hi : i < 12) : sd_m3 tr ls i F 88 = F 88 := by
  unfold sd_m3
  split
  · split
    · rw [sd_lev_88 hi, sd_fF_o (by decide)]
    · exact sd_fF_o (by decide)
  · rfl
theorem sd_get_88 {tr : Bool} {F : Nat → Int} {i : Nat} (hi : i < 12) : sd_get tr F i 88 = F 88 := by
  unfold sd_get
  rw [sd_note_o (by decide) (by decide), sd_un (by first | decide | omega)]
theorem sd_s2_88 {tr : Bool} {ls : List pz_lne} {i : Nat} {F : Nat → Int} (hi : i < 12) : sd_s2 tr ls i F 88 = F 88 := by
  unfold sd_s2
  split
  · split
    · rw [sd_get_88 hi, sd_fF_o (by decide)]
    · exact sd_fF_o (by decide)
  · rfl
theorem sd_n_i {F : Nat → Int} (h : sd_wf F) : (sd_n F : Int) = F 88 := by
  have := h.1
  unfold sd_n
  omega
end
section
/-! PARTS that move -/
theorem pz_w_add {a b : Int} : pz_w (a + pz_w b) = pz_w (a + b) := by
  unfold pz_w
  omega
theorem sd_mi_add {tr e : Bool} {to : Nat} {x : Int} : ∀ (m i : Nat) (F : Nat → Int) (c : Int), sd_mi tr to e m i F (pz_w (x + c)) = ((sd_mi tr to e m i F c).1, pz_w (x + (sd_mi tr to e m i F c).2)) := by
  intro m
  induction m with
  | zero => intro i F c; rfl
  | succ m ih =>
    intro i F c
    show (if sd_mk F to e i then sd_mi tr to e m (i + 1) (sd_note tr (sd_u F (76 + i) (F 0)) 5 i 0) (pz_w (pz_w (x + c) + 1)) else sd_mi tr to e m (i + 1) F (pz_w (x + c))) = _
    have e0 : sd_mi tr to e (m + 1) i F c = if sd_mk F to e i then sd_mi tr to e m (i + 1) (sd_note tr (sd_u F (76 + i) (F 0)) 5 i 0) (pz_w (c + 1)) else sd_mi tr to e m (i + 1) F c := rfl
    rw [e0]
    by_cases q : sd_mk F to e i
    · rw [if_pos q, if_pos q, show pz_w (pz_w (x + c) + 1) = pz_w (x + pz_w (c + 1)) by rw [pz_w_add, Int.add_comm (pz_w (x + c)) 1, pz_w_add]; congr 1; omega]
      exact ih _ _ _
    · rw [if_neg q, if_neg q]
      exact ih _ _ _
theorem sd_okv_7 {F : Nat → Int} {i : Nat} {v : Int} : sd_okv F 7 i v := ⟨fun q => absurd q (by decide), fun q => absurd q (by decide), fun q => absurd q (by decide), fun q => absurd q (by decide), fun q => absurd q (by decide), fun q => absurd q (by decide), fun q => absurd q (by decide)⟩
/-- how many BRIDGED ones above a -/
def sd_nb (b : Nat → Bool) (n a : Nat) : Int := pz_cnt (fun k => decide (a < k ∧ k < n) && b k) 12
theorem pz_cnt_one {p q : Nat → Bool} {e : Nat} (he : p e = true) (hq : q e = false) (h : ∀ k, k ≠ e → p k = q k) : ∀ m, pz_cnt p m = pz_cnt q m + if e < m then 1 else 0 := by
  intro m
  induction m with
  | zero => rfl
  | succ m ih =>
    show pz_cnt p m + (if p m = true then 1 else 0) = pz_cnt q m + (if q m = true then 1 else 0) + if e < m + 1 then 1 else 0
    rw [ih]
    by_cases c : m = e
    · rw [c, he, hq, if_neg (Nat.lt_irrefl e), if_pos rfl, if_neg (by decide), if_pos (Nat.lt_succ_self e)]
    · rw [h m c]
      by_cases d : e < m
      · rw [if_pos d, if_pos (show e < m + 1 by omega)]
        omega
      · rw [if_neg d, if_neg (show ¬ e < m + 1 by omega)]
        omega
theorem sd_nb_0 {b : Nat → Bool} {n a : Nat} (h : ∀ k, a < k → k < n → b k = false) : sd_nb b n a = 0 := by
  have key : ∀ m, pz_cnt (fun k => decide (a < k ∧ k < n) && b k) m = 0 := by
    intro m
    induction m with
    | zero => rfl
    | succ m ih =>
      show pz_cnt _ m + (if (decide (a < m ∧ m < n) && b m) = true then 1 else 0) = 0
      rw [ih]
      by_cases q : a < m ∧ m < n
      · rw [h m q.1 q.2, Bool.and_false, if_neg (by decide)]
        rfl
      · rw [decide_eq_false q, Bool.false_and, if_neg (by decide)]
        rfl
  exact key 12
theorem sd_nb_s {b : Nat → Bool} {n a e : Nat} (hn : n ≤ 12) (h1 : a < e) (h2 : e < n) (h3 : ∀ k, a < k → k < e → b k = false) (h4 : b e = true) : sd_nb b n a = 1 + sd_nb b n e := by
  unfold sd_nb
  rw [pz_cnt_one (p := fun k => decide (a < k ∧ k < n) && b k) (q := fun k => decide (e < k ∧ k < n) && b k) (e := e) (by show (decide (a < e ∧ e < n) && b e) = true; rw [decide_eq_true ⟨h1, h2⟩, h4]; rfl) (by show (decide (e < e ∧ e < n) && b e) = false; rw [decide_eq_false (fun z => absurd z.1 (Nat.lt_irrefl e))]; rfl) (fun k hk => ?_) 12, if_pos (by first | decide | omega)]
  · omega
  · show (decide (a < k ∧ k < n) && b k) = (decide (e < k ∧ k < n) && b k)
    by_cases q : e < k
    · rw [show decide (a < k ∧ k < n) = decide (e < k ∧ k < n) from decide_eq_decide.mpr (by first | decide | omega)]
    · rw [decide_eq_false (show ¬ (e < k ∧ k < n) from fun z => q z.1), Bool.false_and]
      by_cases z : a < k
      · rw [h3 k z (by first | decide | omega), Bool.and_false]
      · rw [decide_eq_false (fun y => z y.1), Bool.false_and]
theorem sd_nb_a {F : Nat → Int} (hW : sd_wf F) (h0 : F 88 ≠ 0) : pz_cnt (sd_bn F) 12 = sd_nb (sd_bb F) (sd_n F) 0 := by
  refine pz_cnt_cg 12 (fun k _ => ?_)
  have hn := sd_n_i hW
  have hm := hW.1
  show decide ((k : Int) < F 88 ∧ F (64 + k) = 1) = (decide (0 < k ∧ k < sd_n F) && decide (F (64 + k) = 1))
  rw [← Bool.decide_and]
  refine decide_eq_decide.mpr ⟨fun z => ⟨⟨?_, by omega⟩, z.2⟩, fun z => ⟨by omega, z.2⟩⟩
  have P := (hW.2.2 k z.1).2.2.2.2.2.2
  omega
/-- what movePart, moveParts do -/
def sd_mpp (M M' : pz_M) (c : Nat) (i j v : Int) : Prop := ∀ (ls : List pz_lne) (l1 : List (List Int)) (F : Nat → Int), sd_tx M ls l1 → sd_se M c F → sd_pg M F → sd_wf F → 0 ≤ i → i ≤ j → j < F 88 → (F (64 + j.toNat) = 1 ∨ j + 1 = F 88) →
  v = (sd_mi (decide (M c 0 = 0)) j.toNat (decide (j.toNat = sd_n F - 1)) (j + 1 - i).toNat i.toNat F 0).2 ∧ sd_se M' c (sd_mi (decide (M c 0 = 0)) j.toNat (decide (j.toNat = sd_n F - 1)) (j + 1 - i).toNat i.toNat F 0).1 ∧ sd_pg M' (sd_mi (decide (M c 0 = 0)) j.toNat (decide (j.toNat = sd_n F - 1)) (j + 1 - i).toNat i.toNat F 0).1 ∧ sd_wf (sd_mi (decide (M c 0 = 0)) j.toNat (decide (j.toNat = sd_n F - 1)) (j + 1 - i).toNat i.toNat F 0).1
theorem sd_mi_o {tr e : Bool} {to : Nat} {k : Nat} (hk : 4 ≤ k ∧ k < 76 ∨ k = 88 ∨ k = 0 ∨ 93 ≤ k ∧ k < 105) : ∀ (m i : Nat) (F : Nat → Int) (c : Int), i + m ≤ 12 → (sd_mi tr to e m i F c).1 k = F k := by
  intro m
  induction m with
  | zero => intro i F c _; rfl
  | succ m ih =>
    intro i F c h
    have e0 : sd_mi tr to e (m + 1) i F c = if sd_mk F to e i then sd_mi tr to e m (i + 1) (sd_note tr (sd_u F (76 + i) (F 0)) 5 i 0) (pz_w (c + 1)) else sd_mi tr to e m (i + 1) F c := rfl
    rw [e0]
    split
    · rw [ih _ _ _ (by first | decide | omega), sd_note_o (by first | decide | omega) (by first | decide | omega), sd_un (by first | decide | omega)]
    · exact ih _ _ _ (by first | decide | omega)
def sd_lq (M N : pz_M) (c : Nat) (P : (Nat → Int) → Prop) (R : List pz_lne → List (List Int) → (Nat → Int) → (Nat → Int) → Prop) : Prop := ∀ (ls : List pz_lne) (l1 : List (List Int)) (F : Nat → Int), sd_tx M ls l1 → sd_se M c F → sd_pg M F → sd_wf F → P F → ∃ G : Nat → Int, sd_se N c G ∧ sd_pg N G ∧ sd_wf G ∧ sd_tx N ls l1 ∧ R ls l1 F G
def sd_vn (F : Nat → Int) : Nat → Bool := fun k => decide ((k : Int) < F 88 ∧ F (76 + k) ≠ -1)
theorem sd_vn_e {F : Nat → Int} {x : Int} (h0 : 0 ≤ x) (hx : x = F 88) : ∀ k, (decide (k < x.toNat) && sd_vn F k) = sd_vn F k := fun k => by
  unfold sd_vn
  by_cases q : (k : Int) < F 88 ∧ F (76 + k) ≠ -1
  · rw [decide_eq_true q, decide_eq_true (show k < x.toNat by omega)]
    rfl
  · rw [decide_eq_false q]
    exact Bool.and_false _
def sd_pj (i j : Int) (F : Nat → Int) : Prop := 0 ≤ i ∧ i ≤ j ∧ j < F 88 ∧ (F (64 + j.toNat) = 1 ∨ j + 1 = F 88)
def sd_mR (tr : Bool) (i j k x : Int) (F G : Nat → Int) : Prop := i ≤ k ∧ k ≤ j + 1 ∧ G 88 = F 88 ∧ (∀ z : Nat, z < 12 → G (64 + z) = F (64 + z)) ∧ sd_mi tr j.toNat (decide (j.toNat = sd_n F - 1)) (j + 1 - k).toNat k.toNat G x = sd_mi tr j.toNat (decide (j.toNat = sd_n F - 1)) (j + 1 - i).toNat i.toNat F 0
theorem sd_mR_n {tr : Bool} {i j k k' x : Int} {F G : Nat → Int} (h : sd_mR tr i j k x F G) (h0 : 0 ≤ i) (hk : k ≤ j) (hk' : k' = k + 1) (q : ¬ sd_mk G j.toNat (decide (j.toNat = sd_n F - 1)) k.toNat) : sd_mR tr i j k' x F G := by
  obtain ⟨h1, h2, h3, h4, h5⟩ := h
  refine ⟨by omega, by omega, h3, h4, ?_⟩
  rw [← h5, show (j + 1 - k).toNat = (j + 1 - k').toNat + 1 by omega, show k'.toNat = k.toNat + 1 by omega]
  exact (if_neg q).symm
theorem sd_mR_y {tr : Bool} {i j k k' x x' : Int} {F G : Nat → Int} (h : sd_mR tr i j k x F G) (h0 : 0 ≤ i) (hk : k ≤ j) (hj : j < 12) (hk' : k' = k + 1) (hx : x' = pz_w (x + 1)) (q : sd_mk G j.toNat (decide (j.toNat = sd_n F - 1)) k.toNat) : sd_mR tr i j k' x' F (sd_note tr (sd_u G (76 + k.toNat) (G 0)) 5 k.toNat 0) := by
  obtain ⟨h1, h2, h3, h4, h5⟩ := h
  refine ⟨by omega, by omega, ?_, fun z hz => ?_, ?_⟩
  · rw [sd_note_o (by decide) (by decide), sd_un (by first | decide | omega)]
    exact h3
  · rw [sd_note_o (by first | decide | omega) (by first | decide | omega), sd_un (by first | decide | omega)]
    exact h4 z hz
  · rw [← h5, show (j + 1 - k).toNat = (j + 1 - k').toNat + 1 by omega, show k'.toNat = k.toNat + 1 by omega, hx]
    exact (if_pos q).symm
def sd_vR (tr : Bool) (F G : Nat → Int) (x a4 p : Int) : Prop := G 88 = F 88 ∧ (∀ z : Nat, z < 12 → G (64 + z) = F (64 + z)) ∧ ∃ f a : Nat, sd_mv tr (sd_bb F) (sd_n F) f a G x = sd_mv tr (sd_bb F) (sd_n F) 12 0 F 0 ∧ ((p = 0 ∧ sd_n F ≤ a) ∨ (0 < p ∧ (a : Int) = a4 ∧ a < sd_n F ∧ sd_n F ≤ a + f ∧ p = 1 + sd_nb (sd_bb F) (sd_n F) a))
theorem sd_vR_0 {tr : Bool} {F : Nat → Int} {p : Int} (hW : sd_wf F) (hp : p = if F 88 = 0 then 0 else 1 + pz_cnt (sd_bn F) 12) : sd_vR tr F F 0 0 p := by
  have hn := sd_n_i hW
  have hm := hW.1
  refine ⟨rfl, fun _ _ => rfl, 12, 0, rfl, ?_⟩
  by_cases q : F 88 = 0
  · rw [if_pos q] at hp
    exact Or.inl ⟨hp, by omega⟩
  · rw [if_neg q, sd_nb_a hW q] at hp
    have b := pz_cnt_b (f := fun k => decide (0 < k ∧ k < sd_n F) && sd_bb F k) 12
    exact Or.inr ⟨by rw [hp]; unfold sd_nb; omega, rfl, by omega, by omega, hp⟩
theorem sd_vR_z {tr : Bool} {F G : Nat → Int} {x a4 p : Int} (h : sd_vR tr F G x a4 p) (hp : ¬ 0 < p) : (G, x) = sd_mv tr (sd_bb F) (sd_n F) 12 0 F 0 := by
  obtain ⟨-, -, f, a, h1, h2⟩ := h
  rcases h2 with ⟨-, h2⟩ | ⟨h2, -⟩
  · rw [← h1]
    rcases f with _ | f
    · rfl
    · exact (if_neg (by first | decide | omega)).symm
  · exact absurd h2 hp
theorem sd_bb_cg {F G : Nat → Int} (hW : sd_wf F) (h8 : G 88 = F 88) (h : ∀ z : Nat, z < 12 → G (64 + z) = F (64 + z)) {a : Nat} : sd_end (sd_bb G) (sd_n G) a = sd_end (sd_bb F) (sd_n F) a := by
  have hm := hW.1
  have hn := sd_n_i hW
  have e : sd_n G = sd_n F := by
    unfold sd_n
    rw [h8]
  rw [e]
  exact sd_end_cg (fun k hk => by
    unfold sd_bb
    rw [h k (by first | decide | omega)])
theorem sd_vR_a {tr : Bool} {F G : Nat → Int} {x a4 p : Int} (h : sd_vR tr F G x a4 p) (hp : 0 < p) : 0 ≤ a4 ∧ a4.toNat < sd_n F := by
  obtain ⟨-, -, f, a, h1, h2⟩ := h
  rcases h2 with ⟨h2, -⟩ | ⟨-, h2, h3, -⟩ <;> omega
theorem sd_vR_s {tr : Bool} {F G G' : Nat → Int} {x x' a4 p e p' : Int} (hW : sd_wf F) (h : sd_vR tr F G x a4 p) (hp : 0 < p) (he : e = (sd_end (sd_bb F) (sd_n F) a4.toNat : Int)) (hp' : p' = p - 1) (hx : -2147483648 ≤ x ∧ x ≤ 2147483647)
    (hG : (sd_cm G e.toNat (e + 1 - a4).toNat a4.toNat = true ∧ G' = (sd_mi tr e.toNat (decide (e.toNat = sd_n F - 1)) (e + 1 - a4).toNat a4.toNat G 0).1 ∧ x' = pz_w (x + (sd_mi tr e.toNat (decide (e.toNat = sd_n F - 1)) (e + 1 - a4).toNat a4.toNat G 0).2)) ∨ (¬ sd_cm G e.toNat (e + 1 - a4).toNat a4.toNat = true ∧ G' = G ∧ x' = x)) : sd_vR tr F G' x' e p' := by
  have ha := sd_vR_a h hp
  have hm := hW.1
  have hn := sd_n_i hW
  obtain ⟨h1, h2, f, a, h3, h4⟩ := h
  rcases h4 with ⟨h4, -⟩ | ⟨-, h4, h5, h6, h7⟩
  · omega
  · have ea : a4.toNat = a := by omega
    rw [ea] at he hG
    obtain ⟨s1, s2, s3, s4, s5⟩ := sd_end_s (b := sd_bb F) h5
    have ee : e.toNat = sd_end (sd_bb F) (sd_n F) a := by omega
    have em : (e + 1 - a4).toNat = sd_end (sd_bb F) (sd_n F) a + 1 - a := by omega
    rw [ee, em] at hG
    rcases f with _ | f
    · omega
    · have st : sd_mv tr (sd_bb F) (sd_n F) (f + 1) a G x = sd_mv tr (sd_bb F) (sd_n F) f (if sd_end (sd_bb F) (sd_n F) a = sd_n F - 1 then sd_n F else sd_end (sd_bb F) (sd_n F) a) G' x' := by
        have e0 : sd_mv tr (sd_bb F) (sd_n F) (f + 1) a G x = if a < sd_n F then sd_mv tr (sd_bb F) (sd_n F) f (if sd_end (sd_bb F) (sd_n F) a = sd_n F - 1 then sd_n F else sd_end (sd_bb F) (sd_n F) a) (if sd_cm G (sd_end (sd_bb F) (sd_n F) a) (sd_end (sd_bb F) (sd_n F) a + 1 - a) a = true then sd_mi tr (sd_end (sd_bb F) (sd_n F) a) (decide (sd_end (sd_bb F) (sd_n F) a = sd_n F - 1)) (sd_end (sd_bb F) (sd_n F) a + 1 - a) a G x else (G, x)).1 (if sd_cm G (sd_end (sd_bb F) (sd_n F) a) (sd_end (sd_bb F) (sd_n F) a + 1 - a) a = true then sd_mi tr (sd_end (sd_bb F) (sd_n F) a) (decide (sd_end (sd_bb F) (sd_n F) a = sd_n F - 1)) (sd_end (sd_bb F) (sd_n F) a + 1 - a) a G x else (G, x)).2 else (G, x) := rfl
        rw [e0, if_pos h5]
        rcases hG with ⟨c, g1, g2⟩ | ⟨c, g1, g2⟩
        · have ad := sd_mi_add (tr := tr) (e := decide (sd_end (sd_bb F) (sd_n F) a = sd_n F - 1)) (to := sd_end (sd_bb F) (sd_n F) a) (x := x) (sd_end (sd_bb F) (sd_n F) a + 1 - a) a G 0
          rw [Int.add_zero, pz_wi (by first | decide | omega) (by first | decide | omega)] at ad
          rw [if_pos c, ad, g1, g2]
        · rw [if_neg c, g1, g2]
      have hk : G' 88 = F 88 ∧ ∀ z : Nat, z < 12 → G' (64 + z) = F (64 + z) := by
        rcases hG with ⟨c, g1, -⟩ | ⟨c, g1, -⟩
        · rw [g1]
          exact ⟨(sd_mi_o (by first | decide | omega) _ _ _ _ (by first | decide | omega)).trans h1, fun z hz => (sd_mi_o (by first | decide | omega) _ _ _ _ (by first | decide | omega)).trans (h2 z hz)⟩
        · rw [g1]
          exact ⟨h1, h2⟩
      refine ⟨hk.1, hk.2, f, (if sd_end (sd_bb F) (sd_n F) a = sd_n F - 1 then sd_n F else sd_end (sd_bb F) (sd_n F) a), st.symm.trans h3, ?_⟩
      have nbn := pz_cnt_b (f := fun k => decide (sd_end (sd_bb F) (sd_n F) a < k ∧ k < sd_n F) && sd_bb F k) 12
      by_cases q : sd_end (sd_bb F) (sd_n F) a = sd_n F - 1
      · rw [if_pos q]
        have z : sd_nb (sd_bb F) (sd_n F) a = 0 := sd_nb_0 (fun k k1 k2 => by
          by_cases y : k < sd_end (sd_bb F) (sd_n F) a
          · exact s4 k k1 y
          · have P := (hW.2.2 k (by first | decide | omega)).2.2.2.2.2.2
            exact decide_eq_false (by first | decide | omega))
        exact Or.inl ⟨by omega, Nat.le_refl _⟩
      · rw [if_neg q]
        have z := sd_nb_s (b := sd_bb F) (n := sd_n F) (a := a) (by first | decide | omega) (s3 (by first | decide | omega)) s2 s4 (s5 (by first | decide | omega))
        have z2 : 0 ≤ sd_nb (sd_bb F) (sd_n F) (sd_end (sd_bb F) (sd_n F) a) := nbn.1
        exact Or.inr ⟨by omega, by omega, s2, by have := s3 (by first | decide | omega); omega, by omega⟩
/-! the model's deeds -/
def pz_QD (b j : Nat) : Prop := (b = 60 ∧ (j < 88 ∨ (241 ≤ j ∧ j < 841))) ∨ b = 68 ∨ b = 69
def sd_Tr (M : pz_M) : Bool := decide (M 1 26 ≠ 0)
end
section
/-! a LINK leaves -/
def sd_lv0 (tr : Bool) (F : Nat → Int) (i : Nat) : Nat → Int := sd_note tr (sd_u (sd_u (sd_fF tr F) (52 + i) 1) 1 (pz_w (sd_fF tr F 1 + 1))) 4 i 0
def sd_lvk (G : Nat → Int) (k : Int) : Nat → Int := if 0 ≤ k ∧ k < G 88 ∧ G (76 + k.toNat) = -1 then sd_u G (40 + k.toNat) 0 else G
def sd_lvH (tr : Bool) (F : Nat → Int) (i : Nat) : Nat → (Nat → Int)
  | 0 => sd_lv0 tr F i
  | m + 1 => sd_lvk (sd_lvH tr F i m) ((i : Int) - 1 + m)
theorem sd_u_sw {G : Nat → Int} {a b : Nat} {x y : Int} (h : a ≠ b) : sd_u (sd_u G a x) b y = sd_u (sd_u G b y) a x := funext fun j => by
  by_cases q : j = a
  · rw [q, sd_un h, sd_uu, sd_uu]
  · rw [sd_un (F := sd_u G b y) q]
    by_cases z : j = b
    · rw [z, sd_uu, sd_uu]
    · rw [sd_un z, sd_un z, sd_un q]
theorem sd_note_u {tr : Bool} {G : Nat → Int} {w i m v : Int} {k : Nat} (h0 : k ≠ 0) (h3 : k ≠ 3) (hk : k < 241) : sd_u (sd_note tr G w i m) k v = sd_note tr (sd_u G k v) w i m := by
  unfold sd_note
  rw [sd_un (Ne.symm h3), sd_un (Ne.symm h0)]
  by_cases q : tr = true ∧ G 3 ≠ 150
  · rw [if_pos q, if_pos q, sd_u_sw (a := 3) (Ne.symm h3), sd_u_sw (a := 244 + 4 * (G 3).toNat) (b := k) (by first | decide | omega), sd_u_sw (a := 243 + 4 * (G 3).toNat) (b := k) (by first | decide | omega), sd_u_sw (a := 242 + 4 * (G 3).toNat) (b := k) (by first | decide | omega), sd_u_sw (a := 241 + 4 * (G 3).toNat) (b := k) (by first | decide | omega)]
  · rw [if_neg q, if_neg q]
theorem sd_lvk_note {tr : Bool} {G : Nat → Int} {w i m k : Int} (h12 : G 88 ≤ 12) : sd_lvk (sd_note tr G w i m) k = sd_note tr (sd_lvk G k) w i m := by
  unfold sd_lvk
  rw [sd_note_o (by decide) (by decide)]
  by_cases q : 0 ≤ k ∧ k < G 88
  · rw [sd_note_o (by first | decide | omega) (by first | decide | omega)]
    by_cases z : G (76 + k.toNat) = -1
    · rw [if_pos ⟨q.1, q.2, z⟩, if_pos ⟨q.1, q.2, z⟩]
      exact sd_note_u (by first | decide | omega) (by first | decide | omega) (by first | decide | omega)
    · rw [if_neg (fun y => z y.2.2), if_neg (fun y => z y.2.2)]
  · rw [if_neg (fun y => q ⟨y.1, y.2.1⟩), if_neg (fun y => q ⟨y.1, y.2.1⟩)]
theorem sd_lvk_88 {G : Nat → Int} {k : Int} (h12 : G 88 ≤ 12) : sd_lvk G k 88 = G 88 := by
  unfold sd_lvk
  split
  · exact sd_un (by first | decide | omega)
  · rfl
theorem sd_lvk_o {G : Nat → Int} {k : Int} {j : Nat} (hj : 52 ≤ j) (h12 : G 88 ≤ 12) : sd_lvk G k j = G j := by
  unfold sd_lvk
  split
  · exact sd_un (by first | decide | omega)
  · rfl
theorem sd_lvk_u {G : Nat → Int} {k : Int} {j : Nat} {v : Int} (hj : 40 ≤ j ∧ j < 52) (hk : ¬ (0 ≤ k ∧ k.toNat + 40 = j)) (h12 : G 88 ≤ 12) : sd_u (sd_lvk G k) j v = sd_lvk (sd_u G j v) k := by
  unfold sd_lvk
  rw [sd_un (show (88 : Nat) ≠ j by omega), sd_un (show 76 + k.toNat ≠ j by omega)]
  by_cases q : 0 ≤ k ∧ k < G 88 ∧ G (76 + k.toNat) = -1
  · rw [if_pos q, if_pos q]
    exact sd_u_sw (by first | decide | omega)
  · rw [if_neg q, if_neg q]
theorem sd_lvk_n {G : Nat → Int} {k : Nat} : sd_unr G k = sd_lvk G (k : Int) := by
  unfold sd_unr sd_lvk
  by_cases q : (k : Int) < G 88 ∧ G (76 + k) = -1
  · rw [if_pos q, if_pos ⟨by omega, q.1, by rw [Int.toNat_natCast]; exact q.2⟩, Int.toNat_natCast]
  · rw [if_neg q, if_neg (fun z => q ⟨z.2.1, by have := z.2.2; rw [Int.toNat_natCast] at this; exact this⟩)]
theorem sd_lvH_3 {tr : Bool} {F : Nat → Int} {i : Nat} (hW : sd_wf F) (hi : (i : Int) < F 88) (hin : sd_in F i) : sd_lvH tr F i 3 = sd_lev tr (sd_fF tr F) i := by
  have hm := hW.1
  have e88 : sd_fF tr F 88 = F 88 := sd_fF_o (by decide)
  have e76 : sd_fF tr F (76 + i) = -1 := (sd_fF_o (by first | decide | omega)).trans hin.2
  show sd_lvk (sd_lvk (sd_lvk (sd_lv0 tr F i) ((i : Int) - 1 + (0 : Nat))) ((i : Int) - 1 + (1 : Nat))) ((i : Int) - 1 + (2 : Nat)) = _
  rw [show (i : Int) - 1 + (0 : Nat) = (i : Int) - 1 by omega, show (i : Int) - 1 + (1 : Nat) = (i : Int) by omega, show (i : Int) - 1 + (2 : Nat) = ((i + 1 : Nat) : Int) by omega]
  unfold sd_lv0 sd_lev
  generalize sd_fF tr F = E at *
  have a88 : (sd_u (sd_u E (52 + i) 1) 1 (pz_w (E 1 + 1))) 88 = F 88 := by rw [sd_un (by decide), sd_un (by first | decide | omega)]; exact e88
  have a76 : (sd_u (sd_u E (52 + i) 1) 1 (pz_w (E 1 + 1))) (76 + i) = -1 := by rw [sd_un (by first | decide | omega), sd_un (by first | decide | omega)]; exact e76
  have lv : sd_lv1 E i = sd_u (sd_u (sd_u E (52 + i) 1) 1 (pz_w (E 1 + 1))) (40 + i) 0 := rfl
  generalize sd_u (sd_u E (52 + i) 1) 1 (pz_w (E 1 + 1)) = A at *
  have mid : ∀ B : Nat → Int, B 88 = F 88 → B (76 + i) = -1 → sd_lvk B (i : Int) = sd_u B (40 + i) 0 := fun B b1 b2 => by
    unfold sd_lvk
    rw [if_pos ⟨by omega, by omega, by rw [Int.toNat_natCast]; exact b2⟩, Int.toNat_natCast]
  have k88 : sd_lvk A ((i : Int) - 1) 88 = F 88 := (sd_lvk_88 (by first | decide | omega)).trans a88
  have k76 : sd_lvk A ((i : Int) - 1) (76 + i) = -1 := (sd_lvk_o (by first | decide | omega) (by first | decide | omega)).trans a76
  rw [sd_lvk_note (by first | decide | omega), sd_lvk_note (by first | decide | omega), mid _ k88 k76, sd_lvk_note (by rw [sd_un (by first | decide | omega)]; omega), sd_lvk_u (by first | decide | omega) (by first | decide | omega) (by first | decide | omega), ← lv, sd_lvk_n (k := i + 1)]
  by_cases q : i = 0
  · rw [if_pos q]
    have z : sd_lvk (sd_lv1 E i) ((i : Int) - 1) = sd_lv1 E i := if_neg (fun z => by have := z.1; omega)
    rw [z]
  · rw [if_neg q, sd_lvk_n (k := i - 1), show ((i - 1 : Nat) : Int) = (i : Int) - 1 by omega]
/-- a write to a LINK that there is not -/
theorem sd_se_x {M : pz_M} {c r f : Nat} {F : Nat → Int} {i v : Int} (hc : 71 ≤ c ∧ c < 80) (h : sd_se M c F) (h12 : F 88 ≤ 12) (hr : r = pz_lnk c i) (hi : ¬ (0 ≤ i ∧ i < F 88)) : sd_se (pz_u M r f v) c F := by
  have b := pz_lnk_c (c := c) (i := i)
  obtain ⟨h1, h2, h3, h4, h5, h6⟩ := h
  have m : ∀ j : Nat, pz_u M r f v c j = M c j := fun j => pz_una (by first | decide | omega)
  refine ⟨(m 3).trans h1, (m 4).trans h2, (m 5).trans h3, (m 6).trans h4, (m 7).trans h5, fun j g hj hg => ?_⟩
  rw [← h6 j g hj hg]
  refine pz_una (fun z => hi ?_)
  rw [hr] at z
  unfold pz_lnk at z
  by_cases q : 0 ≤ i ∧ i < 12
  · rw [if_pos q] at z
    omega
  · rw [if_neg q] at z
    omega
theorem sd_lvk_wf {G : Nat → Int} {k : Int} (h : sd_wf G) : sd_wf (sd_lvk G k) := by
  have hm := h.1
  unfold sd_lvk
  split
  · rename_i q
    exact sd_wf_1 (f := 4) (i := k.toNat) h (by decide) (by first | decide | omega) (sd_okv_4 (Or.inl rfl))
  · exact h
/-! the model's way to leave -/
theorem sd_lev_k {tr : Bool} {F : Nat → Int} {i : Nat} : sd_lev tr F i = sd_note tr (sd_lvk (sd_lvk (sd_lv1 F i) ((i : Int) - 1)) ((i : Int) + 1)) 4 i 0 := by
  unfold sd_lev
  rw [sd_lvk_n (k := i + 1), show ((i + 1 : Nat) : Int) = (i : Int) + 1 by omega]
  by_cases q : i = 0
  · rw [if_pos q, show sd_lvk (sd_lv1 F i) ((i : Int) - 1) = sd_lv1 F i from if_neg (fun z => by have := z.1; omega)]
  · rw [if_neg q, sd_lvk_n (k := i - 1), show ((i - 1 : Nat) : Int) = (i : Int) - 1 by omega]
theorem sd_py_i {F : Nat → Int} {i : Int} (h0 : 0 ≤ i) : (i = F 88 - 1 ∨ F (5 + i).toNat ≤ pz_w (F (16 + i).toNat + if i = 0 then 0 else F (4 + i).toNat)) ↔ sd_py F i.toNat := by
  unfold sd_py
  rw [show (5 + i).toNat = 5 + i.toNat by omega, show (16 + i).toNat = 16 + i.toNat by omega, show (4 + i).toNat = 4 + i.toNat by omega]
  by_cases q : i = 0
  · rw [if_pos q, if_pos (show i.toNat = 0 by omega), show ((i.toNat : Nat) : Int) = i by omega]
  · rw [if_neg q, if_neg (show ¬ i.toNat = 0 by omega), show ((i.toNat : Nat) : Int) = i by omega]
/-- the model's loops over PARTS -/
def sd_mI (tr : Bool) (F G : Nat → Int) (x a4 : Int) : Prop := G 88 = F 88 ∧ (∀ z : Nat, z < 12 → G (64 + z) = F (64 + z)) ∧ ∃ f : Nat, (a4.toNat < sd_n F → sd_n F ≤ a4.toNat + f) ∧ sd_mv tr (sd_bb F) (sd_n F) f a4.toNat G x = sd_mv tr (sd_bb F) (sd_n F) 12 0 F 0
def sd_mJ (tr : Bool) (F G : Nat → Int) (x a e k can : Int) (ends : Bool) : Prop := G 88 = F 88 ∧ (∀ z : Nat, z < 12 → G (64 + z) = F (64 + z)) ∧ ∃ f : Nat, (a.toNat < sd_n F → sd_n F ≤ a.toNat + f + 1) ∧ (¬ can = 0 → sd_mv tr (sd_bb F) (sd_n F) f (if ends = true then sd_n F else e.toNat) (sd_mi tr e.toNat ends (e + 1 - k).toNat k.toNat G x).1 (sd_mi tr e.toNat ends (e + 1 - k).toNat k.toNat G x).2 = sd_mv tr (sd_bb F) (sd_n F) 12 0 F 0) ∧ (can = 0 → sd_mv tr (sd_bb F) (sd_n F) f (if ends = true then sd_n F else e.toNat) G x = sd_mv tr (sd_bb F) (sd_n F) 12 0 F 0)
theorem sd_mI_0 {tr : Bool} {F : Nat → Int} (h12 : F 88 ≤ 12) : sd_mI tr F F 0 0 := ⟨rfl, fun _ _ => rfl, 12, fun _ => by unfold sd_n; omega, rfl⟩
theorem sd_mI_z {tr : Bool} {F G : Nat → Int} {x a4 : Int} (h : sd_mI tr F G x a4) (ha : ¬ a4.toNat < sd_n F) : (G, x) = sd_mv tr (sd_bb F) (sd_n F) 12 0 F 0 := by
  obtain ⟨-, -, f, -, h1⟩ := h
  rw [← h1]
  rcases f with _ | f
  · rfl
  · exact (if_neg ha).symm
theorem sd_mJ_0 {tr : Bool} {F G : Nat → Int} {x a4 e can : Int} {ends : Bool} (h : sd_mI tr F G x a4) (ha : a4.toNat < sd_n F) (h0 : 0 ≤ a4) (he : e = (sd_end (sd_bb F) (sd_n F) a4.toNat : Int)) (hE : ends = decide (e.toNat = sd_n F - 1)) (hc : can = if sd_cm G e.toNat (e + 1 - a4).toNat a4.toNat = true then 1 else 0) : sd_mJ tr F G x a4 e a4 can ends := by
  obtain ⟨h1, h2, f, h3, h4⟩ := h
  have h3 := h3 ha
  rcases f with _ | f
  · omega
  · have ee : e.toNat = sd_end (sd_bb F) (sd_n F) a4.toNat := by omega
    have em : (e + 1 - a4).toNat = sd_end (sd_bb F) (sd_n F) a4.toNat + 1 - a4.toNat := by omega
    have e0 : sd_mv tr (sd_bb F) (sd_n F) (f + 1) a4.toNat G x = if a4.toNat < sd_n F then sd_mv tr (sd_bb F) (sd_n F) f (if sd_end (sd_bb F) (sd_n F) a4.toNat = sd_n F - 1 then sd_n F else sd_end (sd_bb F) (sd_n F) a4.toNat) (if sd_cm G (sd_end (sd_bb F) (sd_n F) a4.toNat) (sd_end (sd_bb F) (sd_n F) a4.toNat + 1 - a4.toNat) a4.toNat = true then sd_mi tr (sd_end (sd_bb F) (sd_n F) a4.toNat) (decide (sd_end (sd_bb F) (sd_n F) a4.toNat = sd_n F - 1)) (sd_end (sd_bb F) (sd_n F) a4.toNat + 1 - a4.toNat) a4.toNat G x else (G, x)).1 (if sd_cm G (sd_end (sd_bb F) (sd_n F) a4.toNat) (sd_end (sd_bb F) (sd_n F) a4.toNat + 1 - a4.toNat) a4.toNat = true then sd_mi tr (sd_end (sd_bb F) (sd_n F) a4.toNat) (decide (sd_end (sd_bb F) (sd_n F) a4.toNat = sd_n F - 1)) (sd_end (sd_bb F) (sd_n F) a4.toNat + 1 - a4.toNat) a4.toNat G x else (G, x)).2 else (G, x) := rfl
    rw [e0, if_pos ha] at h4
    rw [ee] at hE
    rw [ee, em] at hc
    have en : (if ends = true then sd_n F else sd_end (sd_bb F) (sd_n F) a4.toNat) = (if sd_end (sd_bb F) (sd_n F) a4.toNat = sd_n F - 1 then sd_n F else sd_end (sd_bb F) (sd_n F) a4.toNat) := by
      rw [hE]
      by_cases q : sd_end (sd_bb F) (sd_n F) a4.toNat = sd_n F - 1
      · rw [decide_eq_true q, if_pos rfl, if_pos q]
      · rw [decide_eq_false q, if_neg (by decide), if_neg q]
    refine ⟨h1, h2, f, fun _ => by omega, fun c => ?_, fun c => ?_⟩
    · rw [ee, em, en, hE]
      have cm : sd_cm G (sd_end (sd_bb F) (sd_n F) a4.toNat) (sd_end (sd_bb F) (sd_n F) a4.toNat + 1 - a4.toNat) a4.toNat = true := by
        by_cases y : sd_cm G (sd_end (sd_bb F) (sd_n F) a4.toNat) (sd_end (sd_bb F) (sd_n F) a4.toNat + 1 - a4.toNat) a4.toNat = true
        · exact y
        · rw [if_neg y] at hc
          exact absurd hc c
      rw [if_pos cm] at h4
      exact h4
    · rw [ee, en]
      have cm : ¬ sd_cm G (sd_end (sd_bb F) (sd_n F) a4.toNat) (sd_end (sd_bb F) (sd_n F) a4.toNat + 1 - a4.toNat) a4.toNat = true := fun y => by
        rw [if_pos y] at hc
        omega
      rw [if_neg cm] at h4
      exact h4
theorem sd_mJ_n {tr : Bool} {F G : Nat → Int} {x a e k k' can : Int} {ends : Bool} (h : sd_mJ tr F G x a e k can ends) (hk : 0 ≤ k ∧ k ≤ e) (hk' : k' = k + 1) (q : ¬ sd_mk G e.toNat ends k.toNat) : sd_mJ tr F G x a e k' can ends := by
  obtain ⟨h1, h2, f, h3, h4, h5⟩ := h
  refine ⟨h1, h2, f, h3, fun c => ?_, h5⟩
  have z := h4 c
  rw [show (e + 1 - k).toNat = (e + 1 - k').toNat + 1 by omega] at z
  have e0 : sd_mi tr e.toNat ends ((e + 1 - k').toNat + 1) k.toNat G x = sd_mi tr e.toNat ends (e + 1 - k').toNat (k.toNat + 1) G x := if_neg q
  rw [e0] at z
  rw [show k'.toNat = k.toNat + 1 by omega]
  exact z
theorem sd_mJ_y {tr : Bool} {F G : Nat → Int} {x x' a e k k' can : Int} {ends : Bool} (h : sd_mJ tr F G x a e k can ends) (hk : 0 ≤ k ∧ k ≤ e) (he : e < 12) (hc : ¬ can = 0) (hk' : k' = k + 1) (hx : x' = pz_w (x + 1)) (q : sd_mk G e.toNat ends k.toNat) : sd_mJ tr F (sd_note tr (sd_u G (76 + k.toNat) (G 0)) 5 k.toNat 0) x' a e k' can ends := by
  obtain ⟨h1, h2, f, h3, h4, h5⟩ := h
  refine ⟨?_, fun z hz => ?_, f, h3, fun c => ?_, fun c => absurd c hc⟩
  · rw [sd_note_o (by decide) (by decide), sd_un (by first | decide | omega)]
    exact h1
  · rw [sd_note_o (by first | decide | omega) (by first | decide | omega), sd_un (by first | decide | omega)]
    exact h2 z hz
  · have z := h4 c
    rw [show (e + 1 - k).toNat = (e + 1 - k').toNat + 1 by omega] at z
    have e0 : sd_mi tr e.toNat ends ((e + 1 - k').toNat + 1) k.toNat G x = sd_mi tr e.toNat ends (e + 1 - k').toNat (k.toNat + 1) (sd_note tr (sd_u G (76 + k.toNat) (G 0)) 5 k.toNat 0) (pz_w (x + 1)) := if_pos q
    rw [e0] at z
    rw [show k'.toNat = k.toNat + 1 by omega, hx]
    exact z
theorem sd_mJ_e {tr : Bool} {F G : Nat → Int} {x a e k can y : Int} {ends : Bool} (h : sd_mJ tr F G x a e k can ends) (ha : 0 ≤ a ∧ a.toNat < sd_n F) (hq : can = 0 ∨ e < k) (hae : a < e ∨ ends = true) (hy : (ends = true ∧ y = F 88) ∨ (ends = false ∧ y = e)) (hn : (sd_n F : Int) = F 88) : sd_mI tr F G x y := by
  obtain ⟨h1, h2, f, h3, h4, h5⟩ := h
  have h3 := h3 ha.2
  have ey : y.toNat = (if ends = true then sd_n F else e.toNat) := by
    rcases hy with ⟨p, q⟩ | ⟨p, q⟩
    · rw [if_pos p]; omega
    · rw [if_neg (by rw [p]; decide), q]
  refine ⟨h1, h2, f, fun z => ?_, ?_⟩
  · rcases hy with ⟨p, q⟩ | ⟨p, q⟩
    · omega
    · have hae := hae.resolve_right (by rw [p]; decide)
      omega
  · rw [ey]
    by_cases c : can = 0
    · exact h5 c
    · have z := h4 c
      have e9 : (e + 1 - k).toNat = 0 := by
        have := hq.resolve_left c
        omega
      rw [e9] at z
      exact z
end
section
/-! the shape stays -/
theorem sd_lvk_wf2 {G : Nat → Int} {k : Int} (h : sd_wf G) : sd_wf (sd_lvk G k) := sd_lvk_wf h
theorem sd_lev_wf {tr : Bool} {F : Nat → Int} {i : Nat} (h : sd_wf F) (hi : (i : Int) < F 88) : sd_wf (sd_lev tr F i) := by
  have hm := h.1
  rw [sd_lev_k]
  refine sd_note_wf (sd_lvk_wf (sd_lvk_wf ?_))
  unfold sd_lv1
  have a := sd_wf_1 (f := 5) (v := 1) h (by decide) hi (sd_okv_5 (Or.inr rfl))
  have b : sd_wf (sd_u (sd_u F (52 + i) 1) 1 (pz_w (F 1 + 1))) := sd_wf_cg a (fun k hk => sd_un (by first | decide | omega)) (by rw [sd_un (by decide)]; exact a.2.1)
  exact sd_wf_1 (f := 4) (v := 0) b (by decide) (by rw [sd_un (by decide), sd_un (by first | decide | omega)]; exact hi) (sd_okv_4 (Or.inl rfl))
theorem sd_gi_b {ls : List pz_lne} {F : Nat → Int} {o : Nat} {n : Int} (h : sd_wf F) (ho : (o : Int) < F 88) (hn : 1 ≤ n) : 0 ≤ sd_gi ls F o n ∧ sd_gi ls F o n ≤ F (4 + o) - 1 := by
  have p := (h.2.2 o ho).1
  have g := sd_gv_b (ls := ls) (F := F) (i := o)
  unfold sd_gi
  omega
theorem sd_ask_wf {tr : Bool} {ls : List pz_lne} {F : Nat → Int} {i : Nat} {n : Int} (h : sd_wf F) (hc : sd_ca F i) (hn : 1 ≤ n) : sd_wf (sd_ask tr ls F i n) := by
  have hm := h.1
  have c1 := hc.1
  have g := sd_gi_b (ls := ls) (n := n) h (o := i + 1) (by first | decide | omega) hn
  obtain ⟨p0, -, p2, -⟩ := h.2.2 (i + 1) (by first | decide | omega)
  rw [show 4 + (i + 1) = 5 + i by omega] at g p0
  rw [show 28 + (i + 1) = 29 + i by omega] at p2
  have a := sd_wf_1 (f := 0) (i := i + 1) (v := F (5 + i) - sd_gi ls F (i + 1) n) h (by decide) (by first | decide | omega) (sd_okv_0 (by first | decide | omega))
  rw [show sd_fo 0 + (i + 1) = 5 + i by show 4 + (i + 1) = 5 + i; omega] at a
  have b := sd_wf_1 (f := 2) (i := i + 1) (v := max (-999) (F (29 + i) - sd_gi ls F (i + 1) n)) a (by decide) (by rw [sd_un (by first | decide | omega)]; omega) (sd_okv_2 (by first | decide | omega))
  rw [show sd_fo 2 + (i + 1) = 29 + i by show 28 + (i + 1) = 29 + i; omega] at b
  exact sd_note_wf b
theorem sd_pys_wf {tr : Bool} {F : Nat → Int} {a b : Nat} {n : Int} (h : sd_wf F) (hc : sd_c0 F a b n) (hn : 1 ≤ n ∧ n ≤ 99) : sd_wf (sd_pys tr F a b n) := by
  have hm := h.1
  have pc := sd_pys_c h hc hn
  obtain ⟨c1, c2, c3, -⟩ := hc
  have x := sd_wf_1 (f := 1) (v := F (16 + a) - n) h (by decide) c1 (sd_okv_1 pc.1)
  exact sd_note_wf (sd_wf_1 (f := 1) (i := b) (v := F (16 + b) + n) x (by decide) (by rw [sd_un (by show (88 : Nat) ≠ 16 + a; omega)]; exact c2) (sd_okv_1 pc.2))
def sd_tm (f : Nat → Int) (ls : List pz_lne) (l1 : List (List Int)) : Prop := pq_wlw ls f ∧ (∀ q ∈ ls, pv_ln q) ∧ pq_wp l1 f ∧ ∃ n : Int, pq_ok n 1 l1
theorem sd_tm_cg {f g : Nat → Int} {ls : List pz_lne} {l1 : List (List Int)} (h : sd_tm f ls l1) (e : ∀ j : Nat, j = 89 ∨ j = 90 ∨ (129 ≤ j ∧ j < 209) ∨ 841 ≤ j → g j = f j) : sd_tm g ls l1 := by
  obtain ⟨⟨a1, a2, a3⟩, h2, ⟨b1, b2⟩, n, h4⟩ := h
  refine ⟨⟨(e 89 (by first | decide | omega)).trans a1, fun k hk => ?_, fun k hk => ?_⟩, h2, ⟨(e 90 (by first | decide | omega)).trans b1, fun r c hr hc => ?_⟩, n, h4⟩
  · rw [e _ (by first | decide | omega), e _ (by first | decide | omega), e _ (by first | decide | omega), e _ (by first | decide | omega)]
    exact a2 k hk
  · show g (905 + 2 * k) = _ ∧ (_ → g (905 + (2 * k + 1)) = _)
    rw [e _ (by first | decide | omega), e _ (by first | decide | omega)]
    exact a3 k hk
  · have l := h4.1
    rw [e _ (by first | decide | omega)]
    exact b2 r c hr hc
theorem sd_rowm {f : Nat → Int} {ls : List pz_lne} {l1 : List (List Int)} {r : Nat} (hT : sd_tm f ls l1) (hr : r < l1.length) : ((0 ≤ (l1.getD r []).getD 0 0 ∧ (l1.getD r []).getD 0 0 ≤ 999) ∧ (18 ≤ (l1.getD r []).getD 1 0 ∧ (l1.getD r []).getD 1 0 ≤ 21) ∧ 0 ≤ (l1.getD r []).getD 2 0 ∧ 0 ≤ (l1.getD r []).getD 3 0 ∧ (0 ≤ (l1.getD r []).getD 4 0 ∧ (l1.getD r []).getD 4 0 ≤ 99) ∧ ((l1.getD r []).getD 1 0 = 18 ∨ (l1.getD r []).getD 1 0 = 20 → 1 ≤ (l1.getD r []).getD 4 0)) := by
  obtain ⟨-, -, -, n, h4⟩ := hT
  obtain ⟨a, b, c, d, e, f⟩ := (h4.2 r hr).1 rfl
  exact ⟨a, b, c.1, d.1, e, f⟩
theorem sd_wpc {f : Nat → Int} {ls : List pz_lne} {l1 : List (List Int)} {r c k : Nat} (hT : sd_tm f ls l1) (hr : r < l1.length) (hc : c < 5) (hk : k = 129 + (5 * r + c)) : f k = (l1.getD r []).getD c 0 - (if c = 1 then 10 else 0) := by
  subst hk
  exact hT.2.2.1.2 r c hr hc
theorem sd_doe_wf {tr : Bool} {ls : List pz_lne} {F f : Nat → Int} {l1 : List (List Int)} {r : Nat} (hT : sd_tm f ls l1) (hr : r < l1.length) (h : sd_wf F) : sd_wf (sd_doe tr ls F (l1.getD r [])) := by
  obtain ⟨R0, R1, R2, R3, R4, R5⟩ := sd_rowm hT hr
  unfold sd_doe
  split
  · split
    · exact sd_ask_wf h (by assumption) (R5 (Or.inl (by assumption)))
    · exact h
  · split
    · split
      · exact sd_bri_wf h (by assumption)
      · exact h
    · split
      · split
        · exact sd_pys_wf h (by assumption) ⟨R5 (Or.inr (by assumption)), R4.2⟩
        · exact h
      · split
        · rename_i q
          exact sd_get_wf h q.1
        · exact h
theorem sd_s2_wf {tr : Bool} {ls : List pz_lne} {i : Nat} {F : Nat → Int} (h : sd_wf F) : sd_wf (sd_s2 tr ls i F) := by
  unfold sd_s2
  split
  · rename_i q
    split
    · exact sd_get_wf (sd_fF_wf h) (by rw [sd_fF_o (by decide)]; exact q.1)
    · exact sd_fF_wf h
  · exact h
theorem sd_s3_wf {tr : Bool} {ls : List pz_lne} {i : Nat} {F : Nat → Int} (h : sd_wf F) (hi : (i : Int) < F 88) : sd_wf (sd_s3 tr ls i F) := by
  unfold sd_s3
  split
  · split
    · exact sd_lev_wf (sd_fF_wf h) (by rw [sd_fF_o (by decide)]; exact hi)
    · exact sd_fF_wf h
  · exact h
theorem sd_s3_88 {tr : Bool} {ls : List pz_lne} {i : Nat} {F : Nat → Int} (hi : i < 12) : sd_s3 tr ls i F 88 = F 88 := by
  unfold sd_s3
  split
  · split
    · rw [sd_lev_88 hi, sd_fF_o (by decide)]
    · exact sd_fF_o (by decide)
  · rfl
theorem sd_s5_wf {ls : List pz_lne} {i : Nat} {F : Nat → Int} (h : sd_wf F) (hi : (i : Int) < F 88) : sd_wf (sd_s5 ls i F) := by
  have c := sd_co_b (ls := ls) (F := F) (i := i)
  have p := (h.2.2 i hi).2.1
  unfold sd_s5
  split
  · exact sd_wf_1 (f := 1) (v := max (-9999) (F (16 + i) - sd_co ls F i)) h (by decide) hi (sd_okv_1 (by first | decide | omega))
  · exact h
end
section
/-! PARTS that move keep the shape -/
theorem sd_mi_wf {tr e : Bool} {to : Nat} : ∀ (m i : Nat) (F : Nat → Int) (c : Int), sd_wf F → ((i + m : Nat) : Int) ≤ F 88 → sd_wf (sd_mi tr to e m i F c).1 := by
  intro m
  induction m with
  | zero => intro i F c h _; exact h
  | succ m ih =>
    intro i F c h hi
    have hm := h.1
    have e0 : sd_mi tr to e (m + 1) i F c = if sd_mk F to e i then sd_mi tr to e m (i + 1) (sd_note tr (sd_u F (76 + i) (F 0)) 5 i 0) (pz_w (c + 1)) else sd_mi tr to e m (i + 1) F c := rfl
    rw [e0]
    split
    · refine ih _ _ _ (sd_note_wf (sd_wf_1 (f := 7) (i := i) (v := F 0) h (by decide) (by first | decide | omega) sd_okv_7)) ?_
      rw [sd_note_o (by decide) (by decide), sd_un (by first | decide | omega)]
      omega
    · exact ih _ _ _ h (by first | decide | omega)
theorem sd_mv_wf {tr : Bool} {b : Nat → Bool} {n : Nat} : ∀ (f a : Nat) (F : Nat → Int) (c : Int), sd_wf F → (n : Int) = F 88 → sd_wf (sd_mv tr b n f a F c).1 ∧ (sd_mv tr b n f a F c).1 88 = F 88 := by
  intro f
  induction f with
  | zero => intro a F c h _; exact ⟨h, rfl⟩
  | succ f ih =>
    intro a F c h hn
    have hm := h.1
    have e0 : sd_mv tr b n (f + 1) a F c = if a < n then sd_mv tr b n f (if sd_end b n a = n - 1 then n else sd_end b n a) (if sd_cm F (sd_end b n a) (sd_end b n a + 1 - a) a = true then sd_mi tr (sd_end b n a) (decide (sd_end b n a = n - 1)) (sd_end b n a + 1 - a) a F c else (F, c)).1 (if sd_cm F (sd_end b n a) (sd_end b n a + 1 - a) a = true then sd_mi tr (sd_end b n a) (decide (sd_end b n a = n - 1)) (sd_end b n a + 1 - a) a F c else (F, c)).2 else (F, c) := rfl
    rw [e0]
    by_cases q : a < n
    · rw [if_pos q]
      obtain ⟨s1, s2, -⟩ := sd_end_s (b := b) q
      by_cases y : sd_cm F (sd_end b n a) (sd_end b n a + 1 - a) a = true
      · rw [if_pos y]
        have o : (sd_mi tr (sd_end b n a) (decide (sd_end b n a = n - 1)) (sd_end b n a + 1 - a) a F c).1 88 = F 88 := sd_mi_o (by first | decide | omega) _ _ _ _ (by first | decide | omega)
        have z := ih (if sd_end b n a = n - 1 then n else sd_end b n a) (sd_mi tr (sd_end b n a) (decide (sd_end b n a = n - 1)) (sd_end b n a + 1 - a) a F c).1 (sd_mi tr (sd_end b n a) (decide (sd_end b n a = n - 1)) (sd_end b n a + 1 - a) a F c).2 (sd_mi_wf _ _ _ _ h (by first | decide | omega)) (by rw [o]; exact hn)
        rw [o] at z
        exact z
      · rw [if_neg y]
        exact ih _ _ _ h hn
    · rw [if_neg q]
      exact ⟨h, rfl⟩
end
section
/-! what is kept -/
def pz_QK (b j : Nat) : Prop := (b = 60 ∧ j < 88) ∨ (b = 1 ∧ j = 4)
def pz_QE (b j : Nat) : Prop := b = 62 ∨ (b = 1 ∧ (j = 4 ∨ j = 26))
/-- the kept state s, from the bottom -/
def sd_kF (M : pz_M) (s : Nat) : Nat → Int := fun j => if j < 88 then M 62 (88 * s + j) else M 60 j
def sd_ki (M N : pz_M) (s : Nat) (x : Int) : Prop := ∀ j : Nat, N 60 j = if (j : Int) < x then M 62 (88 * s + j) else M 60 j
theorem sd_ki_s {M N N' : pz_M} {s k : Nat} {x v : Int} (h : sd_ki M N s x) (hx : 0 ≤ x) (hk : k = x.toNat) (hv : v = M 62 (88 * s + k)) (e : N' = pz_u N 60 k v) : sd_ki M N' s (x + 1) := fun j => by
  rw [e]
  show (if 60 = 60 ∧ j = k then v else N 60 j) = _
  by_cases q : j = k
  · rw [if_pos ⟨rfl, q⟩, if_pos (by first | decide | omega), q, hv]
  · rw [if_neg (fun z => q z.2), h j]
    by_cases y : (j : Int) < x
    · rw [if_pos y, if_pos (by first | decide | omega)]
    · rw [if_neg y, if_neg (by first | decide | omega)]
theorem sd_ki_e {M N : pz_M} {s : Nat} {x : Int} (h : sd_ki M N s x) (hx : x = 88) : N 60 = sd_kF M s := funext fun j => by
  rw [h j]
  unfold sd_kF
  by_cases y : j < 88
  · rw [if_pos y, if_pos (by first | decide | omega)]
  · rw [if_neg y, if_neg (by first | decide | omega)]
def sd_kb (M : pz_M) : Int := if M 1 4 = 6 then 5 else M 1 4
def sd_kB (M : pz_M) (k : Nat) : Int := if M 1 4 = 6 ∧ k < 440 then M 62 (k + 88) else M 62 k
def sd_kS (M N : pz_M) (x : Int) : Prop := ∀ k : Nat, N 62 k = if (k : Int) < x then M 62 (k + 88) else M 62 k
def sd_kW (M N : pz_M) (x : Int) : Prop := ∀ k : Nat, N 62 k = if 88 * sd_kb M ≤ (k : Int) ∧ (k : Int) < 88 * sd_kb M + x then M 60 ((k : Int) - 88 * sd_kb M).toNat else sd_kB M k
theorem sd_kS_0 {M : pz_M} : sd_kS M M 0 := fun k => (if_neg (by first | decide | omega)).symm
theorem sd_kS_s {M N N' : pz_M} {k : Nat} {x v : Int} (h : sd_kS M N x) (hx : 0 ≤ x) (hk : k = x.toNat) (hv : v = N 62 (k + 88)) (e : N' = pz_u N 62 k v) : sd_kS M N' (x + 1) := fun j => by
  rw [e]
  show (if 62 = 62 ∧ j = k then v else N 62 j) = _
  by_cases q : j = k
  · rw [if_pos ⟨rfl, q⟩, if_pos (by first | decide | omega), hv, h, if_neg (by first | decide | omega), q]
  · rw [if_neg (fun z => q z.2), h j]
    by_cases y : (j : Int) < x
    · rw [if_pos y, if_pos (by first | decide | omega)]
    · rw [if_neg y, if_neg (by first | decide | omega)]
theorem sd_kW_0 {M N : pz_M} {x : Int} (h : sd_kS M N x) (hx : x = 440) (h6 : M 1 4 = 6) : sd_kW M N 0 := fun k => by
  rw [h k, if_neg (show ¬ (88 * sd_kb M ≤ (k : Int) ∧ (k : Int) < 88 * sd_kb M + 0) by omega)]
  unfold sd_kB
  by_cases y : k < 440
  · rw [if_pos (show (k : Int) < x by omega), if_pos ⟨h6, y⟩]
  · rw [if_neg (show ¬ (k : Int) < x by omega), if_neg (fun z => y z.2)]
theorem sd_kW_1 {M : pz_M} (h6 : ¬ M 1 4 = 6) : sd_kW M M 0 := fun k => by
  rw [if_neg (show ¬ (88 * sd_kb M ≤ (k : Int) ∧ (k : Int) < 88 * sd_kb M + 0) by omega)]
  exact (if_neg (fun z => h6 z.1)).symm
theorem sd_kW_s {M N N' : pz_M} {k : Nat} {x v : Int} (h : sd_kW M N x) (hb : 0 ≤ sd_kb M) (hx : 0 ≤ x) (hk : k = (88 * sd_kb M + x).toNat) (hv : v = M 60 x.toNat) (e : N' = pz_u N 62 k v) : sd_kW M N' (x + 1) := fun j => by
  rw [e]
  show (if 62 = 62 ∧ j = k then v else N 62 j) = _
  by_cases q : j = k
  · rw [if_pos ⟨rfl, q⟩, if_pos (by first | decide | omega), hv, show ((j : Int) - 88 * sd_kb M).toNat = x.toNat by omega]
  · rw [if_neg (fun z => q z.2), h j]
    by_cases y : 88 * sd_kb M ≤ (j : Int) ∧ (j : Int) < 88 * sd_kb M + x
    · rw [if_pos y, if_pos (by first | decide | omega)]
    · rw [if_neg y, if_neg (by first | decide | omega)]
end
