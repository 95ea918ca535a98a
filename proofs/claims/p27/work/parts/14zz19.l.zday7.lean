/-! what the class' LAW tells of a state -/
theorem pv_tell_d {F : Int → Int} {w x y m : Int} {ls : List pz_lne} (h : pv_hold m x = pv_hold m y) : pv_tell F w x m ls = pv_tell F w y m ls := by
  induction ls with
  | nil => exact h
  | cons q r ih =>
    show (if q.1 = w ∧ (q.2.2 = [] ∨ pv F q.2.2 = 1) then pv_hold m (pv F q.2.1) else pv_tell F w x m r) = (if q.1 = w ∧ (q.2.2 = [] ∨ pv F q.2.2 = 1) then pv_hold m (pv F q.2.1) else pv_tell F w y m r)
    rw [ih]
theorem sd_tel {M : pz_M} {c : Nat} {F : Nat → Int} {ls : List pz_lne} {l1 : List (List Int)} {w i v : Int} (hc : 71 ≤ c ∧ c < 80) (hT : sd_tx M ls l1) (hF : sd_se M c F) (hW : sd_wf F) (h0 : 0 ≤ i) (h1 : i < F 88) (q : pz_tel M 10 w c i v) : v = pv_tell (sd_fn F i.toNat) w (pz_utd w (F (93 + i.toNat)) (F (28 + i.toNat))) (pc_mo w) ls := by
  have e := q 0 ls (by decide) rfl hT.1 hT.2.1
  obtain ⟨-, -, a2, a3, -⟩ := sd_at hc hF hW h0 h1 (r := pz_lnk c i) rfl
  rw [e, a2, a3]
  exact pv_tell_cg (sd_fn_e hF hW h0 h1) hT.2.1
theorem sd_tel0 {M : pz_M} {c : Nat} {F : Nat → Int} {ls : List pz_lne} {l1 : List (List Int)} {i v : Int} (hc : 71 ≤ c ∧ c < 80) (hT : sd_tx M ls l1) (hF : sd_se M c F) (hW : sd_wf F) (h0 : 0 ≤ i) (h1 : i < F 88) (q : pz_tel M 10 0 c i v) : v = sd_rd ls F i.toNat := sd_tel hc hT hF hW h0 h1 q
theorem sd_tel1 {M : pz_M} {c : Nat} {F : Nat → Int} {ls : List pz_lne} {l1 : List (List Int)} {i v : Int} (hc : 71 ≤ c ∧ c < 80) (hT : sd_tx M ls l1) (hF : sd_se M c F) (hW : sd_wf F) (h0 : 0 ≤ i) (h1 : i < F 88) (q : pz_tel M 10 1 c i v) : v = sd_le ls F i.toNat := sd_tel hc hT hF hW h0 h1 q
theorem sd_tel2 {M : pz_M} {c : Nat} {F : Nat → Int} {ls : List pz_lne} {l1 : List (List Int)} {i v : Int} (hc : 71 ≤ c ∧ c < 80) (hT : sd_tx M ls l1) (hF : sd_se M c F) (hW : sd_wf F) (h0 : 0 ≤ i) (h1 : i < F 88) (q : pz_tel M 10 2 c i v) : v = sd_gv ls F i.toNat := by
  refine (sd_tel hc hT hF hW h0 h1 q).trans ?_
  unfold sd_gv
  refine pv_tell_d ?_
  show pv_hold 999 (F (28 + i.toNat) / 4) = _
  unfold pv_hold
  by_cases z : F (28 + i.toNat) < 0
  · rw [if_pos z]
    omega
  · rw [if_neg z]
    rfl
theorem sd_tel3 {M : pz_M} {c : Nat} {F : Nat → Int} {ls : List pz_lne} {l1 : List (List Int)} {i v : Int} (hc : 71 ≤ c ∧ c < 80) (hT : sd_tx M ls l1) (hF : sd_se M c F) (hW : sd_wf F) (h0 : 0 ≤ i) (h1 : i < F 88) (q : pz_tel M 10 3 c i v) : v = sd_co ls F i.toNat := sd_tel hc hT hF hW h0 h1 q
theorem sd_hold_b {m x : Int} (h : 0 ≤ m) : 0 ≤ pv_hold m x ∧ pv_hold m x ≤ m := pv_hold_b h
theorem sd_gv_b {ls : List pz_lne} {F : Nat → Int} {i : Nat} : 0 ≤ sd_gv ls F i ∧ sd_gv ls F i ≤ 999 := pv_tell_b (by decide)
theorem sd_co_b {ls : List pz_lne} {F : Nat → Int} {i : Nat} : 0 ≤ sd_co ls F i ∧ sd_co ls F i ≤ 99 := pv_tell_b (by decide)
theorem sd_le_b {ls : List pz_lne} {F : Nat → Int} {i : Nat} : 0 ≤ sd_le ls F i ∧ sd_le ls F i ≤ 1000 := pv_tell_b (by decide)
theorem sd_rd_b {ls : List pz_lne} {F : Nat → Int} {i : Nat} : 0 ≤ sd_rd ls F i ∧ sd_rd ls F i ≤ 1000 := pv_tell_b (by decide)
theorem sd_se_d {M N : pz_M} {c : Nat} {F : Nat → Int} (hc : 71 ≤ c ∧ c < 80) (h : sd_se M c F) (hW : sd_wf F) (hs : pq_pr pq_Pw M N) : sd_se N c F := sd_se_cg h (fun b j q => hs.2 b j (by unfold pq_Pw; unfold pz_lb at q; omega)) (by have := hW.1; omega)
theorem sd_pg_d {M N : pz_M} {F : Nat → Int} (h : sd_pg M F) (hs : pq_pr pq_Pw M N) : sd_pg N F := fun k hk => by rw [hs.2 45 k (by unfold pq_Pw; omega)]; exact h k hk
theorem sd_tx_w {ls : List pz_lne} {l1 : List (List Int)} {M N : pz_M} (h : sd_tx M ls l1) (hs : pq_pr pq_Pw M N) : sd_tx N ls l1 := sd_tx_cg h (fun b j q => hs.2 b j (by unfold pq_Pw; omega))
/-- what a LINK is asked for -/
def sd_av (M M' : pz_M) (c : Nat) (i n v : Int) : Prop := ∀ (ls : List pz_lne) (l1 : List (List Int)) (F : Nat → Int), sd_tx M ls l1 → sd_se M c F → sd_pg M F → sd_wf F → (0 ≤ i ∧ (1 ≤ n ∧ n ≤ 99) ∧ sd_ca F i.toNat) → v = sd_gi ls F (i.toNat + 1) n ∧ sd_se M' c (sd_ask (decide (M c 0 = 0)) ls F i.toNat n) ∧ sd_pg M' (sd_ask (decide (M c 0 = 0)) ls F i.toNat n) ∧ sd_wf (sd_ask (decide (M c 0 = 0)) ls F i.toNat n)
theorem sd_okv_0 {F : Nat → Int} {i : Nat} {v : Int} (h : 1 ≤ v ∧ v ≤ 999) : sd_okv F 0 i v := ⟨fun _ => h, fun q => absurd q (by decide), fun q => absurd q (by decide), fun q => absurd q (by decide), fun q => absurd q (by decide), fun q => absurd q (by decide), fun q => absurd q (by decide)⟩
theorem sd_okv_2 {F : Nat → Int} {i : Nat} {v : Int} (h : -999 ≤ v ∧ v ≤ 999) : sd_okv F 2 i v := ⟨fun q => absurd q (by decide), fun q => absurd q (by decide), fun _ => h, fun q => absurd q (by decide), fun q => absurd q (by decide), fun q => absurd q (by decide), fun q => absurd q (by decide)⟩
theorem sd_pys_c {F : Nat → Int} {a b : Nat} {n : Int} (hW : sd_wf F) (h : sd_c0 F a b n) (hn : 1 ≤ n ∧ n ≤ 99) : (-9999 ≤ F (16 + a) - n ∧ F (16 + a) - n ≤ 9999) ∧ (-9999 ≤ F (16 + b) + n ∧ F (16 + b) + n ≤ 9999) := by
  obtain ⟨h1, h2, -, h3, h4⟩ := h
  obtain ⟨-, p1, -⟩ := hW.2.2 a h1
  obtain ⟨-, p2, -⟩ := hW.2.2 b h2
  rw [pz_wi (by omega) (by omega)] at h3
  rw [pz_wi (by omega) (by omega)] at h4
  omega
/-! PLAN's rows -/
theorem sd_cel {M : pz_M} {ls : List pz_lne} {l1 : List (List Int)} {i j v : Int} (hT : sd_tx M ls l1) (hi : 0 ≤ i ∧ i < (l1.length : Int)) (hj : 0 ≤ j ∧ j < 5) (q : pz_cel M 13 i j v) : v = (l1.getD i.toNat []).getD j.toNat 0 := by
  obtain ⟨-, -, h3, -⟩ := hT
  have n : M 13 0 = (l1.length : Int) := h3.1
  rw [q.1 ⟨hi.1, by omega, hj.1, hj.2⟩]
  exact h3.2 i.toNat j.toNat (by omega) (by omega)
theorem sd_row {M : pz_M} {ls : List pz_lne} {l1 : List (List Int)} {r : Nat} (hT : sd_tx M ls l1) (hr : r < l1.length) : ((0 ≤ (l1.getD r []).getD 0 0 ∧ (l1.getD r []).getD 0 0 ≤ 999) ∧ (18 ≤ (l1.getD r []).getD 1 0 ∧ (l1.getD r []).getD 1 0 ≤ 21) ∧ 0 ≤ (l1.getD r []).getD 2 0 ∧ 0 ≤ (l1.getD r []).getD 3 0 ∧ (0 ≤ (l1.getD r []).getD 4 0 ∧ (l1.getD r []).getD 4 0 ≤ 99) ∧ ((l1.getD r []).getD 1 0 = 18 ∨ (l1.getD r []).getD 1 0 = 20 → 1 ≤ (l1.getD r []).getD 4 0)) := by
  obtain ⟨-, -, -, n, h4⟩ := hT
  obtain ⟨a, b, c, d, e, f⟩ := (h4.2 r hr).1 rfl
  exact ⟨a, b, c.1, d.1, e, f⟩
theorem sd_l1_16 {M : pz_M} {ls : List pz_lne} {l1 : List (List Int)} (hT : sd_tx M ls l1) : l1.length ≤ 16 ∧ M 13 0 = (l1.length : Int) := by
  obtain ⟨-, -, h3, n, h4⟩ := hT
  exact ⟨h4.1, h3.1⟩
/-! the loops of a DAY in the class -/
theorem sd_p1_s {tr : Bool} {ls : List pz_lne} {l : List (List Int)} {k : Nat} {F : Nat → Int} (hk : k < l.length) : sd_p1 tr ls (l.drop k) F = sd_p1 tr ls (l.drop (k + 1)) (if (l.getD k []).getD 0 0 = F 0 then sd_doe tr ls F (l.getD k []) else F) := by
  rw [List.drop_eq_getElem_cons hk, pz_gdE hk]
  rfl
theorem sd_doe_0 {tr : Bool} {ls : List pz_lne} {F : Nat → Int} {r : List Int} {k : Nat} (hk : k = 0 ∨ k = 1 ∨ k = 2 ∨ k = 88) (h2 : k ≠ 3) : k = 0 → sd_doe tr ls F r 0 = F 0 := fun _ => by
  unfold sd_doe
  split
  · split
    · unfold sd_ask
      rw [sd_note_o (by decide) (by decide), sd_un (by omega), sd_un (by omega)]
    · rfl
  · split
    · split
      · unfold sd_bri
        rw [sd_note_o (by decide) (by decide), sd_un (by omega)]
      · rfl
    · split
      · split
        · unfold sd_pys
          rw [sd_note_o (by decide) (by decide), sd_un (by omega), sd_un (by omega)]
        · rfl
      · split
        · unfold sd_get
          rw [sd_note_o (by decide) (by decide), sd_un (by omega)]
        · rfl
theorem sd_doe_88 {tr : Bool} {ls : List pz_lne} {F : Nat → Int} {r : List Int} (hn : F 88 ≤ 12) : sd_doe tr ls F r 88 = F 88 := by
  unfold sd_doe
  split
  · split
    · rename_i q
      have := q.1
      unfold sd_ask
      rw [sd_note_o (by decide) (by decide), sd_un (by omega), sd_un (by omega)]
    · rfl
  · split
    · split
      · rename_i q
        have := q.1
        unfold sd_bri
        rw [sd_note_o (by decide) (by decide), sd_un (by omega)]
      · rfl
    · split
      · split
        · rename_i q
          have := q.1
          have := q.2.1
          unfold sd_pys
          rw [sd_note_o (by decide) (by decide), sd_un (by omega), sd_un (by omega)]
        · rfl
      · split
        · rename_i q
          have := q.1
          unfold sd_get
          rw [sd_note_o (by decide) (by decide), sd_un (by omega)]
        · rfl
/-! the loops of a DAY -/
def sd_lp (M N : pz_M) (c : Nat) (R : List pz_lne → List (List Int) → (Nat → Int) → (Nat → Int) → Prop) : Prop := ∀ (ls : List pz_lne) (l1 : List (List Int)) (F : Nat → Int), sd_tx M ls l1 → sd_se M c F → sd_pg M F → sd_wf F → ∃ G : Nat → Int, sd_se N c G ∧ sd_pg N G ∧ sd_wf G ∧ sd_tx N ls l1 ∧ R ls l1 F G
def sd_m3 (tr : Bool) (ls : List pz_lne) (i : Nat) (F : Nat → Int) : Nat → Int := if 0 < sd_le ls F i then (if sd_fb tr F (sd_le ls F i) = true then sd_lev tr (sd_fF tr F) i else sd_fF tr F) else F
theorem sd_s3_in {tr : Bool} {ls : List pz_lne} {i : Nat} {F : Nat → Int} (h : sd_in F i) : sd_s3 tr ls i F = sd_m3 tr ls i F := by
  unfold sd_s3 sd_m3
  by_cases q : 0 < sd_le ls F i
  · rw [if_pos ⟨h, q⟩, if_pos q]
  · rw [if_neg (fun z => q z.2), if_neg q]
theorem sd_s3_no {tr : Bool} {ls : List pz_lne} {i : Nat} {F : Nat → Int} (h : ¬ sd_in F i) : sd_s3 tr ls i F = F := if_neg (fun z => h z.1)
def sd_mvp (M M' : pz_M) (c : Nat) (v : Int) : Prop := ∀ (ls : List pz_lne) (l1 : List (List Int)) (F : Nat → Int), sd_tx M ls l1 → sd_se M c F → sd_pg M F → sd_wf F → v = (sd_mv (decide (M c 0 = 0)) (sd_bb F) (sd_n F) 12 0 F 0).2 ∧ sd_se M' c (sd_mv (decide (M c 0 = 0)) (sd_bb F) (sd_n F) 12 0 F 0).1 ∧ sd_pg M' (sd_mv (decide (M c 0 = 0)) (sd_bb F) (sd_n F) 12 0 F 0).1 ∧ sd_wf (sd_mv (decide (M c 0 = 0)) (sd_bb F) (sd_n F) 12 0 F 0).1 ∧ (sd_mv (decide (M c 0 = 0)) (sd_bb F) (sd_n F) 12 0 F 0).1 88 = F 88
def sd_od (M M' : pz_M) (c : Nat) (v : Int) : Prop := ∀ (ls : List pz_lne) (l1 : List (List Int)) (F : Nat → Int), sd_tx M ls l1 → sd_se M c F → sd_pg M F → sd_wf F → v = (sd_d4 (decide (M c 0 = 0)) ls l1 F).2 ∧ sd_se M' c (sd_day (decide (M c 0 = 0)) ls l1 F) ∧ sd_pg M' (sd_day (decide (M c 0 = 0)) ls l1 F) ∧ sd_wf (sd_day (decide (M c 0 = 0)) ls l1 F)
theorem sd_s5_88 {ls : List pz_lne} {i : Nat} {F : Nat → Int} (hi : i < 12) : sd_s5 ls i F 88 = F 88 := by
  unfold sd_s5
  split
  · exact sd_un (by omega)
  · rfl
theorem sd_lv1_88 {F : Nat → Int} {i : Nat} (hi : i < 12) : sd_lv1 F i 88 = F 88 := by
  unfold sd_lv1
  rw [sd_un (by omega), sd_un (by omega), sd_un (by omega)]
theorem sd_unr_88 {F : Nat → Int} {i : Nat} (hi : i < 13) : sd_unr F i 88 = F 88 := by
  unfold sd_unr
  split
  · exact sd_un (by omega)
  · rfl
theorem sd_lev_88 {tr : Bool} {F : Nat → Int} {i : Nat} (hi : i < 12) : sd_lev tr F i 88 = F 88 := by
  unfold sd_lev
  rw [sd_note_o (by decide) (by decide), sd_unr_88 (by omega)]
  split
  · exact sd_lv1_88 hi
  · rw [sd_unr_88 (by omega), sd_lv1_88 hi]
theorem sd_m3_88 {tr : Bool} {ls : List pz_lne} {i : Nat} {F : Nat → Int} (hi : i < 12) : sd_m3 tr ls i F 88 = F 88 := by
  unfold sd_m3
  split
  · split
    · rw [sd_lev_88 hi, sd_fF_o (by decide)]
    · exact sd_fF_o (by decide)
  · rfl
theorem sd_get_88 {tr : Bool} {F : Nat → Int} {i : Nat} (hi : i < 12) : sd_get tr F i 88 = F 88 := by
  unfold sd_get
  rw [sd_note_o (by decide) (by decide), sd_un (by omega)]
theorem sd_s2_88 {tr : Bool} {ls : List pz_lne} {i : Nat} {F : Nat → Int} (hi : i < 12) : sd_s2 tr ls i F 88 = F 88 := by
  unfold sd_s2
  split
  · split
    · rw [sd_get_88 hi, sd_fF_o (by decide)]
    · exact sd_fF_o (by decide)
  · rfl
theorem sd_n_i {F : Nat → Int} (h : sd_wf F) : (sd_n F : Int) = F 88 := by
  have := h.1
  unfold sd_n
  omega
